/-! HandNews.isTown(I)Z -/
def fX7_isTown (l0 : Int32) : Option Int32 := if l0 < 0 then some 0 else if 6 ≤ l0 then some 0 else some 1
set_option maxHeartbeats 1000000 in
theorem gX7_isTown {Z : hn_Z} {B : hn_B} {μ : hn_M} {R : Int32} (hF : hn_F Z B (0, 0) cX7_isTown 1 RX7 (some .boolean) 0) (hQ : hn_goal Z B (some (.int R), μ)) {l0 : Int32} (e : fX7_isTown l0 = some R) : hn_G Z B (0, 0) 1 0 [(0, .int l0)] [] μ := by
  unfold fX7_isTown at e
  refine hn_iload_n hF dX7_isTown_0 (q := 1) rfl 0 rfl ?_
  refine hn_if_lt hF dX7_isTown_1 (t := 14) (q := 4) rfl rfl e (fun e => ?_) (fun e => ?_)
  · refine hn_iconst hF dX7_isTown_14 (q := 15) rfl ki_0 ?_
    exact hn_zretP hF hQ dX7_isTown_15 (Or.inl rfl) e
  · refine hn_iload_n hF dX7_isTown_4 (q := 5) rfl 0 rfl ?_
    refine hn_bipush hF dX7_isTown_5 (q := 7) rfl kb_6 ?_
    refine hn_icmp_ge hF dX7_isTown_7 (t := 14) (q := 10) rfl rfl e (fun e => ?_) (fun e => ?_)
    · refine hn_iconst hF dX7_isTown_14 (q := 15) rfl ki_0 ?_
      exact hn_zretP hF hQ dX7_isTown_15 (Or.inl rfl) e
    · refine hn_iconst hF dX7_isTown_10 (q := 11) rfl ki_1 ?_
      refine hn_goto hF dX7_isTown_11 (q := 15) rfl ?_
      exact hn_zretP hF hQ dX7_isTown_15 (Or.inr rfl) e
theorem cX7_isTown_ {B : hn_B} {μ : hn_M} {R : Int32} {l0 : Int32} (e : fX7_isTown l0 = some R) : hn_C yX7_isTown cX7_isTown 1 (some .boolean) 0 B [.int l0] μ (some (.int R), μ) :=
  hn_C.of RX7 (by decide) rfl (Nat.le_of_ble_eq_true rfl) (fun _ hF hQ => gX7_isTown hF hQ e)
/-! HandNews.isWriter(I)Z -/
def fX7_isWriter (l0 : Int32) : Option Int32 := if l0 < 0 then some 0 else if 8 ≤ l0 then some 0 else some 1
set_option maxHeartbeats 1000000 in
theorem gX7_isWriter {Z : hn_Z} {B : hn_B} {μ : hn_M} {R : Int32} (hF : hn_F Z B (0, 0) cX7_isWriter 1 RX7 (some .boolean) 0) (hQ : hn_goal Z B (some (.int R), μ)) {l0 : Int32} (e : fX7_isWriter l0 = some R) : hn_G Z B (0, 0) 1 0 [(0, .int l0)] [] μ := by
  unfold fX7_isWriter at e
  refine hn_iload_n hF dX7_isWriter_0 (q := 1) rfl 0 rfl ?_
  refine hn_if_lt hF dX7_isWriter_1 (t := 14) (q := 4) rfl rfl e (fun e => ?_) (fun e => ?_)
  · refine hn_iconst hF dX7_isWriter_14 (q := 15) rfl ki_0 ?_
    exact hn_zretP hF hQ dX7_isWriter_15 (Or.inl rfl) e
  · refine hn_iload_n hF dX7_isWriter_4 (q := 5) rfl 0 rfl ?_
    refine hn_bipush hF dX7_isWriter_5 (q := 7) rfl kb_8 ?_
    refine hn_icmp_ge hF dX7_isWriter_7 (t := 14) (q := 10) rfl rfl e (fun e => ?_) (fun e => ?_)
    · refine hn_iconst hF dX7_isWriter_14 (q := 15) rfl ki_0 ?_
      exact hn_zretP hF hQ dX7_isWriter_15 (Or.inl rfl) e
    · refine hn_iconst hF dX7_isWriter_10 (q := 11) rfl ki_1 ?_
      refine hn_goto hF dX7_isWriter_11 (q := 15) rfl ?_
      exact hn_zretP hF hQ dX7_isWriter_15 (Or.inr rfl) e
theorem cX7_isWriter_ {B : hn_B} {μ : hn_M} {R : Int32} {l0 : Int32} (e : fX7_isWriter l0 = some R) : hn_C yX7_isWriter cX7_isWriter 1 (some .boolean) 0 B [.int l0] μ (some (.int R), μ) :=
  hn_C.of RX7 (by decide) rfl (Nat.le_of_ble_eq_true rfl) (fun _ hF hQ => gX7_isWriter hF hQ e)
/-! HandNews.isDay(I)Z -/
def fX7_isDay (l0 : Int32) : Option Int32 := if l0 < 0 then some 0 else if 999 < l0 then some 0 else some 1
set_option maxHeartbeats 1000000 in
theorem gX7_isDay {Z : hn_Z} {B : hn_B} {μ : hn_M} {R : Int32} (hF : hn_F Z B (0, 0) cX7_isDay 1 RX7 (some .boolean) 0) (hQ : hn_goal Z B (some (.int R), μ)) {l0 : Int32} (e : fX7_isDay l0 = some R) : hn_G Z B (0, 0) 1 0 [(0, .int l0)] [] μ := by
  unfold fX7_isDay at e
  refine hn_iload_n hF dX7_isDay_0 (q := 1) rfl 0 rfl ?_
  refine hn_if_lt hF dX7_isDay_1 (t := 15) (q := 4) rfl rfl e (fun e => ?_) (fun e => ?_)
  · refine hn_iconst hF dX7_isDay_15 (q := 16) rfl ki_0 ?_
    exact hn_zretP hF hQ dX7_isDay_16 (Or.inl rfl) e
  · refine hn_iload_n hF dX7_isDay_4 (q := 5) rfl 0 rfl ?_
    refine hn_sipush hF dX7_isDay_5 (q := 8) rfl ks_999 ?_
    refine hn_icmp_gt hF dX7_isDay_8 (t := 15) (q := 11) rfl rfl e (fun e => ?_) (fun e => ?_)
    · refine hn_iconst hF dX7_isDay_15 (q := 16) rfl ki_0 ?_
      exact hn_zretP hF hQ dX7_isDay_16 (Or.inl rfl) e
    · refine hn_iconst hF dX7_isDay_11 (q := 12) rfl ki_1 ?_
      refine hn_goto hF dX7_isDay_12 (q := 16) rfl ?_
      exact hn_zretP hF hQ dX7_isDay_16 (Or.inr rfl) e
theorem cX7_isDay_ {B : hn_B} {μ : hn_M} {R : Int32} {l0 : Int32} (e : fX7_isDay l0 = some R) : hn_C yX7_isDay cX7_isDay 1 (some .boolean) 0 B [.int l0] μ (some (.int R), μ) :=
  hn_C.of RX7 (by decide) rfl (Nat.le_of_ble_eq_true rfl) (fun _ hF hQ => gX7_isDay hF hQ e)
/-! HandNews.isDayOrNone(I)Z -/
def fX7_isDayOrNone (l0 : Int32) : Option Int32 := if l0 = (-1) then some 1 else (fX7_isDay l0).bind fun v1 => if v1 = 0 then some 0 else some 1
set_option maxHeartbeats 1000000 in
theorem gX7_isDayOrNone {Z : hn_Z} {B : hn_B} {μ : hn_M} {R : Int32} (hF : hn_F Z B (0, 0) cX7_isDayOrNone 1 RX7 (some .boolean) 1) (hQ : hn_goal Z B (some (.int R), μ)) {l0 : Int32} (e : fX7_isDayOrNone l0 = some R) : hn_G Z B (0, 0) 1 0 [(0, .int l0)] [] μ := by
  unfold fX7_isDayOrNone at e
  refine hn_iload_n hF dX7_isDayOrNone_0 (q := 1) rfl 0 rfl ?_
  refine hn_iconst hF dX7_isDayOrNone_1 (q := 2) rfl ki_m1 ?_
  refine hn_icmp_eq hF dX7_isDayOrNone_2 (t := 12) (q := 5) rfl rfl e (fun e => ?_) (fun e => ?_)
  · refine hn_iconst hF dX7_isDayOrNone_12 (q := 13) rfl ki_1 ?_
    refine hn_goto hF dX7_isDayOrNone_13 (q := 17) rfl ?_
    exact hn_zretP hF hQ dX7_isDayOrNone_17 (Or.inr rfl) e
  · refine hn_iload_n hF dX7_isDayOrNone_5 (q := 6) rfl 0 rfl ?_
    refine hn_callSi (rest := []) hF ms_X7_isDay mt_X7_isDay lk_X7_130 (by decide) [.int l0] rfl (Nat.le_of_ble_eq_true rfl) dX7_isDayOrNone_6 (q := 9) rfl rfl e (fun v hv => cX7_isDay_ hv) (fun v1 e => ?_)
    refine hn_if_eq hF dX7_isDayOrNone_9 (t := 16) (q := 12) rfl rfl e (fun e => ?_) (fun e => ?_)
    · refine hn_iconst hF dX7_isDayOrNone_16 (q := 17) rfl ki_0 ?_
      exact hn_zretP hF hQ dX7_isDayOrNone_17 (Or.inl rfl) e
    · refine hn_iconst hF dX7_isDayOrNone_12 (q := 13) rfl ki_1 ?_
      refine hn_goto hF dX7_isDayOrNone_13 (q := 17) rfl ?_
      exact hn_zretP hF hQ dX7_isDayOrNone_17 (Or.inr rfl) e
theorem cX7_isDayOrNone_ {B : hn_B} {μ : hn_M} {R : Int32} {l0 : Int32} (e : fX7_isDayOrNone l0 = some R) : hn_C yX7_isDayOrNone cX7_isDayOrNone 1 (some .boolean) 1 B [.int l0] μ (some (.int R), μ) :=
  hn_C.of RX7 (by decide) rfl (Nat.le_of_ble_eq_true rfl) (fun _ hF hQ => gX7_isDayOrNone hF hQ e)
/-! HandNews.isThing(I)Z -/
def fX7_isThing (l0 : Int32) : Option Int32 := if l0 < 0 then some 0 else if 10 ≤ l0 then some 0 else some 1
set_option maxHeartbeats 1000000 in
theorem gX7_isThing {Z : hn_Z} {B : hn_B} {μ : hn_M} {R : Int32} (hF : hn_F Z B (0, 0) cX7_isThing 1 RX7 (some .boolean) 0) (hQ : hn_goal Z B (some (.int R), μ)) {l0 : Int32} (e : fX7_isThing l0 = some R) : hn_G Z B (0, 0) 1 0 [(0, .int l0)] [] μ := by
  unfold fX7_isThing at e
  refine hn_iload_n hF dX7_isThing_0 (q := 1) rfl 0 rfl ?_
  refine hn_if_lt hF dX7_isThing_1 (t := 14) (q := 4) rfl rfl e (fun e => ?_) (fun e => ?_)
  · refine hn_iconst hF dX7_isThing_14 (q := 15) rfl ki_0 ?_
    exact hn_zretP hF hQ dX7_isThing_15 (Or.inl rfl) e
  · refine hn_iload_n hF dX7_isThing_4 (q := 5) rfl 0 rfl ?_
    refine hn_bipush hF dX7_isThing_5 (q := 7) rfl kb_10 ?_
    refine hn_icmp_ge hF dX7_isThing_7 (t := 14) (q := 10) rfl rfl e (fun e => ?_) (fun e => ?_)
    · refine hn_iconst hF dX7_isThing_14 (q := 15) rfl ki_0 ?_
      exact hn_zretP hF hQ dX7_isThing_15 (Or.inl rfl) e
    · refine hn_iconst hF dX7_isThing_10 (q := 11) rfl ki_1 ?_
      refine hn_goto hF dX7_isThing_11 (q := 15) rfl ?_
      exact hn_zretP hF hQ dX7_isThing_15 (Or.inr rfl) e
theorem cX7_isThing_ {B : hn_B} {μ : hn_M} {R : Int32} {l0 : Int32} (e : fX7_isThing l0 = some R) : hn_C yX7_isThing cX7_isThing 1 (some .boolean) 0 B [.int l0] μ (some (.int R), μ) :=
  hn_C.of RX7 (by decide) rfl (Nat.le_of_ble_eq_true rfl) (fun _ hF hQ => gX7_isThing hF hQ e)
/-! HandNews.isIn(II)Z -/
def fX7_isIn (l0 : Int32) (l1 : Int32) : Option Int32 := if (l0 >>> (l1 &&& 31)) &&& 1 = 1 then some 1 else some 0
set_option maxHeartbeats 1000000 in
theorem gX7_isIn {Z : hn_Z} {B : hn_B} {μ : hn_M} {R : Int32} (hF : hn_F Z B (0, 0) cX7_isIn 2 RX7 (some .boolean) 0) (hQ : hn_goal Z B (some (.int R), μ)) {l0 : Int32} {l1 : Int32} (e : fX7_isIn l0 l1 = some R) : hn_G Z B (0, 0) 2 0 [(0, .int l0), (1, .int l1)] [] μ := by
  unfold fX7_isIn at e
  refine hn_iload_n hF dX7_isIn_0 (q := 1) rfl 0 rfl ?_
  refine hn_iload_n hF dX7_isIn_1 (q := 2) rfl 1 rfl ?_
  refine hn_ishr hF dX7_isIn_2 (q := 3) rfl ?_
  refine hn_iconst hF dX7_isIn_3 (q := 4) rfl ki_1 ?_
  refine hn_iand hF dX7_isIn_4 (q := 5) rfl ?_
  refine hn_iconst hF dX7_isIn_5 (q := 6) rfl ki_1 ?_
  refine hn_icmp_ne hF dX7_isIn_6 (t := 13) (q := 9) rfl rfl e (fun e => ?_) (fun e => ?_)
  · refine hn_iconst hF dX7_isIn_13 (q := 14) rfl ki_0 ?_
    exact hn_zretP hF hQ dX7_isIn_14 (Or.inl rfl) e
  · refine hn_iconst hF dX7_isIn_9 (q := 10) rfl ki_1 ?_
    refine hn_goto hF dX7_isIn_10 (q := 14) rfl ?_
    exact hn_zretP hF hQ dX7_isIn_14 (Or.inr rfl) e
theorem cX7_isIn_ {B : hn_B} {μ : hn_M} {R : Int32} {l0 : Int32} {l1 : Int32} (e : fX7_isIn l0 l1 = some R) : hn_C yX7_isIn cX7_isIn 2 (some .boolean) 0 B [.int l0, .int l1] μ (some (.int R), μ) :=
  hn_C.of RX7 (by decide) rfl (Nat.le_of_ble_eq_true rfl) (fun _ hF hQ => gX7_isIn hF hQ e)
/-! HandNews.with(IIZ)I -/
def fX7_with (l0 : Int32) (l1 : Int32) (l2 : Int32) : Option Int32 := if l2 = 0 then some (l0 &&& ((1 <<< (l1 &&& 31)) ^^^ (-1))) else some (l0 ||| (1 <<< (l1 &&& 31)))
set_option maxHeartbeats 1000000 in
theorem gX7_with {Z : hn_Z} {B : hn_B} {μ : hn_M} {R : Int32} (hF : hn_F Z B (0, 0) cX7_with 3 RX7 (some .int) 0) (hQ : hn_goal Z B (some (.int R), μ)) {l0 : Int32} {l1 : Int32} {l2 : Int32} (e : fX7_with l0 l1 l2 = some R) : hn_G Z B (0, 0) 3 0 [(0, .int l0), (1, .int l1), (2, .int l2)] [] μ := by
  unfold fX7_with at e
  refine hn_iload_n hF dX7_with_0 (q := 1) rfl 2 rfl ?_
  refine hn_if_eq hF dX7_with_1 (t := 12) (q := 4) rfl rfl e (fun e => ?_) (fun e => ?_)
  · refine hn_iload_n hF dX7_with_12 (q := 13) rfl 0 rfl ?_
    refine hn_iconst hF dX7_with_13 (q := 14) rfl ki_1 ?_
    refine hn_iload_n hF dX7_with_14 (q := 15) rfl 1 rfl ?_
    refine hn_ishl hF dX7_with_15 (q := 16) rfl ?_
    refine hn_iconst hF dX7_with_16 (q := 17) rfl ki_m1 ?_
    refine hn_ixor hF dX7_with_17 (q := 18) rfl ?_
    refine hn_iand hF dX7_with_18 (q := 19) rfl ?_
    exact hn_iretP hF hQ dX7_with_19 e
  · refine hn_iload_n hF dX7_with_4 (q := 5) rfl 0 rfl ?_
    refine hn_iconst hF dX7_with_5 (q := 6) rfl ki_1 ?_
    refine hn_iload_n hF dX7_with_6 (q := 7) rfl 1 rfl ?_
    refine hn_ishl hF dX7_with_7 (q := 8) rfl ?_
    refine hn_ior hF dX7_with_8 (q := 9) rfl ?_
    refine hn_goto hF dX7_with_9 (q := 19) rfl ?_
    exact hn_iretP hF hQ dX7_with_19 e
theorem cX7_with_ {B : hn_B} {μ : hn_M} {R : Int32} {l0 : Int32} {l1 : Int32} {l2 : Int32} (e : fX7_with l0 l1 l2 = some R) : hn_C yX7_with cX7_with 3 (some .int) 0 B [.int l0, .int l1, .int l2] μ (some (.int R), μ) :=
  hn_C.of RX7 (by decide) rfl (Nat.le_of_ble_eq_true rfl) (fun _ hF hQ => gX7_with hF hQ e)
/-! HandNews.isRule(II)Z -/
def fX7_isRule (l0 : Int32) (l1 : Int32) : Option Int32 := if l0 = 0 then (fX7_isTown l1).bind fun v2 => hn_bo v2 (some v2) else if l0 = 1 then (fX7_isWriter l1).bind fun v1 => hn_bo v1 (some v1) else if l0 ≤ 1 then some 0 else if 5 ≤ l0 then some 0 else some 1
set_option maxHeartbeats 1000000 in
theorem gX7_isRule {Z : hn_Z} {B : hn_B} {μ : hn_M} {R : Int32} (hF : hn_F Z B (0, 0) cX7_isRule 2 RX7 (some .boolean) 1) (hQ : hn_goal Z B (some (.int R), μ)) {l0 : Int32} {l1 : Int32} (e : fX7_isRule l0 l1 = some R) : hn_G Z B (0, 0) 2 0 [(0, .int l0), (1, .int l1)] [] μ := by
  unfold fX7_isRule at e
  refine hn_iload_n hF dX7_isRule_0 (q := 1) rfl 0 rfl ?_
  refine hn_if_ne hF dX7_isRule_1 (t := 9) (q := 4) rfl rfl e (fun e => ?_) (fun e => ?_)
  · refine hn_iload_n hF dX7_isRule_9 (q := 10) rfl 0 rfl ?_
    refine hn_iconst hF dX7_isRule_10 (q := 11) rfl ki_1 ?_
    refine hn_icmp_ne hF dX7_isRule_11 (t := 19) (q := 14) rfl rfl e (fun e => ?_) (fun e => ?_)
    · refine hn_iload_n hF dX7_isRule_19 (q := 20) rfl 0 rfl ?_
      refine hn_iconst hF dX7_isRule_20 (q := 21) rfl ki_1 ?_
      refine hn_icmp_le hF dX7_isRule_21 (t := 33) (q := 24) rfl rfl e (fun e => ?_) (fun e => ?_)
      · refine hn_iconst hF dX7_isRule_33 (q := 34) rfl ki_0 ?_
        exact hn_zretP hF hQ dX7_isRule_34 (Or.inl rfl) e
      · refine hn_iload_n hF dX7_isRule_24 (q := 25) rfl 0 rfl ?_
        refine hn_iconst hF dX7_isRule_25 (q := 26) rfl ki_5 ?_
        refine hn_icmp_ge hF dX7_isRule_26 (t := 33) (q := 29) rfl rfl e (fun e => ?_) (fun e => ?_)
        · refine hn_iconst hF dX7_isRule_33 (q := 34) rfl ki_0 ?_
          exact hn_zretP hF hQ dX7_isRule_34 (Or.inl rfl) e
        · refine hn_iconst hF dX7_isRule_29 (q := 30) rfl ki_1 ?_
          refine hn_goto hF dX7_isRule_30 (q := 34) rfl ?_
          exact hn_zretP hF hQ dX7_isRule_34 (Or.inr rfl) e
    · refine hn_iload_n hF dX7_isRule_14 (q := 15) rfl 1 rfl ?_
      refine hn_callSi (rest := []) hF ms_X7_isWriter mt_X7_isWriter lk_X7_101 (by decide) [.int l1] rfl (Nat.le_of_ble_eq_true rfl) dX7_isRule_15 (q := 18) rfl rfl e (fun v hv => cX7_isWriter_ hv) (fun v1 e => ?_)
      exact hn_zretPg hF hQ dX7_isRule_18 e
  · refine hn_iload_n hF dX7_isRule_4 (q := 5) rfl 1 rfl ?_
    refine hn_callSi (rest := []) hF ms_X7_isTown mt_X7_isTown lk_X7_79 (by decide) [.int l1] rfl (Nat.le_of_ble_eq_true rfl) dX7_isRule_5 (q := 8) rfl rfl e (fun v hv => cX7_isTown_ hv) (fun v2 e => ?_)
    exact hn_zretPg hF hQ dX7_isRule_8 e
theorem cX7_isRule_ {B : hn_B} {μ : hn_M} {R : Int32} {l0 : Int32} {l1 : Int32} (e : fX7_isRule l0 l1 = some R) : hn_C yX7_isRule cX7_isRule 2 (some .boolean) 1 B [.int l0, .int l1] μ (some (.int R), μ) :=
  hn_C.of RX7 (by decide) rfl (Nat.le_of_ble_eq_true rfl) (fun _ hF hQ => gX7_isRule hF hQ e)
/-! HandNews.choices(II)J -/
def fX7_choices_5 (F : Nat) : Nat → Int32 → Int32 → Int64 → Int32 → Option Int64
  | 0, _, _, _, _ => none
  | n + 1, l0, l1, l2, l4 => if l1 < l4 then some l2 else if l4.toInt64 = 0 then none else fX7_choices_5 F n l0 l1 ((l2 * (((l0 - l1) + l4).toInt64)) / l4.toInt64) (l4 + 1)
def fX7_choices (F : Nat) (l0 : Int32) (l1 : Int32) : Option Int64 := fX7_choices_5 F F l0 l1 1 1
set_option maxHeartbeats 1000000 in
theorem gX7_choices_5 {Z : hn_Z} {B : hn_B} {F : Nat} {μ : hn_M} {R : Int64} (hF : hn_F Z B (0, 0) cX7_choices 5 RX7 (some .long) 0) (hQ : hn_goal Z B (some (.long R), μ)) : ∀ (n : Nat) (l0 : Int32) (l1 : Int32) (l2 : Int64) (l4 : Int32), fX7_choices_5 F n l0 l1 l2 l4 = some R → hn_G Z B (0, 0) 5 5 [(0, .int l0), (1, .int l1), (2, .long l2), (4, .int l4)] [] μ := by
  intro n
  induction n with
  | zero => intro l0 l1 l2 l4 e; rw [fX7_choices_5] at e; cases e
  | succ n ih =>
    intro l0 l1 l2 l4 e
    rw [fX7_choices_5] at e
    refine hn_iload hF dX7_choices_5 (q := 7) rfl 3 rfl ?_
    refine hn_iload_n hF dX7_choices_7 (q := 8) rfl 1 rfl ?_
    refine hn_icmp_gt hF dX7_choices_8 (t := 31) (q := 11) rfl rfl e (fun e => ?_) (fun e => ?_)
    · refine hn_lload_n hF dX7_choices_31 (q := 32) rfl 2 rfl ?_
      exact hn_lretP hF hQ dX7_choices_32 e
    · refine hn_lload_n hF dX7_choices_11 (q := 12) rfl 2 rfl ?_
      refine hn_iload_n hF dX7_choices_12 (q := 13) rfl 0 rfl ?_
      refine hn_iload_n hF dX7_choices_13 (q := 14) rfl 1 rfl ?_
      refine hn_isub hF dX7_choices_14 (q := 15) rfl ?_
      refine hn_iload hF dX7_choices_15 (q := 17) rfl 3 rfl ?_
      refine hn_iadd hF dX7_choices_17 (q := 18) rfl ?_
      refine hn_i2l hF dX7_choices_18 (q := 19) rfl rfl ?_
      refine hn_lmul hF dX7_choices_19 (q := 20) rfl ?_
      refine hn_iload hF dX7_choices_20 (q := 22) rfl 3 rfl ?_
      refine hn_i2l hF dX7_choices_22 (q := 23) rfl rfl ?_
      refine hn_ldiv hF dX7_choices_23 (q := 24) rfl e (fun e => ?_)
      refine hn_lstore_n hF dX7_choices_24 (q := 25) rfl (i := 2) rfl (by decide) (L' := [(2, .long ((l2 * (((l0 - l1) + l4).toInt64)) / l4.toInt64)), (0, .int l0), (1, .int l1), (4, .int l4)]) rfl ?_
      refine hn_iinc (p := 3) hF dX7_choices_25 (q := 28) rfl rfl (kn_1 _) (by decide) (L' := [(4, .int (l4 + 1)), (2, .long ((l2 * (((l0 - l1) + l4).toInt64)) / l4.toInt64)), (0, .int l0), (1, .int l1)]) rfl ?_
      refine hn_goto hF dX7_choices_28 (q := 5) rfl ?_
      refine hn_sub [2, 3, 1, 0] (L' := [(0, .int l0), (1, .int l1), (2, .long ((l2 * (((l0 - l1) + l4).toInt64)) / l4.toInt64)), (4, .int (l4 + 1))]) rfl ?_
      exact ih l0 l1 ((l2 * (((l0 - l1) + l4).toInt64)) / l4.toInt64) (l4 + 1) e
set_option maxHeartbeats 1000000 in
theorem gX7_choices {Z : hn_Z} {B : hn_B} {F : Nat} {μ : hn_M} {R : Int64} (hF : hn_F Z B (0, 0) cX7_choices 5 RX7 (some .long) 0) (hQ : hn_goal Z B (some (.long R), μ)) {l0 : Int32} {l1 : Int32} (e : fX7_choices F l0 l1 = some R) : hn_G Z B (0, 0) 5 0 [(0, .int l0), (1, .int l1)] [] μ := by
  unfold fX7_choices at e
  refine hn_lconst hF dX7_choices_0 (q := 1) rfl kl_1 ?_
  refine hn_lstore_n hF dX7_choices_1 (q := 2) rfl (i := 2) rfl (by decide) (L' := [(2, .long 1), (0, .int l0), (1, .int l1)]) rfl ?_
  refine hn_iconst hF dX7_choices_2 (q := 3) rfl ki_1 ?_
  refine hn_istore hF dX7_choices_3 (q := 5) rfl (by decide) (L' := [(4, .int 1), (2, .long 1), (0, .int l0), (1, .int l1)]) rfl ?_
  refine hn_sub [2, 3, 1, 0] (L' := [(0, .int l0), (1, .int l1), (2, .long 1), (4, .int 1)]) rfl ?_
  exact gX7_choices_5 hF hQ F l0 l1 1 1 e
theorem cX7_choices_ {B : hn_B} {F : Nat} {μ : hn_M} {R : Int64} {l0 : Int32} {l1 : Int32} (e : fX7_choices F l0 l1 = some R) : hn_C yX7_choices cX7_choices 5 (some .long) 0 B [.int l0, .int l1] μ (some (.long R), μ) :=
  hn_C.of RX7 (by decide) rfl (Nat.le_of_ble_eq_true rfl) (fun _ hF hQ => gX7_choices hF hQ e)
/-! HandNews.power(II)J -/
def fX7_power_5 (F : Nat) : Nat → Int32 → Int32 → Int64 → Int32 → Option Int64
  | 0, _, _, _, _ => none
  | n + 1, l0, l1, l2, l4 => if l1 ≤ l4 then some l2 else fX7_power_5 F n l0 l1 (l2 * l0.toInt64) (l4 + 1)
def fX7_power (F : Nat) (l0 : Int32) (l1 : Int32) : Option Int64 := fX7_power_5 F F l0 l1 1 0
set_option maxHeartbeats 1000000 in
theorem gX7_power_5 {Z : hn_Z} {B : hn_B} {F : Nat} {μ : hn_M} {R : Int64} (hF : hn_F Z B (0, 0) cX7_power 5 RX7 (some .long) 0) (hQ : hn_goal Z B (some (.long R), μ)) : ∀ (n : Nat) (l0 : Int32) (l1 : Int32) (l2 : Int64) (l4 : Int32), fX7_power_5 F n l0 l1 l2 l4 = some R → hn_G Z B (0, 0) 5 5 [(0, .int l0), (1, .int l1), (2, .long l2), (4, .int l4)] [] μ := by
  intro n
  induction n with
  | zero => intro l0 l1 l2 l4 e; rw [fX7_power_5] at e; cases e
  | succ n ih =>
    intro l0 l1 l2 l4 e
    rw [fX7_power_5] at e
    refine hn_iload hF dX7_power_5 (q := 7) rfl 3 rfl ?_
    refine hn_iload_n hF dX7_power_7 (q := 8) rfl 1 rfl ?_
    refine hn_icmp_ge hF dX7_power_8 (t := 22) (q := 11) rfl rfl e (fun e => ?_) (fun e => ?_)
    · refine hn_lload_n hF dX7_power_22 (q := 23) rfl 2 rfl ?_
      exact hn_lretP hF hQ dX7_power_23 e
    · refine hn_lload_n hF dX7_power_11 (q := 12) rfl 2 rfl ?_
      refine hn_iload_n hF dX7_power_12 (q := 13) rfl 0 rfl ?_
      refine hn_i2l hF dX7_power_13 (q := 14) rfl rfl ?_
      refine hn_lmul hF dX7_power_14 (q := 15) rfl ?_
      refine hn_lstore_n hF dX7_power_15 (q := 16) rfl (i := 2) rfl (by decide) (L' := [(2, .long (l2 * l0.toInt64)), (0, .int l0), (1, .int l1), (4, .int l4)]) rfl ?_
      refine hn_iinc (p := 3) hF dX7_power_16 (q := 19) rfl rfl (kn_1 _) (by decide) (L' := [(4, .int (l4 + 1)), (2, .long (l2 * l0.toInt64)), (0, .int l0), (1, .int l1)]) rfl ?_
      refine hn_goto hF dX7_power_19 (q := 5) rfl ?_
      refine hn_sub [2, 3, 1, 0] (L' := [(0, .int l0), (1, .int l1), (2, .long (l2 * l0.toInt64)), (4, .int (l4 + 1))]) rfl ?_
      exact ih l0 l1 (l2 * l0.toInt64) (l4 + 1) e
set_option maxHeartbeats 1000000 in
theorem gX7_power {Z : hn_Z} {B : hn_B} {F : Nat} {μ : hn_M} {R : Int64} (hF : hn_F Z B (0, 0) cX7_power 5 RX7 (some .long) 0) (hQ : hn_goal Z B (some (.long R), μ)) {l0 : Int32} {l1 : Int32} (e : fX7_power F l0 l1 = some R) : hn_G Z B (0, 0) 5 0 [(0, .int l0), (1, .int l1)] [] μ := by
  unfold fX7_power at e
  refine hn_lconst hF dX7_power_0 (q := 1) rfl kl_1 ?_
  refine hn_lstore_n hF dX7_power_1 (q := 2) rfl (i := 2) rfl (by decide) (L' := [(2, .long 1), (0, .int l0), (1, .int l1)]) rfl ?_
  refine hn_iconst hF dX7_power_2 (q := 3) rfl ki_0 ?_
  refine hn_istore hF dX7_power_3 (q := 5) rfl (by decide) (L' := [(4, .int 0), (2, .long 1), (0, .int l0), (1, .int l1)]) rfl ?_
  refine hn_sub [2, 3, 1, 0] (L' := [(0, .int l0), (1, .int l1), (2, .long 1), (4, .int 0)]) rfl ?_
  exact gX7_power_5 hF hQ F l0 l1 1 0 e
theorem cX7_power_ {B : hn_B} {F : Nat} {μ : hn_M} {R : Int64} {l0 : Int32} {l1 : Int32} (e : fX7_power F l0 l1 = some R) : hn_C yX7_power cX7_power 5 (some .long) 0 B [.int l0, .int l1] μ (some (.long R), μ) :=
  hn_C.of RX7 (by decide) rfl (Nat.le_of_ble_eq_true rfl) (fun _ hF hQ => gX7_power hF hQ e)
/-! HandNews.toldIn([I)I -/
def fX7_toldIn_31 (F : Nat) (d : Nat) (μ : hn_M) (k10 : Int32 → Int32 → Int32 → Option Int32) (l1 : Int32) (l3 : Int32) (l4 : Int32) : Option Int32 := k10 l1 l3 (l4 + 1)
def fX7_toldIn_10 (F : Nat) (d : Nat) (μ : hn_M) : Nat → Int32 → Int32 → Int32 → Option Int32
  | 0, _, _, _ => none
  | n + 1, l1, l3, l4 => if l3 ≤ l4 then some l1 else hn_rd μ d 10 l4 fun v1 => if v1 = (-1) then fX7_toldIn_31 F d μ (fX7_toldIn_10 F d μ n) l1 l3 l4 else fX7_toldIn_31 F d μ (fX7_toldIn_10 F d μ n) (l1 + 1) l3 l4
def fX7_toldIn (F : Nat) (d : Nat) (μ : hn_M) : Option Int32 := fX7_toldIn_10 F d μ F 0 10 0
set_option maxHeartbeats 1000000 in
theorem gX7_toldIn_31 {Z : hn_Z} {B : hn_B} {F : Nat} {d : Nat} {μ : hn_M} {R : Int32} (hF : hn_F Z B (0, 0) cX7_toldIn 6 RX7 (some .int) 0) (hQ : hn_goal Z B (some (.int R), μ)) (hV : hn_V B hn_nA) (h_d : hn_tT d) {k10 : Int32 → Int32 → Int32 → Option Int32} (H10 : ∀ (l1 : Int32) (l3 : Int32) (l4 : Int32), k10 l1 l3 l4 = some R → hn_G Z B (0, 0) 6 10 [(1, .int l1), (2, .ref (hn_base B + d)), (3, .int l3), (4, .int l4)] [] μ) {l1 : Int32} {l3 : Int32} {l4 : Int32} (e : fX7_toldIn_31 F d μ k10 l1 l3 l4 = some R) : hn_G Z B (0, 0) 6 31 [(1, .int l1), (2, .ref (hn_base B + d)), (3, .int l3), (4, .int l4)] [] μ := by
  unfold fX7_toldIn_31 at e
  refine hn_iinc (p := 3) hF dX7_toldIn_31 (q := 34) rfl rfl (kn_1 _) (by decide) (L' := [(4, .int (l4 + 1)), (1, .int l1), (2, .ref (hn_base B + d)), (3, .int l3)]) rfl ?_
  refine hn_goto hF dX7_toldIn_34 (q := 10) rfl ?_
  refine hn_sub [1, 2, 3, 0] (L' := [(1, .int l1), (2, .ref (hn_base B + d)), (3, .int l3), (4, .int (l4 + 1))]) rfl ?_
  exact H10 l1 l3 (l4 + 1) e
set_option maxHeartbeats 1000000 in
theorem gX7_toldIn_10 {Z : hn_Z} {B : hn_B} {F : Nat} {d : Nat} {μ : hn_M} {R : Int32} (hF : hn_F Z B (0, 0) cX7_toldIn 6 RX7 (some .int) 0) (hQ : hn_goal Z B (some (.int R), μ)) (hV : hn_V B hn_nA) (h_d : hn_tT d) : ∀ (n : Nat) (l1 : Int32) (l3 : Int32) (l4 : Int32), fX7_toldIn_10 F d μ n l1 l3 l4 = some R → hn_G Z B (0, 0) 6 10 [(1, .int l1), (2, .ref (hn_base B + d)), (3, .int l3), (4, .int l4)] [] μ := by
  intro n
  induction n with
  | zero => intro l1 l3 l4 e; rw [fX7_toldIn_10] at e; cases e
  | succ n ih =>
    intro l1 l3 l4 e
    rw [fX7_toldIn_10] at e
    refine hn_iload hF dX7_toldIn_10 (q := 12) rfl 3 rfl ?_
    refine hn_iload_n hF dX7_toldIn_12 (q := 13) rfl 2 rfl ?_
    refine hn_icmp_ge hF dX7_toldIn_13 (t := 37) (q := 16) rfl rfl e (fun e => ?_) (fun e => ?_)
    · refine hn_iload_n hF dX7_toldIn_37 (q := 38) rfl 0 rfl ?_
      exact hn_iretP hF hQ dX7_toldIn_38 e
    · refine hn_aload_n hF dX7_toldIn_16 (q := 17) rfl 1 rfl ?_
      refine hn_iload hF dX7_toldIn_17 (q := 19) rfl 3 rfl ?_
      refine hn_ald hF (hn_Ta hV h_d) dX7_toldIn_19 (q := 20) rfl e (fun v1 e => ?_)
      refine hn_istore hF dX7_toldIn_20 (q := 22) rfl (by decide) (L' := [(5, .int v1), (1, .int l1), (2, .ref (hn_base B + d)), (3, .int l3), (4, .int l4)]) rfl ?_
      refine hn_iload hF dX7_toldIn_22 (q := 24) rfl 0 rfl ?_
      refine hn_iconst hF dX7_toldIn_24 (q := 25) rfl ki_m1 ?_
      refine hn_icmp_eq hF dX7_toldIn_25 (t := 31) (q := 28) rfl rfl e (fun e => ?_) (fun e => ?_)
      · refine hn_sub [1, 2, 3, 4] (L' := [(1, .int l1), (2, .ref (hn_base B + d)), (3, .int l3), (4, .int l4)]) rfl ?_
        exact gX7_toldIn_31 hF hQ hV h_d ih e
      · refine hn_iinc (p := 1) hF dX7_toldIn_28 (q := 31) rfl rfl (kn_1 _) (by decide) (L' := [(1, .int (l1 + 1)), (5, .int v1), (2, .ref (hn_base B + d)), (3, .int l3), (4, .int l4)]) rfl ?_
        refine hn_sub [0, 2, 3, 4] (L' := [(1, .int (l1 + 1)), (2, .ref (hn_base B + d)), (3, .int l3), (4, .int l4)]) rfl ?_
        exact gX7_toldIn_31 hF hQ hV h_d ih e
set_option maxHeartbeats 1000000 in
theorem gX7_toldIn {Z : hn_Z} {B : hn_B} {F : Nat} {d : Nat} {μ : hn_M} {R : Int32} (hF : hn_F Z B (0, 0) cX7_toldIn 6 RX7 (some .int) 0) (hQ : hn_goal Z B (some (.int R), μ)) (hV : hn_V B hn_nA) (h_d : hn_tT d) (e : fX7_toldIn F d μ = some R) : hn_G Z B (0, 0) 6 0 [(0, .ref (hn_base B + d))] [] μ := by
  unfold fX7_toldIn at e
  refine hn_iconst hF dX7_toldIn_0 (q := 1) rfl ki_0 ?_
  refine hn_istore_n hF dX7_toldIn_1 (q := 2) rfl (i := 1) rfl (by decide) (L' := [(1, .int 0), (0, .ref (hn_base B + d))]) rfl ?_
  refine hn_aload_n hF dX7_toldIn_2 (q := 3) rfl 1 rfl ?_
  refine hn_astore_n hF dX7_toldIn_3 (q := 4) rfl (i := 2) rfl (by decide) (L' := [(2, .ref (hn_base B + d)), (1, .int 0), (0, .ref (hn_base B + d))]) rfl ?_
  refine hn_aload_n hF dX7_toldIn_4 (q := 5) rfl 0 rfl ?_
  refine hn_alen (v := 10) hF (hn_Ta hV h_d) (by decide) dX7_toldIn_5 (q := 6) rfl ?_
  refine hn_istore_n hF dX7_toldIn_6 (q := 7) rfl (i := 3) rfl (by decide) (L' := [(3, .int 10), (2, .ref (hn_base B + d)), (1, .int 0), (0, .ref (hn_base B + d))]) rfl ?_
  refine hn_iconst hF dX7_toldIn_7 (q := 8) rfl ki_0 ?_
  refine hn_istore hF dX7_toldIn_8 (q := 10) rfl (by decide) (L' := [(4, .int 0), (3, .int 10), (2, .ref (hn_base B + d)), (1, .int 0), (0, .ref (hn_base B + d))]) rfl ?_
  refine hn_sub [3, 2, 1, 0] (L' := [(1, .int 0), (2, .ref (hn_base B + d)), (3, .int 10), (4, .int 0)]) rfl ?_
  exact gX7_toldIn_10 hF hQ hV h_d F 0 10 0 e
theorem cX7_toldIn_ {B : hn_B} {F : Nat} {d : Nat} {μ : hn_M} {R : Int32} (hV : hn_V B hn_nA) (h_d : hn_tT d) (e : fX7_toldIn F d μ = some R) : hn_C yX7_toldIn cX7_toldIn 6 (some .int) 0 B [.ref (hn_base B + d)] μ (some (.int R), μ) :=
  hn_C.of RX7 (by decide) rfl (Nat.le_of_ble_eq_true rfl) (fun _ hF hQ => gX7_toldIn hF hQ hV h_d e)
