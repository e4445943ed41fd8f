/-! HandNews$Papers.addSheet(III)I -/
def fX1_addSheet (l1 : Int32) (l2 : Int32) (l3 : Int32) (μ : hn_M) : Option (Int32 × hn_M) := hn_wr μ 7 12 (μ 6 0) l1 fun μ1 => hn_wr μ1 8 12 (μ 6 0) l2 fun μ2 => hn_wr μ2 9 12 (μ 6 0) l3 fun μ3 => hn_pf μ3 6 0 ((μ3 6 0) + 1) fun μ4 => some (μ 6 0, μ4)
set_option maxHeartbeats 1000000 in
theorem gX1_addSheet {Z : hn_Z} {B : hn_B} {R : Int32 × hn_M} (hF : hn_F Z B (0, 0) cX1_addSheet 5 RX1 (some .int) 0) (hQ : hn_goal Z B (some (.int R.1), R.2)) (hV : hn_V B hn_nA) {l1 : Int32} {l2 : Int32} {l3 : Int32} {μ : hn_M} (e : fX1_addSheet l1 l2 l3 μ = some R) : hn_G Z B (0, 0) 5 0 [(0, .ref (hn_base B + 6)), (1, .int l1), (2, .int l2), (3, .int l3)] [] μ := by
  unfold fX1_addSheet at e
  have a7 : hn_isA B 7 false 12 := hV 7 (by decide)
  have a8 : hn_isA B 8 false 12 := hV 8 (by decide)
  have a9 : hn_isA B 9 false 12 := hV 9 (by decide)
  have o6 : hn_isO B 6 1 hn_k6 := hV 6 (by decide)
  refine hn_aload_n hF dX1_addSheet_0 (q := 1) rfl 0 rfl ?_
  refine hn_get hF fl_X1_9 o6 rfl rfl dX1_addSheet_1 (q := 4) rfl ?_
  refine hn_istore hF dX1_addSheet_4 (q := 6) rfl (by decide) (L' := [(4, .int (μ 6 0)), (0, .ref (hn_base B + 6)), (1, .int l1), (2, .int l2), (3, .int l3)]) rfl ?_
  refine hn_aload_n hF dX1_addSheet_6 (q := 7) rfl 1 rfl ?_
  refine hn_get hF fl_X1_15 o6 rfl rfl dX1_addSheet_7 (q := 10) rfl ?_
  refine hn_iload hF dX1_addSheet_10 (q := 12) rfl 0 rfl ?_
  refine hn_iload_n hF dX1_addSheet_12 (q := 13) rfl 2 rfl ?_
  refine hn_ast hF a7 dX1_addSheet_13 (q := 14) rfl e (fun μ1 e => ?_)
  refine hn_aload_n hF dX1_addSheet_14 (q := 15) rfl 1 rfl ?_
  refine hn_get hF fl_X1_19 o6 rfl rfl dX1_addSheet_15 (q := 18) rfl ?_
  refine hn_iload hF dX1_addSheet_18 (q := 20) rfl 0 rfl ?_
  refine hn_iload_n hF dX1_addSheet_20 (q := 21) rfl 3 rfl ?_
  refine hn_ast hF a8 dX1_addSheet_21 (q := 22) rfl e (fun μ2 e => ?_)
  refine hn_aload_n hF dX1_addSheet_22 (q := 23) rfl 1 rfl ?_
  refine hn_get hF fl_X1_22 o6 rfl rfl dX1_addSheet_23 (q := 26) rfl ?_
  refine hn_iload hF dX1_addSheet_26 (q := 28) rfl 0 rfl ?_
  refine hn_iload_n hF dX1_addSheet_28 (q := 29) rfl 4 rfl ?_
  refine hn_ast hF a9 dX1_addSheet_29 (q := 30) rfl e (fun μ3 e => ?_)
  refine hn_aload_n hF dX1_addSheet_30 (q := 31) rfl 1 rfl ?_
  refine hn_dup hF dX1_addSheet_31 (q := 32) rfl rfl ?_
  refine hn_get hF fl_X1_9 o6 rfl rfl dX1_addSheet_32 (q := 35) rfl ?_
  refine hn_iconst hF dX1_addSheet_35 (q := 36) rfl ki_1 ?_
  refine hn_iadd hF dX1_addSheet_36 (q := 37) rfl ?_
  refine hn_put hF fl_X1_9 fp_X1_0 o6 rfl rfl rfl rfl dX1_addSheet_37 (q := 40) rfl e (fun μ4 e => ?_)
  refine hn_iload hF dX1_addSheet_40 (q := 42) rfl 0 rfl ?_
  exact hn_iretM hF hQ dX1_addSheet_42 e
theorem cX1_addSheet_ {B : hn_B} {μ : hn_M} {R : Int32 × hn_M} {l1 : Int32} {l2 : Int32} {l3 : Int32} (hV : hn_V B hn_nA) (e : fX1_addSheet l1 l2 l3 μ = some R) : hn_C yX1_addSheet cX1_addSheet 5 (some .int) 0 B [.ref (hn_base B + 6), .int l1, .int l2, .int l3] μ (some (.int R.1), R.2) :=
  hn_C.of RX1 (by decide) rfl (Nat.le_of_ble_eq_true rfl) (fun _ hF hQ => gX1_addSheet hF hQ hV e)
/-! HandNews$Papers.addPair(II)I -/
def fX1_addPair (l1 : Int32) (l2 : Int32) (μ : hn_M) : Option (Int32 × hn_M) := hn_wr μ 10 20 (μ 6 4) l1 fun μ1 => hn_wr μ1 11 20 (μ1 6 4) l2 fun μ2 => hn_pf μ2 6 4 ((μ2 6 4) + 1) fun μ3 => some (μ3 6 4, μ3)
set_option maxHeartbeats 1000000 in
theorem gX1_addPair {Z : hn_Z} {B : hn_B} {R : Int32 × hn_M} (hF : hn_F Z B (0, 0) cX1_addPair 3 RX1 (some .int) 0) (hQ : hn_goal Z B (some (.int R.1), R.2)) (hV : hn_V B hn_nA) {l1 : Int32} {l2 : Int32} {μ : hn_M} (e : fX1_addPair l1 l2 μ = some R) : hn_G Z B (0, 0) 3 0 [(0, .ref (hn_base B + 6)), (1, .int l1), (2, .int l2)] [] μ := by
  unfold fX1_addPair at e
  have a10 : hn_isA B 10 false 20 := hV 10 (by decide)
  have a11 : hn_isA B 11 false 20 := hV 11 (by decide)
  have o6 : hn_isO B 6 1 hn_k6 := hV 6 (by decide)
  refine hn_aload_n hF dX1_addPair_0 (q := 1) rfl 0 rfl ?_
  refine hn_get hF fl_X1_28 o6 rfl rfl dX1_addPair_1 (q := 4) rfl ?_
  refine hn_aload_n hF dX1_addPair_4 (q := 5) rfl 0 rfl ?_
  refine hn_get hF fl_X1_25 o6 rfl rfl dX1_addPair_5 (q := 8) rfl ?_
  refine hn_iload_n hF dX1_addPair_8 (q := 9) rfl 1 rfl ?_
  refine hn_ast hF a10 dX1_addPair_9 (q := 10) rfl e (fun μ1 e => ?_)
  refine hn_aload_n hF dX1_addPair_10 (q := 11) rfl 0 rfl ?_
  refine hn_get hF fl_X1_31 o6 rfl rfl dX1_addPair_11 (q := 14) rfl ?_
  refine hn_aload_n hF dX1_addPair_14 (q := 15) rfl 0 rfl ?_
  refine hn_get hF fl_X1_25 o6 rfl rfl dX1_addPair_15 (q := 18) rfl ?_
  refine hn_iload_n hF dX1_addPair_18 (q := 19) rfl 2 rfl ?_
  refine hn_ast hF a11 dX1_addPair_19 (q := 20) rfl e (fun μ2 e => ?_)
  refine hn_aload_n hF dX1_addPair_20 (q := 21) rfl 0 rfl ?_
  refine hn_dup hF dX1_addPair_21 (q := 22) rfl rfl ?_
  refine hn_get hF fl_X1_25 o6 rfl rfl dX1_addPair_22 (q := 25) rfl ?_
  refine hn_iconst hF dX1_addPair_25 (q := 26) rfl ki_1 ?_
  refine hn_iadd hF dX1_addPair_26 (q := 27) rfl ?_
  refine hn_put hF fl_X1_25 fp_X1_4 o6 rfl rfl rfl rfl dX1_addPair_27 (q := 30) rfl e (fun μ3 e => ?_)
  refine hn_aload_n hF dX1_addPair_30 (q := 31) rfl 0 rfl ?_
  refine hn_get hF fl_X1_25 o6 rfl rfl dX1_addPair_31 (q := 34) rfl ?_
  exact hn_iretM hF hQ dX1_addPair_34 e
theorem cX1_addPair_ {B : hn_B} {μ : hn_M} {R : Int32 × hn_M} {l1 : Int32} {l2 : Int32} (hV : hn_V B hn_nA) (e : fX1_addPair l1 l2 μ = some R) : hn_C yX1_addPair cX1_addPair 3 (some .int) 0 B [.ref (hn_base B + 6), .int l1, .int l2] μ (some (.int R.1), R.2) :=
  hn_C.of RX1 (by decide) rfl (Nat.le_of_ble_eq_true rfl) (fun _ hF hQ => gX1_addPair hF hQ hV e)
/-! HandNews$Papers.hasHappened(I)Z -/
def fX1_hasHappened (μ : hn_M) (l1 : Int32) : Option Int32 := hn_rd μ 17 10 l1 fun v1 => if v1 = (-1) then some 0 else some 1
set_option maxHeartbeats 1000000 in
theorem gX1_hasHappened {Z : hn_Z} {B : hn_B} {μ : hn_M} {R : Int32} (hF : hn_F Z B (0, 0) cX1_hasHappened 2 RX1 (some .boolean) 0) (hQ : hn_goal Z B (some (.int R), μ)) (hV : hn_V B hn_nA) {l1 : Int32} (e : fX1_hasHappened μ l1 = some R) : hn_G Z B (0, 0) 2 0 [(0, .ref (hn_base B + 6)), (1, .int l1)] [] μ := by
  unfold fX1_hasHappened at e
  have a17 : hn_isA B 17 false 10 := hV 17 (by decide)
  have o6 : hn_isO B 6 1 hn_k6 := hV 6 (by decide)
  refine hn_aload_n hF dX1_hasHappened_0 (q := 1) rfl 0 rfl ?_
  refine hn_get hF fl_X1_58 o6 rfl rfl dX1_hasHappened_1 (q := 4) rfl ?_
  refine hn_iload_n hF dX1_hasHappened_4 (q := 5) rfl 1 rfl ?_
  refine hn_ald hF a17 dX1_hasHappened_5 (q := 6) rfl e (fun v1 e => ?_)
  refine hn_iconst hF dX1_hasHappened_6 (q := 7) rfl ki_m1 ?_
  refine hn_icmp_eq hF dX1_hasHappened_7 (t := 14) (q := 10) rfl rfl e (fun e => ?_) (fun e => ?_)
  · refine hn_iconst hF dX1_hasHappened_14 (q := 15) rfl ki_0 ?_
    exact hn_zretP hF hQ dX1_hasHappened_15 (Or.inl rfl) e
  · refine hn_iconst hF dX1_hasHappened_10 (q := 11) rfl ki_1 ?_
    refine hn_goto hF dX1_hasHappened_11 (q := 15) rfl ?_
    exact hn_zretP hF hQ dX1_hasHappened_15 (Or.inr rfl) e
theorem cX1_hasHappened_ {B : hn_B} {μ : hn_M} {R : Int32} {l1 : Int32} (hV : hn_V B hn_nA) (e : fX1_hasHappened μ l1 = some R) : hn_C yX1_hasHappened cX1_hasHappened 2 (some .boolean) 0 B [.ref (hn_base B + 6), .int l1] μ (some (.int R), μ) :=
  hn_C.of RX1 (by decide) rfl (Nat.le_of_ble_eq_true rfl) (fun _ hF hQ => gX1_hasHappened hF hQ hV e)
/-! HandNews$Papers.townOf(I)I -/
def fX1_townOf (μ : hn_M) (l1 : Int32) : Option Int32 := hn_rd μ 12 30 l1 fun v1 => hn_rd μ 7 12 v1 fun v2 => some v2
set_option maxHeartbeats 1000000 in
theorem gX1_townOf {Z : hn_Z} {B : hn_B} {μ : hn_M} {R : Int32} (hF : hn_F Z B (0, 0) cX1_townOf 2 RX1 (some .int) 0) (hQ : hn_goal Z B (some (.int R), μ)) (hV : hn_V B hn_nA) {l1 : Int32} (e : fX1_townOf μ l1 = some R) : hn_G Z B (0, 0) 2 0 [(0, .ref (hn_base B + 6)), (1, .int l1)] [] μ := by
  unfold fX1_townOf at e
  have a12 : hn_isA B 12 false 30 := hV 12 (by decide)
  have a7 : hn_isA B 7 false 12 := hV 7 (by decide)
  have o6 : hn_isO B 6 1 hn_k6 := hV 6 (by decide)
  refine hn_aload_n hF dX1_townOf_0 (q := 1) rfl 0 rfl ?_
  refine hn_get hF fl_X1_15 o6 rfl rfl dX1_townOf_1 (q := 4) rfl ?_
  refine hn_aload_n hF dX1_townOf_4 (q := 5) rfl 0 rfl ?_
  refine hn_get hF fl_X1_37 o6 rfl rfl dX1_townOf_5 (q := 8) rfl ?_
  refine hn_iload_n hF dX1_townOf_8 (q := 9) rfl 1 rfl ?_
  refine hn_ald hF a12 dX1_townOf_9 (q := 10) rfl e (fun v1 e => ?_)
  refine hn_ald hF a7 dX1_townOf_10 (q := 11) rfl e (fun v2 e => ?_)
  exact hn_iretP hF hQ dX1_townOf_11 e
theorem cX1_townOf_ {B : hn_B} {μ : hn_M} {R : Int32} {l1 : Int32} (hV : hn_V B hn_nA) (e : fX1_townOf μ l1 = some R) : hn_C yX1_townOf cX1_townOf 2 (some .int) 0 B [.ref (hn_base B + 6), .int l1] μ (some (.int R), μ) :=
  hn_C.of RX1 (by decide) rfl (Nat.le_of_ble_eq_true rfl) (fun _ hF hQ => gX1_townOf hF hQ hV e)
/-! HandNews$Papers.isSeen(I)Z -/
def fX1_isSeen (μ : hn_M) (l1 : Int32) : Option Int32 := (fX7_isIn (μ 6 12) l1).bind fun v1 => hn_bo v1 (some v1)
set_option maxHeartbeats 1000000 in
theorem gX1_isSeen {Z : hn_Z} {B : hn_B} {μ : hn_M} {R : Int32} (hF : hn_F Z B (0, 0) cX1_isSeen 2 RX1 (some .boolean) 1) (hQ : hn_goal Z B (some (.int R), μ)) (hV : hn_V B hn_nA) {l1 : Int32} (e : fX1_isSeen μ l1 = some R) : hn_G Z B (0, 0) 2 0 [(0, .ref (hn_base B + 6)), (1, .int l1)] [] μ := by
  unfold fX1_isSeen at e
  have o6 : hn_isO B 6 1 hn_k6 := hV 6 (by decide)
  refine hn_aload_n hF dX1_isSeen_0 (q := 1) rfl 0 rfl ?_
  refine hn_get hF fl_X1_49 o6 rfl rfl dX1_isSeen_1 (q := 4) rfl ?_
  refine hn_iload_n hF dX1_isSeen_4 (q := 5) rfl 1 rfl ?_
  refine hn_callNi (rest := []) hF ms_X7_isIn mt_X7_isIn lk_X1_74 (by decide) [.int (μ 6 12), .int l1] rfl (Nat.le_of_ble_eq_true rfl) dX1_isSeen_5 (q := 8) rfl rfl e (fun v hv => cX7_isIn_ hv) (fun v1 e => ?_)
  exact hn_zretPg hF hQ dX1_isSeen_8 e
theorem cX1_isSeen_ {B : hn_B} {μ : hn_M} {R : Int32} {l1 : Int32} (hV : hn_V B hn_nA) (e : fX1_isSeen μ l1 = some R) : hn_C yX1_isSeen cX1_isSeen 2 (some .boolean) 1 B [.ref (hn_base B + 6), .int l1] μ (some (.int R), μ) :=
  hn_C.of RX1 (by decide) rfl (Nat.le_of_ble_eq_true rfl) (fun _ hF hQ => gX1_isSeen hF hQ hV e)
/-! HandNews$Papers.isDenied(I)Z -/
def fX1_isDenied (μ : hn_M) (l1 : Int32) : Option Int32 := (fX7_isIn (μ 6 13) l1).bind fun v1 => hn_bo v1 (some v1)
set_option maxHeartbeats 1000000 in
theorem gX1_isDenied {Z : hn_Z} {B : hn_B} {μ : hn_M} {R : Int32} (hF : hn_F Z B (0, 0) cX1_isDenied 2 RX1 (some .boolean) 1) (hQ : hn_goal Z B (some (.int R), μ)) (hV : hn_V B hn_nA) {l1 : Int32} (e : fX1_isDenied μ l1 = some R) : hn_G Z B (0, 0) 2 0 [(0, .ref (hn_base B + 6)), (1, .int l1)] [] μ := by
  unfold fX1_isDenied at e
  have o6 : hn_isO B 6 1 hn_k6 := hV 6 (by decide)
  refine hn_aload_n hF dX1_isDenied_0 (q := 1) rfl 0 rfl ?_
  refine hn_get hF fl_X1_52 o6 rfl rfl dX1_isDenied_1 (q := 4) rfl ?_
  refine hn_iload_n hF dX1_isDenied_4 (q := 5) rfl 1 rfl ?_
  refine hn_callNi (rest := []) hF ms_X7_isIn mt_X7_isIn lk_X1_74 (by decide) [.int (μ 6 13), .int l1] rfl (Nat.le_of_ble_eq_true rfl) dX1_isDenied_5 (q := 8) rfl rfl e (fun v hv => cX7_isIn_ hv) (fun v1 e => ?_)
  exact hn_zretPg hF hQ dX1_isDenied_8 e
theorem cX1_isDenied_ {B : hn_B} {μ : hn_M} {R : Int32} {l1 : Int32} (hV : hn_V B hn_nA) (e : fX1_isDenied μ l1 = some R) : hn_C yX1_isDenied cX1_isDenied 2 (some .boolean) 1 B [.ref (hn_base B + 6), .int l1] μ (some (.int R), μ) :=
  hn_C.of RX1 (by decide) rfl (Nat.le_of_ble_eq_true rfl) (fun _ hF hQ => gX1_isDenied hF hQ hV e)
/-! HandNews$Papers.unlikeness(II)I -/
def fX1_unlikeness_58 (F : Nat) (μ : hn_M) (k36 : Int32 → Int32 → Int32 → Int32 → Option Int32) (l3 : Int32) (l4 : Int32) (l5 : Int32) (l6 : Int32) : Option Int32 := k36 l3 (l4 / 10) (l5 / 10) (l6 + 1)
def fX1_unlikeness_36 (F : Nat) (μ : hn_M) : Nat → Int32 → Int32 → Int32 → Int32 → Option Int32
  | 0, _, _, _, _ => none
  | n + 1, l3, l4, l5, l6 => if 4 ≤ l6 then some l3 else if l4 - l4 / 10 * 10 = l5 - l5 / 10 * 10 then fX1_unlikeness_58 F μ (fX1_unlikeness_36 F μ n) l3 l4 l5 l6 else fX1_unlikeness_58 F μ (fX1_unlikeness_36 F μ n) (l3 + 3) l4 l5 l6
def fX1_unlikeness (F : Nat) (μ : hn_M) (l1 : Int32) (l2 : Int32) : Option Int32 := hn_rd μ 15 30 l1 fun v1 => hn_rd μ 15 30 l2 fun v2 => (fJ6_bitCount (v1 ^^^ v2)).bind fun v3 => hn_rd μ 14 30 l1 fun v4 => hn_rd μ 14 30 l2 fun v5 => fX1_unlikeness_36 F μ F v3 v4 v5 0
set_option maxHeartbeats 1000000 in
theorem gX1_unlikeness_58 {Z : hn_Z} {B : hn_B} {F : Nat} {μ : hn_M} {R : Int32} (hF : hn_F Z B (0, 0) cX1_unlikeness 7 RX1 (some .int) 1) (hQ : hn_goal Z B (some (.int R), μ)) (hV : hn_V B hn_nA) {k36 : Int32 → Int32 → Int32 → Int32 → Option Int32} (H36 : ∀ (l3 : Int32) (l4 : Int32) (l5 : Int32) (l6 : Int32), k36 l3 l4 l5 l6 = some R → hn_G Z B (0, 0) 7 36 [(3, .int l3), (4, .int l4), (5, .int l5), (6, .int l6)] [] μ) {l3 : Int32} {l4 : Int32} {l5 : Int32} {l6 : Int32} (e : fX1_unlikeness_58 F μ k36 l3 l4 l5 l6 = some R) : hn_G Z B (0, 0) 7 58 [(3, .int l3), (4, .int l4), (5, .int l5), (6, .int l6)] [] μ := by
  unfold fX1_unlikeness_58 at e
  refine hn_iload hF dX1_unlikeness_58 (q := 60) rfl 1 rfl ?_
  refine hn_bipush hF dX1_unlikeness_60 (q := 62) rfl kb_10 ?_
  refine hn_idiv hF dX1_unlikeness_62 (q := 63) rfl kz_10 ?_
  refine hn_istore hF dX1_unlikeness_63 (q := 65) rfl (by decide) (L' := [(4, .int (l4 / 10)), (3, .int l3), (5, .int l5), (6, .int l6)]) rfl ?_
  refine hn_iload hF dX1_unlikeness_65 (q := 67) rfl 2 rfl ?_
  refine hn_bipush hF dX1_unlikeness_67 (q := 69) rfl kb_10 ?_
  refine hn_idiv hF dX1_unlikeness_69 (q := 70) rfl kz_10 ?_
  refine hn_istore hF dX1_unlikeness_70 (q := 72) rfl (by decide) (L' := [(5, .int (l5 / 10)), (4, .int (l4 / 10)), (3, .int l3), (6, .int l6)]) rfl ?_
  refine hn_iinc (p := 3) hF dX1_unlikeness_72 (q := 75) rfl rfl (kn_1 _) (by decide) (L' := [(6, .int (l6 + 1)), (5, .int (l5 / 10)), (4, .int (l4 / 10)), (3, .int l3)]) rfl ?_
  refine hn_goto hF dX1_unlikeness_75 (q := 36) rfl ?_
  refine hn_sub [3, 2, 1, 0] (L' := [(3, .int l3), (4, .int (l4 / 10)), (5, .int (l5 / 10)), (6, .int (l6 + 1))]) rfl ?_
  exact H36 l3 (l4 / 10) (l5 / 10) (l6 + 1) e
set_option maxHeartbeats 1000000 in
theorem gX1_unlikeness_36 {Z : hn_Z} {B : hn_B} {F : Nat} {μ : hn_M} {R : Int32} (hF : hn_F Z B (0, 0) cX1_unlikeness 7 RX1 (some .int) 1) (hQ : hn_goal Z B (some (.int R), μ)) (hV : hn_V B hn_nA) : ∀ (n : Nat) (l3 : Int32) (l4 : Int32) (l5 : Int32) (l6 : Int32), fX1_unlikeness_36 F μ n l3 l4 l5 l6 = some R → hn_G Z B (0, 0) 7 36 [(3, .int l3), (4, .int l4), (5, .int l5), (6, .int l6)] [] μ := by
  intro n
  induction n with
  | zero => intro l3 l4 l5 l6 e; rw [fX1_unlikeness_36] at e; cases e
  | succ n ih =>
    intro l3 l4 l5 l6 e
    rw [fX1_unlikeness_36] at e
    refine hn_iload hF dX1_unlikeness_36 (q := 38) rfl 3 rfl ?_
    refine hn_iconst hF dX1_unlikeness_38 (q := 39) rfl ki_4 ?_
    refine hn_icmp_ge hF dX1_unlikeness_39 (t := 78) (q := 42) rfl rfl e (fun e => ?_) (fun e => ?_)
    · refine hn_iload_n hF dX1_unlikeness_78 (q := 79) rfl 0 rfl ?_
      exact hn_iretP hF hQ dX1_unlikeness_79 e
    · refine hn_iload hF dX1_unlikeness_42 (q := 44) rfl 1 rfl ?_
      refine hn_bipush hF dX1_unlikeness_44 (q := 46) rfl kb_10 ?_
      refine hn_irem hF dX1_unlikeness_46 (q := 47) rfl kz_10 ?_
      refine hn_iload hF dX1_unlikeness_47 (q := 49) rfl 2 rfl ?_
      refine hn_bipush hF dX1_unlikeness_49 (q := 51) rfl kb_10 ?_
      refine hn_irem hF dX1_unlikeness_51 (q := 52) rfl kz_10 ?_
      refine hn_icmp_eq hF dX1_unlikeness_52 (t := 58) (q := 55) rfl rfl e (fun e => ?_) (fun e => ?_)
      · exact gX1_unlikeness_58 hF hQ hV ih e
      · refine hn_iinc (p := 0) hF dX1_unlikeness_55 (q := 58) rfl rfl (kn_3 _) (by decide) (L' := [(3, .int (l3 + 3)), (4, .int l4), (5, .int l5), (6, .int l6)]) rfl ?_
        exact gX1_unlikeness_58 hF hQ hV ih e
set_option maxHeartbeats 1000000 in
theorem gX1_unlikeness {Z : hn_Z} {B : hn_B} {F : Nat} {μ : hn_M} {R : Int32} (hF : hn_F Z B (0, 0) cX1_unlikeness 7 RX1 (some .int) 1) (hQ : hn_goal Z B (some (.int R), μ)) (hV : hn_V B hn_nA) {l1 : Int32} {l2 : Int32} (e : fX1_unlikeness F μ l1 l2 = some R) : hn_G Z B (0, 0) 7 0 [(0, .ref (hn_base B + 6)), (1, .int l1), (2, .int l2)] [] μ := by
  unfold fX1_unlikeness at e
  have a14 : hn_isA B 14 false 30 := hV 14 (by decide)
  have a15 : hn_isA B 15 false 30 := hV 15 (by decide)
  have o6 : hn_isO B 6 1 hn_k6 := hV 6 (by decide)
  refine hn_aload_n hF dX1_unlikeness_0 (q := 1) rfl 0 rfl ?_
  refine hn_get hF fl_X1_46 o6 rfl rfl dX1_unlikeness_1 (q := 4) rfl ?_
  refine hn_iload_n hF dX1_unlikeness_4 (q := 5) rfl 1 rfl ?_
  refine hn_ald hF a15 dX1_unlikeness_5 (q := 6) rfl e (fun v1 e => ?_)
  refine hn_aload_n hF dX1_unlikeness_6 (q := 7) rfl 0 rfl ?_
  refine hn_get hF fl_X1_46 o6 rfl rfl dX1_unlikeness_7 (q := 10) rfl ?_
  refine hn_iload_n hF dX1_unlikeness_10 (q := 11) rfl 2 rfl ?_
  refine hn_ald hF a15 dX1_unlikeness_11 (q := 12) rfl e (fun v2 e => ?_)
  refine hn_ixor hF dX1_unlikeness_12 (q := 13) rfl ?_
  refine hn_callSi (rest := []) hF ms_J6_bitCount_0f7a4 mt_J6_bitCount_0f7a4 lk_X1_78 (by decide) [.int (v1 ^^^ v2)] rfl (Nat.le_of_ble_eq_true rfl) dX1_unlikeness_13 (q := 16) rfl rfl e (fun v hv => cJ6_bitCount hv) (fun v3 e => ?_)
  refine hn_istore_n hF dX1_unlikeness_16 (q := 17) rfl (i := 3) rfl (by decide) (L' := [(3, .int v3), (0, .ref (hn_base B + 6)), (1, .int l1), (2, .int l2)]) rfl ?_
  refine hn_aload_n hF dX1_unlikeness_17 (q := 18) rfl 1 rfl ?_
  refine hn_get hF fl_X1_43 o6 rfl rfl dX1_unlikeness_18 (q := 21) rfl ?_
  refine hn_iload_n hF dX1_unlikeness_21 (q := 22) rfl 2 rfl ?_
  refine hn_ald hF a14 dX1_unlikeness_22 (q := 23) rfl e (fun v4 e => ?_)
  refine hn_istore hF dX1_unlikeness_23 (q := 25) rfl (by decide) (L' := [(4, .int v4), (3, .int v3), (0, .ref (hn_base B + 6)), (1, .int l1), (2, .int l2)]) rfl ?_
  refine hn_aload_n hF dX1_unlikeness_25 (q := 26) rfl 2 rfl ?_
  refine hn_get hF fl_X1_43 o6 rfl rfl dX1_unlikeness_26 (q := 29) rfl ?_
  refine hn_iload_n hF dX1_unlikeness_29 (q := 30) rfl 4 rfl ?_
  refine hn_ald hF a14 dX1_unlikeness_30 (q := 31) rfl e (fun v5 e => ?_)
  refine hn_istore hF dX1_unlikeness_31 (q := 33) rfl (by decide) (L' := [(5, .int v5), (4, .int v4), (3, .int v3), (0, .ref (hn_base B + 6)), (1, .int l1), (2, .int l2)]) rfl ?_
  refine hn_iconst hF dX1_unlikeness_33 (q := 34) rfl ki_0 ?_
  refine hn_istore hF dX1_unlikeness_34 (q := 36) rfl (by decide) (L' := [(6, .int 0), (5, .int v5), (4, .int v4), (3, .int v3), (0, .ref (hn_base B + 6)), (1, .int l1), (2, .int l2)]) rfl ?_
  refine hn_sub [3, 2, 1, 0] (L' := [(3, .int v3), (4, .int v4), (5, .int v5), (6, .int 0)]) rfl ?_
  exact gX1_unlikeness_36 hF hQ hV F v3 v4 v5 0 e
theorem cX1_unlikeness_ {B : hn_B} {F : Nat} {μ : hn_M} {R : Int32} {l1 : Int32} {l2 : Int32} (hV : hn_V B hn_nA) (e : fX1_unlikeness F μ l1 l2 = some R) : hn_C yX1_unlikeness cX1_unlikeness 7 (some .int) 1 B [.ref (hn_base B + 6), .int l1, .int l2] μ (some (.int R), μ) :=
  hn_C.of RX1 (by decide) rfl (Nat.le_of_ble_eq_true rfl) (fun _ hF hQ => gX1_unlikeness hF hQ hV e)
/-! HandNews$Papers.addSaying(IIII)I -/
def fX1_addSaying (l1 : Int32) (l2 : Int32) (l3 : Int32) (l4 : Int32) (μ : hn_M) : Option (Int32 × hn_M) := hn_wr μ 12 30 (μ 6 7) l1 fun μ1 => hn_wr μ1 13 30 (μ 6 7) l2 fun μ2 => hn_wr μ2 14 30 (μ 6 7) l3 fun μ3 => hn_wr μ3 15 30 (μ 6 7) l4 fun μ4 => hn_pf μ4 6 7 ((μ4 6 7) + 1) fun μ5 => some (μ 6 7, μ5)
set_option maxHeartbeats 1000000 in
theorem gX1_addSaying {Z : hn_Z} {B : hn_B} {R : Int32 × hn_M} (hF : hn_F Z B (0, 0) cX1_addSaying 6 RX1 (some .int) 0) (hQ : hn_goal Z B (some (.int R.1), R.2)) (hV : hn_V B hn_nA) {l1 : Int32} {l2 : Int32} {l3 : Int32} {l4 : Int32} {μ : hn_M} (e : fX1_addSaying l1 l2 l3 l4 μ = some R) : hn_G Z B (0, 0) 6 0 [(0, .ref (hn_base B + 6)), (1, .int l1), (2, .int l2), (3, .int l3), (4, .int l4)] [] μ := by
  unfold fX1_addSaying at e
  have a12 : hn_isA B 12 false 30 := hV 12 (by decide)
  have a13 : hn_isA B 13 false 30 := hV 13 (by decide)
  have a14 : hn_isA B 14 false 30 := hV 14 (by decide)
  have a15 : hn_isA B 15 false 30 := hV 15 (by decide)
  have o6 : hn_isO B 6 1 hn_k6 := hV 6 (by decide)
  refine hn_aload_n hF dX1_addSaying_0 (q := 1) rfl 0 rfl ?_
  refine hn_get hF fl_X1_34 o6 rfl rfl dX1_addSaying_1 (q := 4) rfl ?_
  refine hn_istore hF dX1_addSaying_4 (q := 6) rfl (by decide) (L' := [(5, .int (μ 6 7)), (0, .ref (hn_base B + 6)), (1, .int l1), (2, .int l2), (3, .int l3), (4, .int l4)]) rfl ?_
  refine hn_aload_n hF dX1_addSaying_6 (q := 7) rfl 1 rfl ?_
  refine hn_get hF fl_X1_37 o6 rfl rfl dX1_addSaying_7 (q := 10) rfl ?_
  refine hn_iload hF dX1_addSaying_10 (q := 12) rfl 0 rfl ?_
  refine hn_iload_n hF dX1_addSaying_12 (q := 13) rfl 2 rfl ?_
  refine hn_ast hF a12 dX1_addSaying_13 (q := 14) rfl e (fun μ1 e => ?_)
  refine hn_aload_n hF dX1_addSaying_14 (q := 15) rfl 1 rfl ?_
  refine hn_get hF fl_X1_40 o6 rfl rfl dX1_addSaying_15 (q := 18) rfl ?_
  refine hn_iload hF dX1_addSaying_18 (q := 20) rfl 0 rfl ?_
  refine hn_iload_n hF dX1_addSaying_20 (q := 21) rfl 3 rfl ?_
  refine hn_ast hF a13 dX1_addSaying_21 (q := 22) rfl e (fun μ2 e => ?_)
  refine hn_aload_n hF dX1_addSaying_22 (q := 23) rfl 1 rfl ?_
  refine hn_get hF fl_X1_43 o6 rfl rfl dX1_addSaying_23 (q := 26) rfl ?_
  refine hn_iload hF dX1_addSaying_26 (q := 28) rfl 0 rfl ?_
  refine hn_iload_n hF dX1_addSaying_28 (q := 29) rfl 4 rfl ?_
  refine hn_ast hF a14 dX1_addSaying_29 (q := 30) rfl e (fun μ3 e => ?_)
  refine hn_aload_n hF dX1_addSaying_30 (q := 31) rfl 1 rfl ?_
  refine hn_get hF fl_X1_46 o6 rfl rfl dX1_addSaying_31 (q := 34) rfl ?_
  refine hn_iload hF dX1_addSaying_34 (q := 36) rfl 0 rfl ?_
  refine hn_iload hF dX1_addSaying_36 (q := 38) rfl 5 rfl ?_
  refine hn_ast hF a15 dX1_addSaying_38 (q := 39) rfl e (fun μ4 e => ?_)
  refine hn_aload_n hF dX1_addSaying_39 (q := 40) rfl 1 rfl ?_
  refine hn_dup hF dX1_addSaying_40 (q := 41) rfl rfl ?_
  refine hn_get hF fl_X1_34 o6 rfl rfl dX1_addSaying_41 (q := 44) rfl ?_
  refine hn_iconst hF dX1_addSaying_44 (q := 45) rfl ki_1 ?_
  refine hn_iadd hF dX1_addSaying_45 (q := 46) rfl ?_
  refine hn_put hF fl_X1_34 fp_X1_7 o6 rfl rfl rfl rfl dX1_addSaying_46 (q := 49) rfl e (fun μ5 e => ?_)
  refine hn_iload hF dX1_addSaying_49 (q := 51) rfl 0 rfl ?_
  exact hn_iretM hF hQ dX1_addSaying_51 e
theorem cX1_addSaying_ {B : hn_B} {μ : hn_M} {R : Int32 × hn_M} {l1 : Int32} {l2 : Int32} {l3 : Int32} {l4 : Int32} (hV : hn_V B hn_nA) (e : fX1_addSaying l1 l2 l3 l4 μ = some R) : hn_C yX1_addSaying cX1_addSaying 6 (some .int) 0 B [.ref (hn_base B + 6), .int l1, .int l2, .int l3, .int l4] μ (some (.int R.1), R.2) :=
  hn_C.of RX1 (by decide) rfl (Nat.le_of_ble_eq_true rfl) (fun _ hF hQ => gX1_addSaying hF hQ hV e)
/-! HandNews$Papers.mark(IZZ)V -/
def fX1_mark (l1 : Int32) (l2 : Int32) (l3 : Int32) (μ : hn_M) : Option hn_M := (fX7_with (μ 6 12) l1 l2).bind fun v1 => hn_pf μ 6 12 v1 fun μ2 => (fX7_with (μ2 6 13) l1 l3).bind fun v3 => hn_pf μ2 6 13 v3 fun μ4 => some μ4
set_option maxHeartbeats 1000000 in
theorem gX1_mark {Z : hn_Z} {B : hn_B} {R : hn_M} (hF : hn_F Z B (0, 0) cX1_mark 4 RX1 none 1) (hQ : hn_goal Z B (none, R)) (hV : hn_V B hn_nA) {l1 : Int32} {l2 : Int32} {l3 : Int32} {μ : hn_M} (e : fX1_mark l1 l2 l3 μ = some R) : hn_G Z B (0, 0) 4 0 [(0, .ref (hn_base B + 6)), (1, .int l1), (2, .int l2), (3, .int l3)] [] μ := by
  unfold fX1_mark at e
  have o6 : hn_isO B 6 1 hn_k6 := hV 6 (by decide)
  refine hn_aload_n hF dX1_mark_0 (q := 1) rfl 0 rfl ?_
  refine hn_aload_n hF dX1_mark_1 (q := 2) rfl 0 rfl ?_
  refine hn_get hF fl_X1_49 o6 rfl rfl dX1_mark_2 (q := 5) rfl ?_
  refine hn_iload_n hF dX1_mark_5 (q := 6) rfl 1 rfl ?_
  refine hn_iload_n hF dX1_mark_6 (q := 7) rfl 2 rfl ?_
  refine hn_callNi (rest := [.ref (hn_base B + 6)]) hF ms_X7_with mt_X7_with lk_X1_70 (by decide) [.int (μ 6 12), .int l1, .int l2] rfl (Nat.le_of_ble_eq_true rfl) dX1_mark_7 (q := 10) rfl rfl e (fun v hv => cX7_with_ hv) (fun v1 e => ?_)
  refine hn_put hF fl_X1_49 fp_X1_12 o6 rfl rfl rfl rfl dX1_mark_10 (q := 13) rfl e (fun μ2 e => ?_)
  refine hn_aload_n hF dX1_mark_13 (q := 14) rfl 0 rfl ?_
  refine hn_aload_n hF dX1_mark_14 (q := 15) rfl 0 rfl ?_
  refine hn_get hF fl_X1_52 o6 rfl rfl dX1_mark_15 (q := 18) rfl ?_
  refine hn_iload_n hF dX1_mark_18 (q := 19) rfl 1 rfl ?_
  refine hn_iload_n hF dX1_mark_19 (q := 20) rfl 3 rfl ?_
  refine hn_callNi (rest := [.ref (hn_base B + 6)]) hF ms_X7_with mt_X7_with lk_X1_70 (by decide) [.int (μ2 6 13), .int l1, .int l3] rfl (Nat.le_of_ble_eq_true rfl) dX1_mark_20 (q := 23) rfl rfl e (fun v hv => cX7_with_ hv) (fun v3 e => ?_)
  refine hn_put hF fl_X1_52 fp_X1_13 o6 rfl rfl rfl rfl dX1_mark_23 (q := 26) rfl e (fun μ4 e => ?_)
  exact hn_vretM hF hQ dX1_mark_26 e
theorem cX1_mark_ {B : hn_B} {μ : hn_M} {R : hn_M} {l1 : Int32} {l2 : Int32} {l3 : Int32} (hV : hn_V B hn_nA) (e : fX1_mark l1 l2 l3 μ = some R) : hn_C yX1_mark cX1_mark 4 none 1 B [.ref (hn_base B + 6), .int l1, .int l2, .int l3] μ (none, R) :=
  hn_C.of RX1 (by decide) rfl (Nat.le_of_ble_eq_true rfl) (fun _ hF hQ => gX1_mark hF hQ hV e)
/-! HandNews$Papers.writerOf(I)I -/
def fX1_writerOf (μ : hn_M) (l1 : Int32) : Option Int32 := hn_rd μ 12 30 l1 fun v1 => hn_rd μ 8 12 v1 fun v2 => some v2
set_option maxHeartbeats 1000000 in
theorem gX1_writerOf {Z : hn_Z} {B : hn_B} {μ : hn_M} {R : Int32} (hF : hn_F Z B (0, 0) cX1_writerOf 2 RX1 (some .int) 0) (hQ : hn_goal Z B (some (.int R), μ)) (hV : hn_V B hn_nA) {l1 : Int32} (e : fX1_writerOf μ l1 = some R) : hn_G Z B (0, 0) 2 0 [(0, .ref (hn_base B + 6)), (1, .int l1)] [] μ := by
  unfold fX1_writerOf at e
  have a12 : hn_isA B 12 false 30 := hV 12 (by decide)
  have a8 : hn_isA B 8 false 12 := hV 8 (by decide)
  have o6 : hn_isO B 6 1 hn_k6 := hV 6 (by decide)
  refine hn_aload_n hF dX1_writerOf_0 (q := 1) rfl 0 rfl ?_
  refine hn_get hF fl_X1_19 o6 rfl rfl dX1_writerOf_1 (q := 4) rfl ?_
  refine hn_aload_n hF dX1_writerOf_4 (q := 5) rfl 0 rfl ?_
  refine hn_get hF fl_X1_37 o6 rfl rfl dX1_writerOf_5 (q := 8) rfl ?_
  refine hn_iload_n hF dX1_writerOf_8 (q := 9) rfl 1 rfl ?_
  refine hn_ald hF a12 dX1_writerOf_9 (q := 10) rfl e (fun v1 e => ?_)
  refine hn_ald hF a8 dX1_writerOf_10 (q := 11) rfl e (fun v2 e => ?_)
  exact hn_iretP hF hQ dX1_writerOf_11 e
theorem cX1_writerOf_ {B : hn_B} {μ : hn_M} {R : Int32} {l1 : Int32} (hV : hn_V B hn_nA) (e : fX1_writerOf μ l1 = some R) : hn_C yX1_writerOf cX1_writerOf 2 (some .int) 0 B [.ref (hn_base B + 6), .int l1] μ (some (.int R), μ) :=
  hn_C.of RX1 (by decide) rfl (Nat.le_of_ble_eq_true rfl) (fun _ hF hQ => gX1_writerOf hF hQ hV e)
/-! HandNews$Papers.copyFrom(LHandNews$Papers;)V -/
def fX1_copyFrom (t o : Nat) (μ : hn_M) : Option hn_M := hn_pf μ t 0 (μ o 0) fun μ1 => hn_cp μ1 (o + 1) (t + 1) 12 fun μ2 => hn_cp μ2 (o + 2) (t + 2) 12 fun μ3 => hn_cp μ3 (o + 3) (t + 3) 12 fun μ4 => hn_pf μ4 t 4 (μ4 o 4) fun μ5 => hn_cp μ5 (o + 4) (t + 4) 20 fun μ6 => hn_cp μ6 (o + 5) (t + 5) 20 fun μ7 => hn_pf μ7 t 7 (μ7 o 7) fun μ8 => hn_cp μ8 (o + 6) (t + 6) 30 fun μ9 => hn_cp μ9 (o + 7) (t + 7) 30 fun μ10 => hn_cp μ10 (o + 8) (t + 8) 30 fun μ11 => hn_cp μ11 (o + 9) (t + 9) 30 fun μ12 => hn_pf μ12 t 12 (μ12 o 12) fun μ13 => hn_pf μ13 t 13 (μ13 o 13) fun μ14 => hn_cp μ14 (o + 10) (t + 10) 10 fun μ15 => hn_cp μ15 (o + 11) (t + 11) 10 fun μ16 => hn_cp μ16 (o + 12) (t + 12) 10 fun μ17 => some μ17
set_option maxHeartbeats 1000000 in
theorem gX1_copyFrom {Z : hn_Z} {B : hn_B} {t o : Nat} {R : hn_M} (hF : hn_F Z B (0, 0) cX1_copyFrom 2 RX1 none 1) (hQ : hn_goal Z B (none, R)) (hV : hn_V B hn_nA) (h_t : hn_tP t) (h_o : hn_tP o) {μ : hn_M} (e : fX1_copyFrom t o μ = some R) : hn_G Z B (0, 0) 2 0 [(0, .ref (hn_base B + t)), (1, .ref (hn_base B + o))] [] μ := by
  unfold fX1_copyFrom at e
  have aS_o_1 : hn_isA B (o + 1) false 12 := hn_Pa1 hV h_o
  have aS_o_10 : hn_isA B (o + 10) false 10 := hn_Pa10 hV h_o
  have aS_o_11 : hn_isA B (o + 11) false 10 := hn_Pa11 hV h_o
  have aS_o_12 : hn_isA B (o + 12) false 10 := hn_Pa12 hV h_o
  have aS_o_2 : hn_isA B (o + 2) false 12 := hn_Pa2 hV h_o
  have aS_o_3 : hn_isA B (o + 3) false 12 := hn_Pa3 hV h_o
  have aS_o_4 : hn_isA B (o + 4) false 20 := hn_Pa4 hV h_o
  have aS_o_5 : hn_isA B (o + 5) false 20 := hn_Pa5 hV h_o
  have aS_o_6 : hn_isA B (o + 6) false 30 := hn_Pa6 hV h_o
  have aS_o_7 : hn_isA B (o + 7) false 30 := hn_Pa7 hV h_o
  have aS_o_8 : hn_isA B (o + 8) false 30 := hn_Pa8 hV h_o
  have aS_o_9 : hn_isA B (o + 9) false 30 := hn_Pa9 hV h_o
  have aS_t_1 : hn_isA B (t + 1) false 12 := hn_Pa1 hV h_t
  have aS_t_10 : hn_isA B (t + 10) false 10 := hn_Pa10 hV h_t
  have aS_t_11 : hn_isA B (t + 11) false 10 := hn_Pa11 hV h_t
  have aS_t_12 : hn_isA B (t + 12) false 10 := hn_Pa12 hV h_t
  have aS_t_2 : hn_isA B (t + 2) false 12 := hn_Pa2 hV h_t
  have aS_t_3 : hn_isA B (t + 3) false 12 := hn_Pa3 hV h_t
  have aS_t_4 : hn_isA B (t + 4) false 20 := hn_Pa4 hV h_t
  have aS_t_5 : hn_isA B (t + 5) false 20 := hn_Pa5 hV h_t
  have aS_t_6 : hn_isA B (t + 6) false 30 := hn_Pa6 hV h_t
  have aS_t_7 : hn_isA B (t + 7) false 30 := hn_Pa7 hV h_t
  have aS_t_8 : hn_isA B (t + 8) false 30 := hn_Pa8 hV h_t
  have aS_t_9 : hn_isA B (t + 9) false 30 := hn_Pa9 hV h_t
  refine hn_aload_n hF dX1_copyFrom_0 (q := 1) rfl 0 rfl ?_
  refine hn_aload_n hF dX1_copyFrom_1 (q := 2) rfl 1 rfl ?_
  refine hn_get hF fl_X1_9 (hn_Po hV h_o) rfl rfl dX1_copyFrom_2 (q := 5) rfl ?_
  refine hn_put hF fl_X1_9 fp_X1_0 (hn_Po hV h_t) rfl rfl rfl rfl dX1_copyFrom_5 (q := 8) rfl e (fun μ1 e => ?_)
  refine hn_aload_n hF dX1_copyFrom_8 (q := 9) rfl 1 rfl ?_
  refine hn_get hF fl_X1_15 (hn_Po hV h_o) rfl rfl dX1_copyFrom_9 (q := 12) rfl ?_
  refine hn_iconst hF dX1_copyFrom_12 (q := 13) rfl ki_0 ?_
  refine hn_aload_n hF dX1_copyFrom_13 (q := 14) rfl 0 rfl ?_
  refine hn_get hF fl_X1_15 (hn_Po hV h_t) rfl rfl dX1_copyFrom_14 (q := 17) rfl ?_
  refine hn_iconst hF dX1_copyFrom_17 (q := 18) rfl ki_0 ?_
  refine hn_bipush hF dX1_copyFrom_18 (q := 20) rfl kb_12 ?_
  refine hn_copy hF lc_X1_84 aS_o_1 aS_t_1 (Nat.le_of_ble_eq_true rfl) (Nat.le_of_ble_eq_true rfl) (by decide) (by decide) dX1_copyFrom_20 (q := 23) rfl e (fun μ2 e => ?_)
  refine hn_aload_n hF dX1_copyFrom_23 (q := 24) rfl 1 rfl ?_
  refine hn_get hF fl_X1_19 (hn_Po hV h_o) rfl rfl dX1_copyFrom_24 (q := 27) rfl ?_
  refine hn_iconst hF dX1_copyFrom_27 (q := 28) rfl ki_0 ?_
  refine hn_aload_n hF dX1_copyFrom_28 (q := 29) rfl 0 rfl ?_
  refine hn_get hF fl_X1_19 (hn_Po hV h_t) rfl rfl dX1_copyFrom_29 (q := 32) rfl ?_
  refine hn_iconst hF dX1_copyFrom_32 (q := 33) rfl ki_0 ?_
  refine hn_bipush hF dX1_copyFrom_33 (q := 35) rfl kb_12 ?_
  refine hn_copy hF lc_X1_84 aS_o_2 aS_t_2 (Nat.le_of_ble_eq_true rfl) (Nat.le_of_ble_eq_true rfl) (by decide) (by decide) dX1_copyFrom_35 (q := 38) rfl e (fun μ3 e => ?_)
  refine hn_aload_n hF dX1_copyFrom_38 (q := 39) rfl 1 rfl ?_
  refine hn_get hF fl_X1_22 (hn_Po hV h_o) rfl rfl dX1_copyFrom_39 (q := 42) rfl ?_
  refine hn_iconst hF dX1_copyFrom_42 (q := 43) rfl ki_0 ?_
  refine hn_aload_n hF dX1_copyFrom_43 (q := 44) rfl 0 rfl ?_
  refine hn_get hF fl_X1_22 (hn_Po hV h_t) rfl rfl dX1_copyFrom_44 (q := 47) rfl ?_
  refine hn_iconst hF dX1_copyFrom_47 (q := 48) rfl ki_0 ?_
  refine hn_bipush hF dX1_copyFrom_48 (q := 50) rfl kb_12 ?_
  refine hn_copy hF lc_X1_84 aS_o_3 aS_t_3 (Nat.le_of_ble_eq_true rfl) (Nat.le_of_ble_eq_true rfl) (by decide) (by decide) dX1_copyFrom_50 (q := 53) rfl e (fun μ4 e => ?_)
  refine hn_aload_n hF dX1_copyFrom_53 (q := 54) rfl 0 rfl ?_
  refine hn_aload_n hF dX1_copyFrom_54 (q := 55) rfl 1 rfl ?_
  refine hn_get hF fl_X1_25 (hn_Po hV h_o) rfl rfl dX1_copyFrom_55 (q := 58) rfl ?_
  refine hn_put hF fl_X1_25 fp_X1_4 (hn_Po hV h_t) rfl rfl rfl rfl dX1_copyFrom_58 (q := 61) rfl e (fun μ5 e => ?_)
  refine hn_aload_n hF dX1_copyFrom_61 (q := 62) rfl 1 rfl ?_
  refine hn_get hF fl_X1_28 (hn_Po hV h_o) rfl rfl dX1_copyFrom_62 (q := 65) rfl ?_
  refine hn_iconst hF dX1_copyFrom_65 (q := 66) rfl ki_0 ?_
  refine hn_aload_n hF dX1_copyFrom_66 (q := 67) rfl 0 rfl ?_
  refine hn_get hF fl_X1_28 (hn_Po hV h_t) rfl rfl dX1_copyFrom_67 (q := 70) rfl ?_
  refine hn_iconst hF dX1_copyFrom_70 (q := 71) rfl ki_0 ?_
  refine hn_bipush hF dX1_copyFrom_71 (q := 73) rfl kb_20 ?_
  refine hn_copy hF lc_X1_84 aS_o_4 aS_t_4 (Nat.le_of_ble_eq_true rfl) (Nat.le_of_ble_eq_true rfl) (by decide) (by decide) dX1_copyFrom_73 (q := 76) rfl e (fun μ6 e => ?_)
  refine hn_aload_n hF dX1_copyFrom_76 (q := 77) rfl 1 rfl ?_
  refine hn_get hF fl_X1_31 (hn_Po hV h_o) rfl rfl dX1_copyFrom_77 (q := 80) rfl ?_
  refine hn_iconst hF dX1_copyFrom_80 (q := 81) rfl ki_0 ?_
  refine hn_aload_n hF dX1_copyFrom_81 (q := 82) rfl 0 rfl ?_
  refine hn_get hF fl_X1_31 (hn_Po hV h_t) rfl rfl dX1_copyFrom_82 (q := 85) rfl ?_
  refine hn_iconst hF dX1_copyFrom_85 (q := 86) rfl ki_0 ?_
  refine hn_bipush hF dX1_copyFrom_86 (q := 88) rfl kb_20 ?_
  refine hn_copy hF lc_X1_84 aS_o_5 aS_t_5 (Nat.le_of_ble_eq_true rfl) (Nat.le_of_ble_eq_true rfl) (by decide) (by decide) dX1_copyFrom_88 (q := 91) rfl e (fun μ7 e => ?_)
  refine hn_aload_n hF dX1_copyFrom_91 (q := 92) rfl 0 rfl ?_
  refine hn_aload_n hF dX1_copyFrom_92 (q := 93) rfl 1 rfl ?_
  refine hn_get hF fl_X1_34 (hn_Po hV h_o) rfl rfl dX1_copyFrom_93 (q := 96) rfl ?_
  refine hn_put hF fl_X1_34 fp_X1_7 (hn_Po hV h_t) rfl rfl rfl rfl dX1_copyFrom_96 (q := 99) rfl e (fun μ8 e => ?_)
  refine hn_aload_n hF dX1_copyFrom_99 (q := 100) rfl 1 rfl ?_
  refine hn_get hF fl_X1_37 (hn_Po hV h_o) rfl rfl dX1_copyFrom_100 (q := 103) rfl ?_
  refine hn_iconst hF dX1_copyFrom_103 (q := 104) rfl ki_0 ?_
  refine hn_aload_n hF dX1_copyFrom_104 (q := 105) rfl 0 rfl ?_
  refine hn_get hF fl_X1_37 (hn_Po hV h_t) rfl rfl dX1_copyFrom_105 (q := 108) rfl ?_
  refine hn_iconst hF dX1_copyFrom_108 (q := 109) rfl ki_0 ?_
  refine hn_bipush hF dX1_copyFrom_109 (q := 111) rfl kb_30 ?_
  refine hn_copy hF lc_X1_84 aS_o_6 aS_t_6 (Nat.le_of_ble_eq_true rfl) (Nat.le_of_ble_eq_true rfl) (by decide) (by decide) dX1_copyFrom_111 (q := 114) rfl e (fun μ9 e => ?_)
  refine hn_aload_n hF dX1_copyFrom_114 (q := 115) rfl 1 rfl ?_
  refine hn_get hF fl_X1_40 (hn_Po hV h_o) rfl rfl dX1_copyFrom_115 (q := 118) rfl ?_
  refine hn_iconst hF dX1_copyFrom_118 (q := 119) rfl ki_0 ?_
  refine hn_aload_n hF dX1_copyFrom_119 (q := 120) rfl 0 rfl ?_
  refine hn_get hF fl_X1_40 (hn_Po hV h_t) rfl rfl dX1_copyFrom_120 (q := 123) rfl ?_
  refine hn_iconst hF dX1_copyFrom_123 (q := 124) rfl ki_0 ?_
  refine hn_bipush hF dX1_copyFrom_124 (q := 126) rfl kb_30 ?_
  refine hn_copy hF lc_X1_84 aS_o_7 aS_t_7 (Nat.le_of_ble_eq_true rfl) (Nat.le_of_ble_eq_true rfl) (by decide) (by decide) dX1_copyFrom_126 (q := 129) rfl e (fun μ10 e => ?_)
  refine hn_aload_n hF dX1_copyFrom_129 (q := 130) rfl 1 rfl ?_
  refine hn_get hF fl_X1_43 (hn_Po hV h_o) rfl rfl dX1_copyFrom_130 (q := 133) rfl ?_
  refine hn_iconst hF dX1_copyFrom_133 (q := 134) rfl ki_0 ?_
  refine hn_aload_n hF dX1_copyFrom_134 (q := 135) rfl 0 rfl ?_
  refine hn_get hF fl_X1_43 (hn_Po hV h_t) rfl rfl dX1_copyFrom_135 (q := 138) rfl ?_
  refine hn_iconst hF dX1_copyFrom_138 (q := 139) rfl ki_0 ?_
  refine hn_bipush hF dX1_copyFrom_139 (q := 141) rfl kb_30 ?_
  refine hn_copy hF lc_X1_84 aS_o_8 aS_t_8 (Nat.le_of_ble_eq_true rfl) (Nat.le_of_ble_eq_true rfl) (by decide) (by decide) dX1_copyFrom_141 (q := 144) rfl e (fun μ11 e => ?_)
  refine hn_aload_n hF dX1_copyFrom_144 (q := 145) rfl 1 rfl ?_
  refine hn_get hF fl_X1_46 (hn_Po hV h_o) rfl rfl dX1_copyFrom_145 (q := 148) rfl ?_
  refine hn_iconst hF dX1_copyFrom_148 (q := 149) rfl ki_0 ?_
  refine hn_aload_n hF dX1_copyFrom_149 (q := 150) rfl 0 rfl ?_
  refine hn_get hF fl_X1_46 (hn_Po hV h_t) rfl rfl dX1_copyFrom_150 (q := 153) rfl ?_
  refine hn_iconst hF dX1_copyFrom_153 (q := 154) rfl ki_0 ?_
  refine hn_bipush hF dX1_copyFrom_154 (q := 156) rfl kb_30 ?_
  refine hn_copy hF lc_X1_84 aS_o_9 aS_t_9 (Nat.le_of_ble_eq_true rfl) (Nat.le_of_ble_eq_true rfl) (by decide) (by decide) dX1_copyFrom_156 (q := 159) rfl e (fun μ12 e => ?_)
  refine hn_aload_n hF dX1_copyFrom_159 (q := 160) rfl 0 rfl ?_
  refine hn_aload_n hF dX1_copyFrom_160 (q := 161) rfl 1 rfl ?_
  refine hn_get hF fl_X1_49 (hn_Po hV h_o) rfl rfl dX1_copyFrom_161 (q := 164) rfl ?_
  refine hn_put hF fl_X1_49 fp_X1_12 (hn_Po hV h_t) rfl rfl rfl rfl dX1_copyFrom_164 (q := 167) rfl e (fun μ13 e => ?_)
  refine hn_aload_n hF dX1_copyFrom_167 (q := 168) rfl 0 rfl ?_
  refine hn_aload_n hF dX1_copyFrom_168 (q := 169) rfl 1 rfl ?_
  refine hn_get hF fl_X1_52 (hn_Po hV h_o) rfl rfl dX1_copyFrom_169 (q := 172) rfl ?_
  refine hn_put hF fl_X1_52 fp_X1_13 (hn_Po hV h_t) rfl rfl rfl rfl dX1_copyFrom_172 (q := 175) rfl e (fun μ14 e => ?_)
  refine hn_aload_n hF dX1_copyFrom_175 (q := 176) rfl 1 rfl ?_
  refine hn_get hF fl_X1_55 (hn_Po hV h_o) rfl rfl dX1_copyFrom_176 (q := 179) rfl ?_
  refine hn_iconst hF dX1_copyFrom_179 (q := 180) rfl ki_0 ?_
  refine hn_aload_n hF dX1_copyFrom_180 (q := 181) rfl 0 rfl ?_
  refine hn_get hF fl_X1_55 (hn_Po hV h_t) rfl rfl dX1_copyFrom_181 (q := 184) rfl ?_
  refine hn_iconst hF dX1_copyFrom_184 (q := 185) rfl ki_0 ?_
  refine hn_bipush hF dX1_copyFrom_185 (q := 187) rfl kb_10 ?_
  refine hn_copy hF lc_X1_84 aS_o_10 aS_t_10 (Nat.le_of_ble_eq_true rfl) (Nat.le_of_ble_eq_true rfl) (by decide) (by decide) dX1_copyFrom_187 (q := 190) rfl e (fun μ15 e => ?_)
  refine hn_aload_n hF dX1_copyFrom_190 (q := 191) rfl 1 rfl ?_
  refine hn_get hF fl_X1_58 (hn_Po hV h_o) rfl rfl dX1_copyFrom_191 (q := 194) rfl ?_
  refine hn_iconst hF dX1_copyFrom_194 (q := 195) rfl ki_0 ?_
  refine hn_aload_n hF dX1_copyFrom_195 (q := 196) rfl 0 rfl ?_
  refine hn_get hF fl_X1_58 (hn_Po hV h_t) rfl rfl dX1_copyFrom_196 (q := 199) rfl ?_
  refine hn_iconst hF dX1_copyFrom_199 (q := 200) rfl ki_0 ?_
  refine hn_bipush hF dX1_copyFrom_200 (q := 202) rfl kb_10 ?_
  refine hn_copy hF lc_X1_84 aS_o_11 aS_t_11 (Nat.le_of_ble_eq_true rfl) (Nat.le_of_ble_eq_true rfl) (by decide) (by decide) dX1_copyFrom_202 (q := 205) rfl e (fun μ16 e => ?_)
  refine hn_aload_n hF dX1_copyFrom_205 (q := 206) rfl 1 rfl ?_
  refine hn_get hF fl_X1_61 (hn_Po hV h_o) rfl rfl dX1_copyFrom_206 (q := 209) rfl ?_
  refine hn_iconst hF dX1_copyFrom_209 (q := 210) rfl ki_0 ?_
  refine hn_aload_n hF dX1_copyFrom_210 (q := 211) rfl 0 rfl ?_
  refine hn_get hF fl_X1_61 (hn_Po hV h_t) rfl rfl dX1_copyFrom_211 (q := 214) rfl ?_
  refine hn_iconst hF dX1_copyFrom_214 (q := 215) rfl ki_0 ?_
  refine hn_bipush hF dX1_copyFrom_215 (q := 217) rfl kb_10 ?_
  refine hn_copy hF lc_X1_84 aS_o_12 aS_t_12 (Nat.le_of_ble_eq_true rfl) (Nat.le_of_ble_eq_true rfl) (by decide) (by decide) dX1_copyFrom_217 (q := 220) rfl e (fun μ17 e => ?_)
  exact hn_vretM hF hQ dX1_copyFrom_220 e
theorem cX1_copyFrom_ {B : hn_B} {t o : Nat} {μ : hn_M} {R : hn_M} (hV : hn_V B hn_nA) (h_t : hn_tP t) (h_o : hn_tP o) (e : fX1_copyFrom t o μ = some R) : hn_C yX1_copyFrom cX1_copyFrom 2 none 1 B [.ref (hn_base B + t), .ref (hn_base B + o)] μ (none, R) :=
  hn_C.of RX1 (by decide) rfl (Nat.le_of_ble_eq_true rfl) (fun _ hF hQ => gX1_copyFrom hF hQ hV h_t h_o e)
