/-! HandNews$Items.kindOf(I)I -/
def fX0_kindOf_2 (F : Nat) : Nat → Int32 → Int32 → Option Int32
  | 0, _, _ => none
  | n + 1, l0, l1 => if 6 ≤ l1 then some (-1) else hn_chr l1 fun v1 => if v1 = l0 then some l1 else fX0_kindOf_2 F n l0 (l1 + 1)
def fX0_kindOf (F : Nat) (l0 : Int32) : Option Int32 := fX0_kindOf_2 F F l0 0
set_option maxHeartbeats 1000000 in
theorem gX0_kindOf_2 {Z : hn_Z} {B : hn_B} {F : Nat} {μ : hn_M} {R : Int32} (hF : hn_F Z B (0, 0) cX0_kindOf 2 RX0 (some .int) 5) (hQ : hn_goal Z B (some (.int R), μ)) (hV : hn_V B hn_nA) : ∀ (n : Nat) (l0 : Int32) (l1 : Int32), fX0_kindOf_2 F n l0 l1 = some R → hn_G Z B (0, 0) 2 2 [(0, .int l0), (1, .int l1)] [] μ := by
  intro n
  induction n with
  | zero => intro l0 l1 e; rw [fX0_kindOf_2] at e; cases e
  | succ n ih =>
    intro l0 l1 e
    rw [fX0_kindOf_2] at e
    refine hn_iload_n hF dX0_kindOf_2 (q := 3) rfl 1 rfl ?_
    refine hn_ldcs hF dX0_kindOf_3 (q := 5) rfl ?_
    refine hn_slen hF dX0_kindOf_5 (Nat.le_of_ble_eq_true rfl) (Nat.le_of_ble_eq_true rfl) (q := 8) rfl ?_
    refine hn_icmp_ge hF dX0_kindOf_8 (t := 29) (q := 11) rfl rfl e (fun e => ?_) (fun e => ?_)
    · refine hn_iconst hF dX0_kindOf_29 (q := 30) rfl ki_m1 ?_
      exact hn_iretP hF hQ dX0_kindOf_30 e
    · refine hn_ldcs hF dX0_kindOf_11 (q := 13) rfl ?_
      refine hn_iload_n hF dX0_kindOf_13 (q := 14) rfl 1 rfl ?_
      refine hn_char hF dX0_kindOf_14 (Nat.le_of_ble_eq_true rfl) (Nat.le_of_ble_eq_true rfl) (q := 17) rfl e (fun v1 e => ?_)
      refine hn_iload_n hF dX0_kindOf_17 (q := 18) rfl 0 rfl ?_
      refine hn_icmp_ne hF dX0_kindOf_18 (t := 23) (q := 21) rfl rfl e (fun e => ?_) (fun e => ?_)
      · refine hn_iinc (p := 1) hF dX0_kindOf_23 (q := 26) rfl rfl (kn_1 _) (by decide) (L' := [(1, .int (l1 + 1)), (0, .int l0)]) rfl ?_
        refine hn_goto hF dX0_kindOf_26 (q := 2) rfl ?_
        refine hn_sub [1, 0] (L' := [(0, .int l0), (1, .int (l1 + 1))]) rfl ?_
        exact ih l0 (l1 + 1) e
      · refine hn_iload_n hF dX0_kindOf_21 (q := 22) rfl 1 rfl ?_
        exact hn_iretP hF hQ dX0_kindOf_22 e
set_option maxHeartbeats 1000000 in
theorem gX0_kindOf {Z : hn_Z} {B : hn_B} {F : Nat} {μ : hn_M} {R : Int32} (hF : hn_F Z B (0, 0) cX0_kindOf 2 RX0 (some .int) 5) (hQ : hn_goal Z B (some (.int R), μ)) (hV : hn_V B hn_nA) {l0 : Int32} (e : fX0_kindOf F l0 = some R) : hn_G Z B (0, 0) 2 0 [(0, .int l0)] [] μ := by
  unfold fX0_kindOf at e
  refine hn_iconst hF dX0_kindOf_0 (q := 1) rfl ki_0 ?_
  refine hn_istore_n hF dX0_kindOf_1 (q := 2) rfl (i := 1) rfl (by decide) (L' := [(1, .int 0), (0, .int l0)]) rfl ?_
  refine hn_sub [1, 0] (L' := [(0, .int l0), (1, .int 0)]) rfl ?_
  exact gX0_kindOf_2 hF hQ hV F l0 0 e
theorem cX0_kindOf_ {B : hn_B} {F : Nat} {μ : hn_M} {R : Int32} {l0 : Int32} (hV : hn_V B hn_nA) (e : fX0_kindOf F l0 = some R) : hn_C yX0_kindOf cX0_kindOf 2 (some .int) 5 B [.int l0] μ (some (.int R), μ) :=
  hn_C.of RX0 (by decide) rfl (Nat.le_of_ble_eq_true rfl) (fun _ hF hQ => gX0_kindOf hF hQ hV e)
/-! HandNews$Items.isFigure(I)Z -/
def fX0_isFigure (l0 : Int32) : Option Int32 := if l0 < 48 then some 0 else if 57 < l0 then some 0 else some 1
set_option maxHeartbeats 1000000 in
theorem gX0_isFigure {Z : hn_Z} {B : hn_B} {μ : hn_M} {R : Int32} (hF : hn_F Z B (0, 0) cX0_isFigure 1 RX0 (some .boolean) 0) (hQ : hn_goal Z B (some (.int R), μ)) {l0 : Int32} (e : fX0_isFigure l0 = some R) : hn_G Z B (0, 0) 1 0 [(0, .int l0)] [] μ := by
  unfold fX0_isFigure at e
  refine hn_iload_n hF dX0_isFigure_0 (q := 1) rfl 0 rfl ?_
  refine hn_bipush hF dX0_isFigure_1 (q := 3) rfl kb_48 ?_
  refine hn_icmp_lt hF dX0_isFigure_3 (t := 16) (q := 6) rfl rfl e (fun e => ?_) (fun e => ?_)
  · refine hn_iconst hF dX0_isFigure_16 (q := 17) rfl ki_0 ?_
    exact hn_zretP hF hQ dX0_isFigure_17 (Or.inl rfl) e
  · refine hn_iload_n hF dX0_isFigure_6 (q := 7) rfl 0 rfl ?_
    refine hn_bipush hF dX0_isFigure_7 (q := 9) rfl kb_57 ?_
    refine hn_icmp_gt hF dX0_isFigure_9 (t := 16) (q := 12) rfl rfl e (fun e => ?_) (fun e => ?_)
    · refine hn_iconst hF dX0_isFigure_16 (q := 17) rfl ki_0 ?_
      exact hn_zretP hF hQ dX0_isFigure_17 (Or.inl rfl) e
    · refine hn_iconst hF dX0_isFigure_12 (q := 13) rfl ki_1 ?_
      refine hn_goto hF dX0_isFigure_13 (q := 17) rfl ?_
      exact hn_zretP hF hQ dX0_isFigure_17 (Or.inr rfl) e
theorem cX0_isFigure_ {B : hn_B} {μ : hn_M} {R : Int32} {l0 : Int32} (e : fX0_isFigure l0 = some R) : hn_C yX0_isFigure cX0_isFigure 1 (some .boolean) 0 B [.int l0] μ (some (.int R), μ) :=
  hn_C.of RX0 (by decide) rfl (Nat.le_of_ble_eq_true rfl) (fun _ hF hQ => gX0_isFigure hF hQ e)
/-! HandNews$Items.readNumber(LHandNews$Text;)I -/
def fX0_readNumber_56 (F : Nat) (t : Nat) (l2 : Int32) (l3 : Int32) (μ : hn_M) : Option (Int32 × hn_M) := if l3 = 0 then some ((-1), μ) else some (l2, μ)
def fX0_readNumber_4 (F : Nat) (t : Nat) : Nat → Int32 → Int32 → hn_M → Option (Int32 × hn_M)
  | 0, _, _, _ => none
  | n + 1, l2, l3, μ => if 3 ≤ l3 then fX0_readNumber_56 F t l2 l3 μ else (fX4_byteAt μ (μ t 7)).bind fun v1 => (fX0_isFigure v1).bind fun v2 => if v2 = 0 then fX0_readNumber_56 F t l2 l3 μ else (fX4_byteAt μ (μ t 7)).bind fun v3 => hn_pf μ t 7 ((μ t 7) + 1) fun μ4 => fX0_readNumber_4 F t n (((10 * l2) + v3) - 48) (l3 + 1) μ4
def fX0_readNumber (F : Nat) (t : Nat) (μ : hn_M) : Option (Int32 × hn_M) := fX0_readNumber_4 F t F 0 0 μ
set_option maxHeartbeats 1000000 in
theorem gX0_readNumber_56 {Z : hn_Z} {B : hn_B} {F : Nat} {t : Nat} {R : Int32 × hn_M} (hF : hn_F Z B (0, 0) cX0_readNumber 4 RX0 (some .int) 1) (hQ : hn_goal Z B (some (.int R.1), R.2)) (hV : hn_V B hn_nA) (h_t : hn_tI t) {l2 : Int32} {l3 : Int32} {μ : hn_M} (e : fX0_readNumber_56 F t l2 l3 μ = some R) : hn_G Z B (0, 0) 4 56 [(2, .int l2), (3, .int l3)] [] μ := by
  unfold fX0_readNumber_56 at e
  refine hn_iload_n hF dX0_readNumber_56 (q := 57) rfl 1 rfl ?_
  refine hn_if_ne hF dX0_readNumber_57 (t := 64) (q := 60) rfl rfl e (fun e => ?_) (fun e => ?_)
  · refine hn_iload_n hF dX0_readNumber_64 (q := 65) rfl 0 rfl ?_
    exact hn_iretM hF hQ dX0_readNumber_65 e
  · refine hn_iconst hF dX0_readNumber_60 (q := 61) rfl ki_m1 ?_
    refine hn_goto hF dX0_readNumber_61 (q := 65) rfl ?_
    exact hn_iretM hF hQ dX0_readNumber_65 e
set_option maxHeartbeats 1000000 in
theorem gX0_readNumber_4 {Z : hn_Z} {B : hn_B} {F : Nat} {t : Nat} {R : Int32 × hn_M} (hF : hn_F Z B (0, 0) cX0_readNumber 4 RX0 (some .int) 1) (hQ : hn_goal Z B (some (.int R.1), R.2)) (hV : hn_V B hn_nA) (h_t : hn_tI t) : ∀ (n : Nat) (l2 : Int32) (l3 : Int32) (μ : hn_M), fX0_readNumber_4 F t n l2 l3 μ = some R → hn_G Z B (0, 0) 4 4 [(0, .ref (hn_base B + t)), (1, .ref (hn_base B + 54)), (2, .int l2), (3, .int l3)] [] μ := by
  have o54 : hn_isO B 54 4 hn_k54 := hV 54 (by decide)
  intro n
  induction n with
  | zero => intro l2 l3 μ e; rw [fX0_readNumber_4] at e; cases e
  | succ n ih =>
    intro l2 l3 μ e
    rw [fX0_readNumber_4] at e
    refine hn_iload_n hF dX0_readNumber_4 (q := 5) rfl 3 rfl ?_
    refine hn_iconst hF dX0_readNumber_5 (q := 6) rfl ki_3 ?_
    refine hn_icmp_ge hF dX0_readNumber_6 (t := 56) (q := 9) rfl rfl e (fun e => ?_) (fun e => ?_)
    · refine hn_sub [2, 3] (L' := [(2, .int l2), (3, .int l3)]) rfl ?_
      exact gX0_readNumber_56 hF hQ hV h_t e
    · refine hn_aload_n hF dX0_readNumber_9 (q := 10) rfl 1 rfl ?_
      refine hn_aload_n hF dX0_readNumber_10 (q := 11) rfl 0 rfl ?_
      refine hn_get hF fl_X0_34 (hn_Io hV h_t) rfl rfl dX0_readNumber_11 (q := 14) rfl ?_
      refine hn_callVi (rest := []) hF ms_X4_byteAt mv_X4_byteAt lk_X0_46 o54 rfl (by decide) [.int (μ t 7)] rfl (Nat.le_of_ble_eq_true rfl) dX0_readNumber_14 (q := 17) rfl rfl e (fun v hv => cX4_byteAt_ hV hv) (fun v1 e => ?_)
      refine hn_callSi (rest := []) hF ms_X0_isFigure mt_X0_isFigure lk_X0_75 (by decide) [.int v1] rfl (Nat.le_of_ble_eq_true rfl) dX0_readNumber_17 (q := 20) rfl rfl e (fun v hv => cX0_isFigure_ hv) (fun v2 e => ?_)
      refine hn_if_eq hF dX0_readNumber_20 (t := 56) (q := 23) rfl rfl e (fun e => ?_) (fun e => ?_)
      · refine hn_sub [2, 3] (L' := [(2, .int l2), (3, .int l3)]) rfl ?_
        exact gX0_readNumber_56 hF hQ hV h_t e
      · refine hn_bipush hF dX0_readNumber_23 (q := 25) rfl kb_10 ?_
        refine hn_iload_n hF dX0_readNumber_25 (q := 26) rfl 2 rfl ?_
        refine hn_imul hF dX0_readNumber_26 (q := 27) rfl ?_
        refine hn_aload_n hF dX0_readNumber_27 (q := 28) rfl 1 rfl ?_
        refine hn_aload_n hF dX0_readNumber_28 (q := 29) rfl 0 rfl ?_
        refine hn_get hF fl_X0_34 (hn_Io hV h_t) rfl rfl dX0_readNumber_29 (q := 32) rfl ?_
        refine hn_callVi (rest := [.int (10 * l2)]) hF ms_X4_byteAt mv_X4_byteAt lk_X0_46 o54 rfl (by decide) [.int (μ t 7)] rfl (Nat.le_of_ble_eq_true rfl) dX0_readNumber_32 (q := 35) rfl rfl e (fun v hv => cX4_byteAt_ hV hv) (fun v3 e => ?_)
        refine hn_iadd hF dX0_readNumber_35 (q := 36) rfl ?_
        refine hn_bipush hF dX0_readNumber_36 (q := 38) rfl kb_48 ?_
        refine hn_isub hF dX0_readNumber_38 (q := 39) rfl ?_
        refine hn_istore_n hF dX0_readNumber_39 (q := 40) rfl (i := 2) rfl (by decide) (L' := [(2, .int (((10 * l2) + v3) - 48)), (0, .ref (hn_base B + t)), (1, .ref (hn_base B + 54)), (3, .int l3)]) rfl ?_
        refine hn_aload_n hF dX0_readNumber_40 (q := 41) rfl 1 rfl ?_
        refine hn_dup hF dX0_readNumber_41 (q := 42) rfl rfl ?_
        refine hn_get hF fl_X0_34 (hn_Io hV h_t) rfl rfl dX0_readNumber_42 (q := 45) rfl ?_
        refine hn_iconst hF dX0_readNumber_45 (q := 46) rfl ki_1 ?_
        refine hn_iadd hF dX0_readNumber_46 (q := 47) rfl ?_
        refine hn_put hF fl_X0_34 fp_X0_7 (hn_Io hV h_t) rfl rfl rfl rfl dX0_readNumber_47 (q := 50) rfl e (fun μ4 e => ?_)
        refine hn_iinc (p := 3) hF dX0_readNumber_50 (q := 53) rfl rfl (kn_1 _) (by decide) (L' := [(3, .int (l3 + 1)), (2, .int (((10 * l2) + v3) - 48)), (0, .ref (hn_base B + t)), (1, .ref (hn_base B + 54))]) rfl ?_
        refine hn_goto hF dX0_readNumber_53 (q := 4) rfl ?_
        refine hn_sub [2, 3, 1, 0] (L' := [(0, .ref (hn_base B + t)), (1, .ref (hn_base B + 54)), (2, .int (((10 * l2) + v3) - 48)), (3, .int (l3 + 1))]) rfl ?_
        exact ih (((10 * l2) + v3) - 48) (l3 + 1) μ4 e
set_option maxHeartbeats 1000000 in
theorem gX0_readNumber {Z : hn_Z} {B : hn_B} {F : Nat} {t : Nat} {R : Int32 × hn_M} (hF : hn_F Z B (0, 0) cX0_readNumber 4 RX0 (some .int) 1) (hQ : hn_goal Z B (some (.int R.1), R.2)) (hV : hn_V B hn_nA) (h_t : hn_tI t) {μ : hn_M} (e : fX0_readNumber F t μ = some R) : hn_G Z B (0, 0) 4 0 [(0, .ref (hn_base B + t)), (1, .ref (hn_base B + 54))] [] μ := by
  unfold fX0_readNumber at e
  refine hn_iconst hF dX0_readNumber_0 (q := 1) rfl ki_0 ?_
  refine hn_istore_n hF dX0_readNumber_1 (q := 2) rfl (i := 2) rfl (by decide) (L' := [(2, .int 0), (0, .ref (hn_base B + t)), (1, .ref (hn_base B + 54))]) rfl ?_
  refine hn_iconst hF dX0_readNumber_2 (q := 3) rfl ki_0 ?_
  refine hn_istore_n hF dX0_readNumber_3 (q := 4) rfl (i := 3) rfl (by decide) (L' := [(3, .int 0), (2, .int 0), (0, .ref (hn_base B + t)), (1, .ref (hn_base B + 54))]) rfl ?_
  refine hn_sub [2, 3, 1, 0] (L' := [(0, .ref (hn_base B + t)), (1, .ref (hn_base B + 54)), (2, .int 0), (3, .int 0)]) rfl ?_
  exact gX0_readNumber_4 hF hQ hV h_t F 0 0 μ e
theorem cX0_readNumber_ {B : hn_B} {F : Nat} {t : Nat} {μ : hn_M} {R : Int32 × hn_M} (hV : hn_V B hn_nA) (h_t : hn_tI t) (e : fX0_readNumber F t μ = some R) : hn_C yX0_readNumber cX0_readNumber 4 (some .int) 1 B [.ref (hn_base B + t), .ref (hn_base B + 54)] μ (some (.int R.1), R.2) :=
  hn_C.of RX0 (by decide) rfl (Nat.le_of_ble_eq_true rfl) (fun _ hF hQ => gX0_readNumber hF hQ hV h_t e)
/-! HandNews$Items.readParts(LHandNews$Text;I)Z -/
def fX0_readParts_116 (F : Nat) (t : Nat) (k14 : Int32 → Int32 → Int32 → hn_M → Option (Int32 × hn_M)) (l2 : Int32) (l3 : Int32) (l4 : Int32) (μ : hn_M) : Option (Int32 × hn_M) := k14 l2 l3 (l4 + 1) μ
def fX0_readParts_101 (F : Nat) (t : Nat) (k14 : Int32 → Int32 → Int32 → hn_M → Option (Int32 × hn_M)) (l2 : Int32) (l3 : Int32) (l4 : Int32) (s0 : Int32) (s1 : Int32) (μ : hn_M) : Option (Int32 × hn_M) := if s1 = s0 then hn_pf μ t 7 ((μ t 7) + 1) fun μ1 => fX0_readParts_116 F t k14 l2 l3 l4 μ1 else some (0, μ)
def fX0_readParts_14 (F : Nat) (t : Nat) : Nat → Int32 → Int32 → Int32 → hn_M → Option (Int32 × hn_M)
  | 0, _, _, _, _ => none
  | n + 1, l2, l3, l4, μ => if 4 ≤ l4 then some (1, μ) else hn_wr μ (t + 6) 4 l4 0 fun μ2 => hn_rs hn_high 24 ((l2 * 4) + l4) fun v3 => if v3 = (-1) then fX0_readParts_116 F t (fX0_readParts_14 F t n) l2 l3 l4 μ2 else (fX0_readNumber F t μ2).bind fun w4 => if w4.1 = (-1) then some (0, w4.2) else if w4.1 ≤ v3 then hn_wr w4.2 (t + 6) 4 l4 w4.1 fun μ5 => (fX4_byteAt μ5 (μ5 t 7)).bind fun v6 => if l4 = l3 then fX0_readParts_101 F t (fX0_readParts_14 F t n) l2 l3 l4 59 v6 μ5 else fX0_readParts_101 F t (fX0_readParts_14 F t n) l2 l3 l4 44 v6 μ5 else some (0, w4.2)
def fX0_readParts_10 (F : Nat) (t : Nat) (l2 : Int32) (s0 : Int32) (μ : hn_M) : Option (Int32 × hn_M) := fX0_readParts_14 F t F l2 s0 0 μ
def fX0_readParts (F : Nat) (t : Nat) (l2 : Int32) (μ : hn_M) : Option (Int32 × hn_M) := if l2 = 5 then fX0_readParts_10 F t l2 3 μ else fX0_readParts_10 F t l2 2 μ
set_option maxHeartbeats 1000000 in
theorem gX0_readParts_116 {Z : hn_Z} {B : hn_B} {F : Nat} {t : Nat} {R : Int32 × hn_M} (hF : hn_F Z B (0, 0) cX0_readParts 7 RX0 (some .boolean) 2) (hQ : hn_goal Z B (some (.int R.1), R.2)) (hV : hn_V B hn_nA) (h_t : hn_tI t) {k14 : Int32 → Int32 → Int32 → hn_M → Option (Int32 × hn_M)} (H14 : ∀ (l2 : Int32) (l3 : Int32) (l4 : Int32) (μ : hn_M), k14 l2 l3 l4 μ = some R → hn_G Z B (0, 0) 7 14 [(0, .ref (hn_base B + t)), (1, .ref (hn_base B + 54)), (2, .int l2), (3, .int l3), (4, .int l4)] [] μ) {l2 : Int32} {l3 : Int32} {l4 : Int32} {μ : hn_M} (e : fX0_readParts_116 F t k14 l2 l3 l4 μ = some R) : hn_G Z B (0, 0) 7 116 [(0, .ref (hn_base B + t)), (1, .ref (hn_base B + 54)), (2, .int l2), (3, .int l3), (4, .int l4)] [] μ := by
  unfold fX0_readParts_116 at e
  refine hn_iinc (p := 4) hF dX0_readParts_116 (q := 119) rfl rfl (kn_1 _) (by decide) (L' := [(4, .int (l4 + 1)), (0, .ref (hn_base B + t)), (1, .ref (hn_base B + 54)), (2, .int l2), (3, .int l3)]) rfl ?_
  refine hn_goto hF dX0_readParts_119 (q := 14) rfl ?_
  refine hn_sub [1, 2, 3, 4, 0] (L' := [(0, .ref (hn_base B + t)), (1, .ref (hn_base B + 54)), (2, .int l2), (3, .int l3), (4, .int (l4 + 1))]) rfl ?_
  exact H14 l2 l3 (l4 + 1) μ e
set_option maxHeartbeats 1000000 in
theorem gX0_readParts_101 {Z : hn_Z} {B : hn_B} {F : Nat} {t : Nat} {R : Int32 × hn_M} (hF : hn_F Z B (0, 0) cX0_readParts 7 RX0 (some .boolean) 2) (hQ : hn_goal Z B (some (.int R.1), R.2)) (hV : hn_V B hn_nA) (h_t : hn_tI t) {k14 : Int32 → Int32 → Int32 → hn_M → Option (Int32 × hn_M)} (H14 : ∀ (l2 : Int32) (l3 : Int32) (l4 : Int32) (μ : hn_M), k14 l2 l3 l4 μ = some R → hn_G Z B (0, 0) 7 14 [(0, .ref (hn_base B + t)), (1, .ref (hn_base B + 54)), (2, .int l2), (3, .int l3), (4, .int l4)] [] μ) {l2 : Int32} {l3 : Int32} {l4 : Int32} {s0 : Int32} {s1 : Int32} {μ : hn_M} (e : fX0_readParts_101 F t k14 l2 l3 l4 s0 s1 μ = some R) : hn_G Z B (0, 0) 7 101 [(0, .ref (hn_base B + t)), (1, .ref (hn_base B + 54)), (2, .int l2), (3, .int l3), (4, .int l4)] [.int s0, .int s1] μ := by
  unfold fX0_readParts_101 at e
  refine hn_icmp_eq hF dX0_readParts_101 (t := 106) (q := 104) rfl rfl e (fun e => ?_) (fun e => ?_)
  · refine hn_aload_n hF dX0_readParts_106 (q := 107) rfl 0 rfl ?_
    refine hn_dup hF dX0_readParts_107 (q := 108) rfl rfl ?_
    refine hn_get hF fl_X0_34 (hn_Io hV h_t) rfl rfl dX0_readParts_108 (q := 111) rfl ?_
    refine hn_iconst hF dX0_readParts_111 (q := 112) rfl ki_1 ?_
    refine hn_iadd hF dX0_readParts_112 (q := 113) rfl ?_
    refine hn_put hF fl_X0_34 fp_X0_7 (hn_Io hV h_t) rfl rfl rfl rfl dX0_readParts_113 (q := 116) rfl e (fun μ1 e => ?_)
    exact gX0_readParts_116 hF hQ hV h_t H14 e
  · refine hn_iconst hF dX0_readParts_104 (q := 105) rfl ki_0 ?_
    exact hn_zretM hF hQ dX0_readParts_105 (Or.inl rfl) e
set_option maxHeartbeats 1000000 in
theorem gX0_readParts_14 {Z : hn_Z} {B : hn_B} {F : Nat} {t : Nat} {R : Int32 × hn_M} (hF : hn_F Z B (0, 0) cX0_readParts 7 RX0 (some .boolean) 2) (hQ : hn_goal Z B (some (.int R.1), R.2)) (hV : hn_V B hn_nA) (h_t : hn_tI t) : ∀ (n : Nat) (l2 : Int32) (l3 : Int32) (l4 : Int32) (μ : hn_M), fX0_readParts_14 F t n l2 l3 l4 μ = some R → hn_G Z B (0, 0) 7 14 [(0, .ref (hn_base B + t)), (1, .ref (hn_base B + 54)), (2, .int l2), (3, .int l3), (4, .int l4)] [] μ := by
  have o54 : hn_isO B 54 4 hn_k54 := hV 54 (by decide)
  have aS_t_6 : hn_isA B (t + 6) false 4 := hn_Ia6 hV h_t
  intro n
  induction n with
  | zero => intro l2 l3 l4 μ e; rw [fX0_readParts_14] at e; cases e
  | succ n ih =>
    intro l2 l3 l4 μ e
    rw [fX0_readParts_14] at e
    refine hn_iload hF dX0_readParts_14 (q := 16) rfl 4 rfl ?_
    refine hn_iconst hF dX0_readParts_16 (q := 17) rfl ki_4 ?_
    refine hn_icmp_ge hF dX0_readParts_17 (t := 122) (q := 20) rfl rfl e (fun e => ?_) (fun e => ?_)
    · refine hn_iconst hF dX0_readParts_122 (q := 123) rfl ki_1 ?_
      exact hn_zretM hF hQ dX0_readParts_123 (Or.inr rfl) e
    · refine hn_aload_n hF dX0_readParts_20 (q := 21) rfl 0 rfl ?_
      refine hn_get hF fl_X0_27 (hn_Io hV h_t) rfl rfl dX0_readParts_21 (q := 24) rfl ?_
      refine hn_iload hF dX0_readParts_24 (q := 26) rfl 4 rfl ?_
      refine hn_iconst hF dX0_readParts_26 (q := 27) rfl ki_0 ?_
      refine hn_ast hF aS_t_6 dX0_readParts_27 (q := 28) rfl e (fun μ2 e => ?_)
      refine hn_gstH hF dX0_readParts_28 (q := 31) rfl ?_
      refine hn_iload_n hF dX0_readParts_31 (q := 32) rfl 2 rfl ?_
      refine hn_iconst hF dX0_readParts_32 (q := 33) rfl ki_4 ?_
      refine hn_imul hF dX0_readParts_33 (q := 34) rfl ?_
      refine hn_iload hF dX0_readParts_34 (q := 36) rfl 4 rfl ?_
      refine hn_iadd hF dX0_readParts_36 (q := 37) rfl ?_
      refine hn_aldH hF dX0_readParts_37 (q := 38) rfl e (fun v3 e => ?_)
      refine hn_istore hF dX0_readParts_38 (q := 40) rfl (by decide) (L' := [(5, .int v3), (0, .ref (hn_base B + t)), (1, .ref (hn_base B + 54)), (2, .int l2), (3, .int l3), (4, .int l4)]) rfl ?_
      refine hn_iload hF dX0_readParts_40 (q := 42) rfl 0 rfl ?_
      refine hn_iconst hF dX0_readParts_42 (q := 43) rfl ki_m1 ?_
      refine hn_icmp_ne hF dX0_readParts_43 (t := 49) (q := 46) rfl rfl e (fun e => ?_) (fun e => ?_)
      · refine hn_aload_n hF dX0_readParts_49 (q := 50) rfl 1 rfl ?_
        refine hn_aload_n hF dX0_readParts_50 (q := 51) rfl 2 rfl ?_
        refine hn_callVm (rest := []) hF ms_X0_readNumber mv_X0_readNumber lk_X0_71 (hn_Io hV h_t) rfl (by decide) [.ref (hn_base B + 54)] rfl (Nat.le_of_ble_eq_true rfl) dX0_readParts_51 (q := 54) rfl rfl e (fun v hv => cX0_readNumber_ hV h_t hv) (fun w4 e => ?_)
        refine hn_istore hF dX0_readParts_54 (q := 56) rfl (by decide) (L' := [(6, .int (w4.1)), (5, .int v3), (0, .ref (hn_base B + t)), (1, .ref (hn_base B + 54)), (2, .int l2), (3, .int l3), (4, .int l4)]) rfl ?_
        refine hn_iload hF dX0_readParts_56 (q := 58) rfl 0 rfl ?_
        refine hn_iconst hF dX0_readParts_58 (q := 59) rfl ki_m1 ?_
        refine hn_icmp_eq hF dX0_readParts_59 (t := 69) (q := 62) rfl rfl e (fun e => ?_) (fun e => ?_)
        · refine hn_iconst hF dX0_readParts_69 (q := 70) rfl ki_0 ?_
          exact hn_zretM hF hQ dX0_readParts_70 (Or.inl rfl) e
        · refine hn_iload hF dX0_readParts_62 (q := 64) rfl 0 rfl ?_
          refine hn_iload hF dX0_readParts_64 (q := 66) rfl 1 rfl ?_
          refine hn_icmp_le hF dX0_readParts_66 (t := 71) (q := 69) rfl rfl e (fun e => ?_) (fun e => ?_)
          · refine hn_aload_n hF dX0_readParts_71 (q := 72) rfl 2 rfl ?_
            refine hn_get hF fl_X0_27 (hn_Io hV h_t) rfl rfl dX0_readParts_72 (q := 75) rfl ?_
            refine hn_iload hF dX0_readParts_75 (q := 77) rfl 6 rfl ?_
            refine hn_iload hF dX0_readParts_77 (q := 79) rfl 0 rfl ?_
            refine hn_ast hF aS_t_6 dX0_readParts_79 (q := 80) rfl e (fun μ5 e => ?_)
            refine hn_aload_n hF dX0_readParts_80 (q := 81) rfl 3 rfl ?_
            refine hn_aload_n hF dX0_readParts_81 (q := 82) rfl 2 rfl ?_
            refine hn_get hF fl_X0_34 (hn_Io hV h_t) rfl rfl dX0_readParts_82 (q := 85) rfl ?_
            refine hn_callVi (rest := []) hF ms_X4_byteAt mv_X4_byteAt lk_X0_46 o54 rfl (by decide) [.int (μ5 t 7)] rfl (Nat.le_of_ble_eq_true rfl) dX0_readParts_85 (q := 88) rfl rfl e (fun v hv => cX4_byteAt_ hV hv) (fun v6 e => ?_)
            refine hn_iload hF dX0_readParts_88 (q := 90) rfl 6 rfl ?_
            refine hn_iload_n hF dX0_readParts_90 (q := 91) rfl 5 rfl ?_
            refine hn_icmp_ne hF dX0_readParts_91 (t := 99) (q := 94) rfl rfl e (fun e => ?_) (fun e => ?_)
            · refine hn_bipush hF dX0_readParts_99 (q := 101) rfl kb_44 ?_
              refine hn_sub [2, 3, 4, 5, 6] (L' := [(0, .ref (hn_base B + t)), (1, .ref (hn_base B + 54)), (2, .int l2), (3, .int l3), (4, .int l4)]) rfl ?_
              exact gX0_readParts_101 hF hQ hV h_t ih e
            · refine hn_bipush hF dX0_readParts_94 (q := 96) rfl kb_59 ?_
              refine hn_goto hF dX0_readParts_96 (q := 101) rfl ?_
              refine hn_sub [2, 3, 4, 5, 6] (L' := [(0, .ref (hn_base B + t)), (1, .ref (hn_base B + 54)), (2, .int l2), (3, .int l3), (4, .int l4)]) rfl ?_
              exact gX0_readParts_101 hF hQ hV h_t ih e
          · refine hn_iconst hF dX0_readParts_69 (q := 70) rfl ki_0 ?_
            exact hn_zretM hF hQ dX0_readParts_70 (Or.inl rfl) e
      · refine hn_goto hF dX0_readParts_46 (q := 116) rfl ?_
        refine hn_sub [1, 2, 3, 4, 5] (L' := [(0, .ref (hn_base B + t)), (1, .ref (hn_base B + 54)), (2, .int l2), (3, .int l3), (4, .int l4)]) rfl ?_
        exact gX0_readParts_116 hF hQ hV h_t ih e
set_option maxHeartbeats 1000000 in
theorem gX0_readParts_10 {Z : hn_Z} {B : hn_B} {F : Nat} {t : Nat} {R : Int32 × hn_M} (hF : hn_F Z B (0, 0) cX0_readParts 7 RX0 (some .boolean) 2) (hQ : hn_goal Z B (some (.int R.1), R.2)) (hV : hn_V B hn_nA) (h_t : hn_tI t) {l2 : Int32} {s0 : Int32} {μ : hn_M} (e : fX0_readParts_10 F t l2 s0 μ = some R) : hn_G Z B (0, 0) 7 10 [(0, .ref (hn_base B + t)), (1, .ref (hn_base B + 54)), (2, .int l2)] [.int s0] μ := by
  unfold fX0_readParts_10 at e
  refine hn_istore_n hF dX0_readParts_10 (q := 11) rfl (i := 3) rfl (by decide) (L' := [(3, .int s0), (0, .ref (hn_base B + t)), (1, .ref (hn_base B + 54)), (2, .int l2)]) rfl ?_
  refine hn_iconst hF dX0_readParts_11 (q := 12) rfl ki_0 ?_
  refine hn_istore hF dX0_readParts_12 (q := 14) rfl (by decide) (L' := [(4, .int 0), (3, .int s0), (0, .ref (hn_base B + t)), (1, .ref (hn_base B + 54)), (2, .int l2)]) rfl ?_
  refine hn_sub [2, 3, 4, 1, 0] (L' := [(0, .ref (hn_base B + t)), (1, .ref (hn_base B + 54)), (2, .int l2), (3, .int s0), (4, .int 0)]) rfl ?_
  exact gX0_readParts_14 hF hQ hV h_t F l2 s0 0 μ e
set_option maxHeartbeats 1000000 in
theorem gX0_readParts {Z : hn_Z} {B : hn_B} {F : Nat} {t : Nat} {R : Int32 × hn_M} (hF : hn_F Z B (0, 0) cX0_readParts 7 RX0 (some .boolean) 2) (hQ : hn_goal Z B (some (.int R.1), R.2)) (hV : hn_V B hn_nA) (h_t : hn_tI t) {l2 : Int32} {μ : hn_M} (e : fX0_readParts F t l2 μ = some R) : hn_G Z B (0, 0) 7 0 [(0, .ref (hn_base B + t)), (1, .ref (hn_base B + 54)), (2, .int l2)] [] μ := by
  unfold fX0_readParts at e
  refine hn_iload_n hF dX0_readParts_0 (q := 1) rfl 2 rfl ?_
  refine hn_iconst hF dX0_readParts_1 (q := 2) rfl ki_5 ?_
  refine hn_icmp_ne hF dX0_readParts_2 (t := 9) (q := 5) rfl rfl e (fun e => ?_) (fun e => ?_)
  · refine hn_iconst hF dX0_readParts_9 (q := 10) rfl ki_2 ?_
    exact gX0_readParts_10 hF hQ hV h_t e
  · refine hn_iconst hF dX0_readParts_5 (q := 6) rfl ki_3 ?_
    refine hn_goto hF dX0_readParts_6 (q := 10) rfl ?_
    exact gX0_readParts_10 hF hQ hV h_t e
theorem cX0_readParts_ {B : hn_B} {F : Nat} {t : Nat} {μ : hn_M} {R : Int32 × hn_M} {l2 : Int32} (hV : hn_V B hn_nA) (h_t : hn_tI t) (e : fX0_readParts F t l2 μ = some R) : hn_C yX0_readParts cX0_readParts 7 (some .boolean) 2 B [.ref (hn_base B + t), .ref (hn_base B + 54), .int l2] μ (some (.int R.1), R.2) :=
  hn_C.of RX0 (by decide) rfl (Nat.le_of_ble_eq_true rfl) (fun _ hF hQ => gX0_readParts hF hQ hV h_t e)
/-! HandNews$Items.readItem(LHandNews$Text;)Z -/
def fX0_readItem_77 (F : Nat) (t : Nat) (l2 : Int32) (μ : hn_M) : Option (Int32 × hn_M) := hn_wr μ (t + 1) 40 (μ t 6) l2 fun μ1 => hn_rd μ1 (t + 6) 4 0 fun v2 => hn_wr μ1 (t + 2) 40 (μ1 t 6) v2 fun μ3 => hn_rd μ3 (t + 6) 4 1 fun v4 => hn_wr μ3 (t + 3) 40 (μ3 t 6) v4 fun μ5 => hn_rd μ5 (t + 6) 4 2 fun v6 => hn_wr μ5 (t + 4) 40 (μ5 t 6) v6 fun μ7 => hn_rd μ7 (t + 6) 4 3 fun v8 => hn_wr μ7 (t + 5) 40 (μ7 t 6) v8 fun μ9 => some (1, μ9)
def fX0_readItem_55 (F : Nat) (t : Nat) (l2 : Int32) (μ : hn_M) : Option (Int32 × hn_M) := if l2 = 5 then hn_rd μ (t + 6) 4 2 fun v10 => hn_rd μ (t + 6) 4 3 fun v11 => if v10 ≤ v11 then fX0_readItem_77 F t l2 μ else some (0, μ) else fX0_readItem_77 F t l2 μ
def fX0_readItem (F : Nat) (t : Nat) (μ : hn_M) : Option (Int32 × hn_M) := (fX4_byteAt μ (μ t 7)).bind fun v12 => (fX0_kindOf F v12).bind fun v13 => if v13 = (-1) then some (0, μ) else hn_pf μ t 7 ((μ t 7) + 1) fun μ14 => (fX0_readParts F t v13 μ14).bind fun w15 => if w15.1 = 0 then some (0, w15.2) else if v13 = 3 then hn_rd w15.2 (t + 6) 4 1 fun v16 => if v16 < 1 then some (0, w15.2) else fX0_readItem_55 F t v13 w15.2 else fX0_readItem_55 F t v13 w15.2
set_option maxHeartbeats 1000000 in
theorem gX0_readItem_77 {Z : hn_Z} {B : hn_B} {F : Nat} {t : Nat} {R : Int32 × hn_M} (hF : hn_F Z B (0, 0) cX0_readItem 3 RX0 (some .boolean) 6) (hQ : hn_goal Z B (some (.int R.1), R.2)) (hV : hn_V B hn_nA) (h_t : hn_tI t) {l2 : Int32} {μ : hn_M} (e : fX0_readItem_77 F t l2 μ = some R) : hn_G Z B (0, 0) 3 77 [(0, .ref (hn_base B + t)), (2, .int l2)] [] μ := by
  unfold fX0_readItem_77 at e
  have aS_t_1 : hn_isA B (t + 1) false 40 := hn_Ia1 hV h_t
  have aS_t_2 : hn_isA B (t + 2) false 40 := hn_Ia2 hV h_t
  have aS_t_3 : hn_isA B (t + 3) false 40 := hn_Ia3 hV h_t
  have aS_t_4 : hn_isA B (t + 4) false 40 := hn_Ia4 hV h_t
  have aS_t_5 : hn_isA B (t + 5) false 40 := hn_Ia5 hV h_t
  have aS_t_6 : hn_isA B (t + 6) false 4 := hn_Ia6 hV h_t
  refine hn_aload_n hF dX0_readItem_77 (q := 78) rfl 0 rfl ?_
  refine hn_get hF fl_X0_11 (hn_Io hV h_t) rfl rfl dX0_readItem_78 (q := 81) rfl ?_
  refine hn_aload_n hF dX0_readItem_81 (q := 82) rfl 0 rfl ?_
  refine hn_get hF fl_X0_30 (hn_Io hV h_t) rfl rfl dX0_readItem_82 (q := 85) rfl ?_
  refine hn_iload_n hF dX0_readItem_85 (q := 86) rfl 1 rfl ?_
  refine hn_ast hF aS_t_1 dX0_readItem_86 (q := 87) rfl e (fun μ1 e => ?_)
  refine hn_aload_n hF dX0_readItem_87 (q := 88) rfl 0 rfl ?_
  refine hn_get hF fl_X0_15 (hn_Io hV h_t) rfl rfl dX0_readItem_88 (q := 91) rfl ?_
  refine hn_aload_n hF dX0_readItem_91 (q := 92) rfl 0 rfl ?_
  refine hn_get hF fl_X0_30 (hn_Io hV h_t) rfl rfl dX0_readItem_92 (q := 95) rfl ?_
  refine hn_aload_n hF dX0_readItem_95 (q := 96) rfl 0 rfl ?_
  refine hn_get hF fl_X0_27 (hn_Io hV h_t) rfl rfl dX0_readItem_96 (q := 99) rfl ?_
  refine hn_iconst hF dX0_readItem_99 (q := 100) rfl ki_0 ?_
  refine hn_ald hF aS_t_6 dX0_readItem_100 (q := 101) rfl e (fun v2 e => ?_)
  refine hn_ast hF aS_t_2 dX0_readItem_101 (q := 102) rfl e (fun μ3 e => ?_)
  refine hn_aload_n hF dX0_readItem_102 (q := 103) rfl 0 rfl ?_
  refine hn_get hF fl_X0_18 (hn_Io hV h_t) rfl rfl dX0_readItem_103 (q := 106) rfl ?_
  refine hn_aload_n hF dX0_readItem_106 (q := 107) rfl 0 rfl ?_
  refine hn_get hF fl_X0_30 (hn_Io hV h_t) rfl rfl dX0_readItem_107 (q := 110) rfl ?_
  refine hn_aload_n hF dX0_readItem_110 (q := 111) rfl 0 rfl ?_
  refine hn_get hF fl_X0_27 (hn_Io hV h_t) rfl rfl dX0_readItem_111 (q := 114) rfl ?_
  refine hn_iconst hF dX0_readItem_114 (q := 115) rfl ki_1 ?_
  refine hn_ald hF aS_t_6 dX0_readItem_115 (q := 116) rfl e (fun v4 e => ?_)
  refine hn_ast hF aS_t_3 dX0_readItem_116 (q := 117) rfl e (fun μ5 e => ?_)
  refine hn_aload_n hF dX0_readItem_117 (q := 118) rfl 0 rfl ?_
  refine hn_get hF fl_X0_21 (hn_Io hV h_t) rfl rfl dX0_readItem_118 (q := 121) rfl ?_
  refine hn_aload_n hF dX0_readItem_121 (q := 122) rfl 0 rfl ?_
  refine hn_get hF fl_X0_30 (hn_Io hV h_t) rfl rfl dX0_readItem_122 (q := 125) rfl ?_
  refine hn_aload_n hF dX0_readItem_125 (q := 126) rfl 0 rfl ?_
  refine hn_get hF fl_X0_27 (hn_Io hV h_t) rfl rfl dX0_readItem_126 (q := 129) rfl ?_
  refine hn_iconst hF dX0_readItem_129 (q := 130) rfl ki_2 ?_
  refine hn_ald hF aS_t_6 dX0_readItem_130 (q := 131) rfl e (fun v6 e => ?_)
  refine hn_ast hF aS_t_4 dX0_readItem_131 (q := 132) rfl e (fun μ7 e => ?_)
  refine hn_aload_n hF dX0_readItem_132 (q := 133) rfl 0 rfl ?_
  refine hn_get hF fl_X0_24 (hn_Io hV h_t) rfl rfl dX0_readItem_133 (q := 136) rfl ?_
  refine hn_aload_n hF dX0_readItem_136 (q := 137) rfl 0 rfl ?_
  refine hn_get hF fl_X0_30 (hn_Io hV h_t) rfl rfl dX0_readItem_137 (q := 140) rfl ?_
  refine hn_aload_n hF dX0_readItem_140 (q := 141) rfl 0 rfl ?_
  refine hn_get hF fl_X0_27 (hn_Io hV h_t) rfl rfl dX0_readItem_141 (q := 144) rfl ?_
  refine hn_iconst hF dX0_readItem_144 (q := 145) rfl ki_3 ?_
  refine hn_ald hF aS_t_6 dX0_readItem_145 (q := 146) rfl e (fun v8 e => ?_)
  refine hn_ast hF aS_t_5 dX0_readItem_146 (q := 147) rfl e (fun μ9 e => ?_)
  refine hn_iconst hF dX0_readItem_147 (q := 148) rfl ki_1 ?_
  exact hn_zretM hF hQ dX0_readItem_148 (Or.inr rfl) e
set_option maxHeartbeats 1000000 in
theorem gX0_readItem_55 {Z : hn_Z} {B : hn_B} {F : Nat} {t : Nat} {R : Int32 × hn_M} (hF : hn_F Z B (0, 0) cX0_readItem 3 RX0 (some .boolean) 6) (hQ : hn_goal Z B (some (.int R.1), R.2)) (hV : hn_V B hn_nA) (h_t : hn_tI t) {l2 : Int32} {μ : hn_M} (e : fX0_readItem_55 F t l2 μ = some R) : hn_G Z B (0, 0) 3 55 [(0, .ref (hn_base B + t)), (2, .int l2)] [] μ := by
  unfold fX0_readItem_55 at e
  have aS_t_6 : hn_isA B (t + 6) false 4 := hn_Ia6 hV h_t
  refine hn_iload_n hF dX0_readItem_55 (q := 56) rfl 1 rfl ?_
  refine hn_iconst hF dX0_readItem_56 (q := 57) rfl ki_5 ?_
  refine hn_icmp_ne hF dX0_readItem_57 (t := 77) (q := 60) rfl rfl e (fun e => ?_) (fun e => ?_)
  · exact gX0_readItem_77 hF hQ hV h_t e
  · refine hn_aload_n hF dX0_readItem_60 (q := 61) rfl 0 rfl ?_
    refine hn_get hF fl_X0_27 (hn_Io hV h_t) rfl rfl dX0_readItem_61 (q := 64) rfl ?_
    refine hn_iconst hF dX0_readItem_64 (q := 65) rfl ki_2 ?_
    refine hn_ald hF aS_t_6 dX0_readItem_65 (q := 66) rfl e (fun v10 e => ?_)
    refine hn_aload_n hF dX0_readItem_66 (q := 67) rfl 0 rfl ?_
    refine hn_get hF fl_X0_27 (hn_Io hV h_t) rfl rfl dX0_readItem_67 (q := 70) rfl ?_
    refine hn_iconst hF dX0_readItem_70 (q := 71) rfl ki_3 ?_
    refine hn_ald hF aS_t_6 dX0_readItem_71 (q := 72) rfl e (fun v11 e => ?_)
    refine hn_icmp_le hF dX0_readItem_72 (t := 77) (q := 75) rfl rfl e (fun e => ?_) (fun e => ?_)
    · exact gX0_readItem_77 hF hQ hV h_t e
    · refine hn_iconst hF dX0_readItem_75 (q := 76) rfl ki_0 ?_
      exact hn_zretM hF hQ dX0_readItem_76 (Or.inl rfl) e
set_option maxHeartbeats 1000000 in
theorem gX0_readItem {Z : hn_Z} {B : hn_B} {F : Nat} {t : Nat} {R : Int32 × hn_M} (hF : hn_F Z B (0, 0) cX0_readItem 3 RX0 (some .boolean) 6) (hQ : hn_goal Z B (some (.int R.1), R.2)) (hV : hn_V B hn_nA) (h_t : hn_tI t) {μ : hn_M} (e : fX0_readItem F t μ = some R) : hn_G Z B (0, 0) 3 0 [(0, .ref (hn_base B + t)), (1, .ref (hn_base B + 54))] [] μ := by
  unfold fX0_readItem at e
  have o54 : hn_isO B 54 4 hn_k54 := hV 54 (by decide)
  have aS_t_6 : hn_isA B (t + 6) false 4 := hn_Ia6 hV h_t
  refine hn_aload_n hF dX0_readItem_0 (q := 1) rfl 1 rfl ?_
  refine hn_aload_n hF dX0_readItem_1 (q := 2) rfl 0 rfl ?_
  refine hn_get hF fl_X0_34 (hn_Io hV h_t) rfl rfl dX0_readItem_2 (q := 5) rfl ?_
  refine hn_callVi (rest := []) hF ms_X4_byteAt mv_X4_byteAt lk_X0_46 o54 rfl (by decide) [.int (μ t 7)] rfl (Nat.le_of_ble_eq_true rfl) dX0_readItem_5 (q := 8) rfl rfl e (fun v hv => cX4_byteAt_ hV hv) (fun v12 e => ?_)
  refine hn_callSi (rest := []) hF ms_X0_kindOf mt_X0_kindOf lk_X0_50 (by decide) [.int v12] rfl (Nat.le_of_ble_eq_true rfl) dX0_readItem_8 (q := 11) rfl rfl e (fun v hv => cX0_kindOf_ hV hv) (fun v13 e => ?_)
  refine hn_istore_n hF dX0_readItem_11 (q := 12) rfl (i := 2) rfl (by decide) (L' := [(2, .int v13), (0, .ref (hn_base B + t)), (1, .ref (hn_base B + 54))]) rfl ?_
  refine hn_iload_n hF dX0_readItem_12 (q := 13) rfl 0 rfl ?_
  refine hn_iconst hF dX0_readItem_13 (q := 14) rfl ki_m1 ?_
  refine hn_icmp_ne hF dX0_readItem_14 (t := 19) (q := 17) rfl rfl e (fun e => ?_) (fun e => ?_)
  · refine hn_aload_n hF dX0_readItem_19 (q := 20) rfl 1 rfl ?_
    refine hn_dup hF dX0_readItem_20 (q := 21) rfl rfl ?_
    refine hn_get hF fl_X0_34 (hn_Io hV h_t) rfl rfl dX0_readItem_21 (q := 24) rfl ?_
    refine hn_iconst hF dX0_readItem_24 (q := 25) rfl ki_1 ?_
    refine hn_iadd hF dX0_readItem_25 (q := 26) rfl ?_
    refine hn_put hF fl_X0_34 fp_X0_7 (hn_Io hV h_t) rfl rfl rfl rfl dX0_readItem_26 (q := 29) rfl e (fun μ14 e => ?_)
    refine hn_aload_n hF dX0_readItem_29 (q := 30) rfl 1 rfl ?_
    refine hn_aload_n hF dX0_readItem_30 (q := 31) rfl 2 rfl ?_
    refine hn_iload_n hF dX0_readItem_31 (q := 32) rfl 0 rfl ?_
    refine hn_callVm (rest := []) hF ms_X0_readParts mv_X0_readParts lk_X0_53 (hn_Io hV h_t) rfl (by decide) [.ref (hn_base B + 54), .int v13] rfl (Nat.le_of_ble_eq_true rfl) dX0_readItem_32 (q := 35) rfl rfl e (fun v hv => cX0_readParts_ hV h_t hv) (fun w15 e => ?_)
    refine hn_if_ne hF dX0_readItem_35 (t := 40) (q := 38) rfl rfl e (fun e => ?_) (fun e => ?_)
    · refine hn_iload_n hF dX0_readItem_40 (q := 41) rfl 0 rfl ?_
      refine hn_iconst hF dX0_readItem_41 (q := 42) rfl ki_3 ?_
      refine hn_icmp_ne hF dX0_readItem_42 (t := 55) (q := 45) rfl rfl e (fun e => ?_) (fun e => ?_)
      · refine hn_sub [1, 0] (L' := [(0, .ref (hn_base B + t)), (2, .int v13)]) rfl ?_
        exact gX0_readItem_55 hF hQ hV h_t e
      · refine hn_aload_n hF dX0_readItem_45 (q := 46) rfl 1 rfl ?_
        refine hn_get hF fl_X0_27 (hn_Io hV h_t) rfl rfl dX0_readItem_46 (q := 49) rfl ?_
        refine hn_iconst hF dX0_readItem_49 (q := 50) rfl ki_1 ?_
        refine hn_ald hF aS_t_6 dX0_readItem_50 (q := 51) rfl e (fun v16 e => ?_)
        refine hn_iconst hF dX0_readItem_51 (q := 52) rfl ki_1 ?_
        refine hn_icmp_lt hF dX0_readItem_52 (t := 75) (q := 55) rfl rfl e (fun e => ?_) (fun e => ?_)
        · refine hn_iconst hF dX0_readItem_75 (q := 76) rfl ki_0 ?_
          exact hn_zretM hF hQ dX0_readItem_76 (Or.inl rfl) e
        · refine hn_sub [1, 0] (L' := [(0, .ref (hn_base B + t)), (2, .int v13)]) rfl ?_
          exact gX0_readItem_55 hF hQ hV h_t e
    · refine hn_iconst hF dX0_readItem_38 (q := 39) rfl ki_0 ?_
      exact hn_zretM hF hQ dX0_readItem_39 (Or.inl rfl) e
  · refine hn_iconst hF dX0_readItem_17 (q := 18) rfl ki_0 ?_
    exact hn_zretM hF hQ dX0_readItem_18 (Or.inl rfl) e
theorem cX0_readItem_ {B : hn_B} {F : Nat} {t : Nat} {μ : hn_M} {R : Int32 × hn_M} (hV : hn_V B hn_nA) (h_t : hn_tI t) (e : fX0_readItem F t μ = some R) : hn_C yX0_readItem cX0_readItem 3 (some .boolean) 6 B [.ref (hn_base B + t), .ref (hn_base B + 54)] μ (some (.int R.1), R.2) :=
  hn_C.of RX0 (by decide) rfl (Nat.le_of_ble_eq_true rfl) (fun _ hF hQ => gX0_readItem hF hQ hV h_t e)
/-! HandNews$Items.read(LHandNews$Text;)I -/
def fX0_read_58 (F : Nat) (t : Nat) (μ : hn_M) : Option (Int32 × hn_M) := if μ 54 1 ≤ μ t 7 then some ((-4), μ) else some (μ t 7, μ)
def fX0_read_10 (F : Nat) (t : Nat) : Nat → hn_M → Option (Int32 × hn_M)
  | 0, _ => none
  | n + 1, μ => if μ 54 1 ≤ μ t 7 then fX0_read_58 F t μ else if 40 ≤ μ t 6 then fX0_read_58 F t μ else (fX0_readItem F t μ).bind fun w1 => if w1.1 = 0 then some (μ t 7, w1.2) else hn_pf w1.2 t 6 ((w1.2 t 6) + 1) fun μ2 => fX0_read_10 F t n μ2
def fX0_read (F : Nat) (t : Nat) (μ : hn_M) : Option (Int32 × hn_M) := hn_pf μ t 6 0 fun μ3 => hn_pf μ3 t 7 0 fun μ4 => fX0_read_10 F t F μ4
set_option maxHeartbeats 1000000 in
theorem gX0_read_58 {Z : hn_Z} {B : hn_B} {F : Nat} {t : Nat} {R : Int32 × hn_M} (hF : hn_F Z B (0, 0) cX0_read 3 RX0 (some .int) 7) (hQ : hn_goal Z B (some (.int R.1), R.2)) (hV : hn_V B hn_nA) (h_t : hn_tI t) {μ : hn_M} (e : fX0_read_58 F t μ = some R) : hn_G Z B (0, 0) 3 58 [(0, .ref (hn_base B + t)), (1, .ref (hn_base B + 54))] [] μ := by
  unfold fX0_read_58 at e
  have o54 : hn_isO B 54 4 hn_k54 := hV 54 (by decide)
  refine hn_aload_n hF dX0_read_58 (q := 59) rfl 0 rfl ?_
  refine hn_get hF fl_X0_34 (hn_Io hV h_t) rfl rfl dX0_read_59 (q := 62) rfl ?_
  refine hn_aload_n hF dX0_read_62 (q := 63) rfl 1 rfl ?_
  refine hn_get hF fl_X0_37 o54 rfl rfl dX0_read_63 (q := 66) rfl ?_
  refine hn_icmp_ge hF dX0_read_66 (t := 76) (q := 69) rfl rfl e (fun e => ?_) (fun e => ?_)
  · refine hn_bipush hF dX0_read_76 (q := 78) rfl kb_m4 ?_
    exact hn_iretM hF hQ dX0_read_78 e
  · refine hn_aload_n hF dX0_read_69 (q := 70) rfl 0 rfl ?_
    refine hn_get hF fl_X0_34 (hn_Io hV h_t) rfl rfl dX0_read_70 (q := 73) rfl ?_
    refine hn_goto hF dX0_read_73 (q := 78) rfl ?_
    exact hn_iretM hF hQ dX0_read_78 e
set_option maxHeartbeats 1000000 in
theorem gX0_read_10 {Z : hn_Z} {B : hn_B} {F : Nat} {t : Nat} {R : Int32 × hn_M} (hF : hn_F Z B (0, 0) cX0_read 3 RX0 (some .int) 7) (hQ : hn_goal Z B (some (.int R.1), R.2)) (hV : hn_V B hn_nA) (h_t : hn_tI t) : ∀ (n : Nat) (μ : hn_M), fX0_read_10 F t n μ = some R → hn_G Z B (0, 0) 3 10 [(0, .ref (hn_base B + t)), (1, .ref (hn_base B + 54))] [] μ := by
  have o54 : hn_isO B 54 4 hn_k54 := hV 54 (by decide)
  intro n
  induction n with
  | zero => intro μ e; rw [fX0_read_10] at e; cases e
  | succ n ih =>
    intro μ e
    rw [fX0_read_10] at e
    refine hn_aload_n hF dX0_read_10 (q := 11) rfl 0 rfl ?_
    refine hn_get hF fl_X0_34 (hn_Io hV h_t) rfl rfl dX0_read_11 (q := 14) rfl ?_
    refine hn_aload_n hF dX0_read_14 (q := 15) rfl 1 rfl ?_
    refine hn_get hF fl_X0_37 o54 rfl rfl dX0_read_15 (q := 18) rfl ?_
    refine hn_icmp_ge hF dX0_read_18 (t := 58) (q := 21) rfl rfl e (fun e => ?_) (fun e => ?_)
    · exact gX0_read_58 hF hQ hV h_t e
    · refine hn_aload_n hF dX0_read_21 (q := 22) rfl 0 rfl ?_
      refine hn_get hF fl_X0_30 (hn_Io hV h_t) rfl rfl dX0_read_22 (q := 25) rfl ?_
      refine hn_bipush hF dX0_read_25 (q := 27) rfl kb_40 ?_
      refine hn_icmp_ge hF dX0_read_27 (t := 58) (q := 30) rfl rfl e (fun e => ?_) (fun e => ?_)
      · exact gX0_read_58 hF hQ hV h_t e
      · refine hn_aload_n hF dX0_read_30 (q := 31) rfl 0 rfl ?_
        refine hn_get hF fl_X0_34 (hn_Io hV h_t) rfl rfl dX0_read_31 (q := 34) rfl ?_
        refine hn_istore_n hF dX0_read_34 (q := 35) rfl (i := 2) rfl (by decide) (L' := [(2, .int (μ t 7)), (0, .ref (hn_base B + t)), (1, .ref (hn_base B + 54))]) rfl ?_
        refine hn_aload_n hF dX0_read_35 (q := 36) rfl 1 rfl ?_
        refine hn_aload_n hF dX0_read_36 (q := 37) rfl 2 rfl ?_
        refine hn_callVm (rest := []) hF ms_X0_readItem mv_X0_readItem lk_X0_42 (hn_Io hV h_t) rfl (by decide) [.ref (hn_base B + 54)] rfl (Nat.le_of_ble_eq_true rfl) dX0_read_37 (q := 40) rfl rfl e (fun v hv => cX0_readItem_ hV h_t hv) (fun w1 e => ?_)
        refine hn_if_ne hF dX0_read_40 (t := 45) (q := 43) rfl rfl e (fun e => ?_) (fun e => ?_)
        · refine hn_aload_n hF dX0_read_45 (q := 46) rfl 1 rfl ?_
          refine hn_dup hF dX0_read_46 (q := 47) rfl rfl ?_
          refine hn_get hF fl_X0_30 (hn_Io hV h_t) rfl rfl dX0_read_47 (q := 50) rfl ?_
          refine hn_iconst hF dX0_read_50 (q := 51) rfl ki_1 ?_
          refine hn_iadd hF dX0_read_51 (q := 52) rfl ?_
          refine hn_put hF fl_X0_30 fp_X0_6 (hn_Io hV h_t) rfl rfl rfl rfl dX0_read_52 (q := 55) rfl e (fun μ2 e => ?_)
          refine hn_goto hF dX0_read_55 (q := 10) rfl ?_
          refine hn_sub [1, 2] (L' := [(0, .ref (hn_base B + t)), (1, .ref (hn_base B + 54))]) rfl ?_
          exact ih μ2 e
        · refine hn_iload_n hF dX0_read_43 (q := 44) rfl 0 rfl ?_
          exact hn_iretM hF hQ dX0_read_44 e
set_option maxHeartbeats 1000000 in
theorem gX0_read {Z : hn_Z} {B : hn_B} {F : Nat} {t : Nat} {R : Int32 × hn_M} (hF : hn_F Z B (0, 0) cX0_read 3 RX0 (some .int) 7) (hQ : hn_goal Z B (some (.int R.1), R.2)) (hV : hn_V B hn_nA) (h_t : hn_tI t) {μ : hn_M} (e : fX0_read F t μ = some R) : hn_G Z B (0, 0) 3 0 [(0, .ref (hn_base B + t)), (1, .ref (hn_base B + 54))] [] μ := by
  unfold fX0_read at e
  refine hn_aload_n hF dX0_read_0 (q := 1) rfl 0 rfl ?_
  refine hn_iconst hF dX0_read_1 (q := 2) rfl ki_0 ?_
  refine hn_put hF fl_X0_30 fp_X0_6 (hn_Io hV h_t) rfl rfl rfl rfl dX0_read_2 (q := 5) rfl e (fun μ3 e => ?_)
  refine hn_aload_n hF dX0_read_5 (q := 6) rfl 0 rfl ?_
  refine hn_iconst hF dX0_read_6 (q := 7) rfl ki_0 ?_
  refine hn_put hF fl_X0_34 fp_X0_7 (hn_Io hV h_t) rfl rfl rfl rfl dX0_read_7 (q := 10) rfl e (fun μ4 e => ?_)
  exact gX0_read_10 hF hQ hV h_t F μ4 e
theorem cX0_read_ {B : hn_B} {F : Nat} {t : Nat} {μ : hn_M} {R : Int32 × hn_M} (hV : hn_V B hn_nA) (h_t : hn_tI t) (e : fX0_read F t μ = some R) : hn_C yX0_read cX0_read 3 (some .int) 7 B [.ref (hn_base B + t), .ref (hn_base B + 54)] μ (some (.int R.1), R.2) :=
  hn_C.of RX0 (by decide) rfl (Nat.le_of_ble_eq_true rfl) (fun _ hF hQ => gX0_read hF hQ hV h_t e)
/-! HandNews$Items.holding(III)I -/
def fX0_holding_62 (F : Nat) (t : Nat) (μ : hn_M) (k20 : Int32 → Int32 → Int32 → Int32 → Option Int32) (l1 : Int32) (l3 : Int32) (l4 : Int32) (l5 : Int32) : Option Int32 := k20 l1 l3 l4 (l5 + (-1))
def fX0_holding_20 (F : Nat) (t : Nat) (μ : hn_M) : Nat → Int32 → Int32 → Int32 → Int32 → Option Int32
  | 0, _, _, _, _ => none
  | n + 1, l1, l3, l4, l5 => if l5 < 0 then some (-4) else hn_rd μ (t + 1) 40 l5 fun v1 => if v1 = l1 then hn_rd μ (t + 2) 40 l5 fun v2 => if v2 = l4 then hn_rd μ (t + 4) 40 l5 fun v3 => if l3 < v3 then fX0_holding_62 F t μ (fX0_holding_20 F t μ n) l1 l3 l4 l5 else some l5 else fX0_holding_62 F t μ (fX0_holding_20 F t μ n) l1 l3 l4 l5 else fX0_holding_62 F t μ (fX0_holding_20 F t μ n) l1 l3 l4 l5
def fX0_holding_10 (F : Nat) (t : Nat) (μ : hn_M) (l1 : Int32) (l3 : Int32) (s0 : Int32) : Option Int32 := fX0_holding_20 F t μ F l1 l3 s0 ((μ t 6) - 1)
def fX0_holding (F : Nat) (t : Nat) (μ : hn_M) (l1 : Int32) (l2 : Int32) (l3 : Int32) : Option Int32 := if l1 ≤ 1 then fX0_holding_10 F t μ l1 l3 l2 else fX0_holding_10 F t μ l1 l3 0
set_option maxHeartbeats 1000000 in
theorem gX0_holding_62 {Z : hn_Z} {B : hn_B} {F : Nat} {t : Nat} {μ : hn_M} {R : Int32} (hF : hn_F Z B (0, 0) cX0_holding 6 RX0 (some .int) 0) (hQ : hn_goal Z B (some (.int R), μ)) (hV : hn_V B hn_nA) (h_t : hn_tI t) {k20 : Int32 → Int32 → Int32 → Int32 → Option Int32} (H20 : ∀ (l1 : Int32) (l3 : Int32) (l4 : Int32) (l5 : Int32), k20 l1 l3 l4 l5 = some R → hn_G Z B (0, 0) 6 20 [(0, .ref (hn_base B + t)), (1, .int l1), (3, .int l3), (4, .int l4), (5, .int l5)] [] μ) {l1 : Int32} {l3 : Int32} {l4 : Int32} {l5 : Int32} (e : fX0_holding_62 F t μ k20 l1 l3 l4 l5 = some R) : hn_G Z B (0, 0) 6 62 [(0, .ref (hn_base B + t)), (1, .int l1), (3, .int l3), (4, .int l4), (5, .int l5)] [] μ := by
  unfold fX0_holding_62 at e
  refine hn_iinc (p := 4) hF dX0_holding_62 (q := 65) rfl rfl (kn_m1 _) (by decide) (L' := [(5, .int (l5 + (-1))), (0, .ref (hn_base B + t)), (1, .int l1), (3, .int l3), (4, .int l4)]) rfl ?_
  refine hn_goto hF dX0_holding_65 (q := 20) rfl ?_
  refine hn_sub [1, 2, 3, 4, 0] (L' := [(0, .ref (hn_base B + t)), (1, .int l1), (3, .int l3), (4, .int l4), (5, .int (l5 + (-1)))]) rfl ?_
  exact H20 l1 l3 l4 (l5 + (-1)) e
set_option maxHeartbeats 1000000 in
theorem gX0_holding_20 {Z : hn_Z} {B : hn_B} {F : Nat} {t : Nat} {μ : hn_M} {R : Int32} (hF : hn_F Z B (0, 0) cX0_holding 6 RX0 (some .int) 0) (hQ : hn_goal Z B (some (.int R), μ)) (hV : hn_V B hn_nA) (h_t : hn_tI t) : ∀ (n : Nat) (l1 : Int32) (l3 : Int32) (l4 : Int32) (l5 : Int32), fX0_holding_20 F t μ n l1 l3 l4 l5 = some R → hn_G Z B (0, 0) 6 20 [(0, .ref (hn_base B + t)), (1, .int l1), (3, .int l3), (4, .int l4), (5, .int l5)] [] μ := by
  have aS_t_1 : hn_isA B (t + 1) false 40 := hn_Ia1 hV h_t
  have aS_t_2 : hn_isA B (t + 2) false 40 := hn_Ia2 hV h_t
  have aS_t_4 : hn_isA B (t + 4) false 40 := hn_Ia4 hV h_t
  intro n
  induction n with
  | zero => intro l1 l3 l4 l5 e; rw [fX0_holding_20] at e; cases e
  | succ n ih =>
    intro l1 l3 l4 l5 e
    rw [fX0_holding_20] at e
    refine hn_iload hF dX0_holding_20 (q := 22) rfl 4 rfl ?_
    refine hn_if_lt hF dX0_holding_22 (t := 68) (q := 25) rfl rfl e (fun e => ?_) (fun e => ?_)
    · refine hn_bipush hF dX0_holding_68 (q := 70) rfl kb_m4 ?_
      exact hn_iretP hF hQ dX0_holding_70 e
    · refine hn_aload_n hF dX0_holding_25 (q := 26) rfl 0 rfl ?_
      refine hn_get hF fl_X0_11 (hn_Io hV h_t) rfl rfl dX0_holding_26 (q := 29) rfl ?_
      refine hn_iload hF dX0_holding_29 (q := 31) rfl 4 rfl ?_
      refine hn_ald hF aS_t_1 dX0_holding_31 (q := 32) rfl e (fun v1 e => ?_)
      refine hn_iload_n hF dX0_holding_32 (q := 33) rfl 1 rfl ?_
      refine hn_icmp_ne hF dX0_holding_33 (t := 62) (q := 36) rfl rfl e (fun e => ?_) (fun e => ?_)
      · exact gX0_holding_62 hF hQ hV h_t ih e
      · refine hn_aload_n hF dX0_holding_36 (q := 37) rfl 0 rfl ?_
        refine hn_get hF fl_X0_15 (hn_Io hV h_t) rfl rfl dX0_holding_37 (q := 40) rfl ?_
        refine hn_iload hF dX0_holding_40 (q := 42) rfl 4 rfl ?_
        refine hn_ald hF aS_t_2 dX0_holding_42 (q := 43) rfl e (fun v2 e => ?_)
        refine hn_iload hF dX0_holding_43 (q := 45) rfl 3 rfl ?_
        refine hn_icmp_ne hF dX0_holding_45 (t := 62) (q := 48) rfl rfl e (fun e => ?_) (fun e => ?_)
        · exact gX0_holding_62 hF hQ hV h_t ih e
        · refine hn_aload_n hF dX0_holding_48 (q := 49) rfl 0 rfl ?_
          refine hn_get hF fl_X0_21 (hn_Io hV h_t) rfl rfl dX0_holding_49 (q := 52) rfl ?_
          refine hn_iload hF dX0_holding_52 (q := 54) rfl 4 rfl ?_
          refine hn_ald hF aS_t_4 dX0_holding_54 (q := 55) rfl e (fun v3 e => ?_)
          refine hn_iload_n hF dX0_holding_55 (q := 56) rfl 2 rfl ?_
          refine hn_icmp_gt hF dX0_holding_56 (t := 62) (q := 59) rfl rfl e (fun e => ?_) (fun e => ?_)
          · exact gX0_holding_62 hF hQ hV h_t ih e
          · refine hn_iload hF dX0_holding_59 (q := 61) rfl 4 rfl ?_
            exact hn_iretP hF hQ dX0_holding_61 e
set_option maxHeartbeats 1000000 in
theorem gX0_holding_10 {Z : hn_Z} {B : hn_B} {F : Nat} {t : Nat} {μ : hn_M} {R : Int32} (hF : hn_F Z B (0, 0) cX0_holding 6 RX0 (some .int) 0) (hQ : hn_goal Z B (some (.int R), μ)) (hV : hn_V B hn_nA) (h_t : hn_tI t) {l1 : Int32} {l3 : Int32} {s0 : Int32} (e : fX0_holding_10 F t μ l1 l3 s0 = some R) : hn_G Z B (0, 0) 6 10 [(0, .ref (hn_base B + t)), (1, .int l1), (3, .int l3)] [.int s0] μ := by
  unfold fX0_holding_10 at e
  refine hn_istore hF dX0_holding_10 (q := 12) rfl (by decide) (L' := [(4, .int s0), (0, .ref (hn_base B + t)), (1, .int l1), (3, .int l3)]) rfl ?_
  refine hn_aload_n hF dX0_holding_12 (q := 13) rfl 1 rfl ?_
  refine hn_get hF fl_X0_30 (hn_Io hV h_t) rfl rfl dX0_holding_13 (q := 16) rfl ?_
  refine hn_iconst hF dX0_holding_16 (q := 17) rfl ki_1 ?_
  refine hn_isub hF dX0_holding_17 (q := 18) rfl ?_
  refine hn_istore hF dX0_holding_18 (q := 20) rfl (by decide) (L' := [(5, .int ((μ t 6) - 1)), (4, .int s0), (0, .ref (hn_base B + t)), (1, .int l1), (3, .int l3)]) rfl ?_
  refine hn_sub [2, 3, 4, 1, 0] (L' := [(0, .ref (hn_base B + t)), (1, .int l1), (3, .int l3), (4, .int s0), (5, .int ((μ t 6) - 1))]) rfl ?_
  exact gX0_holding_20 hF hQ hV h_t F l1 l3 s0 ((μ t 6) - 1) e
set_option maxHeartbeats 1000000 in
theorem gX0_holding {Z : hn_Z} {B : hn_B} {F : Nat} {t : Nat} {μ : hn_M} {R : Int32} (hF : hn_F Z B (0, 0) cX0_holding 6 RX0 (some .int) 0) (hQ : hn_goal Z B (some (.int R), μ)) (hV : hn_V B hn_nA) (h_t : hn_tI t) {l1 : Int32} {l2 : Int32} {l3 : Int32} (e : fX0_holding F t μ l1 l2 l3 = some R) : hn_G Z B (0, 0) 6 0 [(0, .ref (hn_base B + t)), (1, .int l1), (2, .int l2), (3, .int l3)] [] μ := by
  unfold fX0_holding at e
  refine hn_iload_n hF dX0_holding_0 (q := 1) rfl 1 rfl ?_
  refine hn_iconst hF dX0_holding_1 (q := 2) rfl ki_1 ?_
  refine hn_icmp_le hF dX0_holding_2 (t := 9) (q := 5) rfl rfl e (fun e => ?_) (fun e => ?_)
  · refine hn_iload_n hF dX0_holding_9 (q := 10) rfl 2 rfl ?_
    refine hn_sub [0, 1, 3] (L' := [(0, .ref (hn_base B + t)), (1, .int l1), (3, .int l3)]) rfl ?_
    exact gX0_holding_10 hF hQ hV h_t e
  · refine hn_iconst hF dX0_holding_5 (q := 6) rfl ki_0 ?_
    refine hn_goto hF dX0_holding_6 (q := 10) rfl ?_
    refine hn_sub [0, 1, 3] (L' := [(0, .ref (hn_base B + t)), (1, .int l1), (3, .int l3)]) rfl ?_
    exact gX0_holding_10 hF hQ hV h_t e
theorem cX0_holding_ {B : hn_B} {F : Nat} {t : Nat} {μ : hn_M} {R : Int32} {l1 : Int32} {l2 : Int32} {l3 : Int32} (hV : hn_V B hn_nA) (h_t : hn_tI t) (e : fX0_holding F t μ l1 l2 l3 = some R) : hn_C yX0_holding cX0_holding 6 (some .int) 0 B [.ref (hn_base B + t), .int l1, .int l2, .int l3] μ (some (.int R), μ) :=
  hn_C.of RX0 (by decide) rfl (Nat.le_of_ble_eq_true rfl) (fun _ hF hQ => gX0_holding hF hQ hV h_t e)
/-! HandNews$Items.amountOn(III)I -/
def fX0_amountOn (F : Nat) (t : Nat) (μ : hn_M) (l1 : Int32) (l2 : Int32) (l3 : Int32) : Option Int32 := (fX0_holding F t μ l1 l2 l3).bind fun v1 => if v1 = (-4) then hn_rs hn_out 5 l1 fun v3 => some v3 else hn_rd μ (t + 3) 40 v1 fun v2 => some v2
set_option maxHeartbeats 1000000 in
theorem gX0_amountOn {Z : hn_Z} {B : hn_B} {F : Nat} {t : Nat} {μ : hn_M} {R : Int32} (hF : hn_F Z B (0, 0) cX0_amountOn 5 RX0 (some .int) 1) (hQ : hn_goal Z B (some (.int R), μ)) (hV : hn_V B hn_nA) (h_t : hn_tI t) {l1 : Int32} {l2 : Int32} {l3 : Int32} (e : fX0_amountOn F t μ l1 l2 l3 = some R) : hn_G Z B (0, 0) 5 0 [(0, .ref (hn_base B + t)), (1, .int l1), (2, .int l2), (3, .int l3)] [] μ := by
  unfold fX0_amountOn at e
  have aS_t_3 : hn_isA B (t + 3) false 40 := hn_Ia3 hV h_t
  refine hn_aload_n hF dX0_amountOn_0 (q := 1) rfl 0 rfl ?_
  refine hn_iload_n hF dX0_amountOn_1 (q := 2) rfl 1 rfl ?_
  refine hn_iload_n hF dX0_amountOn_2 (q := 3) rfl 2 rfl ?_
  refine hn_iload_n hF dX0_amountOn_3 (q := 4) rfl 3 rfl ?_
  refine hn_callVi (rest := []) hF ms_X0_holding mv_X0_holding lk_X0_79 (hn_Io hV h_t) rfl (by decide) [.int l1, .int l2, .int l3] rfl (Nat.le_of_ble_eq_true rfl) dX0_amountOn_4 (q := 7) rfl rfl e (fun v hv => cX0_holding_ hV h_t hv) (fun v1 e => ?_)
  refine hn_istore hF dX0_amountOn_7 (q := 9) rfl (by decide) (L' := [(4, .int v1), (0, .ref (hn_base B + t)), (1, .int l1), (2, .int l2), (3, .int l3)]) rfl ?_
  refine hn_iload hF dX0_amountOn_9 (q := 11) rfl 0 rfl ?_
  refine hn_bipush hF dX0_amountOn_11 (q := 13) rfl kb_m4 ?_
  refine hn_icmp_ne hF dX0_amountOn_13 (t := 24) (q := 16) rfl rfl e (fun e => ?_) (fun e => ?_)
  · refine hn_aload_n hF dX0_amountOn_24 (q := 25) rfl 1 rfl ?_
    refine hn_get hF fl_X0_18 (hn_Io hV h_t) rfl rfl dX0_amountOn_25 (q := 28) rfl ?_
    refine hn_iload hF dX0_amountOn_28 (q := 30) rfl 0 rfl ?_
    refine hn_ald hF aS_t_3 dX0_amountOn_30 (q := 31) rfl e (fun v2 e => ?_)
    exact hn_iretP hF hQ dX0_amountOn_31 e
  · refine hn_gstW hF dX0_amountOn_16 (q := 19) rfl ?_
    refine hn_iload_n hF dX0_amountOn_19 (q := 20) rfl 2 rfl ?_
    refine hn_aldW hF dX0_amountOn_20 (q := 21) rfl e (fun v3 e => ?_)
    refine hn_goto hF dX0_amountOn_21 (q := 31) rfl ?_
    exact hn_iretP hF hQ dX0_amountOn_31 e
theorem cX0_amountOn_ {B : hn_B} {F : Nat} {t : Nat} {μ : hn_M} {R : Int32} {l1 : Int32} {l2 : Int32} {l3 : Int32} (hV : hn_V B hn_nA) (h_t : hn_tI t) (e : fX0_amountOn F t μ l1 l2 l3 = some R) : hn_C yX0_amountOn cX0_amountOn 5 (some .int) 1 B [.ref (hn_base B + t), .int l1, .int l2, .int l3] μ (some (.int R), μ) :=
  hn_C.of RX0 (by decide) rfl (Nat.le_of_ble_eq_true rfl) (fun _ hF hQ => gX0_amountOn hF hQ hV h_t e)
/-! HandNews$Items.disagree(II)Z -/
def fX0_disagree (t : Nat) (μ : hn_M) (l1 : Int32) (l2 : Int32) : Option Int32 := hn_rd μ (t + 1) 40 l1 fun v1 => if v1 = 5 then some 0 else hn_rd μ (t + 1) 40 l1 fun v2 => hn_rd μ (t + 1) 40 l2 fun v3 => if v2 = v3 then hn_rd μ (t + 2) 40 l1 fun v4 => hn_rd μ (t + 2) 40 l2 fun v5 => if v4 = v5 then hn_rd μ (t + 4) 40 l1 fun v6 => hn_rd μ (t + 4) 40 l2 fun v7 => if v6 = v7 then hn_rd μ (t + 3) 40 l1 fun v8 => hn_rd μ (t + 3) 40 l2 fun v9 => if v8 = v9 then some 0 else some 1 else some 0 else some 0 else some 0
set_option maxHeartbeats 1000000 in
theorem gX0_disagree {Z : hn_Z} {B : hn_B} {t : Nat} {μ : hn_M} {R : Int32} (hF : hn_F Z B (0, 0) cX0_disagree 3 RX0 (some .boolean) 0) (hQ : hn_goal Z B (some (.int R), μ)) (hV : hn_V B hn_nA) (h_t : hn_tI t) {l1 : Int32} {l2 : Int32} (e : fX0_disagree t μ l1 l2 = some R) : hn_G Z B (0, 0) 3 0 [(0, .ref (hn_base B + t)), (1, .int l1), (2, .int l2)] [] μ := by
  unfold fX0_disagree at e
  have aS_t_1 : hn_isA B (t + 1) false 40 := hn_Ia1 hV h_t
  have aS_t_2 : hn_isA B (t + 2) false 40 := hn_Ia2 hV h_t
  have aS_t_3 : hn_isA B (t + 3) false 40 := hn_Ia3 hV h_t
  have aS_t_4 : hn_isA B (t + 4) false 40 := hn_Ia4 hV h_t
  refine hn_aload_n hF dX0_disagree_0 (q := 1) rfl 0 rfl ?_
  refine hn_get hF fl_X0_11 (hn_Io hV h_t) rfl rfl dX0_disagree_1 (q := 4) rfl ?_
  refine hn_iload_n hF dX0_disagree_4 (q := 5) rfl 1 rfl ?_
  refine hn_ald hF aS_t_1 dX0_disagree_5 (q := 6) rfl e (fun v1 e => ?_)
  refine hn_iconst hF dX0_disagree_6 (q := 7) rfl ki_5 ?_
  refine hn_icmp_eq hF dX0_disagree_7 (t := 74) (q := 10) rfl rfl e (fun e => ?_) (fun e => ?_)
  · refine hn_iconst hF dX0_disagree_74 (q := 75) rfl ki_0 ?_
    exact hn_zretP hF hQ dX0_disagree_75 (Or.inl rfl) e
  · refine hn_aload_n hF dX0_disagree_10 (q := 11) rfl 0 rfl ?_
    refine hn_get hF fl_X0_11 (hn_Io hV h_t) rfl rfl dX0_disagree_11 (q := 14) rfl ?_
    refine hn_iload_n hF dX0_disagree_14 (q := 15) rfl 1 rfl ?_
    refine hn_ald hF aS_t_1 dX0_disagree_15 (q := 16) rfl e (fun v2 e => ?_)
    refine hn_aload_n hF dX0_disagree_16 (q := 17) rfl 0 rfl ?_
    refine hn_get hF fl_X0_11 (hn_Io hV h_t) rfl rfl dX0_disagree_17 (q := 20) rfl ?_
    refine hn_iload_n hF dX0_disagree_20 (q := 21) rfl 2 rfl ?_
    refine hn_ald hF aS_t_1 dX0_disagree_21 (q := 22) rfl e (fun v3 e => ?_)
    refine hn_icmp_ne hF dX0_disagree_22 (t := 74) (q := 25) rfl rfl e (fun e => ?_) (fun e => ?_)
    · refine hn_iconst hF dX0_disagree_74 (q := 75) rfl ki_0 ?_
      exact hn_zretP hF hQ dX0_disagree_75 (Or.inl rfl) e
    · refine hn_aload_n hF dX0_disagree_25 (q := 26) rfl 0 rfl ?_
      refine hn_get hF fl_X0_15 (hn_Io hV h_t) rfl rfl dX0_disagree_26 (q := 29) rfl ?_
      refine hn_iload_n hF dX0_disagree_29 (q := 30) rfl 1 rfl ?_
      refine hn_ald hF aS_t_2 dX0_disagree_30 (q := 31) rfl e (fun v4 e => ?_)
      refine hn_aload_n hF dX0_disagree_31 (q := 32) rfl 0 rfl ?_
      refine hn_get hF fl_X0_15 (hn_Io hV h_t) rfl rfl dX0_disagree_32 (q := 35) rfl ?_
      refine hn_iload_n hF dX0_disagree_35 (q := 36) rfl 2 rfl ?_
      refine hn_ald hF aS_t_2 dX0_disagree_36 (q := 37) rfl e (fun v5 e => ?_)
      refine hn_icmp_ne hF dX0_disagree_37 (t := 74) (q := 40) rfl rfl e (fun e => ?_) (fun e => ?_)
      · refine hn_iconst hF dX0_disagree_74 (q := 75) rfl ki_0 ?_
        exact hn_zretP hF hQ dX0_disagree_75 (Or.inl rfl) e
      · refine hn_aload_n hF dX0_disagree_40 (q := 41) rfl 0 rfl ?_
        refine hn_get hF fl_X0_21 (hn_Io hV h_t) rfl rfl dX0_disagree_41 (q := 44) rfl ?_
        refine hn_iload_n hF dX0_disagree_44 (q := 45) rfl 1 rfl ?_
        refine hn_ald hF aS_t_4 dX0_disagree_45 (q := 46) rfl e (fun v6 e => ?_)
        refine hn_aload_n hF dX0_disagree_46 (q := 47) rfl 0 rfl ?_
        refine hn_get hF fl_X0_21 (hn_Io hV h_t) rfl rfl dX0_disagree_47 (q := 50) rfl ?_
        refine hn_iload_n hF dX0_disagree_50 (q := 51) rfl 2 rfl ?_
        refine hn_ald hF aS_t_4 dX0_disagree_51 (q := 52) rfl e (fun v7 e => ?_)
        refine hn_icmp_ne hF dX0_disagree_52 (t := 74) (q := 55) rfl rfl e (fun e => ?_) (fun e => ?_)
        · refine hn_iconst hF dX0_disagree_74 (q := 75) rfl ki_0 ?_
          exact hn_zretP hF hQ dX0_disagree_75 (Or.inl rfl) e
        · refine hn_aload_n hF dX0_disagree_55 (q := 56) rfl 0 rfl ?_
          refine hn_get hF fl_X0_18 (hn_Io hV h_t) rfl rfl dX0_disagree_56 (q := 59) rfl ?_
          refine hn_iload_n hF dX0_disagree_59 (q := 60) rfl 1 rfl ?_
          refine hn_ald hF aS_t_3 dX0_disagree_60 (q := 61) rfl e (fun v8 e => ?_)
          refine hn_aload_n hF dX0_disagree_61 (q := 62) rfl 0 rfl ?_
          refine hn_get hF fl_X0_18 (hn_Io hV h_t) rfl rfl dX0_disagree_62 (q := 65) rfl ?_
          refine hn_iload_n hF dX0_disagree_65 (q := 66) rfl 2 rfl ?_
          refine hn_ald hF aS_t_3 dX0_disagree_66 (q := 67) rfl e (fun v9 e => ?_)
          refine hn_icmp_eq hF dX0_disagree_67 (t := 74) (q := 70) rfl rfl e (fun e => ?_) (fun e => ?_)
          · refine hn_iconst hF dX0_disagree_74 (q := 75) rfl ki_0 ?_
            exact hn_zretP hF hQ dX0_disagree_75 (Or.inl rfl) e
          · refine hn_iconst hF dX0_disagree_70 (q := 71) rfl ki_1 ?_
            refine hn_goto hF dX0_disagree_71 (q := 75) rfl ?_
            exact hn_zretP hF hQ dX0_disagree_75 (Or.inr rfl) e
theorem cX0_disagree_ {B : hn_B} {t : Nat} {μ : hn_M} {R : Int32} {l1 : Int32} {l2 : Int32} (hV : hn_V B hn_nA) (h_t : hn_tI t) (e : fX0_disagree t μ l1 l2 = some R) : hn_C yX0_disagree cX0_disagree 3 (some .boolean) 0 B [.ref (hn_base B + t), .int l1, .int l2] μ (some (.int R), μ) :=
  hn_C.of RX0 (by decide) rfl (Nat.le_of_ble_eq_true rfl) (fun _ hF hQ => gX0_disagree hF hQ hV h_t e)
/-! HandNews$Items.firstQuarrel()I -/
def fX0_firstQuarrel_31 (F : Nat) (t : Nat) (μ : hn_M) (l1 : Int32) (l2 : Int32) : Option Int32 := some ((100 * l1) + l2)
def fX0_firstQuarrel_44 (F : Nat) (t : Nat) (μ : hn_M) (k2 : Int32 → Option Int32) (l1 : Int32) : Option Int32 := k2 (l1 + 1)
def fX0_firstQuarrel_14 (F : Nat) (t : Nat) (μ : hn_M) (k2 : Int32 → Option Int32) : Nat → Int32 → Int32 → Option Int32
  | 0, _, _ => none
  | n + 1, l1, l2 => if μ t 6 ≤ l2 then fX0_firstQuarrel_44 F t μ k2 l1 else (fX0_disagree t μ l1 l2).bind fun v1 => if v1 = 0 then fX0_firstQuarrel_14 F t μ k2 n l1 (l2 + 1) else fX0_firstQuarrel_31 F t μ l1 l2
def fX0_firstQuarrel_2 (F : Nat) (t : Nat) (μ : hn_M) : Nat → Int32 → Option Int32
  | 0, _ => none
  | n + 1, l1 => if μ t 6 ≤ l1 then some (-4) else fX0_firstQuarrel_14 F t μ (fX0_firstQuarrel_2 F t μ n) F l1 (l1 + 1)
def fX0_firstQuarrel (F : Nat) (t : Nat) (μ : hn_M) : Option Int32 := fX0_firstQuarrel_2 F t μ F 0
set_option maxHeartbeats 1000000 in
theorem gX0_firstQuarrel_31 {Z : hn_Z} {B : hn_B} {F : Nat} {t : Nat} {μ : hn_M} {R : Int32} (hF : hn_F Z B (0, 0) cX0_firstQuarrel 3 RX0 (some .int) 1) (hQ : hn_goal Z B (some (.int R), μ)) (hV : hn_V B hn_nA) (h_t : hn_tI t) {l1 : Int32} {l2 : Int32} (e : fX0_firstQuarrel_31 F t μ l1 l2 = some R) : hn_G Z B (0, 0) 3 31 [(1, .int l1), (2, .int l2)] [] μ := by
  unfold fX0_firstQuarrel_31 at e
  refine hn_bipush hF dX0_firstQuarrel_31 (q := 33) rfl kb_100 ?_
  refine hn_iload_n hF dX0_firstQuarrel_33 (q := 34) rfl 0 rfl ?_
  refine hn_imul hF dX0_firstQuarrel_34 (q := 35) rfl ?_
  refine hn_iload_n hF dX0_firstQuarrel_35 (q := 36) rfl 1 rfl ?_
  refine hn_iadd hF dX0_firstQuarrel_36 (q := 37) rfl ?_
  exact hn_iretP hF hQ dX0_firstQuarrel_37 e
set_option maxHeartbeats 1000000 in
theorem gX0_firstQuarrel_44 {Z : hn_Z} {B : hn_B} {F : Nat} {t : Nat} {μ : hn_M} {R : Int32} (hF : hn_F Z B (0, 0) cX0_firstQuarrel 3 RX0 (some .int) 1) (hQ : hn_goal Z B (some (.int R), μ)) (hV : hn_V B hn_nA) (h_t : hn_tI t) {k2 : Int32 → Option Int32} (H2 : ∀ (l1 : Int32), k2 l1 = some R → hn_G Z B (0, 0) 3 2 [(0, .ref (hn_base B + t)), (1, .int l1)] [] μ) {l1 : Int32} (e : fX0_firstQuarrel_44 F t μ k2 l1 = some R) : hn_G Z B (0, 0) 3 44 [(0, .ref (hn_base B + t)), (1, .int l1)] [] μ := by
  unfold fX0_firstQuarrel_44 at e
  refine hn_iinc (p := 1) hF dX0_firstQuarrel_44 (q := 47) rfl rfl (kn_1 _) (by decide) (L' := [(1, .int (l1 + 1)), (0, .ref (hn_base B + t))]) rfl ?_
  refine hn_goto hF dX0_firstQuarrel_47 (q := 2) rfl ?_
  refine hn_sub [1, 0] (L' := [(0, .ref (hn_base B + t)), (1, .int (l1 + 1))]) rfl ?_
  exact H2 (l1 + 1) e
set_option maxHeartbeats 1000000 in
theorem gX0_firstQuarrel_14 {Z : hn_Z} {B : hn_B} {F : Nat} {t : Nat} {μ : hn_M} {R : Int32} (hF : hn_F Z B (0, 0) cX0_firstQuarrel 3 RX0 (some .int) 1) (hQ : hn_goal Z B (some (.int R), μ)) (hV : hn_V B hn_nA) (h_t : hn_tI t) {k2 : Int32 → Option Int32} (H2 : ∀ (l1 : Int32), k2 l1 = some R → hn_G Z B (0, 0) 3 2 [(0, .ref (hn_base B + t)), (1, .int l1)] [] μ) : ∀ (n : Nat) (l1 : Int32) (l2 : Int32), fX0_firstQuarrel_14 F t μ k2 n l1 l2 = some R → hn_G Z B (0, 0) 3 14 [(0, .ref (hn_base B + t)), (1, .int l1), (2, .int l2)] [] μ := by
  intro n
  induction n with
  | zero => intro l1 l2 e; rw [fX0_firstQuarrel_14] at e; cases e
  | succ n ih =>
    intro l1 l2 e
    rw [fX0_firstQuarrel_14] at e
    refine hn_iload_n hF dX0_firstQuarrel_14 (q := 15) rfl 2 rfl ?_
    refine hn_aload_n hF dX0_firstQuarrel_15 (q := 16) rfl 0 rfl ?_
    refine hn_get hF fl_X0_30 (hn_Io hV h_t) rfl rfl dX0_firstQuarrel_16 (q := 19) rfl ?_
    refine hn_icmp_ge hF dX0_firstQuarrel_19 (t := 44) (q := 22) rfl rfl e (fun e => ?_) (fun e => ?_)
    · refine hn_sub [0, 1] (L' := [(0, .ref (hn_base B + t)), (1, .int l1)]) rfl ?_
      exact gX0_firstQuarrel_44 hF hQ hV h_t H2 e
    · refine hn_aload_n hF dX0_firstQuarrel_22 (q := 23) rfl 0 rfl ?_
      refine hn_iload_n hF dX0_firstQuarrel_23 (q := 24) rfl 1 rfl ?_
      refine hn_iload_n hF dX0_firstQuarrel_24 (q := 25) rfl 2 rfl ?_
      refine hn_callVi (rest := []) hF ms_X0_disagree mv_X0_disagree lk_X0_86 (hn_Io hV h_t) rfl (by decide) [.int l1, .int l2] rfl (Nat.le_of_ble_eq_true rfl) dX0_firstQuarrel_25 (q := 28) rfl rfl e (fun v hv => cX0_disagree_ hV h_t hv) (fun v1 e => ?_)
      refine hn_if_eq hF dX0_firstQuarrel_28 (t := 38) (q := 31) rfl rfl e (fun e => ?_) (fun e => ?_)
      · refine hn_iinc (p := 2) hF dX0_firstQuarrel_38 (q := 41) rfl rfl (kn_1 _) (by decide) (L' := [(2, .int (l2 + 1)), (0, .ref (hn_base B + t)), (1, .int l1)]) rfl ?_
        refine hn_goto hF dX0_firstQuarrel_41 (q := 14) rfl ?_
        refine hn_sub [1, 2, 0] (L' := [(0, .ref (hn_base B + t)), (1, .int l1), (2, .int (l2 + 1))]) rfl ?_
        exact ih l1 (l2 + 1) e
      · refine hn_sub [1, 2] (L' := [(1, .int l1), (2, .int l2)]) rfl ?_
        exact gX0_firstQuarrel_31 hF hQ hV h_t e
set_option maxHeartbeats 1000000 in
theorem gX0_firstQuarrel_2 {Z : hn_Z} {B : hn_B} {F : Nat} {t : Nat} {μ : hn_M} {R : Int32} (hF : hn_F Z B (0, 0) cX0_firstQuarrel 3 RX0 (some .int) 1) (hQ : hn_goal Z B (some (.int R), μ)) (hV : hn_V B hn_nA) (h_t : hn_tI t) : ∀ (n : Nat) (l1 : Int32), fX0_firstQuarrel_2 F t μ n l1 = some R → hn_G Z B (0, 0) 3 2 [(0, .ref (hn_base B + t)), (1, .int l1)] [] μ := by
  intro n
  induction n with
  | zero => intro l1 e; rw [fX0_firstQuarrel_2] at e; cases e
  | succ n ih =>
    intro l1 e
    rw [fX0_firstQuarrel_2] at e
    refine hn_iload_n hF dX0_firstQuarrel_2 (q := 3) rfl 1 rfl ?_
    refine hn_aload_n hF dX0_firstQuarrel_3 (q := 4) rfl 0 rfl ?_
    refine hn_get hF fl_X0_30 (hn_Io hV h_t) rfl rfl dX0_firstQuarrel_4 (q := 7) rfl ?_
    refine hn_icmp_ge hF dX0_firstQuarrel_7 (t := 50) (q := 10) rfl rfl e (fun e => ?_) (fun e => ?_)
    · refine hn_bipush hF dX0_firstQuarrel_50 (q := 52) rfl kb_m4 ?_
      exact hn_iretP hF hQ dX0_firstQuarrel_52 e
    · refine hn_iload_n hF dX0_firstQuarrel_10 (q := 11) rfl 1 rfl ?_
      refine hn_iconst hF dX0_firstQuarrel_11 (q := 12) rfl ki_1 ?_
      refine hn_iadd hF dX0_firstQuarrel_12 (q := 13) rfl ?_
      refine hn_istore_n hF dX0_firstQuarrel_13 (q := 14) rfl (i := 2) rfl (by decide) (L' := [(2, .int (l1 + 1)), (0, .ref (hn_base B + t)), (1, .int l1)]) rfl ?_
      refine hn_sub [1, 2, 0] (L' := [(0, .ref (hn_base B + t)), (1, .int l1), (2, .int (l1 + 1))]) rfl ?_
      exact gX0_firstQuarrel_14 hF hQ hV h_t ih F l1 (l1 + 1) e
set_option maxHeartbeats 1000000 in
theorem gX0_firstQuarrel {Z : hn_Z} {B : hn_B} {F : Nat} {t : Nat} {μ : hn_M} {R : Int32} (hF : hn_F Z B (0, 0) cX0_firstQuarrel 3 RX0 (some .int) 1) (hQ : hn_goal Z B (some (.int R), μ)) (hV : hn_V B hn_nA) (h_t : hn_tI t) (e : fX0_firstQuarrel F t μ = some R) : hn_G Z B (0, 0) 3 0 [(0, .ref (hn_base B + t))] [] μ := by
  unfold fX0_firstQuarrel at e
  refine hn_iconst hF dX0_firstQuarrel_0 (q := 1) rfl ki_0 ?_
  refine hn_istore_n hF dX0_firstQuarrel_1 (q := 2) rfl (i := 1) rfl (by decide) (L' := [(1, .int 0), (0, .ref (hn_base B + t))]) rfl ?_
  refine hn_sub [1, 0] (L' := [(0, .ref (hn_base B + t)), (1, .int 0)]) rfl ?_
  exact gX0_firstQuarrel_2 hF hQ hV h_t F 0 e
theorem cX0_firstQuarrel_ {B : hn_B} {F : Nat} {t : Nat} {μ : hn_M} {R : Int32} (hV : hn_V B hn_nA) (h_t : hn_tI t) (e : fX0_firstQuarrel F t μ = some R) : hn_C yX0_firstQuarrel cX0_firstQuarrel 3 (some .int) 1 B [.ref (hn_base B + t)] μ (some (.int R), μ) :=
  hn_C.of RX0 (by decide) rfl (Nat.le_of_ble_eq_true rfl) (fun _ hF hQ => gX0_firstQuarrel hF hQ hV h_t e)
/-! HandNews$Items.forbids(IIII)Z -/
def fX0_forbids_70 (F : Nat) (t : Nat) (μ : hn_M) (k3 : Int32 → Int32 → Int32 → Int32 → Int32 → Option Int32) (l1 : Int32) (l2 : Int32) (l3 : Int32) (l4 : Int32) (l5 : Int32) : Option Int32 := k3 l1 l2 l3 l4 (l5 + 1)
def fX0_forbids_3 (F : Nat) (t : Nat) (μ : hn_M) : Nat → Int32 → Int32 → Int32 → Int32 → Int32 → Option Int32
  | 0, _, _, _, _, _ => none
  | n + 1, l1, l2, l3, l4, l5 => if μ t 6 ≤ l5 then some 0 else hn_rd μ (t + 1) 40 l5 fun v1 => if v1 = 5 then hn_rd μ (t + 2) 40 l5 fun v2 => if v2 = l1 then hn_rd μ (t + 3) 40 l5 fun v3 => if v3 = l2 then hn_rd μ (t + 4) 40 l5 fun v4 => if l4 < v4 then fX0_forbids_70 F t μ (fX0_forbids_3 F t μ n) l1 l2 l3 l4 l5 else hn_rd μ (t + 5) 40 l5 fun v5 => if v5 < l3 then fX0_forbids_70 F t μ (fX0_forbids_3 F t μ n) l1 l2 l3 l4 l5 else some 1 else fX0_forbids_70 F t μ (fX0_forbids_3 F t μ n) l1 l2 l3 l4 l5 else fX0_forbids_70 F t μ (fX0_forbids_3 F t μ n) l1 l2 l3 l4 l5 else fX0_forbids_70 F t μ (fX0_forbids_3 F t μ n) l1 l2 l3 l4 l5
def fX0_forbids (F : Nat) (t : Nat) (μ : hn_M) (l1 : Int32) (l2 : Int32) (l3 : Int32) (l4 : Int32) : Option Int32 := fX0_forbids_3 F t μ F l1 l2 l3 l4 0
set_option maxHeartbeats 1000000 in
theorem gX0_forbids_70 {Z : hn_Z} {B : hn_B} {F : Nat} {t : Nat} {μ : hn_M} {R : Int32} (hF : hn_F Z B (0, 0) cX0_forbids 6 RX0 (some .boolean) 0) (hQ : hn_goal Z B (some (.int R), μ)) (hV : hn_V B hn_nA) (h_t : hn_tI t) {k3 : Int32 → Int32 → Int32 → Int32 → Int32 → Option Int32} (H3 : ∀ (l1 : Int32) (l2 : Int32) (l3 : Int32) (l4 : Int32) (l5 : Int32), k3 l1 l2 l3 l4 l5 = some R → hn_G Z B (0, 0) 6 3 [(0, .ref (hn_base B + t)), (1, .int l1), (2, .int l2), (3, .int l3), (4, .int l4), (5, .int l5)] [] μ) {l1 : Int32} {l2 : Int32} {l3 : Int32} {l4 : Int32} {l5 : Int32} (e : fX0_forbids_70 F t μ k3 l1 l2 l3 l4 l5 = some R) : hn_G Z B (0, 0) 6 70 [(0, .ref (hn_base B + t)), (1, .int l1), (2, .int l2), (3, .int l3), (4, .int l4), (5, .int l5)] [] μ := by
  unfold fX0_forbids_70 at e
  refine hn_iinc (p := 5) hF dX0_forbids_70 (q := 73) rfl rfl (kn_1 _) (by decide) (L' := [(5, .int (l5 + 1)), (0, .ref (hn_base B + t)), (1, .int l1), (2, .int l2), (3, .int l3), (4, .int l4)]) rfl ?_
  refine hn_goto hF dX0_forbids_73 (q := 3) rfl ?_
  refine hn_sub [1, 2, 3, 4, 5, 0] (L' := [(0, .ref (hn_base B + t)), (1, .int l1), (2, .int l2), (3, .int l3), (4, .int l4), (5, .int (l5 + 1))]) rfl ?_
  exact H3 l1 l2 l3 l4 (l5 + 1) e
set_option maxHeartbeats 1000000 in
theorem gX0_forbids_3 {Z : hn_Z} {B : hn_B} {F : Nat} {t : Nat} {μ : hn_M} {R : Int32} (hF : hn_F Z B (0, 0) cX0_forbids 6 RX0 (some .boolean) 0) (hQ : hn_goal Z B (some (.int R), μ)) (hV : hn_V B hn_nA) (h_t : hn_tI t) : ∀ (n : Nat) (l1 : Int32) (l2 : Int32) (l3 : Int32) (l4 : Int32) (l5 : Int32), fX0_forbids_3 F t μ n l1 l2 l3 l4 l5 = some R → hn_G Z B (0, 0) 6 3 [(0, .ref (hn_base B + t)), (1, .int l1), (2, .int l2), (3, .int l3), (4, .int l4), (5, .int l5)] [] μ := by
  have aS_t_1 : hn_isA B (t + 1) false 40 := hn_Ia1 hV h_t
  have aS_t_2 : hn_isA B (t + 2) false 40 := hn_Ia2 hV h_t
  have aS_t_3 : hn_isA B (t + 3) false 40 := hn_Ia3 hV h_t
  have aS_t_4 : hn_isA B (t + 4) false 40 := hn_Ia4 hV h_t
  have aS_t_5 : hn_isA B (t + 5) false 40 := hn_Ia5 hV h_t
  intro n
  induction n with
  | zero => intro l1 l2 l3 l4 l5 e; rw [fX0_forbids_3] at e; cases e
  | succ n ih =>
    intro l1 l2 l3 l4 l5 e
    rw [fX0_forbids_3] at e
    refine hn_iload hF dX0_forbids_3 (q := 5) rfl 5 rfl ?_
    refine hn_aload_n hF dX0_forbids_5 (q := 6) rfl 0 rfl ?_
    refine hn_get hF fl_X0_30 (hn_Io hV h_t) rfl rfl dX0_forbids_6 (q := 9) rfl ?_
    refine hn_icmp_ge hF dX0_forbids_9 (t := 76) (q := 12) rfl rfl e (fun e => ?_) (fun e => ?_)
    · refine hn_iconst hF dX0_forbids_76 (q := 77) rfl ki_0 ?_
      exact hn_zretP hF hQ dX0_forbids_77 (Or.inl rfl) e
    · refine hn_aload_n hF dX0_forbids_12 (q := 13) rfl 0 rfl ?_
      refine hn_get hF fl_X0_11 (hn_Io hV h_t) rfl rfl dX0_forbids_13 (q := 16) rfl ?_
      refine hn_iload hF dX0_forbids_16 (q := 18) rfl 5 rfl ?_
      refine hn_ald hF aS_t_1 dX0_forbids_18 (q := 19) rfl e (fun v1 e => ?_)
      refine hn_iconst hF dX0_forbids_19 (q := 20) rfl ki_5 ?_
      refine hn_icmp_ne hF dX0_forbids_20 (t := 70) (q := 23) rfl rfl e (fun e => ?_) (fun e => ?_)
      · exact gX0_forbids_70 hF hQ hV h_t ih e
      · refine hn_aload_n hF dX0_forbids_23 (q := 24) rfl 0 rfl ?_
        refine hn_get hF fl_X0_15 (hn_Io hV h_t) rfl rfl dX0_forbids_24 (q := 27) rfl ?_
        refine hn_iload hF dX0_forbids_27 (q := 29) rfl 5 rfl ?_
        refine hn_ald hF aS_t_2 dX0_forbids_29 (q := 30) rfl e (fun v2 e => ?_)
        refine hn_iload_n hF dX0_forbids_30 (q := 31) rfl 1 rfl ?_
        refine hn_icmp_ne hF dX0_forbids_31 (t := 70) (q := 34) rfl rfl e (fun e => ?_) (fun e => ?_)
        · exact gX0_forbids_70 hF hQ hV h_t ih e
        · refine hn_aload_n hF dX0_forbids_34 (q := 35) rfl 0 rfl ?_
          refine hn_get hF fl_X0_18 (hn_Io hV h_t) rfl rfl dX0_forbids_35 (q := 38) rfl ?_
          refine hn_iload hF dX0_forbids_38 (q := 40) rfl 5 rfl ?_
          refine hn_ald hF aS_t_3 dX0_forbids_40 (q := 41) rfl e (fun v3 e => ?_)
          refine hn_iload_n hF dX0_forbids_41 (q := 42) rfl 2 rfl ?_
          refine hn_icmp_ne hF dX0_forbids_42 (t := 70) (q := 45) rfl rfl e (fun e => ?_) (fun e => ?_)
          · exact gX0_forbids_70 hF hQ hV h_t ih e
          · refine hn_aload_n hF dX0_forbids_45 (q := 46) rfl 0 rfl ?_
            refine hn_get hF fl_X0_21 (hn_Io hV h_t) rfl rfl dX0_forbids_46 (q := 49) rfl ?_
            refine hn_iload hF dX0_forbids_49 (q := 51) rfl 5 rfl ?_
            refine hn_ald hF aS_t_4 dX0_forbids_51 (q := 52) rfl e (fun v4 e => ?_)
            refine hn_iload hF dX0_forbids_52 (q := 54) rfl 4 rfl ?_
            refine hn_icmp_gt hF dX0_forbids_54 (t := 70) (q := 57) rfl rfl e (fun e => ?_) (fun e => ?_)
            · exact gX0_forbids_70 hF hQ hV h_t ih e
            · refine hn_aload_n hF dX0_forbids_57 (q := 58) rfl 0 rfl ?_
              refine hn_get hF fl_X0_24 (hn_Io hV h_t) rfl rfl dX0_forbids_58 (q := 61) rfl ?_
              refine hn_iload hF dX0_forbids_61 (q := 63) rfl 5 rfl ?_
              refine hn_ald hF aS_t_5 dX0_forbids_63 (q := 64) rfl e (fun v5 e => ?_)
              refine hn_iload_n hF dX0_forbids_64 (q := 65) rfl 3 rfl ?_
              refine hn_icmp_lt hF dX0_forbids_65 (t := 70) (q := 68) rfl rfl e (fun e => ?_) (fun e => ?_)
              · exact gX0_forbids_70 hF hQ hV h_t ih e
              · refine hn_iconst hF dX0_forbids_68 (q := 69) rfl ki_1 ?_
                exact hn_zretP hF hQ dX0_forbids_69 (Or.inr rfl) e
set_option maxHeartbeats 1000000 in
theorem gX0_forbids {Z : hn_Z} {B : hn_B} {F : Nat} {t : Nat} {μ : hn_M} {R : Int32} (hF : hn_F Z B (0, 0) cX0_forbids 6 RX0 (some .boolean) 0) (hQ : hn_goal Z B (some (.int R), μ)) (hV : hn_V B hn_nA) (h_t : hn_tI t) {l1 : Int32} {l2 : Int32} {l3 : Int32} {l4 : Int32} (e : fX0_forbids F t μ l1 l2 l3 l4 = some R) : hn_G Z B (0, 0) 6 0 [(0, .ref (hn_base B + t)), (1, .int l1), (2, .int l2), (3, .int l3), (4, .int l4)] [] μ := by
  unfold fX0_forbids at e
  refine hn_iconst hF dX0_forbids_0 (q := 1) rfl ki_0 ?_
  refine hn_istore hF dX0_forbids_1 (q := 3) rfl (by decide) (L' := [(5, .int 0), (0, .ref (hn_base B + t)), (1, .int l1), (2, .int l2), (3, .int l3), (4, .int l4)]) rfl ?_
  refine hn_sub [1, 2, 3, 4, 5, 0] (L' := [(0, .ref (hn_base B + t)), (1, .int l1), (2, .int l2), (3, .int l3), (4, .int l4), (5, .int 0)]) rfl ?_
  exact gX0_forbids_3 hF hQ hV h_t F l1 l2 l3 l4 0 e
theorem cX0_forbids_ {B : hn_B} {F : Nat} {t : Nat} {μ : hn_M} {R : Int32} {l1 : Int32} {l2 : Int32} {l3 : Int32} {l4 : Int32} (hV : hn_V B hn_nA) (h_t : hn_tI t) (e : fX0_forbids F t μ l1 l2 l3 l4 = some R) : hn_C yX0_forbids cX0_forbids 6 (some .boolean) 0 B [.ref (hn_base B + t), .int l1, .int l2, .int l3, .int l4] μ (some (.int R), μ) :=
  hn_C.of RX0 (by decide) rfl (Nat.le_of_ble_eq_true rfl) (fun _ hF hQ => gX0_forbids hF hQ hV h_t e)
