/-! HandNews$Worths.put(III)I -/
def fX6_put (l1 : Int32) (l2 : Int32) (l3 : Int32) (μ : hn_M) : Option (Int32 × hn_M) := hn_rd μ 57 24 ((l1 * 4) + l2) fun v1 => hn_wr μ 57 24 ((l1 * 4) + l2) l3 fun μ2 => some (v1, μ2)
set_option maxHeartbeats 1000000 in
theorem gX6_put {Z : hn_Z} {B : hn_B} {R : Int32 × hn_M} (hF : hn_F Z B (0, 0) cX6_put 5 RX6 (some .int) 0) (hQ : hn_goal Z B (some (.int R.1), R.2)) (hV : hn_V B hn_nA) {l1 : Int32} {l2 : Int32} {l3 : Int32} {μ : hn_M} (e : fX6_put l1 l2 l3 μ = some R) : hn_G Z B (0, 0) 5 0 [(0, .ref (hn_base B + 56)), (1, .int l1), (2, .int l2), (3, .int l3)] [] μ := by
  unfold fX6_put at e
  have a57 : hn_isA B 57 false 24 := hV 57 (by decide)
  have o56 : hn_isO B 56 6 hn_k56 := hV 56 (by decide)
  refine hn_aload_n hF dX6_put_0 (q := 1) rfl 0 rfl ?_
  refine hn_get hF fl_X6_9 o56 rfl rfl dX6_put_1 (q := 4) rfl ?_
  refine hn_iload_n hF dX6_put_4 (q := 5) rfl 1 rfl ?_
  refine hn_iconst hF dX6_put_5 (q := 6) rfl ki_4 ?_
  refine hn_imul hF dX6_put_6 (q := 7) rfl ?_
  refine hn_iload_n hF dX6_put_7 (q := 8) rfl 2 rfl ?_
  refine hn_iadd hF dX6_put_8 (q := 9) rfl ?_
  refine hn_ald hF a57 dX6_put_9 (q := 10) rfl e (fun v1 e => ?_)
  refine hn_istore hF dX6_put_10 (q := 12) rfl (by decide) (L' := [(4, .int v1), (0, .ref (hn_base B + 56)), (1, .int l1), (2, .int l2), (3, .int l3)]) rfl ?_
  refine hn_aload_n hF dX6_put_12 (q := 13) rfl 1 rfl ?_
  refine hn_get hF fl_X6_9 o56 rfl rfl dX6_put_13 (q := 16) rfl ?_
  refine hn_iload_n hF dX6_put_16 (q := 17) rfl 2 rfl ?_
  refine hn_iconst hF dX6_put_17 (q := 18) rfl ki_4 ?_
  refine hn_imul hF dX6_put_18 (q := 19) rfl ?_
  refine hn_iload_n hF dX6_put_19 (q := 20) rfl 3 rfl ?_
  refine hn_iadd hF dX6_put_20 (q := 21) rfl ?_
  refine hn_iload_n hF dX6_put_21 (q := 22) rfl 4 rfl ?_
  refine hn_ast hF a57 dX6_put_22 (q := 23) rfl e (fun μ2 e => ?_)
  refine hn_iload hF dX6_put_23 (q := 25) rfl 0 rfl ?_
  exact hn_iretM hF hQ dX6_put_25 e
theorem cX6_put_ {B : hn_B} {μ : hn_M} {R : Int32 × hn_M} {l1 : Int32} {l2 : Int32} {l3 : Int32} (hV : hn_V B hn_nA) (e : fX6_put l1 l2 l3 μ = some R) : hn_C yX6_put cX6_put 5 (some .int) 0 B [.ref (hn_base B + 56), .int l1, .int l2, .int l3] μ (some (.int R.1), R.2) :=
  hn_C.of RX6 (by decide) rfl (Nat.le_of_ble_eq_true rfl) (fun _ hF hQ => gX6_put hF hQ hV e)
/-! HandNews$Worths.leastOf(II)I -/
def fX6_leastOf_38 (F : Nat) (μ : hn_M) (k7 : Int32 → Int32 → Int32 → Int32 → Option Int32) (l1 : Int32) (l2 : Int32) (l3 : Int32) (l4 : Int32) : Option Int32 := k7 l1 l2 l3 (l4 + 1)
def fX6_leastOf_7 (F : Nat) (μ : hn_M) : Nat → Int32 → Int32 → Int32 → Int32 → Option Int32
  | 0, _, _, _, _ => none
  | n + 1, l1, l2, l3, l4 => if 4 ≤ l4 then some l3 else (fX7_isIn l2 l4).bind fun v1 => if v1 = 0 then fX6_leastOf_38 F μ (fX6_leastOf_7 F μ n) l1 l2 l3 l4 else hn_rd μ 57 24 ((l1 * 4) + l4) fun v2 => fX6_leastOf_38 F μ (fX6_leastOf_7 F μ n) l1 l2 (if v2 < l3 then v2 else l3) l4
def fX6_leastOf (F : Nat) (μ : hn_M) (l1 : Int32) (l2 : Int32) : Option Int32 := fX6_leastOf_7 F μ F l1 l2 1000 0
set_option maxHeartbeats 1000000 in
theorem gX6_leastOf_38 {Z : hn_Z} {B : hn_B} {F : Nat} {μ : hn_M} {R : Int32} (hF : hn_F Z B (0, 0) cX6_leastOf 5 RX6 (some .int) 1) (hQ : hn_goal Z B (some (.int R), μ)) (hV : hn_V B hn_nA) {k7 : Int32 → Int32 → Int32 → Int32 → Option Int32} (H7 : ∀ (l1 : Int32) (l2 : Int32) (l3 : Int32) (l4 : Int32), k7 l1 l2 l3 l4 = some R → hn_G Z B (0, 0) 5 7 [(0, .ref (hn_base B + 56)), (1, .int l1), (2, .int l2), (3, .int l3), (4, .int l4)] [] μ) {l1 : Int32} {l2 : Int32} {l3 : Int32} {l4 : Int32} (e : fX6_leastOf_38 F μ k7 l1 l2 l3 l4 = some R) : hn_G Z B (0, 0) 5 38 [(0, .ref (hn_base B + 56)), (1, .int l1), (2, .int l2), (3, .int l3), (4, .int l4)] [] μ := by
  unfold fX6_leastOf_38 at e
  refine hn_iinc (p := 4) hF dX6_leastOf_38 (q := 41) rfl rfl (kn_1 _) (by decide) (L' := [(4, .int (l4 + 1)), (0, .ref (hn_base B + 56)), (1, .int l1), (2, .int l2), (3, .int l3)]) rfl ?_
  refine hn_goto hF dX6_leastOf_41 (q := 7) rfl ?_
  refine hn_sub [1, 2, 3, 4, 0] (L' := [(0, .ref (hn_base B + 56)), (1, .int l1), (2, .int l2), (3, .int l3), (4, .int (l4 + 1))]) rfl ?_
  exact H7 l1 l2 l3 (l4 + 1) e
set_option maxHeartbeats 1000000 in
theorem gX6_leastOf_7 {Z : hn_Z} {B : hn_B} {F : Nat} {μ : hn_M} {R : Int32} (hF : hn_F Z B (0, 0) cX6_leastOf 5 RX6 (some .int) 1) (hQ : hn_goal Z B (some (.int R), μ)) (hV : hn_V B hn_nA) : ∀ (n : Nat) (l1 : Int32) (l2 : Int32) (l3 : Int32) (l4 : Int32), fX6_leastOf_7 F μ n l1 l2 l3 l4 = some R → hn_G Z B (0, 0) 5 7 [(0, .ref (hn_base B + 56)), (1, .int l1), (2, .int l2), (3, .int l3), (4, .int l4)] [] μ := by
  have a57 : hn_isA B 57 false 24 := hV 57 (by decide)
  have o56 : hn_isO B 56 6 hn_k56 := hV 56 (by decide)
  intro n
  induction n with
  | zero => intro l1 l2 l3 l4 e; rw [fX6_leastOf_7] at e; cases e
  | succ n ih =>
    intro l1 l2 l3 l4 e
    rw [fX6_leastOf_7] at e
    refine hn_iload hF dX6_leastOf_7 (q := 9) rfl 4 rfl ?_
    refine hn_iconst hF dX6_leastOf_9 (q := 10) rfl ki_4 ?_
    refine hn_icmp_ge hF dX6_leastOf_10 (t := 44) (q := 13) rfl rfl e (fun e => ?_) (fun e => ?_)
    · refine hn_iload_n hF dX6_leastOf_44 (q := 45) rfl 3 rfl ?_
      exact hn_iretP hF hQ dX6_leastOf_45 e
    · refine hn_iload_n hF dX6_leastOf_13 (q := 14) rfl 2 rfl ?_
      refine hn_iload hF dX6_leastOf_14 (q := 16) rfl 4 rfl ?_
      refine hn_callNi (rest := []) hF ms_X7_isIn mt_X7_isIn lk_X6_19 (by decide) [.int l2, .int l4] rfl (Nat.le_of_ble_eq_true rfl) dX6_leastOf_16 (q := 19) rfl rfl e (fun v hv => cX7_isIn_ hv) (fun v1 e => ?_)
      refine hn_if_eq hF dX6_leastOf_19 (t := 38) (q := 22) rfl rfl e (fun e => ?_) (fun e => ?_)
      · exact gX6_leastOf_38 hF hQ hV ih e
      · refine hn_iload_n hF dX6_leastOf_22 (q := 23) rfl 3 rfl ?_
        refine hn_aload_n hF dX6_leastOf_23 (q := 24) rfl 0 rfl ?_
        refine hn_get hF fl_X6_9 o56 rfl rfl dX6_leastOf_24 (q := 27) rfl ?_
        refine hn_iload_n hF dX6_leastOf_27 (q := 28) rfl 1 rfl ?_
        refine hn_iconst hF dX6_leastOf_28 (q := 29) rfl ki_4 ?_
        refine hn_imul hF dX6_leastOf_29 (q := 30) rfl ?_
        refine hn_iload hF dX6_leastOf_30 (q := 32) rfl 4 rfl ?_
        refine hn_iadd hF dX6_leastOf_32 (q := 33) rfl ?_
        refine hn_ald hF a57 dX6_leastOf_33 (q := 34) rfl e (fun v2 e => ?_)
        refine hn_min hF lm_X6_23 (Nat.le_of_ble_eq_true rfl) (Nat.le_of_ble_eq_true rfl) dX6_leastOf_34 (q := 37) rfl ?_
        refine hn_istore_n hF dX6_leastOf_37 (q := 38) rfl (i := 3) rfl (by decide) (L' := [(3, .int (if v2 < l3 then v2 else l3)), (0, .ref (hn_base B + 56)), (1, .int l1), (2, .int l2), (4, .int l4)]) rfl ?_
        refine hn_sub [1, 2, 3, 0, 4] (L' := [(0, .ref (hn_base B + 56)), (1, .int l1), (2, .int l2), (3, .int (if v2 < l3 then v2 else l3)), (4, .int l4)]) rfl ?_
        exact gX6_leastOf_38 hF hQ hV ih e
set_option maxHeartbeats 1000000 in
theorem gX6_leastOf {Z : hn_Z} {B : hn_B} {F : Nat} {μ : hn_M} {R : Int32} (hF : hn_F Z B (0, 0) cX6_leastOf 5 RX6 (some .int) 1) (hQ : hn_goal Z B (some (.int R), μ)) (hV : hn_V B hn_nA) {l1 : Int32} {l2 : Int32} (e : fX6_leastOf F μ l1 l2 = some R) : hn_G Z B (0, 0) 5 0 [(0, .ref (hn_base B + 56)), (1, .int l1), (2, .int l2)] [] μ := by
  unfold fX6_leastOf at e
  refine hn_sipush hF dX6_leastOf_0 (q := 3) rfl ks_1000 ?_
  refine hn_istore_n hF dX6_leastOf_3 (q := 4) rfl (i := 3) rfl (by decide) (L' := [(3, .int 1000), (0, .ref (hn_base B + 56)), (1, .int l1), (2, .int l2)]) rfl ?_
  refine hn_iconst hF dX6_leastOf_4 (q := 5) rfl ki_0 ?_
  refine hn_istore hF dX6_leastOf_5 (q := 7) rfl (by decide) (L' := [(4, .int 0), (3, .int 1000), (0, .ref (hn_base B + 56)), (1, .int l1), (2, .int l2)]) rfl ?_
  refine hn_sub [2, 3, 4, 1, 0] (L' := [(0, .ref (hn_base B + 56)), (1, .int l1), (2, .int l2), (3, .int 1000), (4, .int 0)]) rfl ?_
  exact gX6_leastOf_7 hF hQ hV F l1 l2 1000 0 e
theorem cX6_leastOf_ {B : hn_B} {F : Nat} {μ : hn_M} {R : Int32} {l1 : Int32} {l2 : Int32} (hV : hn_V B hn_nA) (e : fX6_leastOf F μ l1 l2 = some R) : hn_C yX6_leastOf cX6_leastOf 5 (some .int) 1 B [.ref (hn_base B + 56), .int l1, .int l2] μ (some (.int R), μ) :=
  hn_C.of RX6 (by decide) rfl (Nat.le_of_ble_eq_true rfl) (fun _ hF hQ => gX6_leastOf hF hQ hV e)
/-! HandNews$Worths.safest(II)I -/
def fX6_safest_30 (F : Nat) (μ : hn_M) (k5 : Int32 → Int32 → Int32 → Int32 → Option Int32) (l1 : Int32) (l2 : Int32) (l3 : Int32) (l4 : Int32) : Option Int32 := k5 l1 l2 l3 (l4 + 1)
def fX6_safest_5 (F : Nat) (μ : hn_M) : Nat → Int32 → Int32 → Int32 → Int32 → Option Int32
  | 0, _, _, _, _ => none
  | n + 1, l1, l2, l3, l4 => if l1 ≤ l4 then some l3 else (fX6_leastOf F μ l4 l2).bind fun v1 => (fX6_leastOf F μ l3 l2).bind fun v2 => if v1 ≤ v2 then fX6_safest_30 F μ (fX6_safest_5 F μ n) l1 l2 l3 l4 else fX6_safest_30 F μ (fX6_safest_5 F μ n) l1 l2 l4 l4
def fX6_safest (F : Nat) (μ : hn_M) (l1 : Int32) (l2 : Int32) : Option Int32 := fX6_safest_5 F μ F l1 l2 0 1
set_option maxHeartbeats 1000000 in
theorem gX6_safest_30 {Z : hn_Z} {B : hn_B} {F : Nat} {μ : hn_M} {R : Int32} (hF : hn_F Z B (0, 0) cX6_safest 5 RX6 (some .int) 2) (hQ : hn_goal Z B (some (.int R), μ)) (hV : hn_V B hn_nA) {k5 : Int32 → Int32 → Int32 → Int32 → Option Int32} (H5 : ∀ (l1 : Int32) (l2 : Int32) (l3 : Int32) (l4 : Int32), k5 l1 l2 l3 l4 = some R → hn_G Z B (0, 0) 5 5 [(0, .ref (hn_base B + 56)), (1, .int l1), (2, .int l2), (3, .int l3), (4, .int l4)] [] μ) {l1 : Int32} {l2 : Int32} {l3 : Int32} {l4 : Int32} (e : fX6_safest_30 F μ k5 l1 l2 l3 l4 = some R) : hn_G Z B (0, 0) 5 30 [(0, .ref (hn_base B + 56)), (1, .int l1), (2, .int l2), (3, .int l3), (4, .int l4)] [] μ := by
  unfold fX6_safest_30 at e
  refine hn_iinc (p := 4) hF dX6_safest_30 (q := 33) rfl rfl (kn_1 _) (by decide) (L' := [(4, .int (l4 + 1)), (0, .ref (hn_base B + 56)), (1, .int l1), (2, .int l2), (3, .int l3)]) rfl ?_
  refine hn_goto hF dX6_safest_33 (q := 5) rfl ?_
  refine hn_sub [1, 2, 3, 4, 0] (L' := [(0, .ref (hn_base B + 56)), (1, .int l1), (2, .int l2), (3, .int l3), (4, .int (l4 + 1))]) rfl ?_
  exact H5 l1 l2 l3 (l4 + 1) e
set_option maxHeartbeats 1000000 in
theorem gX6_safest_5 {Z : hn_Z} {B : hn_B} {F : Nat} {μ : hn_M} {R : Int32} (hF : hn_F Z B (0, 0) cX6_safest 5 RX6 (some .int) 2) (hQ : hn_goal Z B (some (.int R), μ)) (hV : hn_V B hn_nA) : ∀ (n : Nat) (l1 : Int32) (l2 : Int32) (l3 : Int32) (l4 : Int32), fX6_safest_5 F μ n l1 l2 l3 l4 = some R → hn_G Z B (0, 0) 5 5 [(0, .ref (hn_base B + 56)), (1, .int l1), (2, .int l2), (3, .int l3), (4, .int l4)] [] μ := by
  have o56 : hn_isO B 56 6 hn_k56 := hV 56 (by decide)
  intro n
  induction n with
  | zero => intro l1 l2 l3 l4 e; rw [fX6_safest_5] at e; cases e
  | succ n ih =>
    intro l1 l2 l3 l4 e
    rw [fX6_safest_5] at e
    refine hn_iload hF dX6_safest_5 (q := 7) rfl 4 rfl ?_
    refine hn_iload_n hF dX6_safest_7 (q := 8) rfl 1 rfl ?_
    refine hn_icmp_ge hF dX6_safest_8 (t := 36) (q := 11) rfl rfl e (fun e => ?_) (fun e => ?_)
    · refine hn_iload_n hF dX6_safest_36 (q := 37) rfl 3 rfl ?_
      exact hn_iretP hF hQ dX6_safest_37 e
    · refine hn_aload_n hF dX6_safest_11 (q := 12) rfl 0 rfl ?_
      refine hn_iload hF dX6_safest_12 (q := 14) rfl 4 rfl ?_
      refine hn_iload_n hF dX6_safest_14 (q := 15) rfl 2 rfl ?_
      refine hn_callVi (rest := []) hF ms_X6_leastOf mv_X6_leastOf lk_X6_15 o56 rfl (by decide) [.int l4, .int l2] rfl (Nat.le_of_ble_eq_true rfl) dX6_safest_15 (q := 18) rfl rfl e (fun v hv => cX6_leastOf_ hV hv) (fun v1 e => ?_)
      refine hn_aload_n hF dX6_safest_18 (q := 19) rfl 0 rfl ?_
      refine hn_iload_n hF dX6_safest_19 (q := 20) rfl 3 rfl ?_
      refine hn_iload_n hF dX6_safest_20 (q := 21) rfl 2 rfl ?_
      refine hn_callVi (rest := [.int v1]) hF ms_X6_leastOf mv_X6_leastOf lk_X6_15 o56 rfl (by decide) [.int l3, .int l2] rfl (Nat.le_of_ble_eq_true rfl) dX6_safest_21 (q := 24) rfl rfl e (fun v hv => cX6_leastOf_ hV hv) (fun v2 e => ?_)
      refine hn_icmp_le hF dX6_safest_24 (t := 30) (q := 27) rfl rfl e (fun e => ?_) (fun e => ?_)
      · exact gX6_safest_30 hF hQ hV ih e
      · refine hn_iload hF dX6_safest_27 (q := 29) rfl 4 rfl ?_
        refine hn_istore_n hF dX6_safest_29 (q := 30) rfl (i := 3) rfl (by decide) (L' := [(3, .int l4), (0, .ref (hn_base B + 56)), (1, .int l1), (2, .int l2), (4, .int l4)]) rfl ?_
        refine hn_sub [1, 2, 3, 0, 4] (L' := [(0, .ref (hn_base B + 56)), (1, .int l1), (2, .int l2), (3, .int l4), (4, .int l4)]) rfl ?_
        exact gX6_safest_30 hF hQ hV ih e
set_option maxHeartbeats 1000000 in
theorem gX6_safest {Z : hn_Z} {B : hn_B} {F : Nat} {μ : hn_M} {R : Int32} (hF : hn_F Z B (0, 0) cX6_safest 5 RX6 (some .int) 2) (hQ : hn_goal Z B (some (.int R), μ)) (hV : hn_V B hn_nA) {l1 : Int32} {l2 : Int32} (e : fX6_safest F μ l1 l2 = some R) : hn_G Z B (0, 0) 5 0 [(0, .ref (hn_base B + 56)), (1, .int l1), (2, .int l2)] [] μ := by
  unfold fX6_safest at e
  refine hn_iconst hF dX6_safest_0 (q := 1) rfl ki_0 ?_
  refine hn_istore_n hF dX6_safest_1 (q := 2) rfl (i := 3) rfl (by decide) (L' := [(3, .int 0), (0, .ref (hn_base B + 56)), (1, .int l1), (2, .int l2)]) rfl ?_
  refine hn_iconst hF dX6_safest_2 (q := 3) rfl ki_1 ?_
  refine hn_istore hF dX6_safest_3 (q := 5) rfl (by decide) (L' := [(4, .int 1), (3, .int 0), (0, .ref (hn_base B + 56)), (1, .int l1), (2, .int l2)]) rfl ?_
  refine hn_sub [2, 3, 4, 1, 0] (L' := [(0, .ref (hn_base B + 56)), (1, .int l1), (2, .int l2), (3, .int 0), (4, .int 1)]) rfl ?_
  exact gX6_safest_5 hF hQ hV F l1 l2 0 1 e
theorem cX6_safest_ {B : hn_B} {F : Nat} {μ : hn_M} {R : Int32} {l1 : Int32} {l2 : Int32} (hV : hn_V B hn_nA) (e : fX6_safest F μ l1 l2 = some R) : hn_C yX6_safest cX6_safest 5 (some .int) 2 B [.ref (hn_base B + 56), .int l1, .int l2] μ (some (.int R), μ) :=
  hn_C.of RX6 (by decide) rfl (Nat.le_of_ble_eq_true rfl) (fun _ hF hQ => gX6_safest hF hQ hV e)
/-! HandNews$Worths.bestOf(II)I -/
def fX6_bestOf_7 (F : Nat) (μ : hn_M) : Nat → Int32 → Int32 → Int32 → Int32 → Option Int32
  | 0, _, _, _, _ => none
  | n + 1, l1, l2, l3, l4 => if l2 ≤ l4 then some l3 else hn_rd μ 57 24 ((l4 * 4) + l1) fun v1 => fX6_bestOf_7 F μ n l1 l2 (if l3 < v1 then v1 else l3) (l4 + 1)
def fX6_bestOf (F : Nat) (μ : hn_M) (l1 : Int32) (l2 : Int32) : Option Int32 := fX6_bestOf_7 F μ F l1 l2 (-1000) 0
set_option maxHeartbeats 1000000 in
theorem gX6_bestOf_7 {Z : hn_Z} {B : hn_B} {F : Nat} {μ : hn_M} {R : Int32} (hF : hn_F Z B (0, 0) cX6_bestOf 5 RX6 (some .int) 1) (hQ : hn_goal Z B (some (.int R), μ)) (hV : hn_V B hn_nA) : ∀ (n : Nat) (l1 : Int32) (l2 : Int32) (l3 : Int32) (l4 : Int32), fX6_bestOf_7 F μ n l1 l2 l3 l4 = some R → hn_G Z B (0, 0) 5 7 [(0, .ref (hn_base B + 56)), (1, .int l1), (2, .int l2), (3, .int l3), (4, .int l4)] [] μ := by
  have a57 : hn_isA B 57 false 24 := hV 57 (by decide)
  have o56 : hn_isO B 56 6 hn_k56 := hV 56 (by decide)
  intro n
  induction n with
  | zero => intro l1 l2 l3 l4 e; rw [fX6_bestOf_7] at e; cases e
  | succ n ih =>
    intro l1 l2 l3 l4 e
    rw [fX6_bestOf_7] at e
    refine hn_iload hF dX6_bestOf_7 (q := 9) rfl 4 rfl ?_
    refine hn_iload_n hF dX6_bestOf_9 (q := 10) rfl 2 rfl ?_
    refine hn_icmp_ge hF dX6_bestOf_10 (t := 35) (q := 13) rfl rfl e (fun e => ?_) (fun e => ?_)
    · refine hn_iload_n hF dX6_bestOf_35 (q := 36) rfl 3 rfl ?_
      exact hn_iretP hF hQ dX6_bestOf_36 e
    · refine hn_iload_n hF dX6_bestOf_13 (q := 14) rfl 3 rfl ?_
      refine hn_aload_n hF dX6_bestOf_14 (q := 15) rfl 0 rfl ?_
      refine hn_get hF fl_X6_9 o56 rfl rfl dX6_bestOf_15 (q := 18) rfl ?_
      refine hn_iload hF dX6_bestOf_18 (q := 20) rfl 4 rfl ?_
      refine hn_iconst hF dX6_bestOf_20 (q := 21) rfl ki_4 ?_
      refine hn_imul hF dX6_bestOf_21 (q := 22) rfl ?_
      refine hn_iload_n hF dX6_bestOf_22 (q := 23) rfl 1 rfl ?_
      refine hn_iadd hF dX6_bestOf_23 (q := 24) rfl ?_
      refine hn_ald hF a57 dX6_bestOf_24 (q := 25) rfl e (fun v1 e => ?_)
      refine hn_max hF lm_X6_35 (Nat.le_of_ble_eq_true rfl) (Nat.le_of_ble_eq_true rfl) dX6_bestOf_25 (q := 28) rfl ?_
      refine hn_istore_n hF dX6_bestOf_28 (q := 29) rfl (i := 3) rfl (by decide) (L' := [(3, .int (if l3 < v1 then v1 else l3)), (0, .ref (hn_base B + 56)), (1, .int l1), (2, .int l2), (4, .int l4)]) rfl ?_
      refine hn_iinc (p := 4) hF dX6_bestOf_29 (q := 32) rfl rfl (kn_1 _) (by decide) (L' := [(4, .int (l4 + 1)), (3, .int (if l3 < v1 then v1 else l3)), (0, .ref (hn_base B + 56)), (1, .int l1), (2, .int l2)]) rfl ?_
      refine hn_goto hF dX6_bestOf_32 (q := 7) rfl ?_
      refine hn_sub [2, 3, 4, 1, 0] (L' := [(0, .ref (hn_base B + 56)), (1, .int l1), (2, .int l2), (3, .int (if l3 < v1 then v1 else l3)), (4, .int (l4 + 1))]) rfl ?_
      exact ih l1 l2 (if l3 < v1 then v1 else l3) (l4 + 1) e
set_option maxHeartbeats 1000000 in
theorem gX6_bestOf {Z : hn_Z} {B : hn_B} {F : Nat} {μ : hn_M} {R : Int32} (hF : hn_F Z B (0, 0) cX6_bestOf 5 RX6 (some .int) 1) (hQ : hn_goal Z B (some (.int R), μ)) (hV : hn_V B hn_nA) {l1 : Int32} {l2 : Int32} (e : fX6_bestOf F μ l1 l2 = some R) : hn_G Z B (0, 0) 5 0 [(0, .ref (hn_base B + 56)), (1, .int l1), (2, .int l2)] [] μ := by
  unfold fX6_bestOf at e
  refine hn_sipush hF dX6_bestOf_0 (q := 3) rfl ks_m1000 ?_
  refine hn_istore_n hF dX6_bestOf_3 (q := 4) rfl (i := 3) rfl (by decide) (L' := [(3, .int ((-1000))), (0, .ref (hn_base B + 56)), (1, .int l1), (2, .int l2)]) rfl ?_
  refine hn_iconst hF dX6_bestOf_4 (q := 5) rfl ki_0 ?_
  refine hn_istore hF dX6_bestOf_5 (q := 7) rfl (by decide) (L' := [(4, .int 0), (3, .int ((-1000))), (0, .ref (hn_base B + 56)), (1, .int l1), (2, .int l2)]) rfl ?_
  refine hn_sub [2, 3, 4, 1, 0] (L' := [(0, .ref (hn_base B + 56)), (1, .int l1), (2, .int l2), (3, .int ((-1000))), (4, .int 0)]) rfl ?_
  exact gX6_bestOf_7 hF hQ hV F l1 l2 (-1000) 0 e
theorem cX6_bestOf_ {B : hn_B} {F : Nat} {μ : hn_M} {R : Int32} {l1 : Int32} {l2 : Int32} (hV : hn_V B hn_nA) (e : fX6_bestOf F μ l1 l2 = some R) : hn_C yX6_bestOf cX6_bestOf 5 (some .int) 1 B [.ref (hn_base B + 56), .int l1, .int l2] μ (some (.int R), μ) :=
  hn_C.of RX6 (by decide) rfl (Nat.le_of_ble_eq_true rfl) (fun _ hF hQ => gX6_bestOf hF hQ hV e)
/-! HandNews$Worths.regretOf(III)I -/
def fX6_regretOf_51 (F : Nat) (μ : hn_M) (k6 : Int32 → Int32 → Int32 → Int32 → Int32 → Option Int32) (l1 : Int32) (l2 : Int32) (l3 : Int32) (l4 : Int32) (l5 : Int32) : Option Int32 := k6 l1 l2 l3 l4 (l5 + 1)
def fX6_regretOf_6 (F : Nat) (μ : hn_M) : Nat → Int32 → Int32 → Int32 → Int32 → Int32 → Option Int32
  | 0, _, _, _, _, _ => none
  | n + 1, l1, l2, l3, l4, l5 => if 4 ≤ l5 then some l4 else (fX7_isIn l3 l5).bind fun v1 => if v1 = 0 then fX6_regretOf_51 F μ (fX6_regretOf_6 F μ n) l1 l2 l3 l4 l5 else (fX6_bestOf F μ l5 l2).bind fun v2 => hn_rd μ 57 24 ((l1 * 4) + l5) fun v3 => fX6_regretOf_51 F μ (fX6_regretOf_6 F μ n) l1 l2 l3 (if l4 < v2 - v3 then v2 - v3 else l4) l5
def fX6_regretOf (F : Nat) (μ : hn_M) (l1 : Int32) (l2 : Int32) (l3 : Int32) : Option Int32 := fX6_regretOf_6 F μ F l1 l2 l3 0 0
set_option maxHeartbeats 1000000 in
theorem gX6_regretOf_51 {Z : hn_Z} {B : hn_B} {F : Nat} {μ : hn_M} {R : Int32} (hF : hn_F Z B (0, 0) cX6_regretOf 7 RX6 (some .int) 2) (hQ : hn_goal Z B (some (.int R), μ)) (hV : hn_V B hn_nA) {k6 : Int32 → Int32 → Int32 → Int32 → Int32 → Option Int32} (H6 : ∀ (l1 : Int32) (l2 : Int32) (l3 : Int32) (l4 : Int32) (l5 : Int32), k6 l1 l2 l3 l4 l5 = some R → hn_G Z B (0, 0) 7 6 [(0, .ref (hn_base B + 56)), (1, .int l1), (2, .int l2), (3, .int l3), (4, .int l4), (5, .int l5)] [] μ) {l1 : Int32} {l2 : Int32} {l3 : Int32} {l4 : Int32} {l5 : Int32} (e : fX6_regretOf_51 F μ k6 l1 l2 l3 l4 l5 = some R) : hn_G Z B (0, 0) 7 51 [(0, .ref (hn_base B + 56)), (1, .int l1), (2, .int l2), (3, .int l3), (4, .int l4), (5, .int l5)] [] μ := by
  unfold fX6_regretOf_51 at e
  refine hn_iinc (p := 5) hF dX6_regretOf_51 (q := 54) rfl rfl (kn_1 _) (by decide) (L' := [(5, .int (l5 + 1)), (0, .ref (hn_base B + 56)), (1, .int l1), (2, .int l2), (3, .int l3), (4, .int l4)]) rfl ?_
  refine hn_goto hF dX6_regretOf_54 (q := 6) rfl ?_
  refine hn_sub [1, 2, 3, 4, 5, 0] (L' := [(0, .ref (hn_base B + 56)), (1, .int l1), (2, .int l2), (3, .int l3), (4, .int l4), (5, .int (l5 + 1))]) rfl ?_
  exact H6 l1 l2 l3 l4 (l5 + 1) e
set_option maxHeartbeats 1000000 in
theorem gX6_regretOf_6 {Z : hn_Z} {B : hn_B} {F : Nat} {μ : hn_M} {R : Int32} (hF : hn_F Z B (0, 0) cX6_regretOf 7 RX6 (some .int) 2) (hQ : hn_goal Z B (some (.int R), μ)) (hV : hn_V B hn_nA) : ∀ (n : Nat) (l1 : Int32) (l2 : Int32) (l3 : Int32) (l4 : Int32) (l5 : Int32), fX6_regretOf_6 F μ n l1 l2 l3 l4 l5 = some R → hn_G Z B (0, 0) 7 6 [(0, .ref (hn_base B + 56)), (1, .int l1), (2, .int l2), (3, .int l3), (4, .int l4), (5, .int l5)] [] μ := by
  have a57 : hn_isA B 57 false 24 := hV 57 (by decide)
  have o56 : hn_isO B 56 6 hn_k56 := hV 56 (by decide)
  intro n
  induction n with
  | zero => intro l1 l2 l3 l4 l5 e; rw [fX6_regretOf_6] at e; cases e
  | succ n ih =>
    intro l1 l2 l3 l4 l5 e
    rw [fX6_regretOf_6] at e
    refine hn_iload hF dX6_regretOf_6 (q := 8) rfl 5 rfl ?_
    refine hn_iconst hF dX6_regretOf_8 (q := 9) rfl ki_4 ?_
    refine hn_icmp_ge hF dX6_regretOf_9 (t := 57) (q := 12) rfl rfl e (fun e => ?_) (fun e => ?_)
    · refine hn_iload hF dX6_regretOf_57 (q := 59) rfl 4 rfl ?_
      exact hn_iretP hF hQ dX6_regretOf_59 e
    · refine hn_iload_n hF dX6_regretOf_12 (q := 13) rfl 3 rfl ?_
      refine hn_iload hF dX6_regretOf_13 (q := 15) rfl 5 rfl ?_
      refine hn_callNi (rest := []) hF ms_X7_isIn mt_X7_isIn lk_X6_19 (by decide) [.int l3, .int l5] rfl (Nat.le_of_ble_eq_true rfl) dX6_regretOf_15 (q := 18) rfl rfl e (fun v hv => cX7_isIn_ hv) (fun v1 e => ?_)
      refine hn_if_eq hF dX6_regretOf_18 (t := 51) (q := 21) rfl rfl e (fun e => ?_) (fun e => ?_)
      · exact gX6_regretOf_51 hF hQ hV ih e
      · refine hn_aload_n hF dX6_regretOf_21 (q := 22) rfl 0 rfl ?_
        refine hn_iload hF dX6_regretOf_22 (q := 24) rfl 5 rfl ?_
        refine hn_iload_n hF dX6_regretOf_24 (q := 25) rfl 2 rfl ?_
        refine hn_callVi (rest := []) hF ms_X6_bestOf mv_X6_bestOf lk_X6_32 o56 rfl (by decide) [.int l5, .int l2] rfl (Nat.le_of_ble_eq_true rfl) dX6_regretOf_25 (q := 28) rfl rfl e (fun v hv => cX6_bestOf_ hV hv) (fun v2 e => ?_)
        refine hn_aload_n hF dX6_regretOf_28 (q := 29) rfl 0 rfl ?_
        refine hn_get hF fl_X6_9 o56 rfl rfl dX6_regretOf_29 (q := 32) rfl ?_
        refine hn_iload_n hF dX6_regretOf_32 (q := 33) rfl 1 rfl ?_
        refine hn_iconst hF dX6_regretOf_33 (q := 34) rfl ki_4 ?_
        refine hn_imul hF dX6_regretOf_34 (q := 35) rfl ?_
        refine hn_iload hF dX6_regretOf_35 (q := 37) rfl 5 rfl ?_
        refine hn_iadd hF dX6_regretOf_37 (q := 38) rfl ?_
        refine hn_ald hF a57 dX6_regretOf_38 (q := 39) rfl e (fun v3 e => ?_)
        refine hn_isub hF dX6_regretOf_39 (q := 40) rfl ?_
        refine hn_istore hF dX6_regretOf_40 (q := 42) rfl (by decide) (L' := [(6, .int (v2 - v3)), (0, .ref (hn_base B + 56)), (1, .int l1), (2, .int l2), (3, .int l3), (4, .int l4), (5, .int l5)]) rfl ?_
        refine hn_iload hF dX6_regretOf_42 (q := 44) rfl 5 rfl ?_
        refine hn_iload hF dX6_regretOf_44 (q := 46) rfl 0 rfl ?_
        refine hn_max hF lm_X6_35 (Nat.le_of_ble_eq_true rfl) (Nat.le_of_ble_eq_true rfl) dX6_regretOf_46 (q := 49) rfl ?_
        refine hn_istore hF dX6_regretOf_49 (q := 51) rfl (by decide) (L' := [(4, .int (if l4 < v2 - v3 then v2 - v3 else l4)), (6, .int (v2 - v3)), (0, .ref (hn_base B + 56)), (1, .int l1), (2, .int l2), (3, .int l3), (5, .int l5)]) rfl ?_
        refine hn_sub [2, 3, 4, 5, 0, 6] (L' := [(0, .ref (hn_base B + 56)), (1, .int l1), (2, .int l2), (3, .int l3), (4, .int (if l4 < v2 - v3 then v2 - v3 else l4)), (5, .int l5)]) rfl ?_
        exact gX6_regretOf_51 hF hQ hV ih e
set_option maxHeartbeats 1000000 in
theorem gX6_regretOf {Z : hn_Z} {B : hn_B} {F : Nat} {μ : hn_M} {R : Int32} (hF : hn_F Z B (0, 0) cX6_regretOf 7 RX6 (some .int) 2) (hQ : hn_goal Z B (some (.int R), μ)) (hV : hn_V B hn_nA) {l1 : Int32} {l2 : Int32} {l3 : Int32} (e : fX6_regretOf F μ l1 l2 l3 = some R) : hn_G Z B (0, 0) 7 0 [(0, .ref (hn_base B + 56)), (1, .int l1), (2, .int l2), (3, .int l3)] [] μ := by
  unfold fX6_regretOf at e
  refine hn_iconst hF dX6_regretOf_0 (q := 1) rfl ki_0 ?_
  refine hn_istore hF dX6_regretOf_1 (q := 3) rfl (by decide) (L' := [(4, .int 0), (0, .ref (hn_base B + 56)), (1, .int l1), (2, .int l2), (3, .int l3)]) rfl ?_
  refine hn_iconst hF dX6_regretOf_3 (q := 4) rfl ki_0 ?_
  refine hn_istore hF dX6_regretOf_4 (q := 6) rfl (by decide) (L' := [(5, .int 0), (4, .int 0), (0, .ref (hn_base B + 56)), (1, .int l1), (2, .int l2), (3, .int l3)]) rfl ?_
  refine hn_sub [2, 3, 4, 5, 1, 0] (L' := [(0, .ref (hn_base B + 56)), (1, .int l1), (2, .int l2), (3, .int l3), (4, .int 0), (5, .int 0)]) rfl ?_
  exact gX6_regretOf_6 hF hQ hV F l1 l2 l3 0 0 e
theorem cX6_regretOf_ {B : hn_B} {F : Nat} {μ : hn_M} {R : Int32} {l1 : Int32} {l2 : Int32} {l3 : Int32} (hV : hn_V B hn_nA) (e : fX6_regretOf F μ l1 l2 l3 = some R) : hn_C yX6_regretOf cX6_regretOf 7 (some .int) 2 B [.ref (hn_base B + 56), .int l1, .int l2, .int l3] μ (some (.int R), μ) :=
  hn_C.of RX6 (by decide) rfl (Nat.le_of_ble_eq_true rfl) (fun _ hF hQ => gX6_regretOf hF hQ hV e)
/-! HandNews$Worths.calmest(II)I -/
def fX6_calmest_32 (F : Nat) (μ : hn_M) (k5 : Int32 → Int32 → Int32 → Int32 → Option Int32) (l1 : Int32) (l2 : Int32) (l3 : Int32) (l4 : Int32) : Option Int32 := k5 l1 l2 l3 (l4 + 1)
def fX6_calmest_5 (F : Nat) (μ : hn_M) : Nat → Int32 → Int32 → Int32 → Int32 → Option Int32
  | 0, _, _, _, _ => none
  | n + 1, l1, l2, l3, l4 => if l1 ≤ l4 then some l3 else (fX6_regretOf F μ l4 l1 l2).bind fun v1 => (fX6_regretOf F μ l3 l1 l2).bind fun v2 => if v2 ≤ v1 then fX6_calmest_32 F μ (fX6_calmest_5 F μ n) l1 l2 l3 l4 else fX6_calmest_32 F μ (fX6_calmest_5 F μ n) l1 l2 l4 l4
def fX6_calmest (F : Nat) (μ : hn_M) (l1 : Int32) (l2 : Int32) : Option Int32 := fX6_calmest_5 F μ F l1 l2 0 1
set_option maxHeartbeats 1000000 in
theorem gX6_calmest_32 {Z : hn_Z} {B : hn_B} {F : Nat} {μ : hn_M} {R : Int32} (hF : hn_F Z B (0, 0) cX6_calmest 5 RX6 (some .int) 3) (hQ : hn_goal Z B (some (.int R), μ)) (hV : hn_V B hn_nA) {k5 : Int32 → Int32 → Int32 → Int32 → Option Int32} (H5 : ∀ (l1 : Int32) (l2 : Int32) (l3 : Int32) (l4 : Int32), k5 l1 l2 l3 l4 = some R → hn_G Z B (0, 0) 5 5 [(0, .ref (hn_base B + 56)), (1, .int l1), (2, .int l2), (3, .int l3), (4, .int l4)] [] μ) {l1 : Int32} {l2 : Int32} {l3 : Int32} {l4 : Int32} (e : fX6_calmest_32 F μ k5 l1 l2 l3 l4 = some R) : hn_G Z B (0, 0) 5 32 [(0, .ref (hn_base B + 56)), (1, .int l1), (2, .int l2), (3, .int l3), (4, .int l4)] [] μ := by
  unfold fX6_calmest_32 at e
  refine hn_iinc (p := 4) hF dX6_calmest_32 (q := 35) rfl rfl (kn_1 _) (by decide) (L' := [(4, .int (l4 + 1)), (0, .ref (hn_base B + 56)), (1, .int l1), (2, .int l2), (3, .int l3)]) rfl ?_
  refine hn_goto hF dX6_calmest_35 (q := 5) rfl ?_
  refine hn_sub [1, 2, 3, 4, 0] (L' := [(0, .ref (hn_base B + 56)), (1, .int l1), (2, .int l2), (3, .int l3), (4, .int (l4 + 1))]) rfl ?_
  exact H5 l1 l2 l3 (l4 + 1) e
set_option maxHeartbeats 1000000 in
theorem gX6_calmest_5 {Z : hn_Z} {B : hn_B} {F : Nat} {μ : hn_M} {R : Int32} (hF : hn_F Z B (0, 0) cX6_calmest 5 RX6 (some .int) 3) (hQ : hn_goal Z B (some (.int R), μ)) (hV : hn_V B hn_nA) : ∀ (n : Nat) (l1 : Int32) (l2 : Int32) (l3 : Int32) (l4 : Int32), fX6_calmest_5 F μ n l1 l2 l3 l4 = some R → hn_G Z B (0, 0) 5 5 [(0, .ref (hn_base B + 56)), (1, .int l1), (2, .int l2), (3, .int l3), (4, .int l4)] [] μ := by
  have o56 : hn_isO B 56 6 hn_k56 := hV 56 (by decide)
  intro n
  induction n with
  | zero => intro l1 l2 l3 l4 e; rw [fX6_calmest_5] at e; cases e
  | succ n ih =>
    intro l1 l2 l3 l4 e
    rw [fX6_calmest_5] at e
    refine hn_iload hF dX6_calmest_5 (q := 7) rfl 4 rfl ?_
    refine hn_iload_n hF dX6_calmest_7 (q := 8) rfl 1 rfl ?_
    refine hn_icmp_ge hF dX6_calmest_8 (t := 38) (q := 11) rfl rfl e (fun e => ?_) (fun e => ?_)
    · refine hn_iload_n hF dX6_calmest_38 (q := 39) rfl 3 rfl ?_
      exact hn_iretP hF hQ dX6_calmest_39 e
    · refine hn_aload_n hF dX6_calmest_11 (q := 12) rfl 0 rfl ?_
      refine hn_iload hF dX6_calmest_12 (q := 14) rfl 4 rfl ?_
      refine hn_iload_n hF dX6_calmest_14 (q := 15) rfl 1 rfl ?_
      refine hn_iload_n hF dX6_calmest_15 (q := 16) rfl 2 rfl ?_
      refine hn_callVi (rest := []) hF ms_X6_regretOf mv_X6_regretOf lk_X6_28 o56 rfl (by decide) [.int l4, .int l1, .int l2] rfl (Nat.le_of_ble_eq_true rfl) dX6_calmest_16 (q := 19) rfl rfl e (fun v hv => cX6_regretOf_ hV hv) (fun v1 e => ?_)
      refine hn_aload_n hF dX6_calmest_19 (q := 20) rfl 0 rfl ?_
      refine hn_iload_n hF dX6_calmest_20 (q := 21) rfl 3 rfl ?_
      refine hn_iload_n hF dX6_calmest_21 (q := 22) rfl 1 rfl ?_
      refine hn_iload_n hF dX6_calmest_22 (q := 23) rfl 2 rfl ?_
      refine hn_callVi (rest := [.int v1]) hF ms_X6_regretOf mv_X6_regretOf lk_X6_28 o56 rfl (by decide) [.int l3, .int l1, .int l2] rfl (Nat.le_of_ble_eq_true rfl) dX6_calmest_23 (q := 26) rfl rfl e (fun v hv => cX6_regretOf_ hV hv) (fun v2 e => ?_)
      refine hn_icmp_ge hF dX6_calmest_26 (t := 32) (q := 29) rfl rfl e (fun e => ?_) (fun e => ?_)
      · exact gX6_calmest_32 hF hQ hV ih e
      · refine hn_iload hF dX6_calmest_29 (q := 31) rfl 4 rfl ?_
        refine hn_istore_n hF dX6_calmest_31 (q := 32) rfl (i := 3) rfl (by decide) (L' := [(3, .int l4), (0, .ref (hn_base B + 56)), (1, .int l1), (2, .int l2), (4, .int l4)]) rfl ?_
        refine hn_sub [1, 2, 3, 0, 4] (L' := [(0, .ref (hn_base B + 56)), (1, .int l1), (2, .int l2), (3, .int l4), (4, .int l4)]) rfl ?_
        exact gX6_calmest_32 hF hQ hV ih e
set_option maxHeartbeats 1000000 in
theorem gX6_calmest {Z : hn_Z} {B : hn_B} {F : Nat} {μ : hn_M} {R : Int32} (hF : hn_F Z B (0, 0) cX6_calmest 5 RX6 (some .int) 3) (hQ : hn_goal Z B (some (.int R), μ)) (hV : hn_V B hn_nA) {l1 : Int32} {l2 : Int32} (e : fX6_calmest F μ l1 l2 = some R) : hn_G Z B (0, 0) 5 0 [(0, .ref (hn_base B + 56)), (1, .int l1), (2, .int l2)] [] μ := by
  unfold fX6_calmest at e
  refine hn_iconst hF dX6_calmest_0 (q := 1) rfl ki_0 ?_
  refine hn_istore_n hF dX6_calmest_1 (q := 2) rfl (i := 3) rfl (by decide) (L' := [(3, .int 0), (0, .ref (hn_base B + 56)), (1, .int l1), (2, .int l2)]) rfl ?_
  refine hn_iconst hF dX6_calmest_2 (q := 3) rfl ki_1 ?_
  refine hn_istore hF dX6_calmest_3 (q := 5) rfl (by decide) (L' := [(4, .int 1), (3, .int 0), (0, .ref (hn_base B + 56)), (1, .int l1), (2, .int l2)]) rfl ?_
  refine hn_sub [2, 3, 4, 1, 0] (L' := [(0, .ref (hn_base B + 56)), (1, .int l1), (2, .int l2), (3, .int 0), (4, .int 1)]) rfl ?_
  exact gX6_calmest_5 hF hQ hV F l1 l2 0 1 e
theorem cX6_calmest_ {B : hn_B} {F : Nat} {μ : hn_M} {R : Int32} {l1 : Int32} {l2 : Int32} (hV : hn_V B hn_nA) (e : fX6_calmest F μ l1 l2 = some R) : hn_C yX6_calmest cX6_calmest 5 (some .int) 3 B [.ref (hn_base B + 56), .int l1, .int l2] μ (some (.int R), μ) :=
  hn_C.of RX6 (by decide) rfl (Nat.le_of_ble_eq_true rfl) (fun _ hF hQ => gX6_calmest hF hQ hV e)
