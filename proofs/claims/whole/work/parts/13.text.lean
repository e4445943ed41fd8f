/-! HandNews$Text.append(IJ)V -/
def fX4_append_8 (F : Nat) : Nat → Int64 → Int32 → hn_M → Option hn_M
  | 0, _, _, _ => none
  | n + 1, l2, l4, μ => if l4 < 0 then some μ else hn_wr μ 55 200 (μ 54 1) (vp_nar .byte ((((l2.toUInt64 >>> (l4.toInt64.toUInt64 &&& Int64.toUInt64 63)).toInt64).toInt32).toInt8.toInt32)) fun μ1 => hn_pf μ1 54 1 ((μ1 54 1) + 1) fun μ2 => fX4_append_8 F n l2 (l4 + (-8)) μ2
def fX4_append (F : Nat) (l1 : Int32) (l2 : Int64) (μ : hn_M) : Option hn_M := fX4_append_8 F F l2 (8 * (l1 - 1)) μ
set_option maxHeartbeats 1000000 in
theorem gX4_append_8 {Z : hn_Z} {B : hn_B} {F : Nat} {R : hn_M} (hF : hn_F Z B (0, 0) cX4_append 5 RX4 none 0) (hQ : hn_goal Z B (none, R)) (hV : hn_V B hn_nA) : ∀ (n : Nat) (l2 : Int64) (l4 : Int32) (μ : hn_M), fX4_append_8 F n l2 l4 μ = some R → hn_G Z B (0, 0) 5 8 [(0, .ref (hn_base B + 54)), (2, .long l2), (4, .int l4)] [] μ := by
  have a55 : hn_isA B 55 true 200 := hV 55 (by decide)
  have o54 : hn_isO B 54 4 hn_k54 := hV 54 (by decide)
  intro n
  induction n with
  | zero => intro l2 l4 μ e; rw [fX4_append_8] at e; cases e
  | succ n ih =>
    intro l2 l4 μ e
    rw [fX4_append_8] at e
    refine hn_iload hF dX4_append_8 (q := 10) rfl 2 rfl ?_
    refine hn_if_lt hF dX4_append_10 (t := 44) (q := 13) rfl rfl e (fun e => ?_) (fun e => ?_)
    · exact hn_vretM hF hQ dX4_append_44 e
    · refine hn_aload_n hF dX4_append_13 (q := 14) rfl 0 rfl ?_
      refine hn_get hF fl_X4_9 o54 rfl rfl dX4_append_14 (q := 17) rfl ?_
      refine hn_aload_n hF dX4_append_17 (q := 18) rfl 0 rfl ?_
      refine hn_get hF fl_X4_15 o54 rfl rfl dX4_append_18 (q := 21) rfl ?_
      refine hn_lload_n hF dX4_append_21 (q := 22) rfl 1 rfl ?_
      refine hn_iload hF dX4_append_22 (q := 24) rfl 2 rfl ?_
      refine hn_lushr hF dX4_append_24 (q := 25) rfl rfl ?_
      refine hn_l2i hF dX4_append_25 (q := 26) rfl rfl ?_
      refine hn_i2b hF dX4_append_26 (q := 27) rfl rfl ?_
      refine hn_bast hF a55 dX4_append_27 (q := 28) rfl e (fun μ1 e => ?_)
      refine hn_aload_n hF dX4_append_28 (q := 29) rfl 0 rfl ?_
      refine hn_dup hF dX4_append_29 (q := 30) rfl rfl ?_
      refine hn_get hF fl_X4_15 o54 rfl rfl dX4_append_30 (q := 33) rfl ?_
      refine hn_iconst hF dX4_append_33 (q := 34) rfl ki_1 ?_
      refine hn_iadd hF dX4_append_34 (q := 35) rfl ?_
      refine hn_put hF fl_X4_15 fp_X4_1 o54 rfl rfl rfl rfl dX4_append_35 (q := 38) rfl e (fun μ2 e => ?_)
      refine hn_iinc (p := 2) hF dX4_append_38 (q := 41) rfl rfl (kn_m8 _) (by decide) (L' := [(4, .int (l4 + (-8))), (0, .ref (hn_base B + 54)), (2, .long l2)]) rfl ?_
      refine hn_goto hF dX4_append_41 (q := 8) rfl ?_
      refine hn_sub [1, 2, 0] (L' := [(0, .ref (hn_base B + 54)), (2, .long l2), (4, .int (l4 + (-8)))]) rfl ?_
      exact ih l2 (l4 + (-8)) μ2 e
set_option maxHeartbeats 1000000 in
theorem gX4_append {Z : hn_Z} {B : hn_B} {F : Nat} {R : hn_M} (hF : hn_F Z B (0, 0) cX4_append 5 RX4 none 0) (hQ : hn_goal Z B (none, R)) (hV : hn_V B hn_nA) {l1 : Int32} {l2 : Int64} {μ : hn_M} (e : fX4_append F l1 l2 μ = some R) : hn_G Z B (0, 0) 5 0 [(0, .ref (hn_base B + 54)), (1, .int l1), (2, .long l2)] [] μ := by
  unfold fX4_append at e
  refine hn_bipush hF dX4_append_0 (q := 2) rfl kb_8 ?_
  refine hn_iload_n hF dX4_append_2 (q := 3) rfl 1 rfl ?_
  refine hn_iconst hF dX4_append_3 (q := 4) rfl ki_1 ?_
  refine hn_isub hF dX4_append_4 (q := 5) rfl ?_
  refine hn_imul hF dX4_append_5 (q := 6) rfl ?_
  refine hn_istore hF dX4_append_6 (q := 8) rfl (by decide) (L' := [(4, .int (8 * (l1 - 1))), (0, .ref (hn_base B + 54)), (1, .int l1), (2, .long l2)]) rfl ?_
  refine hn_sub [1, 3, 0] (L' := [(0, .ref (hn_base B + 54)), (2, .long l2), (4, .int (8 * (l1 - 1)))]) rfl ?_
  exact gX4_append_8 hF hQ hV F l2 (8 * (l1 - 1)) μ e
theorem cX4_append_ {B : hn_B} {F : Nat} {μ : hn_M} {R : hn_M} {l1 : Int32} {l2 : Int64} (hV : hn_V B hn_nA) (e : fX4_append F l1 l2 μ = some R) : hn_C yX4_append cX4_append 5 none 0 B [.ref (hn_base B + 54), .int l1, .long l2] μ (none, R) :=
  hn_C.of RX4 (by decide) rfl (Nat.le_of_ble_eq_true rfl) (fun _ hF hQ => gX4_append hF hQ hV e)
/-! HandNews$Text.byteAt(I)I -/
def fX4_byteAt (μ : hn_M) (l1 : Int32) : Option Int32 := if l1 < 0 then some (-1) else if μ 54 1 ≤ l1 then some (-1) else hn_rd μ 55 200 l1 fun v1 => some v1
set_option maxHeartbeats 1000000 in
theorem gX4_byteAt {Z : hn_Z} {B : hn_B} {μ : hn_M} {R : Int32} (hF : hn_F Z B (0, 0) cX4_byteAt 2 RX4 (some .int) 0) (hQ : hn_goal Z B (some (.int R), μ)) (hV : hn_V B hn_nA) {l1 : Int32} (e : fX4_byteAt μ l1 = some R) : hn_G Z B (0, 0) 2 0 [(0, .ref (hn_base B + 54)), (1, .int l1)] [] μ := by
  unfold fX4_byteAt at e
  have a55 : hn_isA B 55 true 200 := hV 55 (by decide)
  have o54 : hn_isO B 54 4 hn_k54 := hV 54 (by decide)
  refine hn_iload_n hF dX4_byteAt_0 (q := 1) rfl 1 rfl ?_
  refine hn_if_lt hF dX4_byteAt_1 (t := 21) (q := 4) rfl rfl e (fun e => ?_) (fun e => ?_)
  · refine hn_iconst hF dX4_byteAt_21 (q := 22) rfl ki_m1 ?_
    exact hn_iretP hF hQ dX4_byteAt_22 e
  · refine hn_iload_n hF dX4_byteAt_4 (q := 5) rfl 1 rfl ?_
    refine hn_aload_n hF dX4_byteAt_5 (q := 6) rfl 0 rfl ?_
    refine hn_get hF fl_X4_15 o54 rfl rfl dX4_byteAt_6 (q := 9) rfl ?_
    refine hn_icmp_ge hF dX4_byteAt_9 (t := 21) (q := 12) rfl rfl e (fun e => ?_) (fun e => ?_)
    · refine hn_iconst hF dX4_byteAt_21 (q := 22) rfl ki_m1 ?_
      exact hn_iretP hF hQ dX4_byteAt_22 e
    · refine hn_aload_n hF dX4_byteAt_12 (q := 13) rfl 0 rfl ?_
      refine hn_get hF fl_X4_9 o54 rfl rfl dX4_byteAt_13 (q := 16) rfl ?_
      refine hn_iload_n hF dX4_byteAt_16 (q := 17) rfl 1 rfl ?_
      refine hn_bald hF a55 dX4_byteAt_17 (q := 18) rfl e (fun v1 e => ?_)
      refine hn_goto hF dX4_byteAt_18 (q := 22) rfl ?_
      exact hn_iretP hF hQ dX4_byteAt_22 e
theorem cX4_byteAt_ {B : hn_B} {μ : hn_M} {R : Int32} {l1 : Int32} (hV : hn_V B hn_nA) (e : fX4_byteAt μ l1 = some R) : hn_C yX4_byteAt cX4_byteAt 2 (some .int) 0 B [.ref (hn_base B + 54), .int l1] μ (some (.int R), μ) :=
  hn_C.of RX4 (by decide) rfl (Nat.le_of_ble_eq_true rfl) (fun _ hF hQ => gX4_byteAt hF hQ hV e)
