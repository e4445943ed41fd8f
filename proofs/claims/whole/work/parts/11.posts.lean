/-! HandNews$Posts.layPosts()V -/
def fX2_layPosts_58 (F : Nat) (k2 : Int32 → hn_M → Option hn_M) (l1 : Int32) (s0 : Int32) (s1 : Int32) (μ : hn_M) : Option hn_M := hn_wr μ 4 36 s1 s0 fun μ1 => hn_rd μ1 3 36 l1 fun v2 => hn_wr μ1 5 36 l1 v2 fun μ3 => k2 (l1 + 1) μ3
def fX2_layPosts_24 (F : Nat) (k2 : Int32 → hn_M → Option hn_M) (l1 : Int32) (s0 : Int32) (μ : hn_M) : Option hn_M := if s0 = 0 then hn_rd μ 2 36 l1 fun v4 => if v4 ≤ 0 then fX2_layPosts_58 F k2 l1 1000000 l1 μ else hn_rd μ 2 36 l1 fun v5 => fX2_layPosts_58 F k2 l1 v5 l1 μ else fX2_layPosts_58 F k2 l1 0 l1 μ
def fX2_layPosts_2 (F : Nat) : Nat → Int32 → hn_M → Option hn_M
  | 0, _, _ => none
  | n + 1, l1, μ => if 36 ≤ l1 then some μ else if l1 / 6 = l1 - l1 / 6 * 6 then fX2_layPosts_24 F (fX2_layPosts_2 F n) l1 1 μ else fX2_layPosts_24 F (fX2_layPosts_2 F n) l1 0 μ
def fX2_layPosts (F : Nat) (μ : hn_M) : Option hn_M := fX2_layPosts_2 F F 0 μ
set_option maxHeartbeats 1000000 in
theorem gX2_layPosts_58 {Z : hn_Z} {B : hn_B} {F : Nat} {R : hn_M} (hF : hn_F Z B (0, 0) cX2_layPosts 3 RX2 none 0) (hQ : hn_goal Z B (none, R)) (hV : hn_V B hn_nP) {k2 : Int32 → hn_M → Option hn_M} (H2 : ∀ (l1 : Int32) (μ : hn_M), k2 l1 μ = some R → hn_G Z B (0, 0) 3 2 [(0, .ref (hn_base B + 1)), (1, .int l1)] [] μ) {l1 : Int32} {s0 : Int32} {s1 : Int32} {μ : hn_M} (e : fX2_layPosts_58 F k2 l1 s0 s1 μ = some R) : hn_G Z B (0, 0) 3 58 [(0, .ref (hn_base B + 1)), (1, .int l1)] [.int s0, .int s1, .ref (hn_base B + 4)] μ := by
  unfold fX2_layPosts_58 at e
  have a3 : hn_isA B 3 false 36 := hV 3 (by decide)
  have a4 : hn_isA B 4 false 36 := hV 4 (by decide)
  have a5 : hn_isA B 5 false 36 := hV 5 (by decide)
  have o1 : hn_isO B 1 2 hn_k1 := hV 1 (by decide)
  refine hn_ast hF a4 dX2_layPosts_58 (q := 59) rfl e (fun μ1 e => ?_)
  refine hn_aload_n hF dX2_layPosts_59 (q := 60) rfl 0 rfl ?_
  refine hn_get hF fl_X2_21 o1 rfl rfl dX2_layPosts_60 (q := 63) rfl ?_
  refine hn_iload_n hF dX2_layPosts_63 (q := 64) rfl 1 rfl ?_
  refine hn_aload_n hF dX2_layPosts_64 (q := 65) rfl 0 rfl ?_
  refine hn_get hF fl_X2_15 o1 rfl rfl dX2_layPosts_65 (q := 68) rfl ?_
  refine hn_iload_n hF dX2_layPosts_68 (q := 69) rfl 1 rfl ?_
  refine hn_ald hF a3 dX2_layPosts_69 (q := 70) rfl e (fun v2 e => ?_)
  refine hn_ast hF a5 dX2_layPosts_70 (q := 71) rfl e (fun μ3 e => ?_)
  refine hn_iinc (p := 1) hF dX2_layPosts_71 (q := 74) rfl rfl (kn_1 _) (by decide) (L' := [(1, .int (l1 + 1)), (0, .ref (hn_base B + 1))]) rfl ?_
  refine hn_goto hF dX2_layPosts_74 (q := 2) rfl ?_
  refine hn_sub [1, 0] (L' := [(0, .ref (hn_base B + 1)), (1, .int (l1 + 1))]) rfl ?_
  exact H2 (l1 + 1) μ3 e
set_option maxHeartbeats 1000000 in
theorem gX2_layPosts_24 {Z : hn_Z} {B : hn_B} {F : Nat} {R : hn_M} (hF : hn_F Z B (0, 0) cX2_layPosts 3 RX2 none 0) (hQ : hn_goal Z B (none, R)) (hV : hn_V B hn_nP) {k2 : Int32 → hn_M → Option hn_M} (H2 : ∀ (l1 : Int32) (μ : hn_M), k2 l1 μ = some R → hn_G Z B (0, 0) 3 2 [(0, .ref (hn_base B + 1)), (1, .int l1)] [] μ) {l1 : Int32} {s0 : Int32} {μ : hn_M} (e : fX2_layPosts_24 F k2 l1 s0 μ = some R) : hn_G Z B (0, 0) 3 24 [(0, .ref (hn_base B + 1)), (1, .int l1)] [.int s0] μ := by
  unfold fX2_layPosts_24 at e
  have a2 : hn_isA B 2 false 36 := hV 2 (by decide)
  have o1 : hn_isO B 1 2 hn_k1 := hV 1 (by decide)
  refine hn_istore_n hF dX2_layPosts_24 (q := 25) rfl (i := 2) rfl (by decide) (L' := [(2, .int s0), (0, .ref (hn_base B + 1)), (1, .int l1)]) rfl ?_
  refine hn_aload_n hF dX2_layPosts_25 (q := 26) rfl 1 rfl ?_
  refine hn_get hF fl_X2_18 o1 rfl rfl dX2_layPosts_26 (q := 29) rfl ?_
  refine hn_iload_n hF dX2_layPosts_29 (q := 30) rfl 2 rfl ?_
  refine hn_iload_n hF dX2_layPosts_30 (q := 31) rfl 0 rfl ?_
  refine hn_if_eq hF dX2_layPosts_31 (t := 38) (q := 34) rfl rfl e (fun e => ?_) (fun e => ?_)
  · refine hn_aload_n hF dX2_layPosts_38 (q := 39) rfl 1 rfl ?_
    refine hn_get hF fl_X2_9 o1 rfl rfl dX2_layPosts_39 (q := 42) rfl ?_
    refine hn_iload_n hF dX2_layPosts_42 (q := 43) rfl 2 rfl ?_
    refine hn_ald hF a2 dX2_layPosts_43 (q := 44) rfl e (fun v4 e => ?_)
    refine hn_if_le hF dX2_layPosts_44 (t := 56) (q := 47) rfl rfl e (fun e => ?_) (fun e => ?_)
    · refine hn_ldc hF kd_X2_31 dX2_layPosts_56 (q := 58) rfl ?_
      refine hn_sub [1, 2] (L' := [(0, .ref (hn_base B + 1)), (1, .int l1)]) rfl ?_
      exact gX2_layPosts_58 hF hQ hV H2 e
    · refine hn_aload_n hF dX2_layPosts_47 (q := 48) rfl 1 rfl ?_
      refine hn_get hF fl_X2_9 o1 rfl rfl dX2_layPosts_48 (q := 51) rfl ?_
      refine hn_iload_n hF dX2_layPosts_51 (q := 52) rfl 2 rfl ?_
      refine hn_ald hF a2 dX2_layPosts_52 (q := 53) rfl e (fun v5 e => ?_)
      refine hn_goto hF dX2_layPosts_53 (q := 58) rfl ?_
      refine hn_sub [1, 2] (L' := [(0, .ref (hn_base B + 1)), (1, .int l1)]) rfl ?_
      exact gX2_layPosts_58 hF hQ hV H2 e
  · refine hn_iconst hF dX2_layPosts_34 (q := 35) rfl ki_0 ?_
    refine hn_goto hF dX2_layPosts_35 (q := 58) rfl ?_
    refine hn_sub [1, 2] (L' := [(0, .ref (hn_base B + 1)), (1, .int l1)]) rfl ?_
    exact gX2_layPosts_58 hF hQ hV H2 e
set_option maxHeartbeats 1000000 in
theorem gX2_layPosts_2 {Z : hn_Z} {B : hn_B} {F : Nat} {R : hn_M} (hF : hn_F Z B (0, 0) cX2_layPosts 3 RX2 none 0) (hQ : hn_goal Z B (none, R)) (hV : hn_V B hn_nP) : ∀ (n : Nat) (l1 : Int32) (μ : hn_M), fX2_layPosts_2 F n l1 μ = some R → hn_G Z B (0, 0) 3 2 [(0, .ref (hn_base B + 1)), (1, .int l1)] [] μ := by
  intro n
  induction n with
  | zero => intro l1 μ e; rw [fX2_layPosts_2] at e; cases e
  | succ n ih =>
    intro l1 μ e
    rw [fX2_layPosts_2] at e
    refine hn_iload_n hF dX2_layPosts_2 (q := 3) rfl 1 rfl ?_
    refine hn_bipush hF dX2_layPosts_3 (q := 5) rfl kb_36 ?_
    refine hn_icmp_ge hF dX2_layPosts_5 (t := 77) (q := 8) rfl rfl e (fun e => ?_) (fun e => ?_)
    · exact hn_vretM hF hQ dX2_layPosts_77 e
    · refine hn_iload_n hF dX2_layPosts_8 (q := 9) rfl 1 rfl ?_
      refine hn_bipush hF dX2_layPosts_9 (q := 11) rfl kb_6 ?_
      refine hn_idiv hF dX2_layPosts_11 (q := 12) rfl kz_6 ?_
      refine hn_iload_n hF dX2_layPosts_12 (q := 13) rfl 1 rfl ?_
      refine hn_bipush hF dX2_layPosts_13 (q := 15) rfl kb_6 ?_
      refine hn_irem hF dX2_layPosts_15 (q := 16) rfl kz_6 ?_
      refine hn_icmp_ne hF dX2_layPosts_16 (t := 23) (q := 19) rfl rfl e (fun e => ?_) (fun e => ?_)
      · refine hn_iconst hF dX2_layPosts_23 (q := 24) rfl ki_0 ?_
        exact gX2_layPosts_24 hF hQ hV ih e
      · refine hn_iconst hF dX2_layPosts_19 (q := 20) rfl ki_1 ?_
        refine hn_goto hF dX2_layPosts_20 (q := 24) rfl ?_
        exact gX2_layPosts_24 hF hQ hV ih e
set_option maxHeartbeats 1000000 in
theorem gX2_layPosts {Z : hn_Z} {B : hn_B} {F : Nat} {R : hn_M} (hF : hn_F Z B (0, 0) cX2_layPosts 3 RX2 none 0) (hQ : hn_goal Z B (none, R)) (hV : hn_V B hn_nP) {μ : hn_M} (e : fX2_layPosts F μ = some R) : hn_G Z B (0, 0) 3 0 [(0, .ref (hn_base B + 1))] [] μ := by
  unfold fX2_layPosts at e
  refine hn_iconst hF dX2_layPosts_0 (q := 1) rfl ki_0 ?_
  refine hn_istore_n hF dX2_layPosts_1 (q := 2) rfl (i := 1) rfl (by decide) (L' := [(1, .int 0), (0, .ref (hn_base B + 1))]) rfl ?_
  refine hn_sub [1, 0] (L' := [(0, .ref (hn_base B + 1)), (1, .int 0)]) rfl ?_
  exact gX2_layPosts_2 hF hQ hV F 0 μ e
theorem cX2_layPosts_ {B : hn_B} {F : Nat} {μ : hn_M} {R : hn_M} (hV : hn_V B hn_nP) (e : fX2_layPosts F μ = some R) : hn_C yX2_layPosts cX2_layPosts 3 none 0 B [.ref (hn_base B + 1)] μ (none, R) :=
  hn_C.of RX2 (by decide) rfl (Nat.le_of_ble_eq_true rfl) (fun _ hF hQ => gX2_layPosts hF hQ hV e)
/-! HandNews$Posts.goThrough(III)V -/
def fX2_goThrough_102 (l4 : Int32) (l7 : Int32) (l8 : Int32) (μ : hn_M) : Option hn_M := hn_wr μ 4 36 l4 l7 fun μ1 => hn_wr μ1 5 36 l4 l8 fun μ2 => some μ2
def fX2_goThrough (l1 : Int32) (l2 : Int32) (l3 : Int32) (μ : hn_M) : Option hn_M := hn_rd μ 4 36 ((l1 * 6) + l2) fun v3 => hn_rd μ 4 36 ((l2 * 6) + l3) fun v4 => hn_rd μ 5 36 ((l1 * 6) + l2) fun v5 => hn_rd μ 5 36 ((l2 * 6) + l3) fun v6 => if v3 + v4 < 1000000 then hn_rd μ 4 36 ((l1 * 6) + l3) fun v7 => if v3 + v4 < v7 then fX2_goThrough_102 ((l1 * 6) + l3) (v3 + v4) (v5 + v6) μ else hn_rd μ 4 36 ((l1 * 6) + l3) fun v8 => if v3 + v4 = v8 then hn_rd μ 5 36 ((l1 * 6) + l3) fun v9 => if v5 + v6 ≤ v9 then some μ else fX2_goThrough_102 ((l1 * 6) + l3) (v3 + v4) (v5 + v6) μ else some μ else some μ
set_option maxHeartbeats 1000000 in
theorem gX2_goThrough_102 {Z : hn_Z} {B : hn_B} {R : hn_M} (hF : hn_F Z B (0, 0) cX2_goThrough 9 RX2 none 0) (hQ : hn_goal Z B (none, R)) (hV : hn_V B hn_nP) {l4 : Int32} {l7 : Int32} {l8 : Int32} {μ : hn_M} (e : fX2_goThrough_102 l4 l7 l8 μ = some R) : hn_G Z B (0, 0) 9 102 [(0, .ref (hn_base B + 1)), (4, .int l4), (7, .int l7), (8, .int l8)] [] μ := by
  unfold fX2_goThrough_102 at e
  have a4 : hn_isA B 4 false 36 := hV 4 (by decide)
  have a5 : hn_isA B 5 false 36 := hV 5 (by decide)
  have o1 : hn_isO B 1 2 hn_k1 := hV 1 (by decide)
  refine hn_aload_n hF dX2_goThrough_102 (q := 103) rfl 0 rfl ?_
  refine hn_get hF fl_X2_18 o1 rfl rfl dX2_goThrough_103 (q := 106) rfl ?_
  refine hn_iload hF dX2_goThrough_106 (q := 108) rfl 1 rfl ?_
  refine hn_iload hF dX2_goThrough_108 (q := 110) rfl 2 rfl ?_
  refine hn_ast hF a4 dX2_goThrough_110 (q := 111) rfl e (fun μ1 e => ?_)
  refine hn_aload_n hF dX2_goThrough_111 (q := 112) rfl 0 rfl ?_
  refine hn_get hF fl_X2_21 o1 rfl rfl dX2_goThrough_112 (q := 115) rfl ?_
  refine hn_iload hF dX2_goThrough_115 (q := 117) rfl 1 rfl ?_
  refine hn_iload hF dX2_goThrough_117 (q := 119) rfl 3 rfl ?_
  refine hn_ast hF a5 dX2_goThrough_119 (q := 120) rfl e (fun μ2 e => ?_)
  exact hn_vretM hF hQ dX2_goThrough_120 e
set_option maxHeartbeats 1000000 in
theorem gX2_goThrough {Z : hn_Z} {B : hn_B} {R : hn_M} (hF : hn_F Z B (0, 0) cX2_goThrough 9 RX2 none 0) (hQ : hn_goal Z B (none, R)) (hV : hn_V B hn_nP) {l1 : Int32} {l2 : Int32} {l3 : Int32} {μ : hn_M} (e : fX2_goThrough l1 l2 l3 μ = some R) : hn_G Z B (0, 0) 9 0 [(0, .ref (hn_base B + 1)), (1, .int l1), (2, .int l2), (3, .int l3)] [] μ := by
  unfold fX2_goThrough at e
  have a4 : hn_isA B 4 false 36 := hV 4 (by decide)
  have a5 : hn_isA B 5 false 36 := hV 5 (by decide)
  have o1 : hn_isO B 1 2 hn_k1 := hV 1 (by decide)
  refine hn_iload_n hF dX2_goThrough_0 (q := 1) rfl 1 rfl ?_
  refine hn_bipush hF dX2_goThrough_1 (q := 3) rfl kb_6 ?_
  refine hn_imul hF dX2_goThrough_3 (q := 4) rfl ?_
  refine hn_iload_n hF dX2_goThrough_4 (q := 5) rfl 3 rfl ?_
  refine hn_iadd hF dX2_goThrough_5 (q := 6) rfl ?_
  refine hn_istore hF dX2_goThrough_6 (q := 8) rfl (by decide) (L' := [(4, .int ((l1 * 6) + l3)), (0, .ref (hn_base B + 1)), (1, .int l1), (2, .int l2), (3, .int l3)]) rfl ?_
  refine hn_iload_n hF dX2_goThrough_8 (q := 9) rfl 2 rfl ?_
  refine hn_bipush hF dX2_goThrough_9 (q := 11) rfl kb_6 ?_
  refine hn_imul hF dX2_goThrough_11 (q := 12) rfl ?_
  refine hn_iload_n hF dX2_goThrough_12 (q := 13) rfl 3 rfl ?_
  refine hn_iadd hF dX2_goThrough_13 (q := 14) rfl ?_
  refine hn_istore hF dX2_goThrough_14 (q := 16) rfl (by decide) (L' := [(5, .int ((l1 * 6) + l2)), (4, .int ((l1 * 6) + l3)), (0, .ref (hn_base B + 1)), (1, .int l1), (2, .int l2), (3, .int l3)]) rfl ?_
  refine hn_iload_n hF dX2_goThrough_16 (q := 17) rfl 4 rfl ?_
  refine hn_bipush hF dX2_goThrough_17 (q := 19) rfl kb_6 ?_
  refine hn_imul hF dX2_goThrough_19 (q := 20) rfl ?_
  refine hn_iload_n hF dX2_goThrough_20 (q := 21) rfl 5 rfl ?_
  refine hn_iadd hF dX2_goThrough_21 (q := 22) rfl ?_
  refine hn_istore hF dX2_goThrough_22 (q := 24) rfl (by decide) (L' := [(6, .int ((l2 * 6) + l3)), (5, .int ((l1 * 6) + l2)), (4, .int ((l1 * 6) + l3)), (0, .ref (hn_base B + 1)), (1, .int l1), (2, .int l2), (3, .int l3)]) rfl ?_
  refine hn_aload_n hF dX2_goThrough_24 (q := 25) rfl 3 rfl ?_
  refine hn_get hF fl_X2_18 o1 rfl rfl dX2_goThrough_25 (q := 28) rfl ?_
  refine hn_iload hF dX2_goThrough_28 (q := 30) rfl 1 rfl ?_
  refine hn_ald hF a4 dX2_goThrough_30 (q := 31) rfl e (fun v3 e => ?_)
  refine hn_aload_n hF dX2_goThrough_31 (q := 32) rfl 3 rfl ?_
  refine hn_get hF fl_X2_18 o1 rfl rfl dX2_goThrough_32 (q := 35) rfl ?_
  refine hn_iload hF dX2_goThrough_35 (q := 37) rfl 0 rfl ?_
  refine hn_ald hF a4 dX2_goThrough_37 (q := 38) rfl e (fun v4 e => ?_)
  refine hn_iadd hF dX2_goThrough_38 (q := 39) rfl ?_
  refine hn_istore hF dX2_goThrough_39 (q := 41) rfl (by decide) (L' := [(7, .int (v3 + v4)), (6, .int ((l2 * 6) + l3)), (5, .int ((l1 * 6) + l2)), (4, .int ((l1 * 6) + l3)), (0, .ref (hn_base B + 1)), (1, .int l1), (2, .int l2), (3, .int l3)]) rfl ?_
  refine hn_aload_n hF dX2_goThrough_41 (q := 42) rfl 4 rfl ?_
  refine hn_get hF fl_X2_21 o1 rfl rfl dX2_goThrough_42 (q := 45) rfl ?_
  refine hn_iload hF dX2_goThrough_45 (q := 47) rfl 2 rfl ?_
  refine hn_ald hF a5 dX2_goThrough_47 (q := 48) rfl e (fun v5 e => ?_)
  refine hn_aload_n hF dX2_goThrough_48 (q := 49) rfl 4 rfl ?_
  refine hn_get hF fl_X2_21 o1 rfl rfl dX2_goThrough_49 (q := 52) rfl ?_
  refine hn_iload hF dX2_goThrough_52 (q := 54) rfl 1 rfl ?_
  refine hn_ald hF a5 dX2_goThrough_54 (q := 55) rfl e (fun v6 e => ?_)
  refine hn_iadd hF dX2_goThrough_55 (q := 56) rfl ?_
  refine hn_istore hF dX2_goThrough_56 (q := 58) rfl (by decide) (L' := [(8, .int (v5 + v6)), (7, .int (v3 + v4)), (6, .int ((l2 * 6) + l3)), (5, .int ((l1 * 6) + l2)), (4, .int ((l1 * 6) + l3)), (0, .ref (hn_base B + 1)), (1, .int l1), (2, .int l2), (3, .int l3)]) rfl ?_
  refine hn_iload hF dX2_goThrough_58 (q := 60) rfl 1 rfl ?_
  refine hn_ldc hF kd_X2_31 dX2_goThrough_60 (q := 62) rfl ?_
  refine hn_icmp_lt hF dX2_goThrough_62 (t := 66) (q := 65) rfl rfl e (fun e => ?_) (fun e => ?_)
  · refine hn_iload hF dX2_goThrough_66 (q := 68) rfl 1 rfl ?_
    refine hn_aload_n hF dX2_goThrough_68 (q := 69) rfl 5 rfl ?_
    refine hn_get hF fl_X2_18 o1 rfl rfl dX2_goThrough_69 (q := 72) rfl ?_
    refine hn_iload hF dX2_goThrough_72 (q := 74) rfl 4 rfl ?_
    refine hn_ald hF a4 dX2_goThrough_74 (q := 75) rfl e (fun v7 e => ?_)
    refine hn_icmp_lt hF dX2_goThrough_75 (t := 102) (q := 78) rfl rfl e (fun e => ?_) (fun e => ?_)
    · refine hn_sub [5, 4, 1, 0] (L' := [(0, .ref (hn_base B + 1)), (4, .int ((l1 * 6) + l3)), (7, .int (v3 + v4)), (8, .int (v5 + v6))]) rfl ?_
      exact gX2_goThrough_102 hF hQ hV e
    · refine hn_iload hF dX2_goThrough_78 (q := 80) rfl 1 rfl ?_
      refine hn_aload_n hF dX2_goThrough_80 (q := 81) rfl 5 rfl ?_
      refine hn_get hF fl_X2_18 o1 rfl rfl dX2_goThrough_81 (q := 84) rfl ?_
      refine hn_iload hF dX2_goThrough_84 (q := 86) rfl 4 rfl ?_
      refine hn_ald hF a4 dX2_goThrough_86 (q := 87) rfl e (fun v8 e => ?_)
      refine hn_icmp_ne hF dX2_goThrough_87 (t := 120) (q := 90) rfl rfl e (fun e => ?_) (fun e => ?_)
      · exact hn_vretM hF hQ dX2_goThrough_120 e
      · refine hn_iload hF dX2_goThrough_90 (q := 92) rfl 0 rfl ?_
        refine hn_aload_n hF dX2_goThrough_92 (q := 93) rfl 5 rfl ?_
        refine hn_get hF fl_X2_21 o1 rfl rfl dX2_goThrough_93 (q := 96) rfl ?_
        refine hn_iload hF dX2_goThrough_96 (q := 98) rfl 4 rfl ?_
        refine hn_ald hF a5 dX2_goThrough_98 (q := 99) rfl e (fun v9 e => ?_)
        refine hn_icmp_le hF dX2_goThrough_99 (t := 120) (q := 102) rfl rfl e (fun e => ?_) (fun e => ?_)
        · exact hn_vretM hF hQ dX2_goThrough_120 e
        · refine hn_sub [5, 4, 1, 0] (L' := [(0, .ref (hn_base B + 1)), (4, .int ((l1 * 6) + l3)), (7, .int (v3 + v4)), (8, .int (v5 + v6))]) rfl ?_
          exact gX2_goThrough_102 hF hQ hV e
  · exact hn_vretM hF hQ dX2_goThrough_65 e
theorem cX2_goThrough_ {B : hn_B} {μ : hn_M} {R : hn_M} {l1 : Int32} {l2 : Int32} {l3 : Int32} (hV : hn_V B hn_nP) (e : fX2_goThrough l1 l2 l3 μ = some R) : hn_C yX2_goThrough cX2_goThrough 9 none 0 B [.ref (hn_base B + 1), .int l1, .int l2, .int l3] μ (none, R) :=
  hn_C.of RX2 (by decide) rfl (Nat.le_of_ble_eq_true rfl) (fun _ hF hQ => gX2_goThrough hF hQ hV e)
/-! HandNews$Posts.reckon()V -/
def fX2_reckon_41 (F : Nat) (k6 : Int32 → hn_M → Option hn_M) (k14 : Int32 → Int32 → hn_M → Option hn_M) (l1 : Int32) (l2 : Int32) (μ : hn_M) : Option hn_M := k14 l1 (l2 + 1) μ
def fX2_reckon_22 (F : Nat) (k6 : Int32 → hn_M → Option hn_M) (k14 : Int32 → Int32 → hn_M → Option hn_M) : Nat → Int32 → Int32 → Int32 → hn_M → Option hn_M
  | 0, _, _, _, _ => none
  | n + 1, l1, l2, l3, μ => if 6 ≤ l3 then fX2_reckon_41 F k6 k14 l1 l2 μ else (fX2_goThrough l2 l1 l3 μ).bind fun μ1 => fX2_reckon_22 F k6 k14 n l1 l2 (l3 + 1) μ1
def fX2_reckon_47 (F : Nat) (k6 : Int32 → hn_M → Option hn_M) (l1 : Int32) (μ : hn_M) : Option hn_M := k6 (l1 + 1) μ
def fX2_reckon_14 (F : Nat) (k6 : Int32 → hn_M → Option hn_M) : Nat → Int32 → Int32 → hn_M → Option hn_M
  | 0, _, _, _ => none
  | n + 1, l1, l2, μ => if 6 ≤ l2 then fX2_reckon_47 F k6 l1 μ else fX2_reckon_22 F k6 (fX2_reckon_14 F k6 n) F l1 l2 0 μ
def fX2_reckon_6 (F : Nat) : Nat → Int32 → hn_M → Option hn_M
  | 0, _, _ => none
  | n + 1, l1, μ => if 6 ≤ l1 then some μ else fX2_reckon_14 F (fX2_reckon_6 F n) F l1 0 μ
def fX2_reckon (F : Nat) (μ : hn_M) : Option hn_M := (fX2_layPosts F μ).bind fun μ2 => fX2_reckon_6 F F 0 μ2
set_option maxHeartbeats 1000000 in
theorem gX2_reckon_41 {Z : hn_Z} {B : hn_B} {F : Nat} {R : hn_M} (hF : hn_F Z B (0, 0) cX2_reckon 4 RX2 none 1) (hQ : hn_goal Z B (none, R)) (hV : hn_V B hn_nP) {k6 : Int32 → hn_M → Option hn_M} (H6 : ∀ (l1 : Int32) (μ : hn_M), k6 l1 μ = some R → hn_G Z B (0, 0) 4 6 [(0, .ref (hn_base B + 1)), (1, .int l1)] [] μ) {k14 : Int32 → Int32 → hn_M → Option hn_M} (H14 : ∀ (l1 : Int32) (l2 : Int32) (μ : hn_M), k14 l1 l2 μ = some R → hn_G Z B (0, 0) 4 14 [(0, .ref (hn_base B + 1)), (1, .int l1), (2, .int l2)] [] μ) {l1 : Int32} {l2 : Int32} {μ : hn_M} (e : fX2_reckon_41 F k6 k14 l1 l2 μ = some R) : hn_G Z B (0, 0) 4 41 [(0, .ref (hn_base B + 1)), (1, .int l1), (2, .int l2)] [] μ := by
  unfold fX2_reckon_41 at e
  refine hn_iinc (p := 2) hF dX2_reckon_41 (q := 44) rfl rfl (kn_1 _) (by decide) (L' := [(2, .int (l2 + 1)), (0, .ref (hn_base B + 1)), (1, .int l1)]) rfl ?_
  refine hn_goto hF dX2_reckon_44 (q := 14) rfl ?_
  refine hn_sub [1, 2, 0] (L' := [(0, .ref (hn_base B + 1)), (1, .int l1), (2, .int (l2 + 1))]) rfl ?_
  exact H14 l1 (l2 + 1) μ e
set_option maxHeartbeats 1000000 in
theorem gX2_reckon_22 {Z : hn_Z} {B : hn_B} {F : Nat} {R : hn_M} (hF : hn_F Z B (0, 0) cX2_reckon 4 RX2 none 1) (hQ : hn_goal Z B (none, R)) (hV : hn_V B hn_nP) {k6 : Int32 → hn_M → Option hn_M} (H6 : ∀ (l1 : Int32) (μ : hn_M), k6 l1 μ = some R → hn_G Z B (0, 0) 4 6 [(0, .ref (hn_base B + 1)), (1, .int l1)] [] μ) {k14 : Int32 → Int32 → hn_M → Option hn_M} (H14 : ∀ (l1 : Int32) (l2 : Int32) (μ : hn_M), k14 l1 l2 μ = some R → hn_G Z B (0, 0) 4 14 [(0, .ref (hn_base B + 1)), (1, .int l1), (2, .int l2)] [] μ) : ∀ (n : Nat) (l1 : Int32) (l2 : Int32) (l3 : Int32) (μ : hn_M), fX2_reckon_22 F k6 k14 n l1 l2 l3 μ = some R → hn_G Z B (0, 0) 4 22 [(0, .ref (hn_base B + 1)), (1, .int l1), (2, .int l2), (3, .int l3)] [] μ := by
  have o1 : hn_isO B 1 2 hn_k1 := hV 1 (by decide)
  intro n
  induction n with
  | zero => intro l1 l2 l3 μ e; rw [fX2_reckon_22] at e; cases e
  | succ n ih =>
    intro l1 l2 l3 μ e
    rw [fX2_reckon_22] at e
    refine hn_iload_n hF dX2_reckon_22 (q := 23) rfl 3 rfl ?_
    refine hn_bipush hF dX2_reckon_23 (q := 25) rfl kb_6 ?_
    refine hn_icmp_ge hF dX2_reckon_25 (t := 41) (q := 28) rfl rfl e (fun e => ?_) (fun e => ?_)
    · refine hn_sub [0, 1, 2] (L' := [(0, .ref (hn_base B + 1)), (1, .int l1), (2, .int l2)]) rfl ?_
      exact gX2_reckon_41 hF hQ hV H6 H14 e
    · refine hn_aload_n hF dX2_reckon_28 (q := 29) rfl 0 rfl ?_
      refine hn_iload_n hF dX2_reckon_29 (q := 30) rfl 2 rfl ?_
      refine hn_iload_n hF dX2_reckon_30 (q := 31) rfl 1 rfl ?_
      refine hn_iload_n hF dX2_reckon_31 (q := 32) rfl 3 rfl ?_
      refine hn_callVv (rest := []) hF ms_X2_goThrough mv_X2_goThrough lk_X2_35 o1 rfl (by decide) [.int l2, .int l1, .int l3] rfl (Nat.le_of_ble_eq_true rfl) dX2_reckon_32 (q := 35) rfl rfl e (fun v hv => cX2_goThrough_ hV hv) (fun μ1 e => ?_)
      refine hn_iinc (p := 3) hF dX2_reckon_35 (q := 38) rfl rfl (kn_1 _) (by decide) (L' := [(3, .int (l3 + 1)), (0, .ref (hn_base B + 1)), (1, .int l1), (2, .int l2)]) rfl ?_
      refine hn_goto hF dX2_reckon_38 (q := 22) rfl ?_
      refine hn_sub [1, 2, 3, 0] (L' := [(0, .ref (hn_base B + 1)), (1, .int l1), (2, .int l2), (3, .int (l3 + 1))]) rfl ?_
      exact ih l1 l2 (l3 + 1) μ1 e
set_option maxHeartbeats 1000000 in
theorem gX2_reckon_47 {Z : hn_Z} {B : hn_B} {F : Nat} {R : hn_M} (hF : hn_F Z B (0, 0) cX2_reckon 4 RX2 none 1) (hQ : hn_goal Z B (none, R)) (hV : hn_V B hn_nP) {k6 : Int32 → hn_M → Option hn_M} (H6 : ∀ (l1 : Int32) (μ : hn_M), k6 l1 μ = some R → hn_G Z B (0, 0) 4 6 [(0, .ref (hn_base B + 1)), (1, .int l1)] [] μ) {l1 : Int32} {μ : hn_M} (e : fX2_reckon_47 F k6 l1 μ = some R) : hn_G Z B (0, 0) 4 47 [(0, .ref (hn_base B + 1)), (1, .int l1)] [] μ := by
  unfold fX2_reckon_47 at e
  refine hn_iinc (p := 1) hF dX2_reckon_47 (q := 50) rfl rfl (kn_1 _) (by decide) (L' := [(1, .int (l1 + 1)), (0, .ref (hn_base B + 1))]) rfl ?_
  refine hn_goto hF dX2_reckon_50 (q := 6) rfl ?_
  refine hn_sub [1, 0] (L' := [(0, .ref (hn_base B + 1)), (1, .int (l1 + 1))]) rfl ?_
  exact H6 (l1 + 1) μ e
set_option maxHeartbeats 1000000 in
theorem gX2_reckon_14 {Z : hn_Z} {B : hn_B} {F : Nat} {R : hn_M} (hF : hn_F Z B (0, 0) cX2_reckon 4 RX2 none 1) (hQ : hn_goal Z B (none, R)) (hV : hn_V B hn_nP) {k6 : Int32 → hn_M → Option hn_M} (H6 : ∀ (l1 : Int32) (μ : hn_M), k6 l1 μ = some R → hn_G Z B (0, 0) 4 6 [(0, .ref (hn_base B + 1)), (1, .int l1)] [] μ) : ∀ (n : Nat) (l1 : Int32) (l2 : Int32) (μ : hn_M), fX2_reckon_14 F k6 n l1 l2 μ = some R → hn_G Z B (0, 0) 4 14 [(0, .ref (hn_base B + 1)), (1, .int l1), (2, .int l2)] [] μ := by
  intro n
  induction n with
  | zero => intro l1 l2 μ e; rw [fX2_reckon_14] at e; cases e
  | succ n ih =>
    intro l1 l2 μ e
    rw [fX2_reckon_14] at e
    refine hn_iload_n hF dX2_reckon_14 (q := 15) rfl 2 rfl ?_
    refine hn_bipush hF dX2_reckon_15 (q := 17) rfl kb_6 ?_
    refine hn_icmp_ge hF dX2_reckon_17 (t := 47) (q := 20) rfl rfl e (fun e => ?_) (fun e => ?_)
    · refine hn_sub [0, 1] (L' := [(0, .ref (hn_base B + 1)), (1, .int l1)]) rfl ?_
      exact gX2_reckon_47 hF hQ hV H6 e
    · refine hn_iconst hF dX2_reckon_20 (q := 21) rfl ki_0 ?_
      refine hn_istore_n hF dX2_reckon_21 (q := 22) rfl (i := 3) rfl (by decide) (L' := [(3, .int 0), (0, .ref (hn_base B + 1)), (1, .int l1), (2, .int l2)]) rfl ?_
      refine hn_sub [1, 2, 3, 0] (L' := [(0, .ref (hn_base B + 1)), (1, .int l1), (2, .int l2), (3, .int 0)]) rfl ?_
      exact gX2_reckon_22 hF hQ hV H6 ih F l1 l2 0 μ e
set_option maxHeartbeats 1000000 in
theorem gX2_reckon_6 {Z : hn_Z} {B : hn_B} {F : Nat} {R : hn_M} (hF : hn_F Z B (0, 0) cX2_reckon 4 RX2 none 1) (hQ : hn_goal Z B (none, R)) (hV : hn_V B hn_nP) : ∀ (n : Nat) (l1 : Int32) (μ : hn_M), fX2_reckon_6 F n l1 μ = some R → hn_G Z B (0, 0) 4 6 [(0, .ref (hn_base B + 1)), (1, .int l1)] [] μ := by
  intro n
  induction n with
  | zero => intro l1 μ e; rw [fX2_reckon_6] at e; cases e
  | succ n ih =>
    intro l1 μ e
    rw [fX2_reckon_6] at e
    refine hn_iload_n hF dX2_reckon_6 (q := 7) rfl 1 rfl ?_
    refine hn_bipush hF dX2_reckon_7 (q := 9) rfl kb_6 ?_
    refine hn_icmp_ge hF dX2_reckon_9 (t := 53) (q := 12) rfl rfl e (fun e => ?_) (fun e => ?_)
    · exact hn_vretM hF hQ dX2_reckon_53 e
    · refine hn_iconst hF dX2_reckon_12 (q := 13) rfl ki_0 ?_
      refine hn_istore_n hF dX2_reckon_13 (q := 14) rfl (i := 2) rfl (by decide) (L' := [(2, .int 0), (0, .ref (hn_base B + 1)), (1, .int l1)]) rfl ?_
      refine hn_sub [1, 2, 0] (L' := [(0, .ref (hn_base B + 1)), (1, .int l1), (2, .int 0)]) rfl ?_
      exact gX2_reckon_14 hF hQ hV ih F l1 0 μ e
set_option maxHeartbeats 1000000 in
theorem gX2_reckon {Z : hn_Z} {B : hn_B} {F : Nat} {R : hn_M} (hF : hn_F Z B (0, 0) cX2_reckon 4 RX2 none 1) (hQ : hn_goal Z B (none, R)) (hV : hn_V B hn_nP) {μ : hn_M} (e : fX2_reckon F μ = some R) : hn_G Z B (0, 0) 4 0 [(0, .ref (hn_base B + 1))] [] μ := by
  unfold fX2_reckon at e
  have o1 : hn_isO B 1 2 hn_k1 := hV 1 (by decide)
  refine hn_aload_n hF dX2_reckon_0 (q := 1) rfl 0 rfl ?_
  refine hn_callVv (rest := []) hF ms_X2_layPosts mv_X2_layPosts lk_X2_32 o1 rfl (by decide) [] rfl (Nat.le_of_ble_eq_true rfl) dX2_reckon_1 (q := 4) rfl rfl e (fun v hv => cX2_layPosts_ hV hv) (fun μ2 e => ?_)
  refine hn_iconst hF dX2_reckon_4 (q := 5) rfl ki_0 ?_
  refine hn_istore_n hF dX2_reckon_5 (q := 6) rfl (i := 1) rfl (by decide) (L' := [(1, .int 0), (0, .ref (hn_base B + 1))]) rfl ?_
  refine hn_sub [1, 0] (L' := [(0, .ref (hn_base B + 1)), (1, .int 0)]) rfl ?_
  exact gX2_reckon_6 hF hQ hV F 0 μ2 e
theorem cX2_reckon_ {B : hn_B} {F : Nat} {μ : hn_M} {R : hn_M} (hV : hn_V B hn_nP) (e : fX2_reckon F μ = some R) : hn_C yX2_reckon cX2_reckon 4 none 1 B [.ref (hn_base B + 1)] μ (none, R) :=
  hn_C.of RX2 (by decide) rfl (Nat.le_of_ble_eq_true rfl) (fun _ hF hQ => gX2_reckon hF hQ hV e)
/-! HandNews$Posts.tell(IIII)V -/
def fX2_tell_28 (F : Nat) (l3 : Int32) (l4 : Int32) (l5 : Int32) (μ : hn_M) : Option hn_M := hn_wr μ 2 36 l5 l3 fun μ1 => hn_wr μ1 3 36 l5 l4 fun μ2 => (fX2_reckon F μ2).bind fun μ3 => some μ3
def fX2_tell (F : Nat) (l1 : Int32) (l2 : Int32) (l3 : Int32) (l4 : Int32) (μ : hn_M) : Option hn_M := hn_rd μ 2 36 ((l1 * 6) + l2) fun v4 => if v4 = 0 then hn_pf μ 1 4 ((μ 1 4) + 1) fun μ5 => fX2_tell_28 F l3 l4 ((l1 * 6) + l2) μ5 else fX2_tell_28 F l3 l4 ((l1 * 6) + l2) μ
set_option maxHeartbeats 1000000 in
theorem gX2_tell_28 {Z : hn_Z} {B : hn_B} {F : Nat} {R : hn_M} (hF : hn_F Z B (0, 0) cX2_tell 6 RX2 none 2) (hQ : hn_goal Z B (none, R)) (hV : hn_V B hn_nP) {l3 : Int32} {l4 : Int32} {l5 : Int32} {μ : hn_M} (e : fX2_tell_28 F l3 l4 l5 μ = some R) : hn_G Z B (0, 0) 6 28 [(0, .ref (hn_base B + 1)), (3, .int l3), (4, .int l4), (5, .int l5)] [] μ := by
  unfold fX2_tell_28 at e
  have a2 : hn_isA B 2 false 36 := hV 2 (by decide)
  have a3 : hn_isA B 3 false 36 := hV 3 (by decide)
  have o1 : hn_isO B 1 2 hn_k1 := hV 1 (by decide)
  refine hn_aload_n hF dX2_tell_28 (q := 29) rfl 0 rfl ?_
  refine hn_get hF fl_X2_9 o1 rfl rfl dX2_tell_29 (q := 32) rfl ?_
  refine hn_iload hF dX2_tell_32 (q := 34) rfl 3 rfl ?_
  refine hn_iload_n hF dX2_tell_34 (q := 35) rfl 1 rfl ?_
  refine hn_ast hF a2 dX2_tell_35 (q := 36) rfl e (fun μ1 e => ?_)
  refine hn_aload_n hF dX2_tell_36 (q := 37) rfl 0 rfl ?_
  refine hn_get hF fl_X2_15 o1 rfl rfl dX2_tell_37 (q := 40) rfl ?_
  refine hn_iload hF dX2_tell_40 (q := 42) rfl 3 rfl ?_
  refine hn_iload hF dX2_tell_42 (q := 44) rfl 2 rfl ?_
  refine hn_ast hF a3 dX2_tell_44 (q := 45) rfl e (fun μ2 e => ?_)
  refine hn_aload_n hF dX2_tell_45 (q := 46) rfl 0 rfl ?_
  refine hn_callVv (rest := []) hF ms_X2_reckon mv_X2_reckon lk_X2_28 o1 rfl (by decide) [] rfl (Nat.le_of_ble_eq_true rfl) dX2_tell_46 (q := 49) rfl rfl e (fun v hv => cX2_reckon_ hV hv) (fun μ3 e => ?_)
  exact hn_vretM hF hQ dX2_tell_49 e
set_option maxHeartbeats 1000000 in
theorem gX2_tell {Z : hn_Z} {B : hn_B} {F : Nat} {R : hn_M} (hF : hn_F Z B (0, 0) cX2_tell 6 RX2 none 2) (hQ : hn_goal Z B (none, R)) (hV : hn_V B hn_nP) {l1 : Int32} {l2 : Int32} {l3 : Int32} {l4 : Int32} {μ : hn_M} (e : fX2_tell F l1 l2 l3 l4 μ = some R) : hn_G Z B (0, 0) 6 0 [(0, .ref (hn_base B + 1)), (1, .int l1), (2, .int l2), (3, .int l3), (4, .int l4)] [] μ := by
  unfold fX2_tell at e
  have a2 : hn_isA B 2 false 36 := hV 2 (by decide)
  have o1 : hn_isO B 1 2 hn_k1 := hV 1 (by decide)
  refine hn_iload_n hF dX2_tell_0 (q := 1) rfl 1 rfl ?_
  refine hn_bipush hF dX2_tell_1 (q := 3) rfl kb_6 ?_
  refine hn_imul hF dX2_tell_3 (q := 4) rfl ?_
  refine hn_iload_n hF dX2_tell_4 (q := 5) rfl 2 rfl ?_
  refine hn_iadd hF dX2_tell_5 (q := 6) rfl ?_
  refine hn_istore hF dX2_tell_6 (q := 8) rfl (by decide) (L' := [(5, .int ((l1 * 6) + l2)), (0, .ref (hn_base B + 1)), (1, .int l1), (2, .int l2), (3, .int l3), (4, .int l4)]) rfl ?_
  refine hn_aload_n hF dX2_tell_8 (q := 9) rfl 1 rfl ?_
  refine hn_get hF fl_X2_9 o1 rfl rfl dX2_tell_9 (q := 12) rfl ?_
  refine hn_iload hF dX2_tell_12 (q := 14) rfl 0 rfl ?_
  refine hn_ald hF a2 dX2_tell_14 (q := 15) rfl e (fun v4 e => ?_)
  refine hn_if_ne hF dX2_tell_15 (t := 28) (q := 18) rfl rfl e (fun e => ?_) (fun e => ?_)
  · refine hn_sub [1, 4, 5, 0] (L' := [(0, .ref (hn_base B + 1)), (3, .int l3), (4, .int l4), (5, .int ((l1 * 6) + l2))]) rfl ?_
    exact gX2_tell_28 hF hQ hV e
  · refine hn_aload_n hF dX2_tell_18 (q := 19) rfl 1 rfl ?_
    refine hn_dup hF dX2_tell_19 (q := 20) rfl rfl ?_
    refine hn_get hF fl_X2_24 o1 rfl rfl dX2_tell_20 (q := 23) rfl ?_
    refine hn_iconst hF dX2_tell_23 (q := 24) rfl ki_1 ?_
    refine hn_iadd hF dX2_tell_24 (q := 25) rfl ?_
    refine hn_put hF fl_X2_24 fp_X2_4 o1 rfl rfl rfl rfl dX2_tell_25 (q := 28) rfl e (fun μ5 e => ?_)
    refine hn_sub [1, 4, 5, 0] (L' := [(0, .ref (hn_base B + 1)), (3, .int l3), (4, .int l4), (5, .int ((l1 * 6) + l2))]) rfl ?_
    exact gX2_tell_28 hF hQ hV e
theorem cX2_tell_ {B : hn_B} {F : Nat} {μ : hn_M} {R : hn_M} {l1 : Int32} {l2 : Int32} {l3 : Int32} {l4 : Int32} (hV : hn_V B hn_nP) (e : fX2_tell F l1 l2 l3 l4 μ = some R) : hn_C yX2_tell cX2_tell 6 none 2 B [.ref (hn_base B + 1), .int l1, .int l2, .int l3, .int l4] μ (none, R) :=
  hn_C.of RX2 (by decide) rfl (Nat.le_of_ble_eq_true rfl) (fun _ hF hQ => gX2_tell hF hQ hV e)
/-! HandNews$Posts.leads(II)Z -/
def fX2_leads (μ : hn_M) (l1 : Int32) (l2 : Int32) : Option Int32 := hn_rd μ 4 36 ((l1 * 6) + l2) fun v1 => if 1000000 ≤ v1 then some 0 else some 1
set_option maxHeartbeats 1000000 in
theorem gX2_leads {Z : hn_Z} {B : hn_B} {μ : hn_M} {R : Int32} (hF : hn_F Z B (0, 0) cX2_leads 3 RX2 (some .boolean) 0) (hQ : hn_goal Z B (some (.int R), μ)) (hV : hn_V B hn_nP) {l1 : Int32} {l2 : Int32} (e : fX2_leads μ l1 l2 = some R) : hn_G Z B (0, 0) 3 0 [(0, .ref (hn_base B + 1)), (1, .int l1), (2, .int l2)] [] μ := by
  unfold fX2_leads at e
  have a4 : hn_isA B 4 false 36 := hV 4 (by decide)
  have o1 : hn_isO B 1 2 hn_k1 := hV 1 (by decide)
  refine hn_aload_n hF dX2_leads_0 (q := 1) rfl 0 rfl ?_
  refine hn_get hF fl_X2_18 o1 rfl rfl dX2_leads_1 (q := 4) rfl ?_
  refine hn_iload_n hF dX2_leads_4 (q := 5) rfl 1 rfl ?_
  refine hn_bipush hF dX2_leads_5 (q := 7) rfl kb_6 ?_
  refine hn_imul hF dX2_leads_7 (q := 8) rfl ?_
  refine hn_iload_n hF dX2_leads_8 (q := 9) rfl 2 rfl ?_
  refine hn_iadd hF dX2_leads_9 (q := 10) rfl ?_
  refine hn_ald hF a4 dX2_leads_10 (q := 11) rfl e (fun v1 e => ?_)
  refine hn_ldc hF kd_X2_31 dX2_leads_11 (q := 13) rfl ?_
  refine hn_icmp_ge hF dX2_leads_13 (t := 20) (q := 16) rfl rfl e (fun e => ?_) (fun e => ?_)
  · refine hn_iconst hF dX2_leads_20 (q := 21) rfl ki_0 ?_
    exact hn_zretP hF hQ dX2_leads_21 (Or.inl rfl) e
  · refine hn_iconst hF dX2_leads_16 (q := 17) rfl ki_1 ?_
    refine hn_goto hF dX2_leads_17 (q := 21) rfl ?_
    exact hn_zretP hF hQ dX2_leads_21 (Or.inr rfl) e
theorem cX2_leads_ {B : hn_B} {μ : hn_M} {R : Int32} {l1 : Int32} {l2 : Int32} (hV : hn_V B hn_nP) (e : fX2_leads μ l1 l2 = some R) : hn_C yX2_leads cX2_leads 3 (some .boolean) 0 B [.ref (hn_base B + 1), .int l1, .int l2] μ (some (.int R), μ) :=
  hn_C.of RX2 (by decide) rfl (Nat.le_of_ble_eq_true rfl) (fun _ hF hQ => gX2_leads hF hQ hV e)
/-! HandNews$Posts.days(II)I -/
def fX2_days (μ : hn_M) (l1 : Int32) (l2 : Int32) : Option Int32 := hn_rd μ 4 36 ((l1 * 6) + l2) fun v1 => some v1
set_option maxHeartbeats 1000000 in
theorem gX2_days {Z : hn_Z} {B : hn_B} {μ : hn_M} {R : Int32} (hF : hn_F Z B (0, 0) cX2_days 3 RX2 (some .int) 0) (hQ : hn_goal Z B (some (.int R), μ)) (hV : hn_V B hn_nP) {l1 : Int32} {l2 : Int32} (e : fX2_days μ l1 l2 = some R) : hn_G Z B (0, 0) 3 0 [(0, .ref (hn_base B + 1)), (1, .int l1), (2, .int l2)] [] μ := by
  unfold fX2_days at e
  have a4 : hn_isA B 4 false 36 := hV 4 (by decide)
  have o1 : hn_isO B 1 2 hn_k1 := hV 1 (by decide)
  refine hn_aload_n hF dX2_days_0 (q := 1) rfl 0 rfl ?_
  refine hn_get hF fl_X2_18 o1 rfl rfl dX2_days_1 (q := 4) rfl ?_
  refine hn_iload_n hF dX2_days_4 (q := 5) rfl 1 rfl ?_
  refine hn_bipush hF dX2_days_5 (q := 7) rfl kb_6 ?_
  refine hn_imul hF dX2_days_7 (q := 8) rfl ?_
  refine hn_iload_n hF dX2_days_8 (q := 9) rfl 2 rfl ?_
  refine hn_iadd hF dX2_days_9 (q := 10) rfl ?_
  refine hn_ald hF a4 dX2_days_10 (q := 11) rfl e (fun v1 e => ?_)
  exact hn_iretP hF hQ dX2_days_11 e
theorem cX2_days_ {B : hn_B} {μ : hn_M} {R : Int32} {l1 : Int32} {l2 : Int32} (hV : hn_V B hn_nP) (e : fX2_days μ l1 l2 = some R) : hn_C yX2_days cX2_days 3 (some .int) 0 B [.ref (hn_base B + 1), .int l1, .int l2] μ (some (.int R), μ) :=
  hn_C.of RX2 (by decide) rfl (Nat.le_of_ble_eq_true rfl) (fun _ hF hQ => gX2_days hF hQ hV e)
/-! HandNews$Posts.slowestDays(II)I -/
def fX2_slowestDays (μ : hn_M) (l1 : Int32) (l2 : Int32) : Option Int32 := hn_rd μ 5 36 ((l1 * 6) + l2) fun v1 => some v1
set_option maxHeartbeats 1000000 in
theorem gX2_slowestDays {Z : hn_Z} {B : hn_B} {μ : hn_M} {R : Int32} (hF : hn_F Z B (0, 0) cX2_slowestDays 3 RX2 (some .int) 0) (hQ : hn_goal Z B (some (.int R), μ)) (hV : hn_V B hn_nP) {l1 : Int32} {l2 : Int32} (e : fX2_slowestDays μ l1 l2 = some R) : hn_G Z B (0, 0) 3 0 [(0, .ref (hn_base B + 1)), (1, .int l1), (2, .int l2)] [] μ := by
  unfold fX2_slowestDays at e
  have a5 : hn_isA B 5 false 36 := hV 5 (by decide)
  have o1 : hn_isO B 1 2 hn_k1 := hV 1 (by decide)
  refine hn_aload_n hF dX2_slowestDays_0 (q := 1) rfl 0 rfl ?_
  refine hn_get hF fl_X2_21 o1 rfl rfl dX2_slowestDays_1 (q := 4) rfl ?_
  refine hn_iload_n hF dX2_slowestDays_4 (q := 5) rfl 1 rfl ?_
  refine hn_bipush hF dX2_slowestDays_5 (q := 7) rfl kb_6 ?_
  refine hn_imul hF dX2_slowestDays_7 (q := 8) rfl ?_
  refine hn_iload_n hF dX2_slowestDays_8 (q := 9) rfl 2 rfl ?_
  refine hn_iadd hF dX2_slowestDays_9 (q := 10) rfl ?_
  refine hn_ald hF a5 dX2_slowestDays_10 (q := 11) rfl e (fun v1 e => ?_)
  exact hn_iretP hF hQ dX2_slowestDays_11 e
theorem cX2_slowestDays_ {B : hn_B} {μ : hn_M} {R : Int32} {l1 : Int32} {l2 : Int32} (hV : hn_V B hn_nP) (e : fX2_slowestDays μ l1 l2 = some R) : hn_C yX2_slowestDays cX2_slowestDays 3 (some .int) 0 B [.ref (hn_base B + 1), .int l1, .int l2] μ (some (.int R), μ) :=
  hn_C.of RX2 (by decide) rfl (Nat.le_of_ble_eq_true rfl) (fun _ hF hQ => gX2_slowestDays hF hQ hV e)
