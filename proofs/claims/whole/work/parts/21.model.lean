/-! HandNewsModel.layWays()V -/
def fX8_layWays_65 (F : Nat) (k2 : Int32 → hn_M → Option hn_M) (k10 : Int32 → Int32 → hn_M → Option hn_M) (l1 : Int32) (l2 : Int32) (s0 : Int32) (s1 : Int32) (μ : hn_M) : Option hn_M := hn_wr μ 75 36 s1 s0 fun μ1 => k10 l1 (l2 + 1) μ1
def fX8_layWays_72 (F : Nat) (k2 : Int32 → hn_M → Option hn_M) (l1 : Int32) (μ : hn_M) : Option hn_M := k2 (l1 + 1) μ
def fX8_layWays_10 (F : Nat) (k2 : Int32 → hn_M → Option hn_M) : Nat → Int32 → Int32 → hn_M → Option hn_M
  | 0, _, _, _ => none
  | n + 1, l1, l2, μ => if 6 ≤ l2 then fX8_layWays_72 F k2 l1 μ else if l1 = l2 then fX8_layWays_65 F k2 (fX8_layWays_10 F k2 n) l1 l2 0 ((6 * l1) + l2) μ else hn_rd μ 73 36 ((6 * l1) + l2) fun v2 => if v2 ≤ 0 then fX8_layWays_65 F k2 (fX8_layWays_10 F k2 n) l1 l2 (-4) ((6 * l1) + l2) μ else hn_rd μ 73 36 ((6 * l1) + l2) fun v3 => fX8_layWays_65 F k2 (fX8_layWays_10 F k2 n) l1 l2 v3 ((6 * l1) + l2) μ
def fX8_layWays_187 (F : Nat) (k80 : Int32 → hn_M → Option hn_M) (k88 : Int32 → Int32 → hn_M → Option hn_M) (k96 : Int32 → Int32 → Int32 → hn_M → Option hn_M) (l1 : Int32) (l2 : Int32) (l3 : Int32) (μ : hn_M) : Option hn_M := k96 l1 l2 (l3 + 1) μ
def fX8_layWays_171 (F : Nat) (k80 : Int32 → hn_M → Option hn_M) (k88 : Int32 → Int32 → hn_M → Option hn_M) (k96 : Int32 → Int32 → Int32 → hn_M → Option hn_M) (l1 : Int32) (l2 : Int32) (l3 : Int32) (l4 : Int32) (l5 : Int32) (μ : hn_M) : Option hn_M := hn_wr μ 75 36 ((6 * l2) + l3) (l4 + l5) fun μ4 => fX8_layWays_187 F k80 k88 k96 l1 l2 l3 μ4
def fX8_layWays_193 (F : Nat) (k80 : Int32 → hn_M → Option hn_M) (k88 : Int32 → Int32 → hn_M → Option hn_M) (l1 : Int32) (l2 : Int32) (μ : hn_M) : Option hn_M := k88 l1 (l2 + 1) μ
def fX8_layWays_96 (F : Nat) (k80 : Int32 → hn_M → Option hn_M) (k88 : Int32 → Int32 → hn_M → Option hn_M) : Nat → Int32 → Int32 → Int32 → hn_M → Option hn_M
  | 0, _, _, _, _ => none
  | n + 1, l1, l2, l3, μ => if 6 ≤ l3 then fX8_layWays_193 F k80 k88 l1 l2 μ else hn_rd μ 75 36 ((6 * l2) + l1) fun v5 => hn_rd μ 75 36 ((6 * l1) + l3) fun v6 => if v5 < 0 then fX8_layWays_187 F k80 k88 (fX8_layWays_96 F k80 k88 n) l1 l2 l3 μ else if v6 < 0 then fX8_layWays_187 F k80 k88 (fX8_layWays_96 F k80 k88 n) l1 l2 l3 μ else hn_rd μ 75 36 ((6 * l2) + l3) fun v7 => if v7 < 0 then fX8_layWays_171 F k80 k88 (fX8_layWays_96 F k80 k88 n) l1 l2 l3 v5 v6 μ else hn_rd μ 75 36 ((6 * l2) + l3) fun v8 => if v8 ≤ v5 + v6 then fX8_layWays_187 F k80 k88 (fX8_layWays_96 F k80 k88 n) l1 l2 l3 μ else fX8_layWays_171 F k80 k88 (fX8_layWays_96 F k80 k88 n) l1 l2 l3 v5 v6 μ
def fX8_layWays_199 (F : Nat) (k80 : Int32 → hn_M → Option hn_M) (l1 : Int32) (μ : hn_M) : Option hn_M := k80 (l1 + 1) μ
def fX8_layWays_88 (F : Nat) (k80 : Int32 → hn_M → Option hn_M) : Nat → Int32 → Int32 → hn_M → Option hn_M
  | 0, _, _, _ => none
  | n + 1, l1, l2, μ => if 6 ≤ l2 then fX8_layWays_199 F k80 l1 μ else fX8_layWays_96 F k80 (fX8_layWays_88 F k80 n) F l1 l2 0 μ
def fX8_layWays_80 (F : Nat) : Nat → Int32 → hn_M → Option hn_M
  | 0, _, _ => none
  | n + 1, l1, μ => if 6 ≤ l1 then some μ else fX8_layWays_88 F (fX8_layWays_80 F n) F l1 0 μ
def fX8_layWays_78 (F : Nat) (μ : hn_M) : Option hn_M := fX8_layWays_80 F F 0 μ
def fX8_layWays_2 (F : Nat) : Nat → Int32 → hn_M → Option hn_M
  | 0, _, _ => none
  | n + 1, l1, μ => if 6 ≤ l1 then fX8_layWays_78 F μ else fX8_layWays_10 F (fX8_layWays_2 F n) F l1 0 μ
def fX8_layWays (F : Nat) (μ : hn_M) : Option hn_M := fX8_layWays_2 F F 0 μ
set_option maxHeartbeats 1000000 in
theorem gX8_layWays_65 {Z : hn_Z} {B : hn_B} {F : Nat} {R : hn_M} (hF : hn_F Z B (0, 0) cX8_layWays 6 RX8 none 0) (hQ : hn_goal Z B (none, R)) (hV : hn_V B hn_nW) {k2 : Int32 → hn_M → Option hn_M} (H2 : ∀ (l1 : Int32) (μ : hn_M), k2 l1 μ = some R → hn_G Z B (0, 0) 6 2 [(0, .ref (hn_base B + 72)), (1, .int l1)] [] μ) {k10 : Int32 → Int32 → hn_M → Option hn_M} (H10 : ∀ (l1 : Int32) (l2 : Int32) (μ : hn_M), k10 l1 l2 μ = some R → hn_G Z B (0, 0) 6 10 [(0, .ref (hn_base B + 72)), (1, .int l1), (2, .int l2)] [] μ) {l1 : Int32} {l2 : Int32} {s0 : Int32} {s1 : Int32} {μ : hn_M} (e : fX8_layWays_65 F k2 k10 l1 l2 s0 s1 μ = some R) : hn_G Z B (0, 0) 6 65 [(0, .ref (hn_base B + 72)), (1, .int l1), (2, .int l2)] [.int s0, .int s1, .ref (hn_base B + 75)] μ := by
  unfold fX8_layWays_65 at e
  have a75 : hn_isA B 75 false 36 := hV 75 (by decide)
  refine hn_ast hF a75 dX8_layWays_65 (q := 66) rfl e (fun μ1 e => ?_)
  refine hn_iinc (p := 2) hF dX8_layWays_66 (q := 69) rfl rfl (kn_1 _) (by decide) (L' := [(2, .int (l2 + 1)), (0, .ref (hn_base B + 72)), (1, .int l1)]) rfl ?_
  refine hn_goto hF dX8_layWays_69 (q := 10) rfl ?_
  refine hn_sub [1, 2, 0] (L' := [(0, .ref (hn_base B + 72)), (1, .int l1), (2, .int (l2 + 1))]) rfl ?_
  exact H10 l1 (l2 + 1) μ1 e
set_option maxHeartbeats 1000000 in
theorem gX8_layWays_72 {Z : hn_Z} {B : hn_B} {F : Nat} {R : hn_M} (hF : hn_F Z B (0, 0) cX8_layWays 6 RX8 none 0) (hQ : hn_goal Z B (none, R)) (hV : hn_V B hn_nW) {k2 : Int32 → hn_M → Option hn_M} (H2 : ∀ (l1 : Int32) (μ : hn_M), k2 l1 μ = some R → hn_G Z B (0, 0) 6 2 [(0, .ref (hn_base B + 72)), (1, .int l1)] [] μ) {l1 : Int32} {μ : hn_M} (e : fX8_layWays_72 F k2 l1 μ = some R) : hn_G Z B (0, 0) 6 72 [(0, .ref (hn_base B + 72)), (1, .int l1)] [] μ := by
  unfold fX8_layWays_72 at e
  refine hn_iinc (p := 1) hF dX8_layWays_72 (q := 75) rfl rfl (kn_1 _) (by decide) (L' := [(1, .int (l1 + 1)), (0, .ref (hn_base B + 72))]) rfl ?_
  refine hn_goto hF dX8_layWays_75 (q := 2) rfl ?_
  refine hn_sub [1, 0] (L' := [(0, .ref (hn_base B + 72)), (1, .int (l1 + 1))]) rfl ?_
  exact H2 (l1 + 1) μ e
set_option maxHeartbeats 1000000 in
theorem gX8_layWays_10 {Z : hn_Z} {B : hn_B} {F : Nat} {R : hn_M} (hF : hn_F Z B (0, 0) cX8_layWays 6 RX8 none 0) (hQ : hn_goal Z B (none, R)) (hV : hn_V B hn_nW) {k2 : Int32 → hn_M → Option hn_M} (H2 : ∀ (l1 : Int32) (μ : hn_M), k2 l1 μ = some R → hn_G Z B (0, 0) 6 2 [(0, .ref (hn_base B + 72)), (1, .int l1)] [] μ) : ∀ (n : Nat) (l1 : Int32) (l2 : Int32) (μ : hn_M), fX8_layWays_10 F k2 n l1 l2 μ = some R → hn_G Z B (0, 0) 6 10 [(0, .ref (hn_base B + 72)), (1, .int l1), (2, .int l2)] [] μ := by
  have a73 : hn_isA B 73 false 36 := hV 73 (by decide)
  have o72 : hn_isO B 72 8 hn_k72 := hV 72 (by decide)
  intro n
  induction n with
  | zero => intro l1 l2 μ e; rw [fX8_layWays_10] at e; cases e
  | succ n ih =>
    intro l1 l2 μ e
    rw [fX8_layWays_10] at e
    refine hn_iload_n hF dX8_layWays_10 (q := 11) rfl 2 rfl ?_
    refine hn_bipush hF dX8_layWays_11 (q := 13) rfl kb_6 ?_
    refine hn_icmp_ge hF dX8_layWays_13 (t := 72) (q := 16) rfl rfl e (fun e => ?_) (fun e => ?_)
    · refine hn_sub [0, 1] (L' := [(0, .ref (hn_base B + 72)), (1, .int l1)]) rfl ?_
      exact gX8_layWays_72 hF hQ hV H2 e
    · refine hn_aload_n hF dX8_layWays_16 (q := 17) rfl 0 rfl ?_
      refine hn_get hF fl_X8_16 o72 rfl rfl dX8_layWays_17 (q := 20) rfl ?_
      refine hn_bipush hF dX8_layWays_20 (q := 22) rfl kb_6 ?_
      refine hn_iload_n hF dX8_layWays_22 (q := 23) rfl 1 rfl ?_
      refine hn_imul hF dX8_layWays_23 (q := 24) rfl ?_
      refine hn_iload_n hF dX8_layWays_24 (q := 25) rfl 2 rfl ?_
      refine hn_iadd hF dX8_layWays_25 (q := 26) rfl ?_
      refine hn_iload_n hF dX8_layWays_26 (q := 27) rfl 1 rfl ?_
      refine hn_iload_n hF dX8_layWays_27 (q := 28) rfl 2 rfl ?_
      refine hn_icmp_ne hF dX8_layWays_28 (t := 35) (q := 31) rfl rfl e (fun e => ?_) (fun e => ?_)
      · refine hn_aload_n hF dX8_layWays_35 (q := 36) rfl 0 rfl ?_
        refine hn_get hF fl_X8_7 o72 rfl rfl dX8_layWays_36 (q := 39) rfl ?_
        refine hn_bipush hF dX8_layWays_39 (q := 41) rfl kb_6 ?_
        refine hn_iload_n hF dX8_layWays_41 (q := 42) rfl 1 rfl ?_
        refine hn_imul hF dX8_layWays_42 (q := 43) rfl ?_
        refine hn_iload_n hF dX8_layWays_43 (q := 44) rfl 2 rfl ?_
        refine hn_iadd hF dX8_layWays_44 (q := 45) rfl ?_
        refine hn_ald hF a73 dX8_layWays_45 (q := 46) rfl e (fun v2 e => ?_)
        refine hn_if_le hF dX8_layWays_46 (t := 63) (q := 49) rfl rfl e (fun e => ?_) (fun e => ?_)
        · refine hn_bipush hF dX8_layWays_63 (q := 65) rfl kb_m4 ?_
          exact gX8_layWays_65 hF hQ hV H2 ih e
        · refine hn_aload_n hF dX8_layWays_49 (q := 50) rfl 0 rfl ?_
          refine hn_get hF fl_X8_7 o72 rfl rfl dX8_layWays_50 (q := 53) rfl ?_
          refine hn_bipush hF dX8_layWays_53 (q := 55) rfl kb_6 ?_
          refine hn_iload_n hF dX8_layWays_55 (q := 56) rfl 1 rfl ?_
          refine hn_imul hF dX8_layWays_56 (q := 57) rfl ?_
          refine hn_iload_n hF dX8_layWays_57 (q := 58) rfl 2 rfl ?_
          refine hn_iadd hF dX8_layWays_58 (q := 59) rfl ?_
          refine hn_ald hF a73 dX8_layWays_59 (q := 60) rfl e (fun v3 e => ?_)
          refine hn_goto hF dX8_layWays_60 (q := 65) rfl ?_
          exact gX8_layWays_65 hF hQ hV H2 ih e
      · refine hn_iconst hF dX8_layWays_31 (q := 32) rfl ki_0 ?_
        refine hn_goto hF dX8_layWays_32 (q := 65) rfl ?_
        exact gX8_layWays_65 hF hQ hV H2 ih e
set_option maxHeartbeats 1000000 in
theorem gX8_layWays_187 {Z : hn_Z} {B : hn_B} {F : Nat} {R : hn_M} (hF : hn_F Z B (0, 0) cX8_layWays 6 RX8 none 0) (hQ : hn_goal Z B (none, R)) (hV : hn_V B hn_nW) {k80 : Int32 → hn_M → Option hn_M} (H80 : ∀ (l1 : Int32) (μ : hn_M), k80 l1 μ = some R → hn_G Z B (0, 0) 6 80 [(0, .ref (hn_base B + 72)), (1, .int l1)] [] μ) {k88 : Int32 → Int32 → hn_M → Option hn_M} (H88 : ∀ (l1 : Int32) (l2 : Int32) (μ : hn_M), k88 l1 l2 μ = some R → hn_G Z B (0, 0) 6 88 [(0, .ref (hn_base B + 72)), (1, .int l1), (2, .int l2)] [] μ) {k96 : Int32 → Int32 → Int32 → hn_M → Option hn_M} (H96 : ∀ (l1 : Int32) (l2 : Int32) (l3 : Int32) (μ : hn_M), k96 l1 l2 l3 μ = some R → hn_G Z B (0, 0) 6 96 [(0, .ref (hn_base B + 72)), (1, .int l1), (2, .int l2), (3, .int l3)] [] μ) {l1 : Int32} {l2 : Int32} {l3 : Int32} {μ : hn_M} (e : fX8_layWays_187 F k80 k88 k96 l1 l2 l3 μ = some R) : hn_G Z B (0, 0) 6 187 [(0, .ref (hn_base B + 72)), (1, .int l1), (2, .int l2), (3, .int l3)] [] μ := by
  unfold fX8_layWays_187 at e
  refine hn_iinc (p := 3) hF dX8_layWays_187 (q := 190) rfl rfl (kn_1 _) (by decide) (L' := [(3, .int (l3 + 1)), (0, .ref (hn_base B + 72)), (1, .int l1), (2, .int l2)]) rfl ?_
  refine hn_goto hF dX8_layWays_190 (q := 96) rfl ?_
  refine hn_sub [1, 2, 3, 0] (L' := [(0, .ref (hn_base B + 72)), (1, .int l1), (2, .int l2), (3, .int (l3 + 1))]) rfl ?_
  exact H96 l1 l2 (l3 + 1) μ e
set_option maxHeartbeats 1000000 in
theorem gX8_layWays_171 {Z : hn_Z} {B : hn_B} {F : Nat} {R : hn_M} (hF : hn_F Z B (0, 0) cX8_layWays 6 RX8 none 0) (hQ : hn_goal Z B (none, R)) (hV : hn_V B hn_nW) {k80 : Int32 → hn_M → Option hn_M} (H80 : ∀ (l1 : Int32) (μ : hn_M), k80 l1 μ = some R → hn_G Z B (0, 0) 6 80 [(0, .ref (hn_base B + 72)), (1, .int l1)] [] μ) {k88 : Int32 → Int32 → hn_M → Option hn_M} (H88 : ∀ (l1 : Int32) (l2 : Int32) (μ : hn_M), k88 l1 l2 μ = some R → hn_G Z B (0, 0) 6 88 [(0, .ref (hn_base B + 72)), (1, .int l1), (2, .int l2)] [] μ) {k96 : Int32 → Int32 → Int32 → hn_M → Option hn_M} (H96 : ∀ (l1 : Int32) (l2 : Int32) (l3 : Int32) (μ : hn_M), k96 l1 l2 l3 μ = some R → hn_G Z B (0, 0) 6 96 [(0, .ref (hn_base B + 72)), (1, .int l1), (2, .int l2), (3, .int l3)] [] μ) {l1 : Int32} {l2 : Int32} {l3 : Int32} {l4 : Int32} {l5 : Int32} {μ : hn_M} (e : fX8_layWays_171 F k80 k88 k96 l1 l2 l3 l4 l5 μ = some R) : hn_G Z B (0, 0) 6 171 [(0, .ref (hn_base B + 72)), (1, .int l1), (2, .int l2), (3, .int l3), (4, .int l4), (5, .int l5)] [] μ := by
  unfold fX8_layWays_171 at e
  have a75 : hn_isA B 75 false 36 := hV 75 (by decide)
  have o72 : hn_isO B 72 8 hn_k72 := hV 72 (by decide)
  refine hn_aload_n hF dX8_layWays_171 (q := 172) rfl 0 rfl ?_
  refine hn_get hF fl_X8_16 o72 rfl rfl dX8_layWays_172 (q := 175) rfl ?_
  refine hn_bipush hF dX8_layWays_175 (q := 177) rfl kb_6 ?_
  refine hn_iload_n hF dX8_layWays_177 (q := 178) rfl 2 rfl ?_
  refine hn_imul hF dX8_layWays_178 (q := 179) rfl ?_
  refine hn_iload_n hF dX8_layWays_179 (q := 180) rfl 3 rfl ?_
  refine hn_iadd hF dX8_layWays_180 (q := 181) rfl ?_
  refine hn_iload hF dX8_layWays_181 (q := 183) rfl 4 rfl ?_
  refine hn_iload hF dX8_layWays_183 (q := 185) rfl 5 rfl ?_
  refine hn_iadd hF dX8_layWays_185 (q := 186) rfl ?_
  refine hn_ast hF a75 dX8_layWays_186 (q := 187) rfl e (fun μ4 e => ?_)
  refine hn_sub [0, 1, 2, 3] (L' := [(0, .ref (hn_base B + 72)), (1, .int l1), (2, .int l2), (3, .int l3)]) rfl ?_
  exact gX8_layWays_187 hF hQ hV H80 H88 H96 e
set_option maxHeartbeats 1000000 in
theorem gX8_layWays_193 {Z : hn_Z} {B : hn_B} {F : Nat} {R : hn_M} (hF : hn_F Z B (0, 0) cX8_layWays 6 RX8 none 0) (hQ : hn_goal Z B (none, R)) (hV : hn_V B hn_nW) {k80 : Int32 → hn_M → Option hn_M} (H80 : ∀ (l1 : Int32) (μ : hn_M), k80 l1 μ = some R → hn_G Z B (0, 0) 6 80 [(0, .ref (hn_base B + 72)), (1, .int l1)] [] μ) {k88 : Int32 → Int32 → hn_M → Option hn_M} (H88 : ∀ (l1 : Int32) (l2 : Int32) (μ : hn_M), k88 l1 l2 μ = some R → hn_G Z B (0, 0) 6 88 [(0, .ref (hn_base B + 72)), (1, .int l1), (2, .int l2)] [] μ) {l1 : Int32} {l2 : Int32} {μ : hn_M} (e : fX8_layWays_193 F k80 k88 l1 l2 μ = some R) : hn_G Z B (0, 0) 6 193 [(0, .ref (hn_base B + 72)), (1, .int l1), (2, .int l2)] [] μ := by
  unfold fX8_layWays_193 at e
  refine hn_iinc (p := 2) hF dX8_layWays_193 (q := 196) rfl rfl (kn_1 _) (by decide) (L' := [(2, .int (l2 + 1)), (0, .ref (hn_base B + 72)), (1, .int l1)]) rfl ?_
  refine hn_goto hF dX8_layWays_196 (q := 88) rfl ?_
  refine hn_sub [1, 2, 0] (L' := [(0, .ref (hn_base B + 72)), (1, .int l1), (2, .int (l2 + 1))]) rfl ?_
  exact H88 l1 (l2 + 1) μ e
set_option maxHeartbeats 1000000 in
theorem gX8_layWays_96 {Z : hn_Z} {B : hn_B} {F : Nat} {R : hn_M} (hF : hn_F Z B (0, 0) cX8_layWays 6 RX8 none 0) (hQ : hn_goal Z B (none, R)) (hV : hn_V B hn_nW) {k80 : Int32 → hn_M → Option hn_M} (H80 : ∀ (l1 : Int32) (μ : hn_M), k80 l1 μ = some R → hn_G Z B (0, 0) 6 80 [(0, .ref (hn_base B + 72)), (1, .int l1)] [] μ) {k88 : Int32 → Int32 → hn_M → Option hn_M} (H88 : ∀ (l1 : Int32) (l2 : Int32) (μ : hn_M), k88 l1 l2 μ = some R → hn_G Z B (0, 0) 6 88 [(0, .ref (hn_base B + 72)), (1, .int l1), (2, .int l2)] [] μ) : ∀ (n : Nat) (l1 : Int32) (l2 : Int32) (l3 : Int32) (μ : hn_M), fX8_layWays_96 F k80 k88 n l1 l2 l3 μ = some R → hn_G Z B (0, 0) 6 96 [(0, .ref (hn_base B + 72)), (1, .int l1), (2, .int l2), (3, .int l3)] [] μ := by
  have a75 : hn_isA B 75 false 36 := hV 75 (by decide)
  have o72 : hn_isO B 72 8 hn_k72 := hV 72 (by decide)
  intro n
  induction n with
  | zero => intro l1 l2 l3 μ e; rw [fX8_layWays_96] at e; cases e
  | succ n ih =>
    intro l1 l2 l3 μ e
    rw [fX8_layWays_96] at e
    refine hn_iload_n hF dX8_layWays_96 (q := 97) rfl 3 rfl ?_
    refine hn_bipush hF dX8_layWays_97 (q := 99) rfl kb_6 ?_
    refine hn_icmp_ge hF dX8_layWays_99 (t := 193) (q := 102) rfl rfl e (fun e => ?_) (fun e => ?_)
    · refine hn_sub [0, 1, 2] (L' := [(0, .ref (hn_base B + 72)), (1, .int l1), (2, .int l2)]) rfl ?_
      exact gX8_layWays_193 hF hQ hV H80 H88 e
    · refine hn_aload_n hF dX8_layWays_102 (q := 103) rfl 0 rfl ?_
      refine hn_get hF fl_X8_16 o72 rfl rfl dX8_layWays_103 (q := 106) rfl ?_
      refine hn_bipush hF dX8_layWays_106 (q := 108) rfl kb_6 ?_
      refine hn_iload_n hF dX8_layWays_108 (q := 109) rfl 2 rfl ?_
      refine hn_imul hF dX8_layWays_109 (q := 110) rfl ?_
      refine hn_iload_n hF dX8_layWays_110 (q := 111) rfl 1 rfl ?_
      refine hn_iadd hF dX8_layWays_111 (q := 112) rfl ?_
      refine hn_ald hF a75 dX8_layWays_112 (q := 113) rfl e (fun v5 e => ?_)
      refine hn_istore hF dX8_layWays_113 (q := 115) rfl (by decide) (L' := [(4, .int v5), (0, .ref (hn_base B + 72)), (1, .int l1), (2, .int l2), (3, .int l3)]) rfl ?_
      refine hn_aload_n hF dX8_layWays_115 (q := 116) rfl 1 rfl ?_
      refine hn_get hF fl_X8_16 o72 rfl rfl dX8_layWays_116 (q := 119) rfl ?_
      refine hn_bipush hF dX8_layWays_119 (q := 121) rfl kb_6 ?_
      refine hn_iload_n hF dX8_layWays_121 (q := 122) rfl 2 rfl ?_
      refine hn_imul hF dX8_layWays_122 (q := 123) rfl ?_
      refine hn_iload_n hF dX8_layWays_123 (q := 124) rfl 4 rfl ?_
      refine hn_iadd hF dX8_layWays_124 (q := 125) rfl ?_
      refine hn_ald hF a75 dX8_layWays_125 (q := 126) rfl e (fun v6 e => ?_)
      refine hn_istore hF dX8_layWays_126 (q := 128) rfl (by decide) (L' := [(5, .int v6), (4, .int v5), (0, .ref (hn_base B + 72)), (1, .int l1), (2, .int l2), (3, .int l3)]) rfl ?_
      refine hn_iload hF dX8_layWays_128 (q := 130) rfl 1 rfl ?_
      refine hn_if_lt hF dX8_layWays_130 (t := 187) (q := 133) rfl rfl e (fun e => ?_) (fun e => ?_)
      · refine hn_sub [2, 3, 4, 5] (L' := [(0, .ref (hn_base B + 72)), (1, .int l1), (2, .int l2), (3, .int l3)]) rfl ?_
        exact gX8_layWays_187 hF hQ hV H80 H88 ih e
      · refine hn_iload hF dX8_layWays_133 (q := 135) rfl 0 rfl ?_
        refine hn_if_lt hF dX8_layWays_135 (t := 187) (q := 138) rfl rfl e (fun e => ?_) (fun e => ?_)
        · refine hn_sub [2, 3, 4, 5] (L' := [(0, .ref (hn_base B + 72)), (1, .int l1), (2, .int l2), (3, .int l3)]) rfl ?_
          exact gX8_layWays_187 hF hQ hV H80 H88 ih e
        · refine hn_aload_n hF dX8_layWays_138 (q := 139) rfl 2 rfl ?_
          refine hn_get hF fl_X8_16 o72 rfl rfl dX8_layWays_139 (q := 142) rfl ?_
          refine hn_bipush hF dX8_layWays_142 (q := 144) rfl kb_6 ?_
          refine hn_iload_n hF dX8_layWays_144 (q := 145) rfl 4 rfl ?_
          refine hn_imul hF dX8_layWays_145 (q := 146) rfl ?_
          refine hn_iload_n hF dX8_layWays_146 (q := 147) rfl 5 rfl ?_
          refine hn_iadd hF dX8_layWays_147 (q := 148) rfl ?_
          refine hn_ald hF a75 dX8_layWays_148 (q := 149) rfl e (fun v7 e => ?_)
          refine hn_if_lt hF dX8_layWays_149 (t := 171) (q := 152) rfl rfl e (fun e => ?_) (fun e => ?_)
          · refine hn_sub [2, 3, 4, 5, 1, 0] (L' := [(0, .ref (hn_base B + 72)), (1, .int l1), (2, .int l2), (3, .int l3), (4, .int v5), (5, .int v6)]) rfl ?_
            exact gX8_layWays_171 hF hQ hV H80 H88 ih e
          · refine hn_iload hF dX8_layWays_152 (q := 154) rfl 1 rfl ?_
            refine hn_iload hF dX8_layWays_154 (q := 156) rfl 0 rfl ?_
            refine hn_iadd hF dX8_layWays_156 (q := 157) rfl ?_
            refine hn_aload_n hF dX8_layWays_157 (q := 158) rfl 2 rfl ?_
            refine hn_get hF fl_X8_16 o72 rfl rfl dX8_layWays_158 (q := 161) rfl ?_
            refine hn_bipush hF dX8_layWays_161 (q := 163) rfl kb_6 ?_
            refine hn_iload_n hF dX8_layWays_163 (q := 164) rfl 4 rfl ?_
            refine hn_imul hF dX8_layWays_164 (q := 165) rfl ?_
            refine hn_iload_n hF dX8_layWays_165 (q := 166) rfl 5 rfl ?_
            refine hn_iadd hF dX8_layWays_166 (q := 167) rfl ?_
            refine hn_ald hF a75 dX8_layWays_167 (q := 168) rfl e (fun v8 e => ?_)
            refine hn_icmp_ge hF dX8_layWays_168 (t := 187) (q := 171) rfl rfl e (fun e => ?_) (fun e => ?_)
            · refine hn_sub [2, 3, 4, 5] (L' := [(0, .ref (hn_base B + 72)), (1, .int l1), (2, .int l2), (3, .int l3)]) rfl ?_
              exact gX8_layWays_187 hF hQ hV H80 H88 ih e
            · refine hn_sub [2, 3, 4, 5, 1, 0] (L' := [(0, .ref (hn_base B + 72)), (1, .int l1), (2, .int l2), (3, .int l3), (4, .int v5), (5, .int v6)]) rfl ?_
              exact gX8_layWays_171 hF hQ hV H80 H88 ih e
set_option maxHeartbeats 1000000 in
theorem gX8_layWays_199 {Z : hn_Z} {B : hn_B} {F : Nat} {R : hn_M} (hF : hn_F Z B (0, 0) cX8_layWays 6 RX8 none 0) (hQ : hn_goal Z B (none, R)) (hV : hn_V B hn_nW) {k80 : Int32 → hn_M → Option hn_M} (H80 : ∀ (l1 : Int32) (μ : hn_M), k80 l1 μ = some R → hn_G Z B (0, 0) 6 80 [(0, .ref (hn_base B + 72)), (1, .int l1)] [] μ) {l1 : Int32} {μ : hn_M} (e : fX8_layWays_199 F k80 l1 μ = some R) : hn_G Z B (0, 0) 6 199 [(0, .ref (hn_base B + 72)), (1, .int l1)] [] μ := by
  unfold fX8_layWays_199 at e
  refine hn_iinc (p := 1) hF dX8_layWays_199 (q := 202) rfl rfl (kn_1 _) (by decide) (L' := [(1, .int (l1 + 1)), (0, .ref (hn_base B + 72))]) rfl ?_
  refine hn_goto hF dX8_layWays_202 (q := 80) rfl ?_
  refine hn_sub [1, 0] (L' := [(0, .ref (hn_base B + 72)), (1, .int (l1 + 1))]) rfl ?_
  exact H80 (l1 + 1) μ e
set_option maxHeartbeats 1000000 in
theorem gX8_layWays_88 {Z : hn_Z} {B : hn_B} {F : Nat} {R : hn_M} (hF : hn_F Z B (0, 0) cX8_layWays 6 RX8 none 0) (hQ : hn_goal Z B (none, R)) (hV : hn_V B hn_nW) {k80 : Int32 → hn_M → Option hn_M} (H80 : ∀ (l1 : Int32) (μ : hn_M), k80 l1 μ = some R → hn_G Z B (0, 0) 6 80 [(0, .ref (hn_base B + 72)), (1, .int l1)] [] μ) : ∀ (n : Nat) (l1 : Int32) (l2 : Int32) (μ : hn_M), fX8_layWays_88 F k80 n l1 l2 μ = some R → hn_G Z B (0, 0) 6 88 [(0, .ref (hn_base B + 72)), (1, .int l1), (2, .int l2)] [] μ := by
  intro n
  induction n with
  | zero => intro l1 l2 μ e; rw [fX8_layWays_88] at e; cases e
  | succ n ih =>
    intro l1 l2 μ e
    rw [fX8_layWays_88] at e
    refine hn_iload_n hF dX8_layWays_88 (q := 89) rfl 2 rfl ?_
    refine hn_bipush hF dX8_layWays_89 (q := 91) rfl kb_6 ?_
    refine hn_icmp_ge hF dX8_layWays_91 (t := 199) (q := 94) rfl rfl e (fun e => ?_) (fun e => ?_)
    · refine hn_sub [0, 1] (L' := [(0, .ref (hn_base B + 72)), (1, .int l1)]) rfl ?_
      exact gX8_layWays_199 hF hQ hV H80 e
    · refine hn_iconst hF dX8_layWays_94 (q := 95) rfl ki_0 ?_
      refine hn_istore_n hF dX8_layWays_95 (q := 96) rfl (i := 3) rfl (by decide) (L' := [(3, .int 0), (0, .ref (hn_base B + 72)), (1, .int l1), (2, .int l2)]) rfl ?_
      refine hn_sub [1, 2, 3, 0] (L' := [(0, .ref (hn_base B + 72)), (1, .int l1), (2, .int l2), (3, .int 0)]) rfl ?_
      exact gX8_layWays_96 hF hQ hV H80 ih F l1 l2 0 μ e
set_option maxHeartbeats 1000000 in
theorem gX8_layWays_80 {Z : hn_Z} {B : hn_B} {F : Nat} {R : hn_M} (hF : hn_F Z B (0, 0) cX8_layWays 6 RX8 none 0) (hQ : hn_goal Z B (none, R)) (hV : hn_V B hn_nW) : ∀ (n : Nat) (l1 : Int32) (μ : hn_M), fX8_layWays_80 F n l1 μ = some R → hn_G Z B (0, 0) 6 80 [(0, .ref (hn_base B + 72)), (1, .int l1)] [] μ := by
  intro n
  induction n with
  | zero => intro l1 μ e; rw [fX8_layWays_80] at e; cases e
  | succ n ih =>
    intro l1 μ e
    rw [fX8_layWays_80] at e
    refine hn_iload_n hF dX8_layWays_80 (q := 81) rfl 1 rfl ?_
    refine hn_bipush hF dX8_layWays_81 (q := 83) rfl kb_6 ?_
    refine hn_icmp_ge hF dX8_layWays_83 (t := 205) (q := 86) rfl rfl e (fun e => ?_) (fun e => ?_)
    · exact hn_vretM hF hQ dX8_layWays_205 e
    · refine hn_iconst hF dX8_layWays_86 (q := 87) rfl ki_0 ?_
      refine hn_istore_n hF dX8_layWays_87 (q := 88) rfl (i := 2) rfl (by decide) (L' := [(2, .int 0), (0, .ref (hn_base B + 72)), (1, .int l1)]) rfl ?_
      refine hn_sub [1, 2, 0] (L' := [(0, .ref (hn_base B + 72)), (1, .int l1), (2, .int 0)]) rfl ?_
      exact gX8_layWays_88 hF hQ hV ih F l1 0 μ e
set_option maxHeartbeats 1000000 in
theorem gX8_layWays_78 {Z : hn_Z} {B : hn_B} {F : Nat} {R : hn_M} (hF : hn_F Z B (0, 0) cX8_layWays 6 RX8 none 0) (hQ : hn_goal Z B (none, R)) (hV : hn_V B hn_nW) {μ : hn_M} (e : fX8_layWays_78 F μ = some R) : hn_G Z B (0, 0) 6 78 [(0, .ref (hn_base B + 72))] [] μ := by
  unfold fX8_layWays_78 at e
  refine hn_iconst hF dX8_layWays_78 (q := 79) rfl ki_0 ?_
  refine hn_istore_n hF dX8_layWays_79 (q := 80) rfl (i := 1) rfl (by decide) (L' := [(1, .int 0), (0, .ref (hn_base B + 72))]) rfl ?_
  refine hn_sub [1, 0] (L' := [(0, .ref (hn_base B + 72)), (1, .int 0)]) rfl ?_
  exact gX8_layWays_80 hF hQ hV F 0 μ e
set_option maxHeartbeats 1000000 in
theorem gX8_layWays_2 {Z : hn_Z} {B : hn_B} {F : Nat} {R : hn_M} (hF : hn_F Z B (0, 0) cX8_layWays 6 RX8 none 0) (hQ : hn_goal Z B (none, R)) (hV : hn_V B hn_nW) : ∀ (n : Nat) (l1 : Int32) (μ : hn_M), fX8_layWays_2 F n l1 μ = some R → hn_G Z B (0, 0) 6 2 [(0, .ref (hn_base B + 72)), (1, .int l1)] [] μ := by
  intro n
  induction n with
  | zero => intro l1 μ e; rw [fX8_layWays_2] at e; cases e
  | succ n ih =>
    intro l1 μ e
    rw [fX8_layWays_2] at e
    refine hn_iload_n hF dX8_layWays_2 (q := 3) rfl 1 rfl ?_
    refine hn_bipush hF dX8_layWays_3 (q := 5) rfl kb_6 ?_
    refine hn_icmp_ge hF dX8_layWays_5 (t := 78) (q := 8) rfl rfl e (fun e => ?_) (fun e => ?_)
    · refine hn_sub [0] (L' := [(0, .ref (hn_base B + 72))]) rfl ?_
      exact gX8_layWays_78 hF hQ hV e
    · refine hn_iconst hF dX8_layWays_8 (q := 9) rfl ki_0 ?_
      refine hn_istore_n hF dX8_layWays_9 (q := 10) rfl (i := 2) rfl (by decide) (L' := [(2, .int 0), (0, .ref (hn_base B + 72)), (1, .int l1)]) rfl ?_
      refine hn_sub [1, 2, 0] (L' := [(0, .ref (hn_base B + 72)), (1, .int l1), (2, .int 0)]) rfl ?_
      exact gX8_layWays_10 hF hQ hV ih F l1 0 μ e
set_option maxHeartbeats 1000000 in
theorem gX8_layWays {Z : hn_Z} {B : hn_B} {F : Nat} {R : hn_M} (hF : hn_F Z B (0, 0) cX8_layWays 6 RX8 none 0) (hQ : hn_goal Z B (none, R)) (hV : hn_V B hn_nW) {μ : hn_M} (e : fX8_layWays F μ = some R) : hn_G Z B (0, 0) 6 0 [(0, .ref (hn_base B + 72))] [] μ := by
  unfold fX8_layWays at e
  refine hn_iconst hF dX8_layWays_0 (q := 1) rfl ki_0 ?_
  refine hn_istore_n hF dX8_layWays_1 (q := 2) rfl (i := 1) rfl (by decide) (L' := [(1, .int 0), (0, .ref (hn_base B + 72))]) rfl ?_
  refine hn_sub [1, 0] (L' := [(0, .ref (hn_base B + 72)), (1, .int 0)]) rfl ?_
  exact gX8_layWays_2 hF hQ hV F 0 μ e
theorem cX8_layWays_ {B : hn_B} {F : Nat} {μ : hn_M} {R : hn_M} (hV : hn_V B hn_nW) (e : fX8_layWays F μ = some R) : hn_C yX8_layWays cX8_layWays 6 none 0 B [.ref (hn_base B + 72)] μ (none, R) :=
  hn_C.of RX8 (by decide) rfl (Nat.le_of_ble_eq_true rfl) (fun _ hF hQ => gX8_layWays hF hQ hV e)
/-! HandNewsModel.in(JJJ)Z -/
def fX8_in (l0 : Int64) (l2 : Int64) (l4 : Int64) : Option Int32 := if lg_cmp l0 l2 < 0 then some 0 else if 0 < lg_cmp l0 l4 then some 0 else some 1
set_option maxHeartbeats 1000000 in
theorem gX8_in {Z : hn_Z} {B : hn_B} {μ : hn_M} {R : Int32} (hF : hn_F Z B (0, 0) cX8_in 6 RX8 (some .boolean) 0) (hQ : hn_goal Z B (some (.int R), μ)) {l0 : Int64} {l2 : Int64} {l4 : Int64} (e : fX8_in l0 l2 l4 = some R) : hn_G Z B (0, 0) 6 0 [(0, .long l0), (2, .long l2), (4, .long l4)] [] μ := by
  unfold fX8_in at e
  refine hn_lload_n hF dX8_in_0 (q := 1) rfl 0 rfl ?_
  refine hn_lload_n hF dX8_in_1 (q := 2) rfl 1 rfl ?_
  refine hn_lcmp hF dX8_in_2 (q := 3) rfl ?_
  refine hn_if_lt hF dX8_in_3 (t := 17) (q := 6) rfl rfl e (fun e => ?_) (fun e => ?_)
  · refine hn_iconst hF dX8_in_17 (q := 18) rfl ki_0 ?_
    exact hn_zretP hF hQ dX8_in_18 (Or.inl rfl) e
  · refine hn_lload_n hF dX8_in_6 (q := 7) rfl 0 rfl ?_
    refine hn_lload hF dX8_in_7 (q := 9) rfl 2 rfl ?_
    refine hn_lcmp hF dX8_in_9 (q := 10) rfl ?_
    refine hn_if_gt hF dX8_in_10 (t := 17) (q := 13) rfl rfl e (fun e => ?_) (fun e => ?_)
    · refine hn_iconst hF dX8_in_17 (q := 18) rfl ki_0 ?_
      exact hn_zretP hF hQ dX8_in_18 (Or.inl rfl) e
    · refine hn_iconst hF dX8_in_13 (q := 14) rfl ki_1 ?_
      refine hn_goto hF dX8_in_14 (q := 18) rfl ?_
      exact hn_zretP hF hQ dX8_in_18 (Or.inr rfl) e
theorem cX8_in_ {B : hn_B} {μ : hn_M} {R : Int32} {l0 : Int64} {l2 : Int64} {l4 : Int64} (e : fX8_in l0 l2 l4 = some R) : hn_C yX8_in cX8_in 6 (some .boolean) 0 B [.long l0, .long l2, .long l4] μ (some (.int R), μ) :=
  hn_C.of RX8 (by decide) rfl (Nat.le_of_ble_eq_true rfl) (fun _ hF hQ => gX8_in hF hQ e)
/-! HandNewsModel.isTown(I)Z -/
def fX8_isTown (l0 : Int32) : Option Int32 := (fX8_in l0.toInt64 0 5).bind fun v1 => hn_bo v1 (some v1)
set_option maxHeartbeats 1000000 in
theorem gX8_isTown {Z : hn_Z} {B : hn_B} {μ : hn_M} {R : Int32} (hF : hn_F Z B (0, 0) cX8_isTown 1 RX8 (some .boolean) 1) (hQ : hn_goal Z B (some (.int R), μ)) {l0 : Int32} (e : fX8_isTown l0 = some R) : hn_G Z B (0, 0) 1 0 [(0, .int l0)] [] μ := by
  unfold fX8_isTown at e
  refine hn_iload_n hF dX8_isTown_0 (q := 1) rfl 0 rfl ?_
  refine hn_i2l hF dX8_isTown_1 (q := 2) rfl rfl ?_
  refine hn_lconst hF dX8_isTown_2 (q := 3) rfl kl_0 ?_
  refine hn_ldc2 hF kd_X8_77 dX8_isTown_3 (q := 6) rfl ?_
  refine hn_callSi (rest := []) hF ms_X8_in mt_X8_in lk_X8_79 (by decide) [.long (l0.toInt64), .long 0, .long 5] rfl (Nat.le_of_ble_eq_true rfl) dX8_isTown_6 (q := 9) rfl rfl e (fun v hv => cX8_in_ hv) (fun v1 e => ?_)
  exact hn_zretPg hF hQ dX8_isTown_9 e
theorem cX8_isTown_ {B : hn_B} {μ : hn_M} {R : Int32} {l0 : Int32} (e : fX8_isTown l0 = some R) : hn_C yX8_isTown cX8_isTown 1 (some .boolean) 1 B [.int l0] μ (some (.int R), μ) :=
  hn_C.of RX8 (by decide) rfl (Nat.le_of_ble_eq_true rfl) (fun _ hF hQ => gX8_isTown hF hQ e)
/-! HandNewsModel.isDay(I)Z -/
def fX8_isDay (l0 : Int32) : Option Int32 := (fX8_in l0.toInt64 0 999).bind fun v1 => hn_bo v1 (some v1)
set_option maxHeartbeats 1000000 in
theorem gX8_isDay {Z : hn_Z} {B : hn_B} {μ : hn_M} {R : Int32} (hF : hn_F Z B (0, 0) cX8_isDay 1 RX8 (some .boolean) 1) (hQ : hn_goal Z B (some (.int R), μ)) {l0 : Int32} (e : fX8_isDay l0 = some R) : hn_G Z B (0, 0) 1 0 [(0, .int l0)] [] μ := by
  unfold fX8_isDay at e
  refine hn_iload_n hF dX8_isDay_0 (q := 1) rfl 0 rfl ?_
  refine hn_i2l hF dX8_isDay_1 (q := 2) rfl rfl ?_
  refine hn_lconst hF dX8_isDay_2 (q := 3) rfl kl_0 ?_
  refine hn_ldc2 hF kd_X8_83 dX8_isDay_3 (q := 6) rfl ?_
  refine hn_callSi (rest := []) hF ms_X8_in mt_X8_in lk_X8_79 (by decide) [.long (l0.toInt64), .long 0, .long 999] rfl (Nat.le_of_ble_eq_true rfl) dX8_isDay_6 (q := 9) rfl rfl e (fun v hv => cX8_in_ hv) (fun v1 e => ?_)
  exact hn_zretPg hF hQ dX8_isDay_9 e
theorem cX8_isDay_ {B : hn_B} {μ : hn_M} {R : Int32} {l0 : Int32} (e : fX8_isDay l0 = some R) : hn_C yX8_isDay cX8_isDay 1 (some .boolean) 1 B [.int l0] μ (some (.int R), μ) :=
  hn_C.of RX8 (by decide) rfl (Nat.le_of_ble_eq_true rfl) (fun _ hF hQ => gX8_isDay hF hQ e)
/-! HandNewsModel.isThing(I)Z -/
def fX8_isThing (l0 : Int32) : Option Int32 := (fX8_in l0.toInt64 0 9).bind fun v1 => hn_bo v1 (some v1)
set_option maxHeartbeats 1000000 in
theorem gX8_isThing {Z : hn_Z} {B : hn_B} {μ : hn_M} {R : Int32} (hF : hn_F Z B (0, 0) cX8_isThing 1 RX8 (some .boolean) 1) (hQ : hn_goal Z B (some (.int R), μ)) {l0 : Int32} (e : fX8_isThing l0 = some R) : hn_G Z B (0, 0) 1 0 [(0, .int l0)] [] μ := by
  unfold fX8_isThing at e
  refine hn_iload_n hF dX8_isThing_0 (q := 1) rfl 0 rfl ?_
  refine hn_i2l hF dX8_isThing_1 (q := 2) rfl rfl ?_
  refine hn_lconst hF dX8_isThing_2 (q := 3) rfl kl_0 ?_
  refine hn_ldc2 hF kd_X8_85 dX8_isThing_3 (q := 6) rfl ?_
  refine hn_callSi (rest := []) hF ms_X8_in mt_X8_in lk_X8_79 (by decide) [.long (l0.toInt64), .long 0, .long 9] rfl (Nat.le_of_ble_eq_true rfl) dX8_isThing_6 (q := 9) rfl rfl e (fun v hv => cX8_in_ hv) (fun v1 e => ?_)
  exact hn_zretPg hF hQ dX8_isThing_9 e
theorem cX8_isThing_ {B : hn_B} {μ : hn_M} {R : Int32} {l0 : Int32} (e : fX8_isThing l0 = some R) : hn_C yX8_isThing cX8_isThing 1 (some .boolean) 1 B [.int l0] μ (some (.int R), μ) :=
  hn_C.of RX8 (by decide) rfl (Nat.le_of_ble_eq_true rfl) (fun _ hF hQ => gX8_isThing hF hQ e)
/-! HandNewsModel.isSheet(I)Z -/
def fX8_isSheet (μ : hn_M) (l1 : Int32) : Option Int32 := hn_rd μ 76 3 0 fun v1 => (fX8_in l1.toInt64 0 ((v1 - 1).toInt64)).bind fun v2 => hn_bo v2 (some v2)
set_option maxHeartbeats 1000000 in
theorem gX8_isSheet {Z : hn_Z} {B : hn_B} {μ : hn_M} {R : Int32} (hF : hn_F Z B (0, 0) cX8_isSheet 2 RX8 (some .boolean) 1) (hQ : hn_goal Z B (some (.int R), μ)) (hV : hn_V B hn_nA) {l1 : Int32} (e : fX8_isSheet μ l1 = some R) : hn_G Z B (0, 0) 2 0 [(0, .ref (hn_base B + 72)), (1, .int l1)] [] μ := by
  unfold fX8_isSheet at e
  have a76 : hn_isA B 76 false 3 := hV 76 (by decide)
  have o72 : hn_isO B 72 8 hn_k72 := hV 72 (by decide)
  refine hn_iload_n hF dX8_isSheet_0 (q := 1) rfl 1 rfl ?_
  refine hn_i2l hF dX8_isSheet_1 (q := 2) rfl rfl ?_
  refine hn_lconst hF dX8_isSheet_2 (q := 3) rfl kl_0 ?_
  refine hn_aload_n hF dX8_isSheet_3 (q := 4) rfl 0 rfl ?_
  refine hn_get hF fl_X8_19 o72 rfl rfl dX8_isSheet_4 (q := 7) rfl ?_
  refine hn_iconst hF dX8_isSheet_7 (q := 8) rfl ki_0 ?_
  refine hn_ald hF a76 dX8_isSheet_8 (q := 9) rfl e (fun v1 e => ?_)
  refine hn_iconst hF dX8_isSheet_9 (q := 10) rfl ki_1 ?_
  refine hn_isub hF dX8_isSheet_10 (q := 11) rfl ?_
  refine hn_i2l hF dX8_isSheet_11 (q := 12) rfl rfl ?_
  refine hn_callSi (rest := []) hF ms_X8_in mt_X8_in lk_X8_79 (by decide) [.long (l1.toInt64), .long 0, .long ((v1 - 1).toInt64)] rfl (Nat.le_of_ble_eq_true rfl) dX8_isSheet_12 (q := 15) rfl rfl e (fun v hv => cX8_in_ hv) (fun v2 e => ?_)
  exact hn_zretPg hF hQ dX8_isSheet_15 e
theorem cX8_isSheet_ {B : hn_B} {μ : hn_M} {R : Int32} {l1 : Int32} (hV : hn_V B hn_nA) (e : fX8_isSheet μ l1 = some R) : hn_C yX8_isSheet cX8_isSheet 2 (some .boolean) 1 B [.ref (hn_base B + 72), .int l1] μ (some (.int R), μ) :=
  hn_C.of RX8 (by decide) rfl (Nat.le_of_ble_eq_true rfl) (fun _ hF hQ => gX8_isSheet hF hQ hV e)
/-! HandNewsModel.isSaying(I)Z -/
def fX8_isSaying (μ : hn_M) (l1 : Int32) : Option Int32 := hn_rd μ 80 3 0 fun v1 => (fX8_in l1.toInt64 0 ((v1 - 1).toInt64)).bind fun v2 => hn_bo v2 (some v2)
set_option maxHeartbeats 1000000 in
theorem gX8_isSaying {Z : hn_Z} {B : hn_B} {μ : hn_M} {R : Int32} (hF : hn_F Z B (0, 0) cX8_isSaying 2 RX8 (some .boolean) 1) (hQ : hn_goal Z B (some (.int R), μ)) (hV : hn_V B hn_nA) {l1 : Int32} (e : fX8_isSaying μ l1 = some R) : hn_G Z B (0, 0) 2 0 [(0, .ref (hn_base B + 72)), (1, .int l1)] [] μ := by
  unfold fX8_isSaying at e
  have a80 : hn_isA B 80 false 3 := hV 80 (by decide)
  have o72 : hn_isO B 72 8 hn_k72 := hV 72 (by decide)
  refine hn_iload_n hF dX8_isSaying_0 (q := 1) rfl 1 rfl ?_
  refine hn_i2l hF dX8_isSaying_1 (q := 2) rfl rfl ?_
  refine hn_lconst hF dX8_isSaying_2 (q := 3) rfl kl_0 ?_
  refine hn_aload_n hF dX8_isSaying_3 (q := 4) rfl 0 rfl ?_
  refine hn_get hF fl_X8_31 o72 rfl rfl dX8_isSaying_4 (q := 7) rfl ?_
  refine hn_iconst hF dX8_isSaying_7 (q := 8) rfl ki_0 ?_
  refine hn_ald hF a80 dX8_isSaying_8 (q := 9) rfl e (fun v1 e => ?_)
  refine hn_iconst hF dX8_isSaying_9 (q := 10) rfl ki_1 ?_
  refine hn_isub hF dX8_isSaying_10 (q := 11) rfl ?_
  refine hn_i2l hF dX8_isSaying_11 (q := 12) rfl rfl ?_
  refine hn_callSi (rest := []) hF ms_X8_in mt_X8_in lk_X8_79 (by decide) [.long (l1.toInt64), .long 0, .long ((v1 - 1).toInt64)] rfl (Nat.le_of_ble_eq_true rfl) dX8_isSaying_12 (q := 15) rfl rfl e (fun v hv => cX8_in_ hv) (fun v2 e => ?_)
  exact hn_zretPg hF hQ dX8_isSaying_15 e
theorem cX8_isSaying_ {B : hn_B} {μ : hn_M} {R : Int32} {l1 : Int32} (hV : hn_V B hn_nA) (e : fX8_isSaying μ l1 = some R) : hn_C yX8_isSaying cX8_isSaying 2 (some .boolean) 1 B [.ref (hn_base B + 72), .int l1] μ (some (.int R), μ) :=
  hn_C.of RX8 (by decide) rfl (Nat.le_of_ble_eq_true rfl) (fun _ hF hQ => gX8_isSaying hF hQ hV e)
/-! HandNewsModel.post(IIII)I -/
def fX8_post (F : Nat) (l1 : Int32) (l2 : Int32) (l3 : Int32) (l4 : Int32) (μ : hn_M) : Option (Int32 × hn_M) := (fX8_isTown l1).bind fun v1 => if v1 = 0 then some ((-1), μ) else (fX8_isTown l2).bind fun v2 => if v2 = 0 then some ((-1), μ) else if l1 = l2 then some ((-1), μ) else (fX8_in l3.toInt64 1 60).bind fun v3 => if v3 = 0 then some ((-1), μ) else (fX8_in l4.toInt64 l3.toInt64 60).bind fun v4 => if v4 = 0 then some ((-1), μ) else hn_rd μ 76 3 0 fun v5 => if v5 ≤ 0 then hn_wr μ 73 36 ((6 * l1) + l2) l3 fun μ6 => hn_wr μ6 74 36 ((6 * l1) + l2) l4 fun μ7 => (fX8_layWays F μ7).bind fun μ8 => some (0, μ8) else some ((-2), μ)
set_option maxHeartbeats 1000000 in
theorem gX8_post {Z : hn_Z} {B : hn_B} {F : Nat} {R : Int32 × hn_M} (hF : hn_F Z B (0, 0) cX8_post 5 RX8 (some .int) 2) (hQ : hn_goal Z B (some (.int R.1), R.2)) (hV : hn_V B hn_nA) {l1 : Int32} {l2 : Int32} {l3 : Int32} {l4 : Int32} {μ : hn_M} (e : fX8_post F l1 l2 l3 l4 μ = some R) : hn_G Z B (0, 0) 5 0 [(0, .ref (hn_base B + 72)), (1, .int l1), (2, .int l2), (3, .int l3), (4, .int l4)] [] μ := by
  unfold fX8_post at e
  have a73 : hn_isA B 73 false 36 := hV 73 (by decide)
  have a74 : hn_isA B 74 false 36 := hV 74 (by decide)
  have a76 : hn_isA B 76 false 3 := hV 76 (by decide)
  have o72 : hn_isO B 72 8 hn_k72 := hV 72 (by decide)
  refine hn_iload_n hF dX8_post_0 (q := 1) rfl 1 rfl ?_
  refine hn_callSi (rest := []) hF ms_X8_isTown mt_X8_isTown lk_X8_87 (by decide) [.int l1] rfl (Nat.le_of_ble_eq_true rfl) dX8_post_1 (q := 4) rfl rfl e (fun v hv => cX8_isTown_ hv) (fun v1 e => ?_)
  refine hn_if_eq hF dX8_post_4 (t := 45) (q := 7) rfl rfl e (fun e => ?_) (fun e => ?_)
  · refine hn_iconst hF dX8_post_45 (q := 46) rfl ki_m1 ?_
    exact hn_iretM hF hQ dX8_post_46 e
  · refine hn_iload_n hF dX8_post_7 (q := 8) rfl 2 rfl ?_
    refine hn_callSi (rest := []) hF ms_X8_isTown mt_X8_isTown lk_X8_87 (by decide) [.int l2] rfl (Nat.le_of_ble_eq_true rfl) dX8_post_8 (q := 11) rfl rfl e (fun v hv => cX8_isTown_ hv) (fun v2 e => ?_)
    refine hn_if_eq hF dX8_post_11 (t := 45) (q := 14) rfl rfl e (fun e => ?_) (fun e => ?_)
    · refine hn_iconst hF dX8_post_45 (q := 46) rfl ki_m1 ?_
      exact hn_iretM hF hQ dX8_post_46 e
    · refine hn_iload_n hF dX8_post_14 (q := 15) rfl 1 rfl ?_
      refine hn_iload_n hF dX8_post_15 (q := 16) rfl 2 rfl ?_
      refine hn_icmp_eq hF dX8_post_16 (t := 45) (q := 19) rfl rfl e (fun e => ?_) (fun e => ?_)
      · refine hn_iconst hF dX8_post_45 (q := 46) rfl ki_m1 ?_
        exact hn_iretM hF hQ dX8_post_46 e
      · refine hn_iload_n hF dX8_post_19 (q := 20) rfl 3 rfl ?_
        refine hn_i2l hF dX8_post_20 (q := 21) rfl rfl ?_
        refine hn_lconst hF dX8_post_21 (q := 22) rfl kl_1 ?_
        refine hn_ldc2 hF kd_X8_91 dX8_post_22 (q := 25) rfl ?_
        refine hn_callSi (rest := []) hF ms_X8_in mt_X8_in lk_X8_79 (by decide) [.long (l3.toInt64), .long 1, .long 60] rfl (Nat.le_of_ble_eq_true rfl) dX8_post_25 (q := 28) rfl rfl e (fun v hv => cX8_in_ hv) (fun v3 e => ?_)
        refine hn_if_eq hF dX8_post_28 (t := 45) (q := 31) rfl rfl e (fun e => ?_) (fun e => ?_)
        · refine hn_iconst hF dX8_post_45 (q := 46) rfl ki_m1 ?_
          exact hn_iretM hF hQ dX8_post_46 e
        · refine hn_iload hF dX8_post_31 (q := 33) rfl 4 rfl ?_
          refine hn_i2l hF dX8_post_33 (q := 34) rfl rfl ?_
          refine hn_iload_n hF dX8_post_34 (q := 35) rfl 3 rfl ?_
          refine hn_i2l hF dX8_post_35 (q := 36) rfl rfl ?_
          refine hn_ldc2 hF kd_X8_91 dX8_post_36 (q := 39) rfl ?_
          refine hn_callSi (rest := []) hF ms_X8_in mt_X8_in lk_X8_79 (by decide) [.long (l4.toInt64), .long (l3.toInt64), .long 60] rfl (Nat.le_of_ble_eq_true rfl) dX8_post_39 (q := 42) rfl rfl e (fun v hv => cX8_in_ hv) (fun v4 e => ?_)
          refine hn_if_ne hF dX8_post_42 (t := 47) (q := 45) rfl rfl e (fun e => ?_) (fun e => ?_)
          · refine hn_aload_n hF dX8_post_47 (q := 48) rfl 0 rfl ?_
            refine hn_get hF fl_X8_19 o72 rfl rfl dX8_post_48 (q := 51) rfl ?_
            refine hn_iconst hF dX8_post_51 (q := 52) rfl ki_0 ?_
            refine hn_ald hF a76 dX8_post_52 (q := 53) rfl e (fun v5 e => ?_)
            refine hn_if_le hF dX8_post_53 (t := 59) (q := 56) rfl rfl e (fun e => ?_) (fun e => ?_)
            · refine hn_aload_n hF dX8_post_59 (q := 60) rfl 0 rfl ?_
              refine hn_get hF fl_X8_7 o72 rfl rfl dX8_post_60 (q := 63) rfl ?_
              refine hn_bipush hF dX8_post_63 (q := 65) rfl kb_6 ?_
              refine hn_iload_n hF dX8_post_65 (q := 66) rfl 1 rfl ?_
              refine hn_imul hF dX8_post_66 (q := 67) rfl ?_
              refine hn_iload_n hF dX8_post_67 (q := 68) rfl 2 rfl ?_
              refine hn_iadd hF dX8_post_68 (q := 69) rfl ?_
              refine hn_iload_n hF dX8_post_69 (q := 70) rfl 3 rfl ?_
              refine hn_ast hF a73 dX8_post_70 (q := 71) rfl e (fun μ6 e => ?_)
              refine hn_aload_n hF dX8_post_71 (q := 72) rfl 0 rfl ?_
              refine hn_get hF fl_X8_13 o72 rfl rfl dX8_post_72 (q := 75) rfl ?_
              refine hn_bipush hF dX8_post_75 (q := 77) rfl kb_6 ?_
              refine hn_iload_n hF dX8_post_77 (q := 78) rfl 1 rfl ?_
              refine hn_imul hF dX8_post_78 (q := 79) rfl ?_
              refine hn_iload_n hF dX8_post_79 (q := 80) rfl 2 rfl ?_
              refine hn_iadd hF dX8_post_80 (q := 81) rfl ?_
              refine hn_iload hF dX8_post_81 (q := 83) rfl 4 rfl ?_
              refine hn_ast hF a74 dX8_post_83 (q := 84) rfl e (fun μ7 e => ?_)
              refine hn_aload_n hF dX8_post_84 (q := 85) rfl 0 rfl ?_
              refine hn_callVv (rest := []) hF ms_X8_layWays mv_X8_layWays lk_X8_74 o72 rfl (by decide) [] rfl (Nat.le_of_ble_eq_true rfl) dX8_post_85 (q := 88) rfl rfl e (fun v hv => cX8_layWays_ hV.W hv) (fun μ8 e => ?_)
              refine hn_iconst hF dX8_post_88 (q := 89) rfl ki_0 ?_
              exact hn_iretM hF hQ dX8_post_89 e
            · refine hn_bipush hF dX8_post_56 (q := 58) rfl kb_m2 ?_
              exact hn_iretM hF hQ dX8_post_58 e
          · refine hn_iconst hF dX8_post_45 (q := 46) rfl ki_m1 ?_
            exact hn_iretM hF hQ dX8_post_46 e
theorem cX8_post_ {B : hn_B} {F : Nat} {μ : hn_M} {R : Int32 × hn_M} {l1 : Int32} {l2 : Int32} {l3 : Int32} {l4 : Int32} (hV : hn_V B hn_nA) (e : fX8_post F l1 l2 l3 l4 μ = some R) : hn_C yX8_post cX8_post 5 (some .int) 2 B [.ref (hn_base B + 72), .int l1, .int l2, .int l3, .int l4] μ (some (.int R.1), R.2) :=
  hn_C.of RX8 (by decide) rfl (Nat.le_of_ble_eq_true rfl) (fun _ hF hQ => gX8_post hF hQ hV e)
/-! HandNewsModel.way(II)I -/
def fX8_way (μ : hn_M) (l1 : Int32) (l2 : Int32) : Option Int32 := (fX8_isTown l1).bind fun v1 => if v1 = 0 then some (-1) else (fX8_isTown l2).bind fun v2 => if v2 = 0 then some (-1) else hn_rd μ 75 36 ((6 * l1) + l2) fun v3 => some v3
set_option maxHeartbeats 1000000 in
theorem gX8_way {Z : hn_Z} {B : hn_B} {μ : hn_M} {R : Int32} (hF : hn_F Z B (0, 0) cX8_way 3 RX8 (some .int) 2) (hQ : hn_goal Z B (some (.int R), μ)) (hV : hn_V B hn_nA) {l1 : Int32} {l2 : Int32} (e : fX8_way μ l1 l2 = some R) : hn_G Z B (0, 0) 3 0 [(0, .ref (hn_base B + 72)), (1, .int l1), (2, .int l2)] [] μ := by
  unfold fX8_way at e
  have a75 : hn_isA B 75 false 36 := hV 75 (by decide)
  have o72 : hn_isO B 72 8 hn_k72 := hV 72 (by decide)
  refine hn_iload_n hF dX8_way_0 (q := 1) rfl 1 rfl ?_
  refine hn_callSi (rest := []) hF ms_X8_isTown mt_X8_isTown lk_X8_87 (by decide) [.int l1] rfl (Nat.le_of_ble_eq_true rfl) dX8_way_1 (q := 4) rfl rfl e (fun v hv => cX8_isTown_ hv) (fun v1 e => ?_)
  refine hn_if_eq hF dX8_way_4 (t := 28) (q := 7) rfl rfl e (fun e => ?_) (fun e => ?_)
  · refine hn_iconst hF dX8_way_28 (q := 29) rfl ki_m1 ?_
    exact hn_iretP hF hQ dX8_way_29 e
  · refine hn_iload_n hF dX8_way_7 (q := 8) rfl 2 rfl ?_
    refine hn_callSi (rest := []) hF ms_X8_isTown mt_X8_isTown lk_X8_87 (by decide) [.int l2] rfl (Nat.le_of_ble_eq_true rfl) dX8_way_8 (q := 11) rfl rfl e (fun v hv => cX8_isTown_ hv) (fun v2 e => ?_)
    refine hn_if_eq hF dX8_way_11 (t := 28) (q := 14) rfl rfl e (fun e => ?_) (fun e => ?_)
    · refine hn_iconst hF dX8_way_28 (q := 29) rfl ki_m1 ?_
      exact hn_iretP hF hQ dX8_way_29 e
    · refine hn_aload_n hF dX8_way_14 (q := 15) rfl 0 rfl ?_
      refine hn_get hF fl_X8_16 o72 rfl rfl dX8_way_15 (q := 18) rfl ?_
      refine hn_bipush hF dX8_way_18 (q := 20) rfl kb_6 ?_
      refine hn_iload_n hF dX8_way_20 (q := 21) rfl 1 rfl ?_
      refine hn_imul hF dX8_way_21 (q := 22) rfl ?_
      refine hn_iload_n hF dX8_way_22 (q := 23) rfl 2 rfl ?_
      refine hn_iadd hF dX8_way_23 (q := 24) rfl ?_
      refine hn_ald hF a75 dX8_way_24 (q := 25) rfl e (fun v3 e => ?_)
      refine hn_goto hF dX8_way_25 (q := 29) rfl ?_
      exact hn_iretP hF hQ dX8_way_29 e
theorem cX8_way_ {B : hn_B} {μ : hn_M} {R : Int32} {l1 : Int32} {l2 : Int32} (hV : hn_V B hn_nA) (e : fX8_way μ l1 l2 = some R) : hn_C yX8_way cX8_way 3 (some .int) 2 B [.ref (hn_base B + 72), .int l1, .int l2] μ (some (.int R), μ) :=
  hn_C.of RX8 (by decide) rfl (Nat.le_of_ble_eq_true rfl) (fun _ hF hQ => gX8_way hF hQ hV e)
/-! HandNewsModel.slow(II)I -/
def fX8_slow_40 (F : Nat) (k18 : Int32 → Int32 → Int32 → hn_M → Option (Int32 × hn_M)) (l1 : Int32) (l2 : Int32) (l3 : Int32) (s0 : Int32) (s1 : Int32) (μ : hn_M) : Option (Int32 × hn_M) := hn_wr μ 88 6 s1 s0 fun μ1 => k18 l1 l2 (l3 + 1) μ1
def fX8_slow_208 (F : Nat) (k49 : Int32 → Int32 → Int32 → hn_M → Option (Int32 × hn_M)) (k58 : Int32 → Int32 → Int32 → Int32 → hn_M → Option (Int32 × hn_M)) (k68 : Int32 → Int32 → Int32 → Int32 → Int32 → hn_M → Option (Int32 × hn_M)) (l1 : Int32) (l2 : Int32) (l3 : Int32) (l4 : Int32) (l5 : Int32) (s0 : Int32) (s1 : Int32) (μ : hn_M) : Option (Int32 × hn_M) := hn_wr μ 88 6 s1 s0 fun μ2 => k68 l1 l2 l3 l4 (l5 + 1) μ2
def fX8_slow_201 (F : Nat) (k49 : Int32 → Int32 → Int32 → hn_M → Option (Int32 × hn_M)) (k58 : Int32 → Int32 → Int32 → Int32 → hn_M → Option (Int32 × hn_M)) (k68 : Int32 → Int32 → Int32 → Int32 → Int32 → hn_M → Option (Int32 × hn_M)) (l1 : Int32) (l2 : Int32) (l3 : Int32) (l4 : Int32) (l5 : Int32) (s0 : Int32) (μ : hn_M) : Option (Int32 × hn_M) := hn_rd μ 88 6 l5 fun v3 => fX8_slow_208 F k49 k58 k68 l1 l2 l3 l4 l5 v3 s0 μ
def fX8_slow_145 (F : Nat) (k49 : Int32 → Int32 → Int32 → hn_M → Option (Int32 × hn_M)) (k58 : Int32 → Int32 → Int32 → Int32 → hn_M → Option (Int32 × hn_M)) (k68 : Int32 → Int32 → Int32 → Int32 → Int32 → hn_M → Option (Int32 × hn_M)) (l1 : Int32) (l2 : Int32) (l3 : Int32) (l4 : Int32) (l5 : Int32) (l6 : Int32) (s0 : Int32) (μ : hn_M) : Option (Int32 × hn_M) := if s0 = 0 then fX8_slow_201 F k49 k58 k68 l1 l2 l3 l4 l5 l5 μ else hn_rd μ 88 6 l4 fun v4 => hn_rd μ 74 36 l6 fun v5 => hn_rd μ 88 6 l5 fun v6 => if v4 + v5 ≤ v6 then fX8_slow_201 F k49 k58 k68 l1 l2 l3 l4 l5 l5 μ else hn_rd μ 88 6 l4 fun v7 => hn_rd μ 74 36 l6 fun v8 => fX8_slow_208 F k49 k58 k68 l1 l2 l3 l4 l5 (v7 + v8) l5 μ
def fX8_slow_144 (F : Nat) (k49 : Int32 → Int32 → Int32 → hn_M → Option (Int32 × hn_M)) (k58 : Int32 → Int32 → Int32 → Int32 → hn_M → Option (Int32 × hn_M)) (k68 : Int32 → Int32 → Int32 → Int32 → Int32 → hn_M → Option (Int32 × hn_M)) (l1 : Int32) (l2 : Int32) (l3 : Int32) (l4 : Int32) (l5 : Int32) (l6 : Int32) (μ : hn_M) : Option (Int32 × hn_M) := fX8_slow_145 F k49 k58 k68 l1 l2 l3 l4 l5 l6 0 μ
def fX8_slow_215 (F : Nat) (k49 : Int32 → Int32 → Int32 → hn_M → Option (Int32 × hn_M)) (k58 : Int32 → Int32 → Int32 → Int32 → hn_M → Option (Int32 × hn_M)) (l1 : Int32) (l2 : Int32) (l3 : Int32) (l4 : Int32) (μ : hn_M) : Option (Int32 × hn_M) := k58 l1 l2 l3 (l4 + 1) μ
def fX8_slow_68 (F : Nat) (k49 : Int32 → Int32 → Int32 → hn_M → Option (Int32 × hn_M)) (k58 : Int32 → Int32 → Int32 → Int32 → hn_M → Option (Int32 × hn_M)) : Nat → Int32 → Int32 → Int32 → Int32 → Int32 → hn_M → Option (Int32 × hn_M)
  | 0, _, _, _, _, _, _ => none
  | n + 1, l1, l2, l3, l4, l5, μ => if 6 ≤ l5 then fX8_slow_215 F k49 k58 l1 l2 l3 l4 μ else hn_rd μ 88 6 l4 fun v9 => if v9 < 0 then fX8_slow_144 F k49 k58 (fX8_slow_68 F k49 k58 n) l1 l2 l3 l4 l5 ((6 * l4) + l5) μ else hn_rd μ 73 36 ((6 * l4) + l5) fun v10 => if v10 ≤ 0 then fX8_slow_144 F k49 k58 (fX8_slow_68 F k49 k58 n) l1 l2 l3 l4 l5 ((6 * l4) + l5) μ else hn_rd μ 75 36 ((6 * l1) + l4) fun v11 => hn_rd μ 73 36 ((6 * l4) + l5) fun v12 => hn_rd μ 75 36 ((6 * l1) + l5) fun v13 => if v11 + v12 = v13 then fX8_slow_145 F k49 k58 (fX8_slow_68 F k49 k58 n) l1 l2 l3 l4 l5 ((6 * l4) + l5) 1 μ else fX8_slow_144 F k49 k58 (fX8_slow_68 F k49 k58 n) l1 l2 l3 l4 l5 ((6 * l4) + l5) μ
def fX8_slow_221 (F : Nat) (k49 : Int32 → Int32 → Int32 → hn_M → Option (Int32 × hn_M)) (l1 : Int32) (l2 : Int32) (l3 : Int32) (μ : hn_M) : Option (Int32 × hn_M) := k49 l1 l2 (l3 + 1) μ
def fX8_slow_58 (F : Nat) (k49 : Int32 → Int32 → Int32 → hn_M → Option (Int32 × hn_M)) : Nat → Int32 → Int32 → Int32 → Int32 → hn_M → Option (Int32 × hn_M)
  | 0, _, _, _, _, _ => none
  | n + 1, l1, l2, l3, l4, μ => if 6 ≤ l4 then fX8_slow_221 F k49 l1 l2 l3 μ else fX8_slow_68 F k49 (fX8_slow_58 F k49 n) F l1 l2 l3 l4 0 μ
def fX8_slow_227 (F : Nat) (l2 : Int32) (μ : hn_M) : Option (Int32 × hn_M) := hn_rd μ 88 6 l2 fun v14 => some (v14, μ)
def fX8_slow_49 (F : Nat) : Nat → Int32 → Int32 → Int32 → hn_M → Option (Int32 × hn_M)
  | 0, _, _, _, _ => none
  | n + 1, l1, l2, l3, μ => if 6 ≤ l3 then fX8_slow_227 F l2 μ else fX8_slow_58 F (fX8_slow_49 F n) F l1 l2 l3 0 μ
def fX8_slow_47 (F : Nat) (l1 : Int32) (l2 : Int32) (μ : hn_M) : Option (Int32 × hn_M) := fX8_slow_49 F F l1 l2 0 μ
def fX8_slow_18 (F : Nat) : Nat → Int32 → Int32 → Int32 → hn_M → Option (Int32 × hn_M)
  | 0, _, _, _, _ => none
  | n + 1, l1, l2, l3, μ => if 6 ≤ l3 then fX8_slow_47 F l1 l2 μ else if l3 = l1 then fX8_slow_40 F (fX8_slow_18 F n) l1 l2 l3 0 l3 μ else fX8_slow_40 F (fX8_slow_18 F n) l1 l2 l3 (-4) l3 μ
def fX8_slow (F : Nat) (l1 : Int32) (l2 : Int32) (μ : hn_M) : Option (Int32 × hn_M) := (fX8_isTown l1).bind fun v15 => if v15 = 0 then some ((-1), μ) else (fX8_isTown l2).bind fun v16 => if v16 = 0 then some ((-1), μ) else fX8_slow_18 F F l1 l2 0 μ
set_option maxHeartbeats 1000000 in
theorem gX8_slow_40 {Z : hn_Z} {B : hn_B} {F : Nat} {R : Int32 × hn_M} (hF : hn_F Z B (0, 0) cX8_slow 8 RX8 (some .int) 2) (hQ : hn_goal Z B (some (.int R.1), R.2)) (hV : hn_V B hn_nA) {k18 : Int32 → Int32 → Int32 → hn_M → Option (Int32 × hn_M)} (H18 : ∀ (l1 : Int32) (l2 : Int32) (l3 : Int32) (μ : hn_M), k18 l1 l2 l3 μ = some R → hn_G Z B (0, 0) 8 18 [(0, .ref (hn_base B + 72)), (1, .int l1), (2, .int l2), (3, .int l3)] [] μ) {l1 : Int32} {l2 : Int32} {l3 : Int32} {s0 : Int32} {s1 : Int32} {μ : hn_M} (e : fX8_slow_40 F k18 l1 l2 l3 s0 s1 μ = some R) : hn_G Z B (0, 0) 8 40 [(0, .ref (hn_base B + 72)), (1, .int l1), (2, .int l2), (3, .int l3)] [.int s0, .int s1, .ref (hn_base B + 88)] μ := by
  unfold fX8_slow_40 at e
  have a88 : hn_isA B 88 false 6 := hV 88 (by decide)
  refine hn_ast hF a88 dX8_slow_40 (q := 41) rfl e (fun μ1 e => ?_)
  refine hn_iinc (p := 3) hF dX8_slow_41 (q := 44) rfl rfl (kn_1 _) (by decide) (L' := [(3, .int (l3 + 1)), (0, .ref (hn_base B + 72)), (1, .int l1), (2, .int l2)]) rfl ?_
  refine hn_goto hF dX8_slow_44 (q := 18) rfl ?_
  refine hn_sub [1, 2, 3, 0] (L' := [(0, .ref (hn_base B + 72)), (1, .int l1), (2, .int l2), (3, .int (l3 + 1))]) rfl ?_
  exact H18 l1 l2 (l3 + 1) μ1 e
set_option maxHeartbeats 1000000 in
theorem gX8_slow_208 {Z : hn_Z} {B : hn_B} {F : Nat} {R : Int32 × hn_M} (hF : hn_F Z B (0, 0) cX8_slow 8 RX8 (some .int) 2) (hQ : hn_goal Z B (some (.int R.1), R.2)) (hV : hn_V B hn_nA) {k49 : Int32 → Int32 → Int32 → hn_M → Option (Int32 × hn_M)} (H49 : ∀ (l1 : Int32) (l2 : Int32) (l3 : Int32) (μ : hn_M), k49 l1 l2 l3 μ = some R → hn_G Z B (0, 0) 8 49 [(0, .ref (hn_base B + 72)), (1, .int l1), (2, .int l2), (3, .int l3)] [] μ) {k58 : Int32 → Int32 → Int32 → Int32 → hn_M → Option (Int32 × hn_M)} (H58 : ∀ (l1 : Int32) (l2 : Int32) (l3 : Int32) (l4 : Int32) (μ : hn_M), k58 l1 l2 l3 l4 μ = some R → hn_G Z B (0, 0) 8 58 [(0, .ref (hn_base B + 72)), (1, .int l1), (2, .int l2), (3, .int l3), (4, .int l4)] [] μ) {k68 : Int32 → Int32 → Int32 → Int32 → Int32 → hn_M → Option (Int32 × hn_M)} (H68 : ∀ (l1 : Int32) (l2 : Int32) (l3 : Int32) (l4 : Int32) (l5 : Int32) (μ : hn_M), k68 l1 l2 l3 l4 l5 μ = some R → hn_G Z B (0, 0) 8 68 [(0, .ref (hn_base B + 72)), (1, .int l1), (2, .int l2), (3, .int l3), (4, .int l4), (5, .int l5)] [] μ) {l1 : Int32} {l2 : Int32} {l3 : Int32} {l4 : Int32} {l5 : Int32} {s0 : Int32} {s1 : Int32} {μ : hn_M} (e : fX8_slow_208 F k49 k58 k68 l1 l2 l3 l4 l5 s0 s1 μ = some R) : hn_G Z B (0, 0) 8 208 [(0, .ref (hn_base B + 72)), (1, .int l1), (2, .int l2), (3, .int l3), (4, .int l4), (5, .int l5)] [.int s0, .int s1, .ref (hn_base B + 88)] μ := by
  unfold fX8_slow_208 at e
  have a88 : hn_isA B 88 false 6 := hV 88 (by decide)
  refine hn_ast hF a88 dX8_slow_208 (q := 209) rfl e (fun μ2 e => ?_)
  refine hn_iinc (p := 5) hF dX8_slow_209 (q := 212) rfl rfl (kn_1 _) (by decide) (L' := [(5, .int (l5 + 1)), (0, .ref (hn_base B + 72)), (1, .int l1), (2, .int l2), (3, .int l3), (4, .int l4)]) rfl ?_
  refine hn_goto hF dX8_slow_212 (q := 68) rfl ?_
  refine hn_sub [1, 2, 3, 4, 5, 0] (L' := [(0, .ref (hn_base B + 72)), (1, .int l1), (2, .int l2), (3, .int l3), (4, .int l4), (5, .int (l5 + 1))]) rfl ?_
  exact H68 l1 l2 l3 l4 (l5 + 1) μ2 e
set_option maxHeartbeats 1000000 in
theorem gX8_slow_201 {Z : hn_Z} {B : hn_B} {F : Nat} {R : Int32 × hn_M} (hF : hn_F Z B (0, 0) cX8_slow 8 RX8 (some .int) 2) (hQ : hn_goal Z B (some (.int R.1), R.2)) (hV : hn_V B hn_nA) {k49 : Int32 → Int32 → Int32 → hn_M → Option (Int32 × hn_M)} (H49 : ∀ (l1 : Int32) (l2 : Int32) (l3 : Int32) (μ : hn_M), k49 l1 l2 l3 μ = some R → hn_G Z B (0, 0) 8 49 [(0, .ref (hn_base B + 72)), (1, .int l1), (2, .int l2), (3, .int l3)] [] μ) {k58 : Int32 → Int32 → Int32 → Int32 → hn_M → Option (Int32 × hn_M)} (H58 : ∀ (l1 : Int32) (l2 : Int32) (l3 : Int32) (l4 : Int32) (μ : hn_M), k58 l1 l2 l3 l4 μ = some R → hn_G Z B (0, 0) 8 58 [(0, .ref (hn_base B + 72)), (1, .int l1), (2, .int l2), (3, .int l3), (4, .int l4)] [] μ) {k68 : Int32 → Int32 → Int32 → Int32 → Int32 → hn_M → Option (Int32 × hn_M)} (H68 : ∀ (l1 : Int32) (l2 : Int32) (l3 : Int32) (l4 : Int32) (l5 : Int32) (μ : hn_M), k68 l1 l2 l3 l4 l5 μ = some R → hn_G Z B (0, 0) 8 68 [(0, .ref (hn_base B + 72)), (1, .int l1), (2, .int l2), (3, .int l3), (4, .int l4), (5, .int l5)] [] μ) {l1 : Int32} {l2 : Int32} {l3 : Int32} {l4 : Int32} {l5 : Int32} {s0 : Int32} {μ : hn_M} (e : fX8_slow_201 F k49 k58 k68 l1 l2 l3 l4 l5 s0 μ = some R) : hn_G Z B (0, 0) 8 201 [(0, .ref (hn_base B + 72)), (1, .int l1), (2, .int l2), (3, .int l3), (4, .int l4), (5, .int l5)] [.int s0, .ref (hn_base B + 88)] μ := by
  unfold fX8_slow_201 at e
  have a88 : hn_isA B 88 false 6 := hV 88 (by decide)
  have o72 : hn_isO B 72 8 hn_k72 := hV 72 (by decide)
  refine hn_aload_n hF dX8_slow_201 (q := 202) rfl 0 rfl ?_
  refine hn_get hF fl_X8_59 o72 rfl rfl dX8_slow_202 (q := 205) rfl ?_
  refine hn_iload hF dX8_slow_205 (q := 207) rfl 5 rfl ?_
  refine hn_ald hF a88 dX8_slow_207 (q := 208) rfl e (fun v3 e => ?_)
  exact gX8_slow_208 hF hQ hV H49 H58 H68 e
set_option maxHeartbeats 1000000 in
theorem gX8_slow_145 {Z : hn_Z} {B : hn_B} {F : Nat} {R : Int32 × hn_M} (hF : hn_F Z B (0, 0) cX8_slow 8 RX8 (some .int) 2) (hQ : hn_goal Z B (some (.int R.1), R.2)) (hV : hn_V B hn_nA) {k49 : Int32 → Int32 → Int32 → hn_M → Option (Int32 × hn_M)} (H49 : ∀ (l1 : Int32) (l2 : Int32) (l3 : Int32) (μ : hn_M), k49 l1 l2 l3 μ = some R → hn_G Z B (0, 0) 8 49 [(0, .ref (hn_base B + 72)), (1, .int l1), (2, .int l2), (3, .int l3)] [] μ) {k58 : Int32 → Int32 → Int32 → Int32 → hn_M → Option (Int32 × hn_M)} (H58 : ∀ (l1 : Int32) (l2 : Int32) (l3 : Int32) (l4 : Int32) (μ : hn_M), k58 l1 l2 l3 l4 μ = some R → hn_G Z B (0, 0) 8 58 [(0, .ref (hn_base B + 72)), (1, .int l1), (2, .int l2), (3, .int l3), (4, .int l4)] [] μ) {k68 : Int32 → Int32 → Int32 → Int32 → Int32 → hn_M → Option (Int32 × hn_M)} (H68 : ∀ (l1 : Int32) (l2 : Int32) (l3 : Int32) (l4 : Int32) (l5 : Int32) (μ : hn_M), k68 l1 l2 l3 l4 l5 μ = some R → hn_G Z B (0, 0) 8 68 [(0, .ref (hn_base B + 72)), (1, .int l1), (2, .int l2), (3, .int l3), (4, .int l4), (5, .int l5)] [] μ) {l1 : Int32} {l2 : Int32} {l3 : Int32} {l4 : Int32} {l5 : Int32} {l6 : Int32} {s0 : Int32} {μ : hn_M} (e : fX8_slow_145 F k49 k58 k68 l1 l2 l3 l4 l5 l6 s0 μ = some R) : hn_G Z B (0, 0) 8 145 [(0, .ref (hn_base B + 72)), (1, .int l1), (2, .int l2), (3, .int l3), (4, .int l4), (5, .int l5), (6, .int l6)] [.int s0] μ := by
  unfold fX8_slow_145 at e
  have a74 : hn_isA B 74 false 36 := hV 74 (by decide)
  have a88 : hn_isA B 88 false 6 := hV 88 (by decide)
  have o72 : hn_isO B 72 8 hn_k72 := hV 72 (by decide)
  refine hn_istore hF dX8_slow_145 (q := 147) rfl (by decide) (L' := [(7, .int s0), (0, .ref (hn_base B + 72)), (1, .int l1), (2, .int l2), (3, .int l3), (4, .int l4), (5, .int l5), (6, .int l6)]) rfl ?_
  refine hn_aload_n hF dX8_slow_147 (q := 148) rfl 1 rfl ?_
  refine hn_get hF fl_X8_59 o72 rfl rfl dX8_slow_148 (q := 151) rfl ?_
  refine hn_iload hF dX8_slow_151 (q := 153) rfl 6 rfl ?_
  refine hn_iload hF dX8_slow_153 (q := 155) rfl 0 rfl ?_
  refine hn_if_eq hF dX8_slow_155 (t := 201) (q := 158) rfl rfl e (fun e => ?_) (fun e => ?_)
  · refine hn_sub [1, 2, 3, 4, 5, 6] (L' := [(0, .ref (hn_base B + 72)), (1, .int l1), (2, .int l2), (3, .int l3), (4, .int l4), (5, .int l5)]) rfl ?_
    exact gX8_slow_201 hF hQ hV H49 H58 H68 e
  · refine hn_aload_n hF dX8_slow_158 (q := 159) rfl 1 rfl ?_
    refine hn_get hF fl_X8_59 o72 rfl rfl dX8_slow_159 (q := 162) rfl ?_
    refine hn_iload hF dX8_slow_162 (q := 164) rfl 5 rfl ?_
    refine hn_ald hF a88 dX8_slow_164 (q := 165) rfl e (fun v4 e => ?_)
    refine hn_aload_n hF dX8_slow_165 (q := 166) rfl 1 rfl ?_
    refine hn_get hF fl_X8_13 o72 rfl rfl dX8_slow_166 (q := 169) rfl ?_
    refine hn_iload hF dX8_slow_169 (q := 171) rfl 7 rfl ?_
    refine hn_ald hF a74 dX8_slow_171 (q := 172) rfl e (fun v5 e => ?_)
    refine hn_iadd hF dX8_slow_172 (q := 173) rfl ?_
    refine hn_aload_n hF dX8_slow_173 (q := 174) rfl 1 rfl ?_
    refine hn_get hF fl_X8_59 o72 rfl rfl dX8_slow_174 (q := 177) rfl ?_
    refine hn_iload hF dX8_slow_177 (q := 179) rfl 6 rfl ?_
    refine hn_ald hF a88 dX8_slow_179 (q := 180) rfl e (fun v6 e => ?_)
    refine hn_icmp_le hF dX8_slow_180 (t := 201) (q := 183) rfl rfl e (fun e => ?_) (fun e => ?_)
    · refine hn_sub [1, 2, 3, 4, 5, 6] (L' := [(0, .ref (hn_base B + 72)), (1, .int l1), (2, .int l2), (3, .int l3), (4, .int l4), (5, .int l5)]) rfl ?_
      exact gX8_slow_201 hF hQ hV H49 H58 H68 e
    · refine hn_aload_n hF dX8_slow_183 (q := 184) rfl 1 rfl ?_
      refine hn_get hF fl_X8_59 o72 rfl rfl dX8_slow_184 (q := 187) rfl ?_
      refine hn_iload hF dX8_slow_187 (q := 189) rfl 5 rfl ?_
      refine hn_ald hF a88 dX8_slow_189 (q := 190) rfl e (fun v7 e => ?_)
      refine hn_aload_n hF dX8_slow_190 (q := 191) rfl 1 rfl ?_
      refine hn_get hF fl_X8_13 o72 rfl rfl dX8_slow_191 (q := 194) rfl ?_
      refine hn_iload hF dX8_slow_194 (q := 196) rfl 7 rfl ?_
      refine hn_ald hF a74 dX8_slow_196 (q := 197) rfl e (fun v8 e => ?_)
      refine hn_iadd hF dX8_slow_197 (q := 198) rfl ?_
      refine hn_goto hF dX8_slow_198 (q := 208) rfl ?_
      refine hn_sub [1, 2, 3, 4, 5, 6] (L' := [(0, .ref (hn_base B + 72)), (1, .int l1), (2, .int l2), (3, .int l3), (4, .int l4), (5, .int l5)]) rfl ?_
      exact gX8_slow_208 hF hQ hV H49 H58 H68 e
set_option maxHeartbeats 1000000 in
theorem gX8_slow_144 {Z : hn_Z} {B : hn_B} {F : Nat} {R : Int32 × hn_M} (hF : hn_F Z B (0, 0) cX8_slow 8 RX8 (some .int) 2) (hQ : hn_goal Z B (some (.int R.1), R.2)) (hV : hn_V B hn_nA) {k49 : Int32 → Int32 → Int32 → hn_M → Option (Int32 × hn_M)} (H49 : ∀ (l1 : Int32) (l2 : Int32) (l3 : Int32) (μ : hn_M), k49 l1 l2 l3 μ = some R → hn_G Z B (0, 0) 8 49 [(0, .ref (hn_base B + 72)), (1, .int l1), (2, .int l2), (3, .int l3)] [] μ) {k58 : Int32 → Int32 → Int32 → Int32 → hn_M → Option (Int32 × hn_M)} (H58 : ∀ (l1 : Int32) (l2 : Int32) (l3 : Int32) (l4 : Int32) (μ : hn_M), k58 l1 l2 l3 l4 μ = some R → hn_G Z B (0, 0) 8 58 [(0, .ref (hn_base B + 72)), (1, .int l1), (2, .int l2), (3, .int l3), (4, .int l4)] [] μ) {k68 : Int32 → Int32 → Int32 → Int32 → Int32 → hn_M → Option (Int32 × hn_M)} (H68 : ∀ (l1 : Int32) (l2 : Int32) (l3 : Int32) (l4 : Int32) (l5 : Int32) (μ : hn_M), k68 l1 l2 l3 l4 l5 μ = some R → hn_G Z B (0, 0) 8 68 [(0, .ref (hn_base B + 72)), (1, .int l1), (2, .int l2), (3, .int l3), (4, .int l4), (5, .int l5)] [] μ) {l1 : Int32} {l2 : Int32} {l3 : Int32} {l4 : Int32} {l5 : Int32} {l6 : Int32} {μ : hn_M} (e : fX8_slow_144 F k49 k58 k68 l1 l2 l3 l4 l5 l6 μ = some R) : hn_G Z B (0, 0) 8 144 [(0, .ref (hn_base B + 72)), (1, .int l1), (2, .int l2), (3, .int l3), (4, .int l4), (5, .int l5), (6, .int l6)] [] μ := by
  unfold fX8_slow_144 at e
  refine hn_iconst hF dX8_slow_144 (q := 145) rfl ki_0 ?_
  exact gX8_slow_145 hF hQ hV H49 H58 H68 e
set_option maxHeartbeats 1000000 in
theorem gX8_slow_215 {Z : hn_Z} {B : hn_B} {F : Nat} {R : Int32 × hn_M} (hF : hn_F Z B (0, 0) cX8_slow 8 RX8 (some .int) 2) (hQ : hn_goal Z B (some (.int R.1), R.2)) (hV : hn_V B hn_nA) {k49 : Int32 → Int32 → Int32 → hn_M → Option (Int32 × hn_M)} (H49 : ∀ (l1 : Int32) (l2 : Int32) (l3 : Int32) (μ : hn_M), k49 l1 l2 l3 μ = some R → hn_G Z B (0, 0) 8 49 [(0, .ref (hn_base B + 72)), (1, .int l1), (2, .int l2), (3, .int l3)] [] μ) {k58 : Int32 → Int32 → Int32 → Int32 → hn_M → Option (Int32 × hn_M)} (H58 : ∀ (l1 : Int32) (l2 : Int32) (l3 : Int32) (l4 : Int32) (μ : hn_M), k58 l1 l2 l3 l4 μ = some R → hn_G Z B (0, 0) 8 58 [(0, .ref (hn_base B + 72)), (1, .int l1), (2, .int l2), (3, .int l3), (4, .int l4)] [] μ) {l1 : Int32} {l2 : Int32} {l3 : Int32} {l4 : Int32} {μ : hn_M} (e : fX8_slow_215 F k49 k58 l1 l2 l3 l4 μ = some R) : hn_G Z B (0, 0) 8 215 [(0, .ref (hn_base B + 72)), (1, .int l1), (2, .int l2), (3, .int l3), (4, .int l4)] [] μ := by
  unfold fX8_slow_215 at e
  refine hn_iinc (p := 4) hF dX8_slow_215 (q := 218) rfl rfl (kn_1 _) (by decide) (L' := [(4, .int (l4 + 1)), (0, .ref (hn_base B + 72)), (1, .int l1), (2, .int l2), (3, .int l3)]) rfl ?_
  refine hn_goto hF dX8_slow_218 (q := 58) rfl ?_
  refine hn_sub [1, 2, 3, 4, 0] (L' := [(0, .ref (hn_base B + 72)), (1, .int l1), (2, .int l2), (3, .int l3), (4, .int (l4 + 1))]) rfl ?_
  exact H58 l1 l2 l3 (l4 + 1) μ e
set_option maxHeartbeats 1000000 in
theorem gX8_slow_68 {Z : hn_Z} {B : hn_B} {F : Nat} {R : Int32 × hn_M} (hF : hn_F Z B (0, 0) cX8_slow 8 RX8 (some .int) 2) (hQ : hn_goal Z B (some (.int R.1), R.2)) (hV : hn_V B hn_nA) {k49 : Int32 → Int32 → Int32 → hn_M → Option (Int32 × hn_M)} (H49 : ∀ (l1 : Int32) (l2 : Int32) (l3 : Int32) (μ : hn_M), k49 l1 l2 l3 μ = some R → hn_G Z B (0, 0) 8 49 [(0, .ref (hn_base B + 72)), (1, .int l1), (2, .int l2), (3, .int l3)] [] μ) {k58 : Int32 → Int32 → Int32 → Int32 → hn_M → Option (Int32 × hn_M)} (H58 : ∀ (l1 : Int32) (l2 : Int32) (l3 : Int32) (l4 : Int32) (μ : hn_M), k58 l1 l2 l3 l4 μ = some R → hn_G Z B (0, 0) 8 58 [(0, .ref (hn_base B + 72)), (1, .int l1), (2, .int l2), (3, .int l3), (4, .int l4)] [] μ) : ∀ (n : Nat) (l1 : Int32) (l2 : Int32) (l3 : Int32) (l4 : Int32) (l5 : Int32) (μ : hn_M), fX8_slow_68 F k49 k58 n l1 l2 l3 l4 l5 μ = some R → hn_G Z B (0, 0) 8 68 [(0, .ref (hn_base B + 72)), (1, .int l1), (2, .int l2), (3, .int l3), (4, .int l4), (5, .int l5)] [] μ := by
  have a73 : hn_isA B 73 false 36 := hV 73 (by decide)
  have a75 : hn_isA B 75 false 36 := hV 75 (by decide)
  have a88 : hn_isA B 88 false 6 := hV 88 (by decide)
  have o72 : hn_isO B 72 8 hn_k72 := hV 72 (by decide)
  intro n
  induction n with
  | zero => intro l1 l2 l3 l4 l5 μ e; rw [fX8_slow_68] at e; cases e
  | succ n ih =>
    intro l1 l2 l3 l4 l5 μ e
    rw [fX8_slow_68] at e
    refine hn_iload hF dX8_slow_68 (q := 70) rfl 5 rfl ?_
    refine hn_bipush hF dX8_slow_70 (q := 72) rfl kb_6 ?_
    refine hn_icmp_ge hF dX8_slow_72 (t := 215) (q := 75) rfl rfl e (fun e => ?_) (fun e => ?_)
    · refine hn_sub [0, 1, 2, 3, 4] (L' := [(0, .ref (hn_base B + 72)), (1, .int l1), (2, .int l2), (3, .int l3), (4, .int l4)]) rfl ?_
      exact gX8_slow_215 hF hQ hV H49 H58 e
    · refine hn_bipush hF dX8_slow_75 (q := 77) rfl kb_6 ?_
      refine hn_iload hF dX8_slow_77 (q := 79) rfl 4 rfl ?_
      refine hn_imul hF dX8_slow_79 (q := 80) rfl ?_
      refine hn_iload hF dX8_slow_80 (q := 82) rfl 5 rfl ?_
      refine hn_iadd hF dX8_slow_82 (q := 83) rfl ?_
      refine hn_istore hF dX8_slow_83 (q := 85) rfl (by decide) (L' := [(6, .int ((6 * l4) + l5)), (0, .ref (hn_base B + 72)), (1, .int l1), (2, .int l2), (3, .int l3), (4, .int l4), (5, .int l5)]) rfl ?_
      refine hn_aload_n hF dX8_slow_85 (q := 86) rfl 1 rfl ?_
      refine hn_get hF fl_X8_59 o72 rfl rfl dX8_slow_86 (q := 89) rfl ?_
      refine hn_iload hF dX8_slow_89 (q := 91) rfl 5 rfl ?_
      refine hn_ald hF a88 dX8_slow_91 (q := 92) rfl e (fun v9 e => ?_)
      refine hn_if_lt hF dX8_slow_92 (t := 144) (q := 95) rfl rfl e (fun e => ?_) (fun e => ?_)
      · refine hn_sub [1, 2, 3, 4, 5, 6, 0] (L' := [(0, .ref (hn_base B + 72)), (1, .int l1), (2, .int l2), (3, .int l3), (4, .int l4), (5, .int l5), (6, .int ((6 * l4) + l5))]) rfl ?_
        exact gX8_slow_144 hF hQ hV H49 H58 ih e
      · refine hn_aload_n hF dX8_slow_95 (q := 96) rfl 1 rfl ?_
        refine hn_get hF fl_X8_7 o72 rfl rfl dX8_slow_96 (q := 99) rfl ?_
        refine hn_iload hF dX8_slow_99 (q := 101) rfl 0 rfl ?_
        refine hn_ald hF a73 dX8_slow_101 (q := 102) rfl e (fun v10 e => ?_)
        refine hn_if_le hF dX8_slow_102 (t := 144) (q := 105) rfl rfl e (fun e => ?_) (fun e => ?_)
        · refine hn_sub [1, 2, 3, 4, 5, 6, 0] (L' := [(0, .ref (hn_base B + 72)), (1, .int l1), (2, .int l2), (3, .int l3), (4, .int l4), (5, .int l5), (6, .int ((6 * l4) + l5))]) rfl ?_
          exact gX8_slow_144 hF hQ hV H49 H58 ih e
        · refine hn_aload_n hF dX8_slow_105 (q := 106) rfl 1 rfl ?_
          refine hn_get hF fl_X8_16 o72 rfl rfl dX8_slow_106 (q := 109) rfl ?_
          refine hn_bipush hF dX8_slow_109 (q := 111) rfl kb_6 ?_
          refine hn_iload_n hF dX8_slow_111 (q := 112) rfl 2 rfl ?_
          refine hn_imul hF dX8_slow_112 (q := 113) rfl ?_
          refine hn_iload hF dX8_slow_113 (q := 115) rfl 5 rfl ?_
          refine hn_iadd hF dX8_slow_115 (q := 116) rfl ?_
          refine hn_ald hF a75 dX8_slow_116 (q := 117) rfl e (fun v11 e => ?_)
          refine hn_aload_n hF dX8_slow_117 (q := 118) rfl 1 rfl ?_
          refine hn_get hF fl_X8_7 o72 rfl rfl dX8_slow_118 (q := 121) rfl ?_
          refine hn_iload hF dX8_slow_121 (q := 123) rfl 0 rfl ?_
          refine hn_ald hF a73 dX8_slow_123 (q := 124) rfl e (fun v12 e => ?_)
          refine hn_iadd hF dX8_slow_124 (q := 125) rfl ?_
          refine hn_aload_n hF dX8_slow_125 (q := 126) rfl 1 rfl ?_
          refine hn_get hF fl_X8_16 o72 rfl rfl dX8_slow_126 (q := 129) rfl ?_
          refine hn_bipush hF dX8_slow_129 (q := 131) rfl kb_6 ?_
          refine hn_iload_n hF dX8_slow_131 (q := 132) rfl 2 rfl ?_
          refine hn_imul hF dX8_slow_132 (q := 133) rfl ?_
          refine hn_iload hF dX8_slow_133 (q := 135) rfl 6 rfl ?_
          refine hn_iadd hF dX8_slow_135 (q := 136) rfl ?_
          refine hn_ald hF a75 dX8_slow_136 (q := 137) rfl e (fun v13 e => ?_)
          refine hn_icmp_ne hF dX8_slow_137 (t := 144) (q := 140) rfl rfl e (fun e => ?_) (fun e => ?_)
          · refine hn_sub [1, 2, 3, 4, 5, 6, 0] (L' := [(0, .ref (hn_base B + 72)), (1, .int l1), (2, .int l2), (3, .int l3), (4, .int l4), (5, .int l5), (6, .int ((6 * l4) + l5))]) rfl ?_
            exact gX8_slow_144 hF hQ hV H49 H58 ih e
          · refine hn_iconst hF dX8_slow_140 (q := 141) rfl ki_1 ?_
            refine hn_goto hF dX8_slow_141 (q := 145) rfl ?_
            refine hn_sub [1, 2, 3, 4, 5, 6, 0] (L' := [(0, .ref (hn_base B + 72)), (1, .int l1), (2, .int l2), (3, .int l3), (4, .int l4), (5, .int l5), (6, .int ((6 * l4) + l5))]) rfl ?_
            exact gX8_slow_145 hF hQ hV H49 H58 ih e
set_option maxHeartbeats 1000000 in
theorem gX8_slow_221 {Z : hn_Z} {B : hn_B} {F : Nat} {R : Int32 × hn_M} (hF : hn_F Z B (0, 0) cX8_slow 8 RX8 (some .int) 2) (hQ : hn_goal Z B (some (.int R.1), R.2)) (hV : hn_V B hn_nA) {k49 : Int32 → Int32 → Int32 → hn_M → Option (Int32 × hn_M)} (H49 : ∀ (l1 : Int32) (l2 : Int32) (l3 : Int32) (μ : hn_M), k49 l1 l2 l3 μ = some R → hn_G Z B (0, 0) 8 49 [(0, .ref (hn_base B + 72)), (1, .int l1), (2, .int l2), (3, .int l3)] [] μ) {l1 : Int32} {l2 : Int32} {l3 : Int32} {μ : hn_M} (e : fX8_slow_221 F k49 l1 l2 l3 μ = some R) : hn_G Z B (0, 0) 8 221 [(0, .ref (hn_base B + 72)), (1, .int l1), (2, .int l2), (3, .int l3)] [] μ := by
  unfold fX8_slow_221 at e
  refine hn_iinc (p := 3) hF dX8_slow_221 (q := 224) rfl rfl (kn_1 _) (by decide) (L' := [(3, .int (l3 + 1)), (0, .ref (hn_base B + 72)), (1, .int l1), (2, .int l2)]) rfl ?_
  refine hn_goto hF dX8_slow_224 (q := 49) rfl ?_
  refine hn_sub [1, 2, 3, 0] (L' := [(0, .ref (hn_base B + 72)), (1, .int l1), (2, .int l2), (3, .int (l3 + 1))]) rfl ?_
  exact H49 l1 l2 (l3 + 1) μ e
set_option maxHeartbeats 1000000 in
theorem gX8_slow_58 {Z : hn_Z} {B : hn_B} {F : Nat} {R : Int32 × hn_M} (hF : hn_F Z B (0, 0) cX8_slow 8 RX8 (some .int) 2) (hQ : hn_goal Z B (some (.int R.1), R.2)) (hV : hn_V B hn_nA) {k49 : Int32 → Int32 → Int32 → hn_M → Option (Int32 × hn_M)} (H49 : ∀ (l1 : Int32) (l2 : Int32) (l3 : Int32) (μ : hn_M), k49 l1 l2 l3 μ = some R → hn_G Z B (0, 0) 8 49 [(0, .ref (hn_base B + 72)), (1, .int l1), (2, .int l2), (3, .int l3)] [] μ) : ∀ (n : Nat) (l1 : Int32) (l2 : Int32) (l3 : Int32) (l4 : Int32) (μ : hn_M), fX8_slow_58 F k49 n l1 l2 l3 l4 μ = some R → hn_G Z B (0, 0) 8 58 [(0, .ref (hn_base B + 72)), (1, .int l1), (2, .int l2), (3, .int l3), (4, .int l4)] [] μ := by
  intro n
  induction n with
  | zero => intro l1 l2 l3 l4 μ e; rw [fX8_slow_58] at e; cases e
  | succ n ih =>
    intro l1 l2 l3 l4 μ e
    rw [fX8_slow_58] at e
    refine hn_iload hF dX8_slow_58 (q := 60) rfl 4 rfl ?_
    refine hn_bipush hF dX8_slow_60 (q := 62) rfl kb_6 ?_
    refine hn_icmp_ge hF dX8_slow_62 (t := 221) (q := 65) rfl rfl e (fun e => ?_) (fun e => ?_)
    · refine hn_sub [0, 1, 2, 3] (L' := [(0, .ref (hn_base B + 72)), (1, .int l1), (2, .int l2), (3, .int l3)]) rfl ?_
      exact gX8_slow_221 hF hQ hV H49 e
    · refine hn_iconst hF dX8_slow_65 (q := 66) rfl ki_0 ?_
      refine hn_istore hF dX8_slow_66 (q := 68) rfl (by decide) (L' := [(5, .int 0), (0, .ref (hn_base B + 72)), (1, .int l1), (2, .int l2), (3, .int l3), (4, .int l4)]) rfl ?_
      refine hn_sub [1, 2, 3, 4, 5, 0] (L' := [(0, .ref (hn_base B + 72)), (1, .int l1), (2, .int l2), (3, .int l3), (4, .int l4), (5, .int 0)]) rfl ?_
      exact gX8_slow_68 hF hQ hV H49 ih F l1 l2 l3 l4 0 μ e
set_option maxHeartbeats 1000000 in
theorem gX8_slow_227 {Z : hn_Z} {B : hn_B} {F : Nat} {R : Int32 × hn_M} (hF : hn_F Z B (0, 0) cX8_slow 8 RX8 (some .int) 2) (hQ : hn_goal Z B (some (.int R.1), R.2)) (hV : hn_V B hn_nA) {l2 : Int32} {μ : hn_M} (e : fX8_slow_227 F l2 μ = some R) : hn_G Z B (0, 0) 8 227 [(0, .ref (hn_base B + 72)), (2, .int l2)] [] μ := by
  unfold fX8_slow_227 at e
  have a88 : hn_isA B 88 false 6 := hV 88 (by decide)
  have o72 : hn_isO B 72 8 hn_k72 := hV 72 (by decide)
  refine hn_aload_n hF dX8_slow_227 (q := 228) rfl 0 rfl ?_
  refine hn_get hF fl_X8_59 o72 rfl rfl dX8_slow_228 (q := 231) rfl ?_
  refine hn_iload_n hF dX8_slow_231 (q := 232) rfl 1 rfl ?_
  refine hn_ald hF a88 dX8_slow_232 (q := 233) rfl e (fun v14 e => ?_)
  exact hn_iretM hF hQ dX8_slow_233 e
set_option maxHeartbeats 1000000 in
theorem gX8_slow_49 {Z : hn_Z} {B : hn_B} {F : Nat} {R : Int32 × hn_M} (hF : hn_F Z B (0, 0) cX8_slow 8 RX8 (some .int) 2) (hQ : hn_goal Z B (some (.int R.1), R.2)) (hV : hn_V B hn_nA) : ∀ (n : Nat) (l1 : Int32) (l2 : Int32) (l3 : Int32) (μ : hn_M), fX8_slow_49 F n l1 l2 l3 μ = some R → hn_G Z B (0, 0) 8 49 [(0, .ref (hn_base B + 72)), (1, .int l1), (2, .int l2), (3, .int l3)] [] μ := by
  intro n
  induction n with
  | zero => intro l1 l2 l3 μ e; rw [fX8_slow_49] at e; cases e
  | succ n ih =>
    intro l1 l2 l3 μ e
    rw [fX8_slow_49] at e
    refine hn_iload_n hF dX8_slow_49 (q := 50) rfl 3 rfl ?_
    refine hn_bipush hF dX8_slow_50 (q := 52) rfl kb_6 ?_
    refine hn_icmp_ge hF dX8_slow_52 (t := 227) (q := 55) rfl rfl e (fun e => ?_) (fun e => ?_)
    · refine hn_sub [0, 2] (L' := [(0, .ref (hn_base B + 72)), (2, .int l2)]) rfl ?_
      exact gX8_slow_227 hF hQ hV e
    · refine hn_iconst hF dX8_slow_55 (q := 56) rfl ki_0 ?_
      refine hn_istore hF dX8_slow_56 (q := 58) rfl (by decide) (L' := [(4, .int 0), (0, .ref (hn_base B + 72)), (1, .int l1), (2, .int l2), (3, .int l3)]) rfl ?_
      refine hn_sub [1, 2, 3, 4, 0] (L' := [(0, .ref (hn_base B + 72)), (1, .int l1), (2, .int l2), (3, .int l3), (4, .int 0)]) rfl ?_
      exact gX8_slow_58 hF hQ hV ih F l1 l2 l3 0 μ e
set_option maxHeartbeats 1000000 in
theorem gX8_slow_47 {Z : hn_Z} {B : hn_B} {F : Nat} {R : Int32 × hn_M} (hF : hn_F Z B (0, 0) cX8_slow 8 RX8 (some .int) 2) (hQ : hn_goal Z B (some (.int R.1), R.2)) (hV : hn_V B hn_nA) {l1 : Int32} {l2 : Int32} {μ : hn_M} (e : fX8_slow_47 F l1 l2 μ = some R) : hn_G Z B (0, 0) 8 47 [(0, .ref (hn_base B + 72)), (1, .int l1), (2, .int l2)] [] μ := by
  unfold fX8_slow_47 at e
  refine hn_iconst hF dX8_slow_47 (q := 48) rfl ki_0 ?_
  refine hn_istore_n hF dX8_slow_48 (q := 49) rfl (i := 3) rfl (by decide) (L' := [(3, .int 0), (0, .ref (hn_base B + 72)), (1, .int l1), (2, .int l2)]) rfl ?_
  refine hn_sub [1, 2, 3, 0] (L' := [(0, .ref (hn_base B + 72)), (1, .int l1), (2, .int l2), (3, .int 0)]) rfl ?_
  exact gX8_slow_49 hF hQ hV F l1 l2 0 μ e
set_option maxHeartbeats 1000000 in
theorem gX8_slow_18 {Z : hn_Z} {B : hn_B} {F : Nat} {R : Int32 × hn_M} (hF : hn_F Z B (0, 0) cX8_slow 8 RX8 (some .int) 2) (hQ : hn_goal Z B (some (.int R.1), R.2)) (hV : hn_V B hn_nA) : ∀ (n : Nat) (l1 : Int32) (l2 : Int32) (l3 : Int32) (μ : hn_M), fX8_slow_18 F n l1 l2 l3 μ = some R → hn_G Z B (0, 0) 8 18 [(0, .ref (hn_base B + 72)), (1, .int l1), (2, .int l2), (3, .int l3)] [] μ := by
  have o72 : hn_isO B 72 8 hn_k72 := hV 72 (by decide)
  intro n
  induction n with
  | zero => intro l1 l2 l3 μ e; rw [fX8_slow_18] at e; cases e
  | succ n ih =>
    intro l1 l2 l3 μ e
    rw [fX8_slow_18] at e
    refine hn_iload_n hF dX8_slow_18 (q := 19) rfl 3 rfl ?_
    refine hn_bipush hF dX8_slow_19 (q := 21) rfl kb_6 ?_
    refine hn_icmp_ge hF dX8_slow_21 (t := 47) (q := 24) rfl rfl e (fun e => ?_) (fun e => ?_)
    · refine hn_sub [0, 1, 2] (L' := [(0, .ref (hn_base B + 72)), (1, .int l1), (2, .int l2)]) rfl ?_
      exact gX8_slow_47 hF hQ hV e
    · refine hn_aload_n hF dX8_slow_24 (q := 25) rfl 0 rfl ?_
      refine hn_get hF fl_X8_59 o72 rfl rfl dX8_slow_25 (q := 28) rfl ?_
      refine hn_iload_n hF dX8_slow_28 (q := 29) rfl 3 rfl ?_
      refine hn_iload_n hF dX8_slow_29 (q := 30) rfl 3 rfl ?_
      refine hn_iload_n hF dX8_slow_30 (q := 31) rfl 1 rfl ?_
      refine hn_icmp_ne hF dX8_slow_31 (t := 38) (q := 34) rfl rfl e (fun e => ?_) (fun e => ?_)
      · refine hn_bipush hF dX8_slow_38 (q := 40) rfl kb_m4 ?_
        exact gX8_slow_40 hF hQ hV ih e
      · refine hn_iconst hF dX8_slow_34 (q := 35) rfl ki_0 ?_
        refine hn_goto hF dX8_slow_35 (q := 40) rfl ?_
        exact gX8_slow_40 hF hQ hV ih e
set_option maxHeartbeats 1000000 in
theorem gX8_slow {Z : hn_Z} {B : hn_B} {F : Nat} {R : Int32 × hn_M} (hF : hn_F Z B (0, 0) cX8_slow 8 RX8 (some .int) 2) (hQ : hn_goal Z B (some (.int R.1), R.2)) (hV : hn_V B hn_nA) {l1 : Int32} {l2 : Int32} {μ : hn_M} (e : fX8_slow F l1 l2 μ = some R) : hn_G Z B (0, 0) 8 0 [(0, .ref (hn_base B + 72)), (1, .int l1), (2, .int l2)] [] μ := by
  unfold fX8_slow at e
  refine hn_iload_n hF dX8_slow_0 (q := 1) rfl 1 rfl ?_
  refine hn_callSi (rest := []) hF ms_X8_isTown mt_X8_isTown lk_X8_87 (by decide) [.int l1] rfl (Nat.le_of_ble_eq_true rfl) dX8_slow_1 (q := 4) rfl rfl e (fun v hv => cX8_isTown_ hv) (fun v15 e => ?_)
  refine hn_if_eq hF dX8_slow_4 (t := 14) (q := 7) rfl rfl e (fun e => ?_) (fun e => ?_)
  · refine hn_iconst hF dX8_slow_14 (q := 15) rfl ki_m1 ?_
    exact hn_iretM hF hQ dX8_slow_15 e
  · refine hn_iload_n hF dX8_slow_7 (q := 8) rfl 2 rfl ?_
    refine hn_callSi (rest := []) hF ms_X8_isTown mt_X8_isTown lk_X8_87 (by decide) [.int l2] rfl (Nat.le_of_ble_eq_true rfl) dX8_slow_8 (q := 11) rfl rfl e (fun v hv => cX8_isTown_ hv) (fun v16 e => ?_)
    refine hn_if_ne hF dX8_slow_11 (t := 16) (q := 14) rfl rfl e (fun e => ?_) (fun e => ?_)
    · refine hn_iconst hF dX8_slow_16 (q := 17) rfl ki_0 ?_
      refine hn_istore_n hF dX8_slow_17 (q := 18) rfl (i := 3) rfl (by decide) (L' := [(3, .int 0), (0, .ref (hn_base B + 72)), (1, .int l1), (2, .int l2)]) rfl ?_
      refine hn_sub [1, 2, 3, 0] (L' := [(0, .ref (hn_base B + 72)), (1, .int l1), (2, .int l2), (3, .int 0)]) rfl ?_
      exact gX8_slow_18 hF hQ hV F l1 l2 0 μ e
    · refine hn_iconst hF dX8_slow_14 (q := 15) rfl ki_m1 ?_
      exact hn_iretM hF hQ dX8_slow_15 e
theorem cX8_slow_ {B : hn_B} {F : Nat} {μ : hn_M} {R : Int32 × hn_M} {l1 : Int32} {l2 : Int32} (hV : hn_V B hn_nA) (e : fX8_slow F l1 l2 μ = some R) : hn_C yX8_slow cX8_slow 8 (some .int) 2 B [.ref (hn_base B + 72), .int l1, .int l2] μ (some (.int R.1), R.2) :=
  hn_C.of RX8 (by decide) rfl (Nat.le_of_ble_eq_true rfl) (fun _ hF hQ => gX8_slow hF hQ hV e)
/-! HandNewsModel.sheet(III)I -/
def fX8_sheet (l1 : Int32) (l2 : Int32) (l3 : Int32) (μ : hn_M) : Option (Int32 × hn_M) := (fX8_isTown l1).bind fun v1 => if v1 = 0 then some ((-1), μ) else (fX8_in l2.toInt64 0 7).bind fun v2 => if v2 = 0 then some ((-1), μ) else (fX8_in l3.toInt64 (-1) 999).bind fun v3 => if v3 = 0 then some ((-1), μ) else hn_rd μ 76 3 0 fun v4 => if v4 = 12 then some ((-3), μ) else hn_rd μ 76 3 0 fun v5 => hn_wr μ 77 108 (3 * v5) l1 fun μ6 => hn_wr μ6 77 108 ((3 * v5) + 1) l2 fun μ7 => hn_wr μ7 77 108 ((3 * v5) + 2) l3 fun μ8 => hn_rd μ8 76 3 0 fun v9 => hn_wr μ8 76 3 0 (v9 + 1) fun μ10 => hn_rd μ10 76 3 0 fun v11 => some (v11 - 1, μ10)
set_option maxHeartbeats 1000000 in
theorem gX8_sheet {Z : hn_Z} {B : hn_B} {R : Int32 × hn_M} (hF : hn_F Z B (0, 0) cX8_sheet 5 RX8 (some .int) 2) (hQ : hn_goal Z B (some (.int R.1), R.2)) (hV : hn_V B hn_nA) {l1 : Int32} {l2 : Int32} {l3 : Int32} {μ : hn_M} (e : fX8_sheet l1 l2 l3 μ = some R) : hn_G Z B (0, 0) 5 0 [(0, .ref (hn_base B + 72)), (1, .int l1), (2, .int l2), (3, .int l3)] [] μ := by
  unfold fX8_sheet at e
  have a76 : hn_isA B 76 false 3 := hV 76 (by decide)
  have a77 : hn_isA B 77 false 108 := hV 77 (by decide)
  have o72 : hn_isO B 72 8 hn_k72 := hV 72 (by decide)
  refine hn_iload_n hF dX8_sheet_0 (q := 1) rfl 1 rfl ?_
  refine hn_callSi (rest := []) hF ms_X8_isTown mt_X8_isTown lk_X8_87 (by decide) [.int l1] rfl (Nat.le_of_ble_eq_true rfl) dX8_sheet_1 (q := 4) rfl rfl e (fun v hv => cX8_isTown_ hv) (fun v1 e => ?_)
  refine hn_if_eq hF dX8_sheet_4 (t := 33) (q := 7) rfl rfl e (fun e => ?_) (fun e => ?_)
  · refine hn_iconst hF dX8_sheet_33 (q := 34) rfl ki_m1 ?_
    exact hn_iretM hF hQ dX8_sheet_34 e
  · refine hn_iload_n hF dX8_sheet_7 (q := 8) rfl 2 rfl ?_
    refine hn_i2l hF dX8_sheet_8 (q := 9) rfl rfl ?_
    refine hn_lconst hF dX8_sheet_9 (q := 10) rfl kl_0 ?_
    refine hn_ldc2 hF kd_X8_93 dX8_sheet_10 (q := 13) rfl ?_
    refine hn_callSi (rest := []) hF ms_X8_in mt_X8_in lk_X8_79 (by decide) [.long (l2.toInt64), .long 0, .long 7] rfl (Nat.le_of_ble_eq_true rfl) dX8_sheet_13 (q := 16) rfl rfl e (fun v hv => cX8_in_ hv) (fun v2 e => ?_)
    refine hn_if_eq hF dX8_sheet_16 (t := 33) (q := 19) rfl rfl e (fun e => ?_) (fun e => ?_)
    · refine hn_iconst hF dX8_sheet_33 (q := 34) rfl ki_m1 ?_
      exact hn_iretM hF hQ dX8_sheet_34 e
    · refine hn_iload_n hF dX8_sheet_19 (q := 20) rfl 3 rfl ?_
      refine hn_i2l hF dX8_sheet_20 (q := 21) rfl rfl ?_
      refine hn_ldc2 hF kd_X8_95 dX8_sheet_21 (q := 24) rfl ?_
      refine hn_ldc2 hF kd_X8_83 dX8_sheet_24 (q := 27) rfl ?_
      refine hn_callSi (rest := []) hF ms_X8_in mt_X8_in lk_X8_79 (by decide) [.long (l3.toInt64), .long ((-1)), .long 999] rfl (Nat.le_of_ble_eq_true rfl) dX8_sheet_27 (q := 30) rfl rfl e (fun v hv => cX8_in_ hv) (fun v3 e => ?_)
      refine hn_if_ne hF dX8_sheet_30 (t := 35) (q := 33) rfl rfl e (fun e => ?_) (fun e => ?_)
      · refine hn_aload_n hF dX8_sheet_35 (q := 36) rfl 0 rfl ?_
        refine hn_get hF fl_X8_19 o72 rfl rfl dX8_sheet_36 (q := 39) rfl ?_
        refine hn_iconst hF dX8_sheet_39 (q := 40) rfl ki_0 ?_
        refine hn_ald hF a76 dX8_sheet_40 (q := 41) rfl e (fun v4 e => ?_)
        refine hn_bipush hF dX8_sheet_41 (q := 43) rfl kb_12 ?_
        refine hn_icmp_ne hF dX8_sheet_43 (t := 49) (q := 46) rfl rfl e (fun e => ?_) (fun e => ?_)
        · refine hn_iconst hF dX8_sheet_49 (q := 50) rfl ki_3 ?_
          refine hn_aload_n hF dX8_sheet_50 (q := 51) rfl 0 rfl ?_
          refine hn_get hF fl_X8_19 o72 rfl rfl dX8_sheet_51 (q := 54) rfl ?_
          refine hn_iconst hF dX8_sheet_54 (q := 55) rfl ki_0 ?_
          refine hn_ald hF a76 dX8_sheet_55 (q := 56) rfl e (fun v5 e => ?_)
          refine hn_imul hF dX8_sheet_56 (q := 57) rfl ?_
          refine hn_istore hF dX8_sheet_57 (q := 59) rfl (by decide) (L' := [(4, .int (3 * v5)), (0, .ref (hn_base B + 72)), (1, .int l1), (2, .int l2), (3, .int l3)]) rfl ?_
          refine hn_aload_n hF dX8_sheet_59 (q := 60) rfl 1 rfl ?_
          refine hn_get hF fl_X8_22 o72 rfl rfl dX8_sheet_60 (q := 63) rfl ?_
          refine hn_iload hF dX8_sheet_63 (q := 65) rfl 0 rfl ?_
          refine hn_iload_n hF dX8_sheet_65 (q := 66) rfl 2 rfl ?_
          refine hn_ast hF a77 dX8_sheet_66 (q := 67) rfl e (fun μ6 e => ?_)
          refine hn_aload_n hF dX8_sheet_67 (q := 68) rfl 1 rfl ?_
          refine hn_get hF fl_X8_22 o72 rfl rfl dX8_sheet_68 (q := 71) rfl ?_
          refine hn_iload hF dX8_sheet_71 (q := 73) rfl 0 rfl ?_
          refine hn_iconst hF dX8_sheet_73 (q := 74) rfl ki_1 ?_
          refine hn_iadd hF dX8_sheet_74 (q := 75) rfl ?_
          refine hn_iload_n hF dX8_sheet_75 (q := 76) rfl 3 rfl ?_
          refine hn_ast hF a77 dX8_sheet_76 (q := 77) rfl e (fun μ7 e => ?_)
          refine hn_aload_n hF dX8_sheet_77 (q := 78) rfl 1 rfl ?_
          refine hn_get hF fl_X8_22 o72 rfl rfl dX8_sheet_78 (q := 81) rfl ?_
          refine hn_iload hF dX8_sheet_81 (q := 83) rfl 0 rfl ?_
          refine hn_iconst hF dX8_sheet_83 (q := 84) rfl ki_2 ?_
          refine hn_iadd hF dX8_sheet_84 (q := 85) rfl ?_
          refine hn_iload_n hF dX8_sheet_85 (q := 86) rfl 4 rfl ?_
          refine hn_ast hF a77 dX8_sheet_86 (q := 87) rfl e (fun μ8 e => ?_)
          refine hn_aload_n hF dX8_sheet_87 (q := 88) rfl 1 rfl ?_
          refine hn_get hF fl_X8_19 o72 rfl rfl dX8_sheet_88 (q := 91) rfl ?_
          refine hn_iconst hF dX8_sheet_91 (q := 92) rfl ki_0 ?_
          refine hn_dup2_11 hF dX8_sheet_92 (q := 93) rfl rfl rfl ?_
          refine hn_ald hF a76 dX8_sheet_93 (q := 94) rfl e (fun v9 e => ?_)
          refine hn_iconst hF dX8_sheet_94 (q := 95) rfl ki_1 ?_
          refine hn_iadd hF dX8_sheet_95 (q := 96) rfl ?_
          refine hn_ast hF a76 dX8_sheet_96 (q := 97) rfl e (fun μ10 e => ?_)
          refine hn_aload_n hF dX8_sheet_97 (q := 98) rfl 1 rfl ?_
          refine hn_get hF fl_X8_19 o72 rfl rfl dX8_sheet_98 (q := 101) rfl ?_
          refine hn_iconst hF dX8_sheet_101 (q := 102) rfl ki_0 ?_
          refine hn_ald hF a76 dX8_sheet_102 (q := 103) rfl e (fun v11 e => ?_)
          refine hn_iconst hF dX8_sheet_103 (q := 104) rfl ki_1 ?_
          refine hn_isub hF dX8_sheet_104 (q := 105) rfl ?_
          exact hn_iretM hF hQ dX8_sheet_105 e
        · refine hn_bipush hF dX8_sheet_46 (q := 48) rfl kb_m3 ?_
          exact hn_iretM hF hQ dX8_sheet_48 e
      · refine hn_iconst hF dX8_sheet_33 (q := 34) rfl ki_m1 ?_
        exact hn_iretM hF hQ dX8_sheet_34 e
theorem cX8_sheet_ {B : hn_B} {μ : hn_M} {R : Int32 × hn_M} {l1 : Int32} {l2 : Int32} {l3 : Int32} (hV : hn_V B hn_nA) (e : fX8_sheet l1 l2 l3 μ = some R) : hn_C yX8_sheet cX8_sheet 5 (some .int) 2 B [.ref (hn_base B + 72), .int l1, .int l2, .int l3] μ (some (.int R.1), R.2) :=
  hn_C.of RX8 (by decide) rfl (Nat.le_of_ble_eq_true rfl) (fun _ hF hQ => gX8_sheet hF hQ hV e)
/-! HandNewsModel.dated(II)I -/
def fX8_dated (l1 : Int32) (l2 : Int32) (μ : hn_M) : Option (Int32 × hn_M) := (fX8_isSheet μ l1).bind fun v1 => if v1 = 0 then some ((-100), μ) else (fX8_in l2.toInt64 (-1) 999).bind fun v2 => if v2 = 0 then some ((-100), μ) else hn_rd μ 77 108 ((3 * l1) + 2) fun v3 => hn_wr μ 77 108 ((3 * l1) + 2) l2 fun μ4 => some (v3, μ4)
set_option maxHeartbeats 1000000 in
theorem gX8_dated {Z : hn_Z} {B : hn_B} {R : Int32 × hn_M} (hF : hn_F Z B (0, 0) cX8_dated 4 RX8 (some .int) 2) (hQ : hn_goal Z B (some (.int R.1), R.2)) (hV : hn_V B hn_nA) {l1 : Int32} {l2 : Int32} {μ : hn_M} (e : fX8_dated l1 l2 μ = some R) : hn_G Z B (0, 0) 4 0 [(0, .ref (hn_base B + 72)), (1, .int l1), (2, .int l2)] [] μ := by
  unfold fX8_dated at e
  have a77 : hn_isA B 77 false 108 := hV 77 (by decide)
  have o72 : hn_isO B 72 8 hn_k72 := hV 72 (by decide)
  refine hn_aload_n hF dX8_dated_0 (q := 1) rfl 0 rfl ?_
  refine hn_iload_n hF dX8_dated_1 (q := 2) rfl 1 rfl ?_
  refine hn_callVi (rest := []) hF ms_X8_isSheet mv_X8_isSheet lk_X8_97 o72 rfl (by decide) [.int l1] rfl (Nat.le_of_ble_eq_true rfl) dX8_dated_2 (q := 5) rfl rfl e (fun v hv => cX8_isSheet_ hV hv) (fun v1 e => ?_)
  refine hn_if_eq hF dX8_dated_5 (t := 22) (q := 8) rfl rfl e (fun e => ?_) (fun e => ?_)
  · refine hn_bipush hF dX8_dated_22 (q := 24) rfl kb_m100 ?_
    exact hn_iretM hF hQ dX8_dated_24 e
  · refine hn_iload_n hF dX8_dated_8 (q := 9) rfl 2 rfl ?_
    refine hn_i2l hF dX8_dated_9 (q := 10) rfl rfl ?_
    refine hn_ldc2 hF kd_X8_95 dX8_dated_10 (q := 13) rfl ?_
    refine hn_ldc2 hF kd_X8_83 dX8_dated_13 (q := 16) rfl ?_
    refine hn_callSi (rest := []) hF ms_X8_in mt_X8_in lk_X8_79 (by decide) [.long (l2.toInt64), .long ((-1)), .long 999] rfl (Nat.le_of_ble_eq_true rfl) dX8_dated_16 (q := 19) rfl rfl e (fun v hv => cX8_in_ hv) (fun v2 e => ?_)
    refine hn_if_ne hF dX8_dated_19 (t := 25) (q := 22) rfl rfl e (fun e => ?_) (fun e => ?_)
    · refine hn_aload_n hF dX8_dated_25 (q := 26) rfl 0 rfl ?_
      refine hn_get hF fl_X8_22 o72 rfl rfl dX8_dated_26 (q := 29) rfl ?_
      refine hn_iconst hF dX8_dated_29 (q := 30) rfl ki_3 ?_
      refine hn_iload_n hF dX8_dated_30 (q := 31) rfl 1 rfl ?_
      refine hn_imul hF dX8_dated_31 (q := 32) rfl ?_
      refine hn_iconst hF dX8_dated_32 (q := 33) rfl ki_2 ?_
      refine hn_iadd hF dX8_dated_33 (q := 34) rfl ?_
      refine hn_ald hF a77 dX8_dated_34 (q := 35) rfl e (fun v3 e => ?_)
      refine hn_istore_n hF dX8_dated_35 (q := 36) rfl (i := 3) rfl (by decide) (L' := [(3, .int v3), (0, .ref (hn_base B + 72)), (1, .int l1), (2, .int l2)]) rfl ?_
      refine hn_aload_n hF dX8_dated_36 (q := 37) rfl 1 rfl ?_
      refine hn_get hF fl_X8_22 o72 rfl rfl dX8_dated_37 (q := 40) rfl ?_
      refine hn_iconst hF dX8_dated_40 (q := 41) rfl ki_3 ?_
      refine hn_iload_n hF dX8_dated_41 (q := 42) rfl 2 rfl ?_
      refine hn_imul hF dX8_dated_42 (q := 43) rfl ?_
      refine hn_iconst hF dX8_dated_43 (q := 44) rfl ki_2 ?_
      refine hn_iadd hF dX8_dated_44 (q := 45) rfl ?_
      refine hn_iload_n hF dX8_dated_45 (q := 46) rfl 3 rfl ?_
      refine hn_ast hF a77 dX8_dated_46 (q := 47) rfl e (fun μ4 e => ?_)
      refine hn_iload_n hF dX8_dated_47 (q := 48) rfl 0 rfl ?_
      exact hn_iretM hF hQ dX8_dated_48 e
    · refine hn_bipush hF dX8_dated_22 (q := 24) rfl kb_m100 ?_
      exact hn_iretM hF hQ dX8_dated_24 e
theorem cX8_dated_ {B : hn_B} {μ : hn_M} {R : Int32 × hn_M} {l1 : Int32} {l2 : Int32} (hV : hn_V B hn_nA) (e : fX8_dated l1 l2 μ = some R) : hn_C yX8_dated cX8_dated 4 (some .int) 2 B [.ref (hn_base B + 72), .int l1, .int l2] μ (some (.int R.1), R.2) :=
  hn_C.of RX8 (by decide) rfl (Nat.le_of_ble_eq_true rfl) (fun _ hF hQ => gX8_dated hF hQ hV e)
/-! HandNewsModel.wayOf(II)I -/
def fX8_wayOf (μ : hn_M) (l1 : Int32) (l2 : Int32) : Option Int32 := hn_rd μ 77 108 (3 * l1) fun v1 => hn_rd μ 77 108 (3 * l2) fun v2 => hn_rd μ 75 36 ((6 * v1) + v2) fun v3 => some v3
set_option maxHeartbeats 1000000 in
theorem gX8_wayOf {Z : hn_Z} {B : hn_B} {μ : hn_M} {R : Int32} (hF : hn_F Z B (0, 0) cX8_wayOf 3 RX8 (some .int) 0) (hQ : hn_goal Z B (some (.int R), μ)) (hV : hn_V B hn_nA) {l1 : Int32} {l2 : Int32} (e : fX8_wayOf μ l1 l2 = some R) : hn_G Z B (0, 0) 3 0 [(0, .ref (hn_base B + 72)), (1, .int l1), (2, .int l2)] [] μ := by
  unfold fX8_wayOf at e
  have a75 : hn_isA B 75 false 36 := hV 75 (by decide)
  have a77 : hn_isA B 77 false 108 := hV 77 (by decide)
  have o72 : hn_isO B 72 8 hn_k72 := hV 72 (by decide)
  refine hn_aload_n hF dX8_wayOf_0 (q := 1) rfl 0 rfl ?_
  refine hn_get hF fl_X8_16 o72 rfl rfl dX8_wayOf_1 (q := 4) rfl ?_
  refine hn_bipush hF dX8_wayOf_4 (q := 6) rfl kb_6 ?_
  refine hn_aload_n hF dX8_wayOf_6 (q := 7) rfl 0 rfl ?_
  refine hn_get hF fl_X8_22 o72 rfl rfl dX8_wayOf_7 (q := 10) rfl ?_
  refine hn_iconst hF dX8_wayOf_10 (q := 11) rfl ki_3 ?_
  refine hn_iload_n hF dX8_wayOf_11 (q := 12) rfl 1 rfl ?_
  refine hn_imul hF dX8_wayOf_12 (q := 13) rfl ?_
  refine hn_ald hF a77 dX8_wayOf_13 (q := 14) rfl e (fun v1 e => ?_)
  refine hn_imul hF dX8_wayOf_14 (q := 15) rfl ?_
  refine hn_aload_n hF dX8_wayOf_15 (q := 16) rfl 0 rfl ?_
  refine hn_get hF fl_X8_22 o72 rfl rfl dX8_wayOf_16 (q := 19) rfl ?_
  refine hn_iconst hF dX8_wayOf_19 (q := 20) rfl ki_3 ?_
  refine hn_iload_n hF dX8_wayOf_20 (q := 21) rfl 2 rfl ?_
  refine hn_imul hF dX8_wayOf_21 (q := 22) rfl ?_
  refine hn_ald hF a77 dX8_wayOf_22 (q := 23) rfl e (fun v2 e => ?_)
  refine hn_iadd hF dX8_wayOf_23 (q := 24) rfl ?_
  refine hn_ald hF a75 dX8_wayOf_24 (q := 25) rfl e (fun v3 e => ?_)
  exact hn_iretP hF hQ dX8_wayOf_25 e
theorem cX8_wayOf_ {B : hn_B} {μ : hn_M} {R : Int32} {l1 : Int32} {l2 : Int32} (hV : hn_V B hn_nA) (e : fX8_wayOf μ l1 l2 = some R) : hn_C yX8_wayOf cX8_wayOf 3 (some .int) 0 B [.ref (hn_base B + 72), .int l1, .int l2] μ (some (.int R), μ) :=
  hn_C.of RX8 (by decide) rfl (Nat.le_of_ble_eq_true rfl) (fun _ hF hQ => gX8_wayOf hF hQ hV e)
/-! HandNewsModel.behind(II)I -/
def fX8_behind (l1 : Int32) (l2 : Int32) (μ : hn_M) : Option (Int32 × hn_M) := (fX8_isSheet μ l1).bind fun v1 => if v1 = 0 then some ((-1), μ) else (fX8_isSheet μ l2).bind fun v2 => if v2 = 0 then some ((-1), μ) else if l1 = l2 then some ((-1), μ) else (fX8_wayOf μ l2 l1).bind fun v3 => if 0 ≤ v3 then hn_rd μ 78 3 0 fun v4 => if v4 = 20 then some ((-3), μ) else hn_rd μ 78 3 0 fun v5 => hn_wr μ 79 120 (2 * v5) l1 fun μ6 => hn_rd μ6 78 3 0 fun v7 => hn_wr μ6 79 120 ((2 * v7) + 1) l2 fun μ8 => hn_rd μ8 78 3 0 fun v9 => hn_wr μ8 78 3 0 (v9 + 1) fun μ10 => hn_rd μ10 78 3 0 fun v11 => some (v11, μ10) else some ((-2), μ)
set_option maxHeartbeats 1000000 in
theorem gX8_behind {Z : hn_Z} {B : hn_B} {R : Int32 × hn_M} (hF : hn_F Z B (0, 0) cX8_behind 3 RX8 (some .int) 2) (hQ : hn_goal Z B (some (.int R.1), R.2)) (hV : hn_V B hn_nA) {l1 : Int32} {l2 : Int32} {μ : hn_M} (e : fX8_behind l1 l2 μ = some R) : hn_G Z B (0, 0) 3 0 [(0, .ref (hn_base B + 72)), (1, .int l1), (2, .int l2)] [] μ := by
  unfold fX8_behind at e
  have a78 : hn_isA B 78 false 3 := hV 78 (by decide)
  have a79 : hn_isA B 79 false 120 := hV 79 (by decide)
  have o72 : hn_isO B 72 8 hn_k72 := hV 72 (by decide)
  refine hn_aload_n hF dX8_behind_0 (q := 1) rfl 0 rfl ?_
  refine hn_iload_n hF dX8_behind_1 (q := 2) rfl 1 rfl ?_
  refine hn_callVi (rest := []) hF ms_X8_isSheet mv_X8_isSheet lk_X8_97 o72 rfl (by decide) [.int l1] rfl (Nat.le_of_ble_eq_true rfl) dX8_behind_2 (q := 5) rfl rfl e (fun v hv => cX8_isSheet_ hV hv) (fun v1 e => ?_)
  refine hn_if_eq hF dX8_behind_5 (t := 21) (q := 8) rfl rfl e (fun e => ?_) (fun e => ?_)
  · refine hn_iconst hF dX8_behind_21 (q := 22) rfl ki_m1 ?_
    exact hn_iretM hF hQ dX8_behind_22 e
  · refine hn_aload_n hF dX8_behind_8 (q := 9) rfl 0 rfl ?_
    refine hn_iload_n hF dX8_behind_9 (q := 10) rfl 2 rfl ?_
    refine hn_callVi (rest := []) hF ms_X8_isSheet mv_X8_isSheet lk_X8_97 o72 rfl (by decide) [.int l2] rfl (Nat.le_of_ble_eq_true rfl) dX8_behind_10 (q := 13) rfl rfl e (fun v hv => cX8_isSheet_ hV hv) (fun v2 e => ?_)
    refine hn_if_eq hF dX8_behind_13 (t := 21) (q := 16) rfl rfl e (fun e => ?_) (fun e => ?_)
    · refine hn_iconst hF dX8_behind_21 (q := 22) rfl ki_m1 ?_
      exact hn_iretM hF hQ dX8_behind_22 e
    · refine hn_iload_n hF dX8_behind_16 (q := 17) rfl 1 rfl ?_
      refine hn_iload_n hF dX8_behind_17 (q := 18) rfl 2 rfl ?_
      refine hn_icmp_ne hF dX8_behind_18 (t := 23) (q := 21) rfl rfl e (fun e => ?_) (fun e => ?_)
      · refine hn_aload_n hF dX8_behind_23 (q := 24) rfl 0 rfl ?_
        refine hn_iload_n hF dX8_behind_24 (q := 25) rfl 2 rfl ?_
        refine hn_iload_n hF dX8_behind_25 (q := 26) rfl 1 rfl ?_
        refine hn_callVi (rest := []) hF ms_X8_wayOf mv_X8_wayOf lk_X8_100 o72 rfl (by decide) [.int l2, .int l1] rfl (Nat.le_of_ble_eq_true rfl) dX8_behind_26 (q := 29) rfl rfl e (fun v hv => cX8_wayOf_ hV hv) (fun v3 e => ?_)
        refine hn_if_ge hF dX8_behind_29 (t := 35) (q := 32) rfl rfl e (fun e => ?_) (fun e => ?_)
        · refine hn_aload_n hF dX8_behind_35 (q := 36) rfl 0 rfl ?_
          refine hn_get hF fl_X8_25 o72 rfl rfl dX8_behind_36 (q := 39) rfl ?_
          refine hn_iconst hF dX8_behind_39 (q := 40) rfl ki_0 ?_
          refine hn_ald hF a78 dX8_behind_40 (q := 41) rfl e (fun v4 e => ?_)
          refine hn_bipush hF dX8_behind_41 (q := 43) rfl kb_20 ?_
          refine hn_icmp_ne hF dX8_behind_43 (t := 49) (q := 46) rfl rfl e (fun e => ?_) (fun e => ?_)
          · refine hn_aload_n hF dX8_behind_49 (q := 50) rfl 0 rfl ?_
            refine hn_get hF fl_X8_28 o72 rfl rfl dX8_behind_50 (q := 53) rfl ?_
            refine hn_iconst hF dX8_behind_53 (q := 54) rfl ki_2 ?_
            refine hn_aload_n hF dX8_behind_54 (q := 55) rfl 0 rfl ?_
            refine hn_get hF fl_X8_25 o72 rfl rfl dX8_behind_55 (q := 58) rfl ?_
            refine hn_iconst hF dX8_behind_58 (q := 59) rfl ki_0 ?_
            refine hn_ald hF a78 dX8_behind_59 (q := 60) rfl e (fun v5 e => ?_)
            refine hn_imul hF dX8_behind_60 (q := 61) rfl ?_
            refine hn_iload_n hF dX8_behind_61 (q := 62) rfl 1 rfl ?_
            refine hn_ast hF a79 dX8_behind_62 (q := 63) rfl e (fun μ6 e => ?_)
            refine hn_aload_n hF dX8_behind_63 (q := 64) rfl 0 rfl ?_
            refine hn_get hF fl_X8_28 o72 rfl rfl dX8_behind_64 (q := 67) rfl ?_
            refine hn_iconst hF dX8_behind_67 (q := 68) rfl ki_2 ?_
            refine hn_aload_n hF dX8_behind_68 (q := 69) rfl 0 rfl ?_
            refine hn_get hF fl_X8_25 o72 rfl rfl dX8_behind_69 (q := 72) rfl ?_
            refine hn_iconst hF dX8_behind_72 (q := 73) rfl ki_0 ?_
            refine hn_ald hF a78 dX8_behind_73 (q := 74) rfl e (fun v7 e => ?_)
            refine hn_imul hF dX8_behind_74 (q := 75) rfl ?_
            refine hn_iconst hF dX8_behind_75 (q := 76) rfl ki_1 ?_
            refine hn_iadd hF dX8_behind_76 (q := 77) rfl ?_
            refine hn_iload_n hF dX8_behind_77 (q := 78) rfl 2 rfl ?_
            refine hn_ast hF a79 dX8_behind_78 (q := 79) rfl e (fun μ8 e => ?_)
            refine hn_aload_n hF dX8_behind_79 (q := 80) rfl 0 rfl ?_
            refine hn_get hF fl_X8_25 o72 rfl rfl dX8_behind_80 (q := 83) rfl ?_
            refine hn_iconst hF dX8_behind_83 (q := 84) rfl ki_0 ?_
            refine hn_dup2_11 hF dX8_behind_84 (q := 85) rfl rfl rfl ?_
            refine hn_ald hF a78 dX8_behind_85 (q := 86) rfl e (fun v9 e => ?_)
            refine hn_iconst hF dX8_behind_86 (q := 87) rfl ki_1 ?_
            refine hn_iadd hF dX8_behind_87 (q := 88) rfl ?_
            refine hn_ast hF a78 dX8_behind_88 (q := 89) rfl e (fun μ10 e => ?_)
            refine hn_aload_n hF dX8_behind_89 (q := 90) rfl 0 rfl ?_
            refine hn_get hF fl_X8_25 o72 rfl rfl dX8_behind_90 (q := 93) rfl ?_
            refine hn_iconst hF dX8_behind_93 (q := 94) rfl ki_0 ?_
            refine hn_ald hF a78 dX8_behind_94 (q := 95) rfl e (fun v11 e => ?_)
            exact hn_iretM hF hQ dX8_behind_95 e
          · refine hn_bipush hF dX8_behind_46 (q := 48) rfl kb_m3 ?_
            exact hn_iretM hF hQ dX8_behind_48 e
        · refine hn_bipush hF dX8_behind_32 (q := 34) rfl kb_m2 ?_
          exact hn_iretM hF hQ dX8_behind_34 e
      · refine hn_iconst hF dX8_behind_21 (q := 22) rfl ki_m1 ?_
        exact hn_iretM hF hQ dX8_behind_22 e
theorem cX8_behind_ {B : hn_B} {μ : hn_M} {R : Int32 × hn_M} {l1 : Int32} {l2 : Int32} (hV : hn_V B hn_nA) (e : fX8_behind l1 l2 μ = some R) : hn_C yX8_behind cX8_behind 3 (some .int) 2 B [.ref (hn_base B + 72), .int l1, .int l2] μ (some (.int R.1), R.2) :=
  hn_C.of RX8 (by decide) rfl (Nat.le_of_ble_eq_true rfl) (fun _ hF hQ => gX8_behind hF hQ hV e)
/-! HandNewsModel.happened(III)I -/
def fX8_happened_111 (F : Nat) (k44 : Int32 → Int32 → Int32 → Int32 → Int32 → hn_M → Option (Int32 × hn_M)) (l1 : Int32) (l2 : Int32) (l3 : Int32) (l5 : Int32) (s0 : Int32) (μ : hn_M) : Option (Int32 × hn_M) := k44 l1 l2 l3 s0 (l5 + 1) μ
def fX8_happened_106 (F : Nat) (k44 : Int32 → Int32 → Int32 → Int32 → Int32 → hn_M → Option (Int32 × hn_M)) (l1 : Int32) (l2 : Int32) (l3 : Int32) (l5 : Int32) (μ : hn_M) : Option (Int32 × hn_M) := fX8_happened_111 F k44 l1 l2 l3 l5 1 μ
def fX8_happened_110 (F : Nat) (k44 : Int32 → Int32 → Int32 → Int32 → Int32 → hn_M → Option (Int32 × hn_M)) (l1 : Int32) (l2 : Int32) (l3 : Int32) (l5 : Int32) (μ : hn_M) : Option (Int32 × hn_M) := fX8_happened_111 F k44 l1 l2 l3 l5 0 μ
def fX8_happened_119 (F : Nat) (l1 : Int32) (l2 : Int32) (l3 : Int32) (l4 : Int32) (μ : hn_M) : Option (Int32 × hn_M) := if l4 = 0 then some ((-2), μ) else hn_wr μ 82 60 (2 * l1) l2 fun μ1 => hn_wr μ1 82 60 ((2 * l1) + 1) l3 fun μ2 => some (0, μ2)
def fX8_happened_44 (F : Nat) : Nat → Int32 → Int32 → Int32 → Int32 → Int32 → hn_M → Option (Int32 × hn_M)
  | 0, _, _, _, _, _, _ => none
  | n + 1, l1, l2, l3, l4, l5, μ => hn_rd μ 80 3 0 fun v3 => if v3 ≤ l5 then fX8_happened_119 F l1 l2 l3 l4 μ else if l4 = 0 then fX8_happened_110 F (fX8_happened_44 F n) l1 l2 l3 l5 μ else hn_rd μ 81 540 ((6 * l5) + 1) fun v4 => if v4 = l1 then hn_rd μ 81 540 (6 * l5) fun v5 => hn_rd μ 77 108 (3 * v5) fun v6 => hn_rd μ 75 36 ((6 * l2) + v6) fun v7 => if v7 < 0 then fX8_happened_110 F (fX8_happened_44 F n) l1 l2 l3 l5 μ else fX8_happened_106 F (fX8_happened_44 F n) l1 l2 l3 l5 μ else fX8_happened_106 F (fX8_happened_44 F n) l1 l2 l3 l5 μ
def fX8_happened_39 (F : Nat) (l1 : Int32) (l2 : Int32) (l3 : Int32) (s0 : Int32) (μ : hn_M) : Option (Int32 × hn_M) := fX8_happened_44 F F l1 l2 l3 s0 0 μ
def fX8_happened (F : Nat) (l1 : Int32) (l2 : Int32) (l3 : Int32) (μ : hn_M) : Option (Int32 × hn_M) := (fX8_isThing l1).bind fun v8 => if v8 = 0 then some ((-1), μ) else (fX8_isTown l2).bind fun v9 => if v9 = 0 then some ((-1), μ) else (fX8_isDay l3).bind fun v10 => if v10 = 0 then some ((-1), μ) else hn_rd μ 82 60 (2 * l1) fun v11 => if 0 ≤ v11 then fX8_happened_39 F l1 l2 l3 0 μ else fX8_happened_39 F l1 l2 l3 1 μ
set_option maxHeartbeats 1000000 in
theorem gX8_happened_111 {Z : hn_Z} {B : hn_B} {F : Nat} {R : Int32 × hn_M} (hF : hn_F Z B (0, 0) cX8_happened 6 RX8 (some .int) 2) (hQ : hn_goal Z B (some (.int R.1), R.2)) (hV : hn_V B hn_nA) {k44 : Int32 → Int32 → Int32 → Int32 → Int32 → hn_M → Option (Int32 × hn_M)} (H44 : ∀ (l1 : Int32) (l2 : Int32) (l3 : Int32) (l4 : Int32) (l5 : Int32) (μ : hn_M), k44 l1 l2 l3 l4 l5 μ = some R → hn_G Z B (0, 0) 6 44 [(0, .ref (hn_base B + 72)), (1, .int l1), (2, .int l2), (3, .int l3), (4, .int l4), (5, .int l5)] [] μ) {l1 : Int32} {l2 : Int32} {l3 : Int32} {l5 : Int32} {s0 : Int32} {μ : hn_M} (e : fX8_happened_111 F k44 l1 l2 l3 l5 s0 μ = some R) : hn_G Z B (0, 0) 6 111 [(0, .ref (hn_base B + 72)), (1, .int l1), (2, .int l2), (3, .int l3), (5, .int l5)] [.int s0] μ := by
  unfold fX8_happened_111 at e
  refine hn_istore hF dX8_happened_111 (q := 113) rfl (by decide) (L' := [(4, .int s0), (0, .ref (hn_base B + 72)), (1, .int l1), (2, .int l2), (3, .int l3), (5, .int l5)]) rfl ?_
  refine hn_iinc (p := 5) hF dX8_happened_113 (q := 116) rfl rfl (kn_1 _) (by decide) (L' := [(5, .int (l5 + 1)), (4, .int s0), (0, .ref (hn_base B + 72)), (1, .int l1), (2, .int l2), (3, .int l3)]) rfl ?_
  refine hn_goto hF dX8_happened_116 (q := 44) rfl ?_
  refine hn_sub [2, 3, 4, 5, 1, 0] (L' := [(0, .ref (hn_base B + 72)), (1, .int l1), (2, .int l2), (3, .int l3), (4, .int s0), (5, .int (l5 + 1))]) rfl ?_
  exact H44 l1 l2 l3 s0 (l5 + 1) μ e
set_option maxHeartbeats 1000000 in
theorem gX8_happened_106 {Z : hn_Z} {B : hn_B} {F : Nat} {R : Int32 × hn_M} (hF : hn_F Z B (0, 0) cX8_happened 6 RX8 (some .int) 2) (hQ : hn_goal Z B (some (.int R.1), R.2)) (hV : hn_V B hn_nA) {k44 : Int32 → Int32 → Int32 → Int32 → Int32 → hn_M → Option (Int32 × hn_M)} (H44 : ∀ (l1 : Int32) (l2 : Int32) (l3 : Int32) (l4 : Int32) (l5 : Int32) (μ : hn_M), k44 l1 l2 l3 l4 l5 μ = some R → hn_G Z B (0, 0) 6 44 [(0, .ref (hn_base B + 72)), (1, .int l1), (2, .int l2), (3, .int l3), (4, .int l4), (5, .int l5)] [] μ) {l1 : Int32} {l2 : Int32} {l3 : Int32} {l5 : Int32} {μ : hn_M} (e : fX8_happened_106 F k44 l1 l2 l3 l5 μ = some R) : hn_G Z B (0, 0) 6 106 [(0, .ref (hn_base B + 72)), (1, .int l1), (2, .int l2), (3, .int l3), (5, .int l5)] [] μ := by
  unfold fX8_happened_106 at e
  refine hn_iconst hF dX8_happened_106 (q := 107) rfl ki_1 ?_
  refine hn_goto hF dX8_happened_107 (q := 111) rfl ?_
  exact gX8_happened_111 hF hQ hV H44 e
set_option maxHeartbeats 1000000 in
theorem gX8_happened_110 {Z : hn_Z} {B : hn_B} {F : Nat} {R : Int32 × hn_M} (hF : hn_F Z B (0, 0) cX8_happened 6 RX8 (some .int) 2) (hQ : hn_goal Z B (some (.int R.1), R.2)) (hV : hn_V B hn_nA) {k44 : Int32 → Int32 → Int32 → Int32 → Int32 → hn_M → Option (Int32 × hn_M)} (H44 : ∀ (l1 : Int32) (l2 : Int32) (l3 : Int32) (l4 : Int32) (l5 : Int32) (μ : hn_M), k44 l1 l2 l3 l4 l5 μ = some R → hn_G Z B (0, 0) 6 44 [(0, .ref (hn_base B + 72)), (1, .int l1), (2, .int l2), (3, .int l3), (4, .int l4), (5, .int l5)] [] μ) {l1 : Int32} {l2 : Int32} {l3 : Int32} {l5 : Int32} {μ : hn_M} (e : fX8_happened_110 F k44 l1 l2 l3 l5 μ = some R) : hn_G Z B (0, 0) 6 110 [(0, .ref (hn_base B + 72)), (1, .int l1), (2, .int l2), (3, .int l3), (5, .int l5)] [] μ := by
  unfold fX8_happened_110 at e
  refine hn_iconst hF dX8_happened_110 (q := 111) rfl ki_0 ?_
  exact gX8_happened_111 hF hQ hV H44 e
set_option maxHeartbeats 1000000 in
theorem gX8_happened_119 {Z : hn_Z} {B : hn_B} {F : Nat} {R : Int32 × hn_M} (hF : hn_F Z B (0, 0) cX8_happened 6 RX8 (some .int) 2) (hQ : hn_goal Z B (some (.int R.1), R.2)) (hV : hn_V B hn_nA) {l1 : Int32} {l2 : Int32} {l3 : Int32} {l4 : Int32} {μ : hn_M} (e : fX8_happened_119 F l1 l2 l3 l4 μ = some R) : hn_G Z B (0, 0) 6 119 [(0, .ref (hn_base B + 72)), (1, .int l1), (2, .int l2), (3, .int l3), (4, .int l4)] [] μ := by
  unfold fX8_happened_119 at e
  have a82 : hn_isA B 82 false 60 := hV 82 (by decide)
  have o72 : hn_isO B 72 8 hn_k72 := hV 72 (by decide)
  refine hn_iload hF dX8_happened_119 (q := 121) rfl 4 rfl ?_
  refine hn_if_ne hF dX8_happened_121 (t := 127) (q := 124) rfl rfl e (fun e => ?_) (fun e => ?_)
  · refine hn_aload_n hF dX8_happened_127 (q := 128) rfl 0 rfl ?_
    refine hn_get hF fl_X8_37 o72 rfl rfl dX8_happened_128 (q := 131) rfl ?_
    refine hn_iconst hF dX8_happened_131 (q := 132) rfl ki_2 ?_
    refine hn_iload_n hF dX8_happened_132 (q := 133) rfl 1 rfl ?_
    refine hn_imul hF dX8_happened_133 (q := 134) rfl ?_
    refine hn_iload_n hF dX8_happened_134 (q := 135) rfl 2 rfl ?_
    refine hn_ast hF a82 dX8_happened_135 (q := 136) rfl e (fun μ1 e => ?_)
    refine hn_aload_n hF dX8_happened_136 (q := 137) rfl 0 rfl ?_
    refine hn_get hF fl_X8_37 o72 rfl rfl dX8_happened_137 (q := 140) rfl ?_
    refine hn_iconst hF dX8_happened_140 (q := 141) rfl ki_2 ?_
    refine hn_iload_n hF dX8_happened_141 (q := 142) rfl 1 rfl ?_
    refine hn_imul hF dX8_happened_142 (q := 143) rfl ?_
    refine hn_iconst hF dX8_happened_143 (q := 144) rfl ki_1 ?_
    refine hn_iadd hF dX8_happened_144 (q := 145) rfl ?_
    refine hn_iload_n hF dX8_happened_145 (q := 146) rfl 3 rfl ?_
    refine hn_ast hF a82 dX8_happened_146 (q := 147) rfl e (fun μ2 e => ?_)
    refine hn_iconst hF dX8_happened_147 (q := 148) rfl ki_0 ?_
    exact hn_iretM hF hQ dX8_happened_148 e
  · refine hn_bipush hF dX8_happened_124 (q := 126) rfl kb_m2 ?_
    exact hn_iretM hF hQ dX8_happened_126 e
set_option maxHeartbeats 1000000 in
theorem gX8_happened_44 {Z : hn_Z} {B : hn_B} {F : Nat} {R : Int32 × hn_M} (hF : hn_F Z B (0, 0) cX8_happened 6 RX8 (some .int) 2) (hQ : hn_goal Z B (some (.int R.1), R.2)) (hV : hn_V B hn_nA) : ∀ (n : Nat) (l1 : Int32) (l2 : Int32) (l3 : Int32) (l4 : Int32) (l5 : Int32) (μ : hn_M), fX8_happened_44 F n l1 l2 l3 l4 l5 μ = some R → hn_G Z B (0, 0) 6 44 [(0, .ref (hn_base B + 72)), (1, .int l1), (2, .int l2), (3, .int l3), (4, .int l4), (5, .int l5)] [] μ := by
  have a75 : hn_isA B 75 false 36 := hV 75 (by decide)
  have a77 : hn_isA B 77 false 108 := hV 77 (by decide)
  have a80 : hn_isA B 80 false 3 := hV 80 (by decide)
  have a81 : hn_isA B 81 false 540 := hV 81 (by decide)
  have o72 : hn_isO B 72 8 hn_k72 := hV 72 (by decide)
  intro n
  induction n with
  | zero => intro l1 l2 l3 l4 l5 μ e; rw [fX8_happened_44] at e; cases e
  | succ n ih =>
    intro l1 l2 l3 l4 l5 μ e
    rw [fX8_happened_44] at e
    refine hn_iload hF dX8_happened_44 (q := 46) rfl 5 rfl ?_
    refine hn_aload_n hF dX8_happened_46 (q := 47) rfl 0 rfl ?_
    refine hn_get hF fl_X8_31 o72 rfl rfl dX8_happened_47 (q := 50) rfl ?_
    refine hn_iconst hF dX8_happened_50 (q := 51) rfl ki_0 ?_
    refine hn_ald hF a80 dX8_happened_51 (q := 52) rfl e (fun v3 e => ?_)
    refine hn_icmp_ge hF dX8_happened_52 (t := 119) (q := 55) rfl rfl e (fun e => ?_) (fun e => ?_)
    · refine hn_sub [0, 1, 2, 3, 4] (L' := [(0, .ref (hn_base B + 72)), (1, .int l1), (2, .int l2), (3, .int l3), (4, .int l4)]) rfl ?_
      exact gX8_happened_119 hF hQ hV e
    · refine hn_iload hF dX8_happened_55 (q := 57) rfl 4 rfl ?_
      refine hn_if_eq hF dX8_happened_57 (t := 110) (q := 60) rfl rfl e (fun e => ?_) (fun e => ?_)
      · refine hn_sub [0, 1, 2, 3, 5] (L' := [(0, .ref (hn_base B + 72)), (1, .int l1), (2, .int l2), (3, .int l3), (5, .int l5)]) rfl ?_
        exact gX8_happened_110 hF hQ hV ih e
      · refine hn_aload_n hF dX8_happened_60 (q := 61) rfl 0 rfl ?_
        refine hn_get hF fl_X8_34 o72 rfl rfl dX8_happened_61 (q := 64) rfl ?_
        refine hn_bipush hF dX8_happened_64 (q := 66) rfl kb_6 ?_
        refine hn_iload hF dX8_happened_66 (q := 68) rfl 5 rfl ?_
        refine hn_imul hF dX8_happened_68 (q := 69) rfl ?_
        refine hn_iconst hF dX8_happened_69 (q := 70) rfl ki_1 ?_
        refine hn_iadd hF dX8_happened_70 (q := 71) rfl ?_
        refine hn_ald hF a81 dX8_happened_71 (q := 72) rfl e (fun v4 e => ?_)
        refine hn_iload_n hF dX8_happened_72 (q := 73) rfl 1 rfl ?_
        refine hn_icmp_ne hF dX8_happened_73 (t := 106) (q := 76) rfl rfl e (fun e => ?_) (fun e => ?_)
        · refine hn_sub [0, 1, 2, 3, 5] (L' := [(0, .ref (hn_base B + 72)), (1, .int l1), (2, .int l2), (3, .int l3), (5, .int l5)]) rfl ?_
          exact gX8_happened_106 hF hQ hV ih e
        · refine hn_aload_n hF dX8_happened_76 (q := 77) rfl 0 rfl ?_
          refine hn_get hF fl_X8_16 o72 rfl rfl dX8_happened_77 (q := 80) rfl ?_
          refine hn_bipush hF dX8_happened_80 (q := 82) rfl kb_6 ?_
          refine hn_iload_n hF dX8_happened_82 (q := 83) rfl 2 rfl ?_
          refine hn_imul hF dX8_happened_83 (q := 84) rfl ?_
          refine hn_aload_n hF dX8_happened_84 (q := 85) rfl 0 rfl ?_
          refine hn_get hF fl_X8_22 o72 rfl rfl dX8_happened_85 (q := 88) rfl ?_
          refine hn_iconst hF dX8_happened_88 (q := 89) rfl ki_3 ?_
          refine hn_aload_n hF dX8_happened_89 (q := 90) rfl 0 rfl ?_
          refine hn_get hF fl_X8_34 o72 rfl rfl dX8_happened_90 (q := 93) rfl ?_
          refine hn_bipush hF dX8_happened_93 (q := 95) rfl kb_6 ?_
          refine hn_iload hF dX8_happened_95 (q := 97) rfl 5 rfl ?_
          refine hn_imul hF dX8_happened_97 (q := 98) rfl ?_
          refine hn_ald hF a81 dX8_happened_98 (q := 99) rfl e (fun v5 e => ?_)
          refine hn_imul hF dX8_happened_99 (q := 100) rfl ?_
          refine hn_ald hF a77 dX8_happened_100 (q := 101) rfl e (fun v6 e => ?_)
          refine hn_iadd hF dX8_happened_101 (q := 102) rfl ?_
          refine hn_ald hF a75 dX8_happened_102 (q := 103) rfl e (fun v7 e => ?_)
          refine hn_if_lt hF dX8_happened_103 (t := 110) (q := 106) rfl rfl e (fun e => ?_) (fun e => ?_)
          · refine hn_sub [0, 1, 2, 3, 5] (L' := [(0, .ref (hn_base B + 72)), (1, .int l1), (2, .int l2), (3, .int l3), (5, .int l5)]) rfl ?_
            exact gX8_happened_110 hF hQ hV ih e
          · refine hn_sub [0, 1, 2, 3, 5] (L' := [(0, .ref (hn_base B + 72)), (1, .int l1), (2, .int l2), (3, .int l3), (5, .int l5)]) rfl ?_
            exact gX8_happened_106 hF hQ hV ih e
set_option maxHeartbeats 1000000 in
theorem gX8_happened_39 {Z : hn_Z} {B : hn_B} {F : Nat} {R : Int32 × hn_M} (hF : hn_F Z B (0, 0) cX8_happened 6 RX8 (some .int) 2) (hQ : hn_goal Z B (some (.int R.1), R.2)) (hV : hn_V B hn_nA) {l1 : Int32} {l2 : Int32} {l3 : Int32} {s0 : Int32} {μ : hn_M} (e : fX8_happened_39 F l1 l2 l3 s0 μ = some R) : hn_G Z B (0, 0) 6 39 [(0, .ref (hn_base B + 72)), (1, .int l1), (2, .int l2), (3, .int l3)] [.int s0] μ := by
  unfold fX8_happened_39 at e
  refine hn_istore hF dX8_happened_39 (q := 41) rfl (by decide) (L' := [(4, .int s0), (0, .ref (hn_base B + 72)), (1, .int l1), (2, .int l2), (3, .int l3)]) rfl ?_
  refine hn_iconst hF dX8_happened_41 (q := 42) rfl ki_0 ?_
  refine hn_istore hF dX8_happened_42 (q := 44) rfl (by decide) (L' := [(5, .int 0), (4, .int s0), (0, .ref (hn_base B + 72)), (1, .int l1), (2, .int l2), (3, .int l3)]) rfl ?_
  refine hn_sub [2, 3, 4, 5, 1, 0] (L' := [(0, .ref (hn_base B + 72)), (1, .int l1), (2, .int l2), (3, .int l3), (4, .int s0), (5, .int 0)]) rfl ?_
  exact gX8_happened_44 hF hQ hV F l1 l2 l3 s0 0 μ e
set_option maxHeartbeats 1000000 in
theorem gX8_happened {Z : hn_Z} {B : hn_B} {F : Nat} {R : Int32 × hn_M} (hF : hn_F Z B (0, 0) cX8_happened 6 RX8 (some .int) 2) (hQ : hn_goal Z B (some (.int R.1), R.2)) (hV : hn_V B hn_nA) {l1 : Int32} {l2 : Int32} {l3 : Int32} {μ : hn_M} (e : fX8_happened F l1 l2 l3 μ = some R) : hn_G Z B (0, 0) 6 0 [(0, .ref (hn_base B + 72)), (1, .int l1), (2, .int l2), (3, .int l3)] [] μ := by
  unfold fX8_happened at e
  have a82 : hn_isA B 82 false 60 := hV 82 (by decide)
  have o72 : hn_isO B 72 8 hn_k72 := hV 72 (by decide)
  refine hn_iload_n hF dX8_happened_0 (q := 1) rfl 1 rfl ?_
  refine hn_callSi (rest := []) hF ms_X8_isThing mt_X8_isThing lk_X8_104 (by decide) [.int l1] rfl (Nat.le_of_ble_eq_true rfl) dX8_happened_1 (q := 4) rfl rfl e (fun v hv => cX8_isThing_ hv) (fun v8 e => ?_)
  refine hn_if_eq hF dX8_happened_4 (t := 21) (q := 7) rfl rfl e (fun e => ?_) (fun e => ?_)
  · refine hn_iconst hF dX8_happened_21 (q := 22) rfl ki_m1 ?_
    exact hn_iretM hF hQ dX8_happened_22 e
  · refine hn_iload_n hF dX8_happened_7 (q := 8) rfl 2 rfl ?_
    refine hn_callSi (rest := []) hF ms_X8_isTown mt_X8_isTown lk_X8_87 (by decide) [.int l2] rfl (Nat.le_of_ble_eq_true rfl) dX8_happened_8 (q := 11) rfl rfl e (fun v hv => cX8_isTown_ hv) (fun v9 e => ?_)
    refine hn_if_eq hF dX8_happened_11 (t := 21) (q := 14) rfl rfl e (fun e => ?_) (fun e => ?_)
    · refine hn_iconst hF dX8_happened_21 (q := 22) rfl ki_m1 ?_
      exact hn_iretM hF hQ dX8_happened_22 e
    · refine hn_iload_n hF dX8_happened_14 (q := 15) rfl 3 rfl ?_
      refine hn_callSi (rest := []) hF ms_X8_isDay mt_X8_isDay lk_X8_107 (by decide) [.int l3] rfl (Nat.le_of_ble_eq_true rfl) dX8_happened_15 (q := 18) rfl rfl e (fun v hv => cX8_isDay_ hv) (fun v10 e => ?_)
      refine hn_if_ne hF dX8_happened_18 (t := 23) (q := 21) rfl rfl e (fun e => ?_) (fun e => ?_)
      · refine hn_aload_n hF dX8_happened_23 (q := 24) rfl 0 rfl ?_
        refine hn_get hF fl_X8_37 o72 rfl rfl dX8_happened_24 (q := 27) rfl ?_
        refine hn_iconst hF dX8_happened_27 (q := 28) rfl ki_2 ?_
        refine hn_iload_n hF dX8_happened_28 (q := 29) rfl 1 rfl ?_
        refine hn_imul hF dX8_happened_29 (q := 30) rfl ?_
        refine hn_ald hF a82 dX8_happened_30 (q := 31) rfl e (fun v11 e => ?_)
        refine hn_if_ge hF dX8_happened_31 (t := 38) (q := 34) rfl rfl e (fun e => ?_) (fun e => ?_)
        · refine hn_iconst hF dX8_happened_38 (q := 39) rfl ki_0 ?_
          exact gX8_happened_39 hF hQ hV e
        · refine hn_iconst hF dX8_happened_34 (q := 35) rfl ki_1 ?_
          refine hn_goto hF dX8_happened_35 (q := 39) rfl ?_
          exact gX8_happened_39 hF hQ hV e
      · refine hn_iconst hF dX8_happened_21 (q := 22) rfl ki_m1 ?_
        exact hn_iretM hF hQ dX8_happened_22 e
theorem cX8_happened_ {B : hn_B} {F : Nat} {μ : hn_M} {R : Int32 × hn_M} {l1 : Int32} {l2 : Int32} {l3 : Int32} (hV : hn_V B hn_nA) (e : fX8_happened F l1 l2 l3 μ = some R) : hn_C yX8_happened cX8_happened 6 (some .int) 2 B [.ref (hn_base B + 72), .int l1, .int l2, .int l3] μ (some (.int R.1), R.2) :=
  hn_C.of RX8 (by decide) rfl (Nat.le_of_ble_eq_true rfl) (fun _ hF hQ => gX8_happened hF hQ hV e)
/-! HandNewsModel.push(III)V -/
def fX8_push_36 (l1 : Int32) (l2 : Int32) (l3 : Int32) (μ : hn_M) : Option hn_M := hn_rd μ 90 12 l2 fun v1 => hn_rd μ 90 12 l1 fun v2 => if v1 ≤ v2 - l3 then some μ else hn_rd μ 90 12 l1 fun v3 => hn_wr μ 90 12 l2 (v3 - l3) fun μ4 => hn_pf μ4 72 22 1 fun μ5 => some μ5
def fX8_push (l1 : Int32) (l2 : Int32) (l3 : Int32) (μ : hn_M) : Option hn_M := hn_rd μ 89 12 l1 fun v6 => hn_rd μ 89 12 l2 fun v7 => if v7 + l3 ≤ v6 then fX8_push_36 l1 l2 l3 μ else hn_rd μ 89 12 l2 fun v8 => hn_wr μ 89 12 l1 (v8 + l3) fun μ9 => hn_pf μ9 72 22 1 fun μ10 => fX8_push_36 l1 l2 l3 μ10
set_option maxHeartbeats 1000000 in
theorem gX8_push_36 {Z : hn_Z} {B : hn_B} {R : hn_M} (hF : hn_F Z B (0, 0) cX8_push 4 RX8 none 0) (hQ : hn_goal Z B (none, R)) (hV : hn_V B hn_nA) {l1 : Int32} {l2 : Int32} {l3 : Int32} {μ : hn_M} (e : fX8_push_36 l1 l2 l3 μ = some R) : hn_G Z B (0, 0) 4 36 [(0, .ref (hn_base B + 72)), (1, .int l1), (2, .int l2), (3, .int l3)] [] μ := by
  unfold fX8_push_36 at e
  have a90 : hn_isA B 90 false 12 := hV 90 (by decide)
  have o72 : hn_isO B 72 8 hn_k72 := hV 72 (by decide)
  refine hn_aload_n hF dX8_push_36 (q := 37) rfl 0 rfl ?_
  refine hn_get hF fl_X8_65 o72 rfl rfl dX8_push_37 (q := 40) rfl ?_
  refine hn_iload_n hF dX8_push_40 (q := 41) rfl 2 rfl ?_
  refine hn_ald hF a90 dX8_push_41 (q := 42) rfl e (fun v1 e => ?_)
  refine hn_aload_n hF dX8_push_42 (q := 43) rfl 0 rfl ?_
  refine hn_get hF fl_X8_65 o72 rfl rfl dX8_push_43 (q := 46) rfl ?_
  refine hn_iload_n hF dX8_push_46 (q := 47) rfl 1 rfl ?_
  refine hn_ald hF a90 dX8_push_47 (q := 48) rfl e (fun v2 e => ?_)
  refine hn_iload_n hF dX8_push_48 (q := 49) rfl 3 rfl ?_
  refine hn_isub hF dX8_push_49 (q := 50) rfl ?_
  refine hn_icmp_le hF dX8_push_50 (t := 72) (q := 53) rfl rfl e (fun e => ?_) (fun e => ?_)
  · exact hn_vretM hF hQ dX8_push_72 e
  · refine hn_aload_n hF dX8_push_53 (q := 54) rfl 0 rfl ?_
    refine hn_get hF fl_X8_65 o72 rfl rfl dX8_push_54 (q := 57) rfl ?_
    refine hn_iload_n hF dX8_push_57 (q := 58) rfl 2 rfl ?_
    refine hn_aload_n hF dX8_push_58 (q := 59) rfl 0 rfl ?_
    refine hn_get hF fl_X8_65 o72 rfl rfl dX8_push_59 (q := 62) rfl ?_
    refine hn_iload_n hF dX8_push_62 (q := 63) rfl 1 rfl ?_
    refine hn_ald hF a90 dX8_push_63 (q := 64) rfl e (fun v3 e => ?_)
    refine hn_iload_n hF dX8_push_64 (q := 65) rfl 3 rfl ?_
    refine hn_isub hF dX8_push_65 (q := 66) rfl ?_
    refine hn_ast hF a90 dX8_push_66 (q := 67) rfl e (fun μ4 e => ?_)
    refine hn_aload_n hF dX8_push_67 (q := 68) rfl 0 rfl ?_
    refine hn_iconst hF dX8_push_68 (q := 69) rfl ki_1 ?_
    refine hn_put hF fl_X8_110 fp_X8_22 o72 rfl rfl rfl rfl dX8_push_69 (q := 72) rfl e (fun μ5 e => ?_)
    exact hn_vretM hF hQ dX8_push_72 e
set_option maxHeartbeats 1000000 in
theorem gX8_push {Z : hn_Z} {B : hn_B} {R : hn_M} (hF : hn_F Z B (0, 0) cX8_push 4 RX8 none 0) (hQ : hn_goal Z B (none, R)) (hV : hn_V B hn_nA) {l1 : Int32} {l2 : Int32} {l3 : Int32} {μ : hn_M} (e : fX8_push l1 l2 l3 μ = some R) : hn_G Z B (0, 0) 4 0 [(0, .ref (hn_base B + 72)), (1, .int l1), (2, .int l2), (3, .int l3)] [] μ := by
  unfold fX8_push at e
  have a89 : hn_isA B 89 false 12 := hV 89 (by decide)
  have o72 : hn_isO B 72 8 hn_k72 := hV 72 (by decide)
  refine hn_aload_n hF dX8_push_0 (q := 1) rfl 0 rfl ?_
  refine hn_get hF fl_X8_62 o72 rfl rfl dX8_push_1 (q := 4) rfl ?_
  refine hn_iload_n hF dX8_push_4 (q := 5) rfl 1 rfl ?_
  refine hn_ald hF a89 dX8_push_5 (q := 6) rfl e (fun v6 e => ?_)
  refine hn_aload_n hF dX8_push_6 (q := 7) rfl 0 rfl ?_
  refine hn_get hF fl_X8_62 o72 rfl rfl dX8_push_7 (q := 10) rfl ?_
  refine hn_iload_n hF dX8_push_10 (q := 11) rfl 2 rfl ?_
  refine hn_ald hF a89 dX8_push_11 (q := 12) rfl e (fun v7 e => ?_)
  refine hn_iload_n hF dX8_push_12 (q := 13) rfl 3 rfl ?_
  refine hn_iadd hF dX8_push_13 (q := 14) rfl ?_
  refine hn_icmp_ge hF dX8_push_14 (t := 36) (q := 17) rfl rfl e (fun e => ?_) (fun e => ?_)
  · exact gX8_push_36 hF hQ hV e
  · refine hn_aload_n hF dX8_push_17 (q := 18) rfl 0 rfl ?_
    refine hn_get hF fl_X8_62 o72 rfl rfl dX8_push_18 (q := 21) rfl ?_
    refine hn_iload_n hF dX8_push_21 (q := 22) rfl 1 rfl ?_
    refine hn_aload_n hF dX8_push_22 (q := 23) rfl 0 rfl ?_
    refine hn_get hF fl_X8_62 o72 rfl rfl dX8_push_23 (q := 26) rfl ?_
    refine hn_iload_n hF dX8_push_26 (q := 27) rfl 2 rfl ?_
    refine hn_ald hF a89 dX8_push_27 (q := 28) rfl e (fun v8 e => ?_)
    refine hn_iload_n hF dX8_push_28 (q := 29) rfl 3 rfl ?_
    refine hn_iadd hF dX8_push_29 (q := 30) rfl ?_
    refine hn_ast hF a89 dX8_push_30 (q := 31) rfl e (fun μ9 e => ?_)
    refine hn_aload_n hF dX8_push_31 (q := 32) rfl 0 rfl ?_
    refine hn_iconst hF dX8_push_32 (q := 33) rfl ki_1 ?_
    refine hn_put hF fl_X8_110 fp_X8_22 o72 rfl rfl rfl rfl dX8_push_33 (q := 36) rfl e (fun μ10 e => ?_)
    exact gX8_push_36 hF hQ hV e
theorem cX8_push_ {B : hn_B} {μ : hn_M} {R : hn_M} {l1 : Int32} {l2 : Int32} {l3 : Int32} (hV : hn_V B hn_nA) (e : fX8_push l1 l2 l3 μ = some R) : hn_C yX8_push cX8_push 4 none 0 B [.ref (hn_base B + 72), .int l1, .int l2, .int l3] μ (none, R) :=
  hn_C.of RX8 (by decide) rfl (Nat.le_of_ble_eq_true rfl) (fun _ hF hQ => gX8_push hF hQ hV e)
/-! HandNewsModel.isLet()Z -/
def fX8_isLet_38 (F : Nat) (μ : hn_M) (k4 : Int32 → Int32 → Option Int32) (l2 : Int32) (s0 : Int32) : Option Int32 := k4 s0 (l2 + 1)
def fX8_isLet_37 (F : Nat) (μ : hn_M) (k4 : Int32 → Int32 → Option Int32) (l2 : Int32) : Option Int32 := fX8_isLet_38 F μ k4 l2 0
def fX8_isLet_4 (F : Nat) (μ : hn_M) : Nat → Int32 → Int32 → Option Int32
  | 0, _, _ => none
  | n + 1, l1, l2 => hn_rd μ 76 3 0 fun v1 => if v1 ≤ l2 then hn_bo l1 (some l1) else if l1 = 0 then fX8_isLet_37 F μ (fX8_isLet_4 F μ n) l2 else hn_rd μ 89 12 l2 fun v2 => hn_rd μ 90 12 l2 fun v3 => if v3 < v2 then fX8_isLet_37 F μ (fX8_isLet_4 F μ n) l2 else fX8_isLet_38 F μ (fX8_isLet_4 F μ n) l2 1
def fX8_isLet (F : Nat) (μ : hn_M) : Option Int32 := fX8_isLet_4 F μ F 1 0
set_option maxHeartbeats 1000000 in
theorem gX8_isLet_38 {Z : hn_Z} {B : hn_B} {F : Nat} {μ : hn_M} {R : Int32} (hF : hn_F Z B (0, 0) cX8_isLet 3 RX8 (some .boolean) 0) (hQ : hn_goal Z B (some (.int R), μ)) (hV : hn_V B hn_nA) {k4 : Int32 → Int32 → Option Int32} (H4 : ∀ (l1 : Int32) (l2 : Int32), k4 l1 l2 = some R → hn_G Z B (0, 0) 3 4 [(0, .ref (hn_base B + 72)), (1, .int l1), (2, .int l2)] [] μ) {l2 : Int32} {s0 : Int32} (e : fX8_isLet_38 F μ k4 l2 s0 = some R) : hn_G Z B (0, 0) 3 38 [(0, .ref (hn_base B + 72)), (2, .int l2)] [.int s0] μ := by
  unfold fX8_isLet_38 at e
  refine hn_istore_n hF dX8_isLet_38 (q := 39) rfl (i := 1) rfl (by decide) (L' := [(1, .int s0), (0, .ref (hn_base B + 72)), (2, .int l2)]) rfl ?_
  refine hn_iinc (p := 2) hF dX8_isLet_39 (q := 42) rfl rfl (kn_1 _) (by decide) (L' := [(2, .int (l2 + 1)), (1, .int s0), (0, .ref (hn_base B + 72))]) rfl ?_
  refine hn_goto hF dX8_isLet_42 (q := 4) rfl ?_
  refine hn_sub [2, 1, 0] (L' := [(0, .ref (hn_base B + 72)), (1, .int s0), (2, .int (l2 + 1))]) rfl ?_
  exact H4 s0 (l2 + 1) e
set_option maxHeartbeats 1000000 in
theorem gX8_isLet_37 {Z : hn_Z} {B : hn_B} {F : Nat} {μ : hn_M} {R : Int32} (hF : hn_F Z B (0, 0) cX8_isLet 3 RX8 (some .boolean) 0) (hQ : hn_goal Z B (some (.int R), μ)) (hV : hn_V B hn_nA) {k4 : Int32 → Int32 → Option Int32} (H4 : ∀ (l1 : Int32) (l2 : Int32), k4 l1 l2 = some R → hn_G Z B (0, 0) 3 4 [(0, .ref (hn_base B + 72)), (1, .int l1), (2, .int l2)] [] μ) {l2 : Int32} (e : fX8_isLet_37 F μ k4 l2 = some R) : hn_G Z B (0, 0) 3 37 [(0, .ref (hn_base B + 72)), (2, .int l2)] [] μ := by
  unfold fX8_isLet_37 at e
  refine hn_iconst hF dX8_isLet_37 (q := 38) rfl ki_0 ?_
  exact gX8_isLet_38 hF hQ hV H4 e
set_option maxHeartbeats 1000000 in
theorem gX8_isLet_4 {Z : hn_Z} {B : hn_B} {F : Nat} {μ : hn_M} {R : Int32} (hF : hn_F Z B (0, 0) cX8_isLet 3 RX8 (some .boolean) 0) (hQ : hn_goal Z B (some (.int R), μ)) (hV : hn_V B hn_nA) : ∀ (n : Nat) (l1 : Int32) (l2 : Int32), fX8_isLet_4 F μ n l1 l2 = some R → hn_G Z B (0, 0) 3 4 [(0, .ref (hn_base B + 72)), (1, .int l1), (2, .int l2)] [] μ := by
  have a76 : hn_isA B 76 false 3 := hV 76 (by decide)
  have a89 : hn_isA B 89 false 12 := hV 89 (by decide)
  have a90 : hn_isA B 90 false 12 := hV 90 (by decide)
  have o72 : hn_isO B 72 8 hn_k72 := hV 72 (by decide)
  intro n
  induction n with
  | zero => intro l1 l2 e; rw [fX8_isLet_4] at e; cases e
  | succ n ih =>
    intro l1 l2 e
    rw [fX8_isLet_4] at e
    refine hn_iload_n hF dX8_isLet_4 (q := 5) rfl 2 rfl ?_
    refine hn_aload_n hF dX8_isLet_5 (q := 6) rfl 0 rfl ?_
    refine hn_get hF fl_X8_19 o72 rfl rfl dX8_isLet_6 (q := 9) rfl ?_
    refine hn_iconst hF dX8_isLet_9 (q := 10) rfl ki_0 ?_
    refine hn_ald hF a76 dX8_isLet_10 (q := 11) rfl e (fun v1 e => ?_)
    refine hn_icmp_ge hF dX8_isLet_11 (t := 45) (q := 14) rfl rfl e (fun e => ?_) (fun e => ?_)
    · refine hn_iload_n hF dX8_isLet_45 (q := 46) rfl 1 rfl ?_
      exact hn_zretPg hF hQ dX8_isLet_46 e
    · refine hn_iload_n hF dX8_isLet_14 (q := 15) rfl 1 rfl ?_
      refine hn_if_eq hF dX8_isLet_15 (t := 37) (q := 18) rfl rfl e (fun e => ?_) (fun e => ?_)
      · refine hn_sub [0, 2] (L' := [(0, .ref (hn_base B + 72)), (2, .int l2)]) rfl ?_
        exact gX8_isLet_37 hF hQ hV ih e
      · refine hn_aload_n hF dX8_isLet_18 (q := 19) rfl 0 rfl ?_
        refine hn_get hF fl_X8_62 o72 rfl rfl dX8_isLet_19 (q := 22) rfl ?_
        refine hn_iload_n hF dX8_isLet_22 (q := 23) rfl 2 rfl ?_
        refine hn_ald hF a89 dX8_isLet_23 (q := 24) rfl e (fun v2 e => ?_)
        refine hn_aload_n hF dX8_isLet_24 (q := 25) rfl 0 rfl ?_
        refine hn_get hF fl_X8_65 o72 rfl rfl dX8_isLet_25 (q := 28) rfl ?_
        refine hn_iload_n hF dX8_isLet_28 (q := 29) rfl 2 rfl ?_
        refine hn_ald hF a90 dX8_isLet_29 (q := 30) rfl e (fun v3 e => ?_)
        refine hn_icmp_gt hF dX8_isLet_30 (t := 37) (q := 33) rfl rfl e (fun e => ?_) (fun e => ?_)
        · refine hn_sub [0, 2] (L' := [(0, .ref (hn_base B + 72)), (2, .int l2)]) rfl ?_
          exact gX8_isLet_37 hF hQ hV ih e
        · refine hn_iconst hF dX8_isLet_33 (q := 34) rfl ki_1 ?_
          refine hn_goto hF dX8_isLet_34 (q := 38) rfl ?_
          refine hn_sub [0, 2] (L' := [(0, .ref (hn_base B + 72)), (2, .int l2)]) rfl ?_
          exact gX8_isLet_38 hF hQ hV ih e
set_option maxHeartbeats 1000000 in
theorem gX8_isLet {Z : hn_Z} {B : hn_B} {F : Nat} {μ : hn_M} {R : Int32} (hF : hn_F Z B (0, 0) cX8_isLet 3 RX8 (some .boolean) 0) (hQ : hn_goal Z B (some (.int R), μ)) (hV : hn_V B hn_nA) (e : fX8_isLet F μ = some R) : hn_G Z B (0, 0) 3 0 [(0, .ref (hn_base B + 72))] [] μ := by
  unfold fX8_isLet at e
  refine hn_iconst hF dX8_isLet_0 (q := 1) rfl ki_1 ?_
  refine hn_istore_n hF dX8_isLet_1 (q := 2) rfl (i := 1) rfl (by decide) (L' := [(1, .int 1), (0, .ref (hn_base B + 72))]) rfl ?_
  refine hn_iconst hF dX8_isLet_2 (q := 3) rfl ki_0 ?_
  refine hn_istore_n hF dX8_isLet_3 (q := 4) rfl (i := 2) rfl (by decide) (L' := [(2, .int 0), (1, .int 1), (0, .ref (hn_base B + 72))]) rfl ?_
  refine hn_sub [2, 1, 0] (L' := [(0, .ref (hn_base B + 72)), (1, .int 1), (2, .int 0)]) rfl ?_
  exact gX8_isLet_4 hF hQ hV F 1 0 e
theorem cX8_isLet_ {B : hn_B} {F : Nat} {μ : hn_M} {R : Int32} (hV : hn_V B hn_nA) (e : fX8_isLet F μ = some R) : hn_C yX8_isLet cX8_isLet 3 (some .boolean) 0 B [.ref (hn_base B + 72)] μ (some (.int R), μ) :=
  hn_C.of RX8 (by decide) rfl (Nat.le_of_ble_eq_true rfl) (fun _ hF hQ => gX8_isLet hF hQ hV e)
/-! HandNewsModel.layDays(II)Z -/
def fX8_layDays_59 (F : Nat) (k2 : Int32 → Int32 → Int32 → hn_M → Option (Int32 × hn_M)) (l1 : Int32) (l2 : Int32) (l3 : Int32) (s0 : Int32) (s1 : Int32) (μ : hn_M) : Option (Int32 × hn_M) := hn_wr μ 90 12 s1 s0 fun μ1 => k2 l1 l2 (l3 + 1) μ1
def fX8_layDays_40 (F : Nat) (k2 : Int32 → Int32 → Int32 → hn_M → Option (Int32 × hn_M)) (l1 : Int32) (l2 : Int32) (l3 : Int32) (l4 : Int32) (s0 : Int32) (s1 : Int32) (μ : hn_M) : Option (Int32 × hn_M) := hn_wr μ 89 12 s1 s0 fun μ2 => if 0 ≤ l4 then fX8_layDays_59 F k2 l1 l2 l3 l4 l3 μ2 else fX8_layDays_59 F k2 l1 l2 l3 999 l3 μ2
def fX8_layDays_186 (F : Nat) (k68 : Int32 → Int32 → Int32 → hn_M → Option (Int32 × hn_M)) (l1 : Int32) (l2 : Int32) (l3 : Int32) (μ : hn_M) : Option (Int32 × hn_M) := k68 l1 l2 (l3 + 1) μ
def fX8_layDays_185 (F : Nat) (k68 : Int32 → Int32 → Int32 → hn_M → Option (Int32 × hn_M)) (l1 : Int32) (l2 : Int32) (l3 : Int32) (s0 : Int32) (s1 : Int32) (μ : hn_M) : Option (Int32 × hn_M) := hn_wr μ 89 12 s1 s0 fun μ3 => fX8_layDays_186 F k68 l1 l2 l3 μ3
def fX8_layDays_278 (F : Nat) (k197 : Int32 → Int32 → hn_M → Option (Int32 × hn_M)) (l1 : Int32) (l2 : Int32) (μ : hn_M) : Option (Int32 × hn_M) := if l1 < 0 then k197 l1 l2 μ else (fX8_push l1 l2 0 μ).bind fun μ4 => k197 l1 l2 μ4
def fX8_layDays_218 (F : Nat) (k197 : Int32 → Int32 → hn_M → Option (Int32 × hn_M)) : Nat → Int32 → Int32 → Int32 → hn_M → Option (Int32 × hn_M)
  | 0, _, _, _, _ => none
  | n + 1, l1, l2, l3, μ => hn_rd μ 78 3 0 fun v5 => if v5 ≤ l3 then fX8_layDays_278 F k197 l1 l2 μ else hn_rd μ 79 120 (2 * l3) fun v6 => hn_rd μ 79 120 ((2 * l3) + 1) fun v7 => hn_rd μ 79 120 ((2 * l3) + 1) fun v8 => hn_rd μ 79 120 (2 * l3) fun v9 => (fX8_wayOf μ v8 v9).bind fun v10 => (fX8_push v6 v7 v10 μ).bind fun μ11 => fX8_layDays_218 F k197 n l1 l2 (l3 + 1) μ11
def fX8_layDays_292 (F : Nat) (μ : hn_M) : Option (Int32 × hn_M) := (fX8_isLet F μ).bind fun v12 => hn_bo v12 (some (v12, μ))
def fX8_layDays_197 (F : Nat) : Nat → Int32 → Int32 → hn_M → Option (Int32 × hn_M)
  | 0, _, _, _ => none
  | n + 1, l1, l2, μ => if μ 72 22 = 0 then fX8_layDays_292 F μ else (fX8_isLet F μ).bind fun v13 => if v13 = 0 then fX8_layDays_292 F μ else hn_pf μ 72 22 0 fun μ14 => fX8_layDays_218 F (fX8_layDays_197 F n) F l1 l2 0 μ14
def fX8_layDays_192 (F : Nat) (l1 : Int32) (l2 : Int32) (μ : hn_M) : Option (Int32 × hn_M) := hn_pf μ 72 22 1 fun μ15 => fX8_layDays_197 F F l1 l2 μ15
def fX8_layDays_68 (F : Nat) : Nat → Int32 → Int32 → Int32 → hn_M → Option (Int32 × hn_M)
  | 0, _, _, _, _ => none
  | n + 1, l1, l2, l3, μ => hn_rd μ 80 3 0 fun v16 => if v16 ≤ l3 then fX8_layDays_192 F l1 l2 μ else hn_rd μ 81 540 ((6 * l3) + 1) fun v17 => hn_rd μ 81 540 (6 * l3) fun v18 => hn_rd μ 82 60 (2 * v17) fun v19 => if v19 < 0 then fX8_layDays_186 F (fX8_layDays_68 F n) l1 l2 l3 μ else hn_rd μ 82 60 ((2 * v17) + 1) fun v20 => hn_rd μ 82 60 (2 * v17) fun v21 => hn_rd μ 77 108 (3 * v18) fun v22 => hn_rd μ 75 36 ((6 * v21) + v22) fun v23 => hn_rd μ 89 12 v18 fun v24 => if v20 + v23 ≤ v24 then hn_rd μ 89 12 v18 fun v25 => fX8_layDays_185 F (fX8_layDays_68 F n) l1 l2 l3 v25 v18 μ else fX8_layDays_185 F (fX8_layDays_68 F n) l1 l2 l3 (v20 + v23) v18 μ
def fX8_layDays_66 (F : Nat) (l1 : Int32) (l2 : Int32) (μ : hn_M) : Option (Int32 × hn_M) := fX8_layDays_68 F F l1 l2 0 μ
def fX8_layDays_2 (F : Nat) : Nat → Int32 → Int32 → Int32 → hn_M → Option (Int32 × hn_M)
  | 0, _, _, _, _ => none
  | n + 1, l1, l2, l3, μ => hn_rd μ 76 3 0 fun v26 => if v26 ≤ l3 then fX8_layDays_66 F l1 l2 μ else hn_rd μ 77 108 ((3 * l3) + 2) fun v27 => if 0 ≤ v27 then fX8_layDays_40 F (fX8_layDays_2 F n) l1 l2 l3 v27 v27 l3 μ else fX8_layDays_40 F (fX8_layDays_2 F n) l1 l2 l3 v27 0 l3 μ
def fX8_layDays (F : Nat) (l1 : Int32) (l2 : Int32) (μ : hn_M) : Option (Int32 × hn_M) := fX8_layDays_2 F F l1 l2 0 μ
set_option maxHeartbeats 1000000 in
theorem gX8_layDays_59 {Z : hn_Z} {B : hn_B} {F : Nat} {R : Int32 × hn_M} (hF : hn_F Z B (0, 0) cX8_layDays 7 RX8 (some .boolean) 1) (hQ : hn_goal Z B (some (.int R.1), R.2)) (hV : hn_V B hn_nA) {k2 : Int32 → Int32 → Int32 → hn_M → Option (Int32 × hn_M)} (H2 : ∀ (l1 : Int32) (l2 : Int32) (l3 : Int32) (μ : hn_M), k2 l1 l2 l3 μ = some R → hn_G Z B (0, 0) 7 2 [(0, .ref (hn_base B + 72)), (1, .int l1), (2, .int l2), (3, .int l3)] [] μ) {l1 : Int32} {l2 : Int32} {l3 : Int32} {s0 : Int32} {s1 : Int32} {μ : hn_M} (e : fX8_layDays_59 F k2 l1 l2 l3 s0 s1 μ = some R) : hn_G Z B (0, 0) 7 59 [(0, .ref (hn_base B + 72)), (1, .int l1), (2, .int l2), (3, .int l3)] [.int s0, .int s1, .ref (hn_base B + 90)] μ := by
  unfold fX8_layDays_59 at e
  have a90 : hn_isA B 90 false 12 := hV 90 (by decide)
  refine hn_ast hF a90 dX8_layDays_59 (q := 60) rfl e (fun μ1 e => ?_)
  refine hn_iinc (p := 3) hF dX8_layDays_60 (q := 63) rfl rfl (kn_1 _) (by decide) (L' := [(3, .int (l3 + 1)), (0, .ref (hn_base B + 72)), (1, .int l1), (2, .int l2)]) rfl ?_
  refine hn_goto hF dX8_layDays_63 (q := 2) rfl ?_
  refine hn_sub [1, 2, 3, 0] (L' := [(0, .ref (hn_base B + 72)), (1, .int l1), (2, .int l2), (3, .int (l3 + 1))]) rfl ?_
  exact H2 l1 l2 (l3 + 1) μ1 e
set_option maxHeartbeats 1000000 in
theorem gX8_layDays_40 {Z : hn_Z} {B : hn_B} {F : Nat} {R : Int32 × hn_M} (hF : hn_F Z B (0, 0) cX8_layDays 7 RX8 (some .boolean) 1) (hQ : hn_goal Z B (some (.int R.1), R.2)) (hV : hn_V B hn_nA) {k2 : Int32 → Int32 → Int32 → hn_M → Option (Int32 × hn_M)} (H2 : ∀ (l1 : Int32) (l2 : Int32) (l3 : Int32) (μ : hn_M), k2 l1 l2 l3 μ = some R → hn_G Z B (0, 0) 7 2 [(0, .ref (hn_base B + 72)), (1, .int l1), (2, .int l2), (3, .int l3)] [] μ) {l1 : Int32} {l2 : Int32} {l3 : Int32} {l4 : Int32} {s0 : Int32} {s1 : Int32} {μ : hn_M} (e : fX8_layDays_40 F k2 l1 l2 l3 l4 s0 s1 μ = some R) : hn_G Z B (0, 0) 7 40 [(0, .ref (hn_base B + 72)), (1, .int l1), (2, .int l2), (3, .int l3), (4, .int l4)] [.int s0, .int s1, .ref (hn_base B + 89)] μ := by
  unfold fX8_layDays_40 at e
  have a89 : hn_isA B 89 false 12 := hV 89 (by decide)
  have o72 : hn_isO B 72 8 hn_k72 := hV 72 (by decide)
  refine hn_ast hF a89 dX8_layDays_40 (q := 41) rfl e (fun μ2 e => ?_)
  refine hn_aload_n hF dX8_layDays_41 (q := 42) rfl 0 rfl ?_
  refine hn_get hF fl_X8_65 o72 rfl rfl dX8_layDays_42 (q := 45) rfl ?_
  refine hn_iload_n hF dX8_layDays_45 (q := 46) rfl 3 rfl ?_
  refine hn_iload hF dX8_layDays_46 (q := 48) rfl 4 rfl ?_
  refine hn_if_ge hF dX8_layDays_48 (t := 57) (q := 51) rfl rfl e (fun e => ?_) (fun e => ?_)
  · refine hn_iload hF dX8_layDays_57 (q := 59) rfl 4 rfl ?_
    refine hn_sub [0, 1, 2, 3] (L' := [(0, .ref (hn_base B + 72)), (1, .int l1), (2, .int l2), (3, .int l3)]) rfl ?_
    exact gX8_layDays_59 hF hQ hV H2 e
  · refine hn_sipush hF dX8_layDays_51 (q := 54) rfl ks_999 ?_
    refine hn_goto hF dX8_layDays_54 (q := 59) rfl ?_
    refine hn_sub [0, 1, 2, 3] (L' := [(0, .ref (hn_base B + 72)), (1, .int l1), (2, .int l2), (3, .int l3)]) rfl ?_
    exact gX8_layDays_59 hF hQ hV H2 e
set_option maxHeartbeats 1000000 in
theorem gX8_layDays_186 {Z : hn_Z} {B : hn_B} {F : Nat} {R : Int32 × hn_M} (hF : hn_F Z B (0, 0) cX8_layDays 7 RX8 (some .boolean) 1) (hQ : hn_goal Z B (some (.int R.1), R.2)) (hV : hn_V B hn_nA) {k68 : Int32 → Int32 → Int32 → hn_M → Option (Int32 × hn_M)} (H68 : ∀ (l1 : Int32) (l2 : Int32) (l3 : Int32) (μ : hn_M), k68 l1 l2 l3 μ = some R → hn_G Z B (0, 0) 7 68 [(0, .ref (hn_base B + 72)), (1, .int l1), (2, .int l2), (3, .int l3)] [] μ) {l1 : Int32} {l2 : Int32} {l3 : Int32} {μ : hn_M} (e : fX8_layDays_186 F k68 l1 l2 l3 μ = some R) : hn_G Z B (0, 0) 7 186 [(0, .ref (hn_base B + 72)), (1, .int l1), (2, .int l2), (3, .int l3)] [] μ := by
  unfold fX8_layDays_186 at e
  refine hn_iinc (p := 3) hF dX8_layDays_186 (q := 189) rfl rfl (kn_1 _) (by decide) (L' := [(3, .int (l3 + 1)), (0, .ref (hn_base B + 72)), (1, .int l1), (2, .int l2)]) rfl ?_
  refine hn_goto hF dX8_layDays_189 (q := 68) rfl ?_
  refine hn_sub [1, 2, 3, 0] (L' := [(0, .ref (hn_base B + 72)), (1, .int l1), (2, .int l2), (3, .int (l3 + 1))]) rfl ?_
  exact H68 l1 l2 (l3 + 1) μ e
set_option maxHeartbeats 1000000 in
theorem gX8_layDays_185 {Z : hn_Z} {B : hn_B} {F : Nat} {R : Int32 × hn_M} (hF : hn_F Z B (0, 0) cX8_layDays 7 RX8 (some .boolean) 1) (hQ : hn_goal Z B (some (.int R.1), R.2)) (hV : hn_V B hn_nA) {k68 : Int32 → Int32 → Int32 → hn_M → Option (Int32 × hn_M)} (H68 : ∀ (l1 : Int32) (l2 : Int32) (l3 : Int32) (μ : hn_M), k68 l1 l2 l3 μ = some R → hn_G Z B (0, 0) 7 68 [(0, .ref (hn_base B + 72)), (1, .int l1), (2, .int l2), (3, .int l3)] [] μ) {l1 : Int32} {l2 : Int32} {l3 : Int32} {s0 : Int32} {s1 : Int32} {μ : hn_M} (e : fX8_layDays_185 F k68 l1 l2 l3 s0 s1 μ = some R) : hn_G Z B (0, 0) 7 185 [(0, .ref (hn_base B + 72)), (1, .int l1), (2, .int l2), (3, .int l3)] [.int s0, .int s1, .ref (hn_base B + 89)] μ := by
  unfold fX8_layDays_185 at e
  have a89 : hn_isA B 89 false 12 := hV 89 (by decide)
  refine hn_ast hF a89 dX8_layDays_185 (q := 186) rfl e (fun μ3 e => ?_)
  exact gX8_layDays_186 hF hQ hV H68 e
set_option maxHeartbeats 1000000 in
theorem gX8_layDays_278 {Z : hn_Z} {B : hn_B} {F : Nat} {R : Int32 × hn_M} (hF : hn_F Z B (0, 0) cX8_layDays 7 RX8 (some .boolean) 1) (hQ : hn_goal Z B (some (.int R.1), R.2)) (hV : hn_V B hn_nA) {k197 : Int32 → Int32 → hn_M → Option (Int32 × hn_M)} (H197 : ∀ (l1 : Int32) (l2 : Int32) (μ : hn_M), k197 l1 l2 μ = some R → hn_G Z B (0, 0) 7 197 [(0, .ref (hn_base B + 72)), (1, .int l1), (2, .int l2)] [] μ) {l1 : Int32} {l2 : Int32} {μ : hn_M} (e : fX8_layDays_278 F k197 l1 l2 μ = some R) : hn_G Z B (0, 0) 7 278 [(0, .ref (hn_base B + 72)), (1, .int l1), (2, .int l2)] [] μ := by
  unfold fX8_layDays_278 at e
  have o72 : hn_isO B 72 8 hn_k72 := hV 72 (by decide)
  refine hn_iload_n hF dX8_layDays_278 (q := 279) rfl 1 rfl ?_
  refine hn_if_lt hF dX8_layDays_279 (t := 197) (q := 282) rfl rfl e (fun e => ?_) (fun e => ?_)
  · exact H197 l1 l2 μ e
  · refine hn_aload_n hF dX8_layDays_282 (q := 283) rfl 0 rfl ?_
    refine hn_iload_n hF dX8_layDays_283 (q := 284) rfl 1 rfl ?_
    refine hn_iload_n hF dX8_layDays_284 (q := 285) rfl 2 rfl ?_
    refine hn_iconst hF dX8_layDays_285 (q := 286) rfl ki_0 ?_
    refine hn_callVv (rest := []) hF ms_X8_push mv_X8_push lk_X8_118 o72 rfl (by decide) [.int l1, .int l2, .int 0] rfl (Nat.le_of_ble_eq_true rfl) dX8_layDays_286 (q := 289) rfl rfl e (fun v hv => cX8_push_ hV hv) (fun μ4 e => ?_)
    refine hn_goto hF dX8_layDays_289 (q := 197) rfl ?_
    exact H197 l1 l2 μ4 e
set_option maxHeartbeats 1000000 in
theorem gX8_layDays_218 {Z : hn_Z} {B : hn_B} {F : Nat} {R : Int32 × hn_M} (hF : hn_F Z B (0, 0) cX8_layDays 7 RX8 (some .boolean) 1) (hQ : hn_goal Z B (some (.int R.1), R.2)) (hV : hn_V B hn_nA) {k197 : Int32 → Int32 → hn_M → Option (Int32 × hn_M)} (H197 : ∀ (l1 : Int32) (l2 : Int32) (μ : hn_M), k197 l1 l2 μ = some R → hn_G Z B (0, 0) 7 197 [(0, .ref (hn_base B + 72)), (1, .int l1), (2, .int l2)] [] μ) : ∀ (n : Nat) (l1 : Int32) (l2 : Int32) (l3 : Int32) (μ : hn_M), fX8_layDays_218 F k197 n l1 l2 l3 μ = some R → hn_G Z B (0, 0) 7 218 [(0, .ref (hn_base B + 72)), (1, .int l1), (2, .int l2), (3, .int l3)] [] μ := by
  have a78 : hn_isA B 78 false 3 := hV 78 (by decide)
  have a79 : hn_isA B 79 false 120 := hV 79 (by decide)
  have o72 : hn_isO B 72 8 hn_k72 := hV 72 (by decide)
  intro n
  induction n with
  | zero => intro l1 l2 l3 μ e; rw [fX8_layDays_218] at e; cases e
  | succ n ih =>
    intro l1 l2 l3 μ e
    rw [fX8_layDays_218] at e
    refine hn_iload_n hF dX8_layDays_218 (q := 219) rfl 3 rfl ?_
    refine hn_aload_n hF dX8_layDays_219 (q := 220) rfl 0 rfl ?_
    refine hn_get hF fl_X8_25 o72 rfl rfl dX8_layDays_220 (q := 223) rfl ?_
    refine hn_iconst hF dX8_layDays_223 (q := 224) rfl ki_0 ?_
    refine hn_ald hF a78 dX8_layDays_224 (q := 225) rfl e (fun v5 e => ?_)
    refine hn_icmp_ge hF dX8_layDays_225 (t := 278) (q := 228) rfl rfl e (fun e => ?_) (fun e => ?_)
    · refine hn_sub [0, 1, 2] (L' := [(0, .ref (hn_base B + 72)), (1, .int l1), (2, .int l2)]) rfl ?_
      exact gX8_layDays_278 hF hQ hV H197 e
    · refine hn_aload_n hF dX8_layDays_228 (q := 229) rfl 0 rfl ?_
      refine hn_aload_n hF dX8_layDays_229 (q := 230) rfl 0 rfl ?_
      refine hn_get hF fl_X8_28 o72 rfl rfl dX8_layDays_230 (q := 233) rfl ?_
      refine hn_iconst hF dX8_layDays_233 (q := 234) rfl ki_2 ?_
      refine hn_iload_n hF dX8_layDays_234 (q := 235) rfl 3 rfl ?_
      refine hn_imul hF dX8_layDays_235 (q := 236) rfl ?_
      refine hn_ald hF a79 dX8_layDays_236 (q := 237) rfl e (fun v6 e => ?_)
      refine hn_aload_n hF dX8_layDays_237 (q := 238) rfl 0 rfl ?_
      refine hn_get hF fl_X8_28 o72 rfl rfl dX8_layDays_238 (q := 241) rfl ?_
      refine hn_iconst hF dX8_layDays_241 (q := 242) rfl ki_2 ?_
      refine hn_iload_n hF dX8_layDays_242 (q := 243) rfl 3 rfl ?_
      refine hn_imul hF dX8_layDays_243 (q := 244) rfl ?_
      refine hn_iconst hF dX8_layDays_244 (q := 245) rfl ki_1 ?_
      refine hn_iadd hF dX8_layDays_245 (q := 246) rfl ?_
      refine hn_ald hF a79 dX8_layDays_246 (q := 247) rfl e (fun v7 e => ?_)
      refine hn_aload_n hF dX8_layDays_247 (q := 248) rfl 0 rfl ?_
      refine hn_aload_n hF dX8_layDays_248 (q := 249) rfl 0 rfl ?_
      refine hn_get hF fl_X8_28 o72 rfl rfl dX8_layDays_249 (q := 252) rfl ?_
      refine hn_iconst hF dX8_layDays_252 (q := 253) rfl ki_2 ?_
      refine hn_iload_n hF dX8_layDays_253 (q := 254) rfl 3 rfl ?_
      refine hn_imul hF dX8_layDays_254 (q := 255) rfl ?_
      refine hn_iconst hF dX8_layDays_255 (q := 256) rfl ki_1 ?_
      refine hn_iadd hF dX8_layDays_256 (q := 257) rfl ?_
      refine hn_ald hF a79 dX8_layDays_257 (q := 258) rfl e (fun v8 e => ?_)
      refine hn_aload_n hF dX8_layDays_258 (q := 259) rfl 0 rfl ?_
      refine hn_get hF fl_X8_28 o72 rfl rfl dX8_layDays_259 (q := 262) rfl ?_
      refine hn_iconst hF dX8_layDays_262 (q := 263) rfl ki_2 ?_
      refine hn_iload_n hF dX8_layDays_263 (q := 264) rfl 3 rfl ?_
      refine hn_imul hF dX8_layDays_264 (q := 265) rfl ?_
      refine hn_ald hF a79 dX8_layDays_265 (q := 266) rfl e (fun v9 e => ?_)
      refine hn_callVi (rest := [.int v7, .int v6, .ref (hn_base B + 72)]) hF ms_X8_wayOf mv_X8_wayOf lk_X8_100 o72 rfl (by decide) [.int v8, .int v9] rfl (Nat.le_of_ble_eq_true rfl) dX8_layDays_266 (q := 269) rfl rfl e (fun v hv => cX8_wayOf_ hV hv) (fun v10 e => ?_)
      refine hn_callVv (rest := []) hF ms_X8_push mv_X8_push lk_X8_118 o72 rfl (by decide) [.int v6, .int v7, .int v10] rfl (Nat.le_of_ble_eq_true rfl) dX8_layDays_269 (q := 272) rfl rfl e (fun v hv => cX8_push_ hV hv) (fun μ11 e => ?_)
      refine hn_iinc (p := 3) hF dX8_layDays_272 (q := 275) rfl rfl (kn_1 _) (by decide) (L' := [(3, .int (l3 + 1)), (0, .ref (hn_base B + 72)), (1, .int l1), (2, .int l2)]) rfl ?_
      refine hn_goto hF dX8_layDays_275 (q := 218) rfl ?_
      refine hn_sub [1, 2, 3, 0] (L' := [(0, .ref (hn_base B + 72)), (1, .int l1), (2, .int l2), (3, .int (l3 + 1))]) rfl ?_
      exact ih l1 l2 (l3 + 1) μ11 e
set_option maxHeartbeats 1000000 in
theorem gX8_layDays_292 {Z : hn_Z} {B : hn_B} {F : Nat} {R : Int32 × hn_M} (hF : hn_F Z B (0, 0) cX8_layDays 7 RX8 (some .boolean) 1) (hQ : hn_goal Z B (some (.int R.1), R.2)) (hV : hn_V B hn_nA) {μ : hn_M} (e : fX8_layDays_292 F μ = some R) : hn_G Z B (0, 0) 7 292 [(0, .ref (hn_base B + 72))] [] μ := by
  unfold fX8_layDays_292 at e
  have o72 : hn_isO B 72 8 hn_k72 := hV 72 (by decide)
  refine hn_aload_n hF dX8_layDays_292 (q := 293) rfl 0 rfl ?_
  refine hn_callVi (rest := []) hF ms_X8_isLet mv_X8_isLet lk_X8_114 o72 rfl (by decide) [] rfl (Nat.le_of_ble_eq_true rfl) dX8_layDays_293 (q := 296) rfl rfl e (fun v hv => cX8_isLet_ hV hv) (fun v12 e => ?_)
  exact hn_zretMg hF hQ dX8_layDays_296 e
set_option maxHeartbeats 1000000 in
theorem gX8_layDays_197 {Z : hn_Z} {B : hn_B} {F : Nat} {R : Int32 × hn_M} (hF : hn_F Z B (0, 0) cX8_layDays 7 RX8 (some .boolean) 1) (hQ : hn_goal Z B (some (.int R.1), R.2)) (hV : hn_V B hn_nA) : ∀ (n : Nat) (l1 : Int32) (l2 : Int32) (μ : hn_M), fX8_layDays_197 F n l1 l2 μ = some R → hn_G Z B (0, 0) 7 197 [(0, .ref (hn_base B + 72)), (1, .int l1), (2, .int l2)] [] μ := by
  have o72 : hn_isO B 72 8 hn_k72 := hV 72 (by decide)
  intro n
  induction n with
  | zero => intro l1 l2 μ e; rw [fX8_layDays_197] at e; cases e
  | succ n ih =>
    intro l1 l2 μ e
    rw [fX8_layDays_197] at e
    refine hn_aload_n hF dX8_layDays_197 (q := 198) rfl 0 rfl ?_
    refine hn_get hF fl_X8_110 o72 rfl rfl dX8_layDays_198 (q := 201) rfl ?_
    refine hn_if_eq hF dX8_layDays_201 (t := 292) (q := 204) rfl rfl e (fun e => ?_) (fun e => ?_)
    · refine hn_sub [0] (L' := [(0, .ref (hn_base B + 72))]) rfl ?_
      exact gX8_layDays_292 hF hQ hV e
    · refine hn_aload_n hF dX8_layDays_204 (q := 205) rfl 0 rfl ?_
      refine hn_callVi (rest := []) hF ms_X8_isLet mv_X8_isLet lk_X8_114 o72 rfl (by decide) [] rfl (Nat.le_of_ble_eq_true rfl) dX8_layDays_205 (q := 208) rfl rfl e (fun v hv => cX8_isLet_ hV hv) (fun v13 e => ?_)
      refine hn_if_eq hF dX8_layDays_208 (t := 292) (q := 211) rfl rfl e (fun e => ?_) (fun e => ?_)
      · refine hn_sub [0] (L' := [(0, .ref (hn_base B + 72))]) rfl ?_
        exact gX8_layDays_292 hF hQ hV e
      · refine hn_aload_n hF dX8_layDays_211 (q := 212) rfl 0 rfl ?_
        refine hn_iconst hF dX8_layDays_212 (q := 213) rfl ki_0 ?_
        refine hn_put hF fl_X8_110 fp_X8_22 o72 rfl rfl rfl rfl dX8_layDays_213 (q := 216) rfl e (fun μ14 e => ?_)
        refine hn_iconst hF dX8_layDays_216 (q := 217) rfl ki_0 ?_
        refine hn_istore_n hF dX8_layDays_217 (q := 218) rfl (i := 3) rfl (by decide) (L' := [(3, .int 0), (0, .ref (hn_base B + 72)), (1, .int l1), (2, .int l2)]) rfl ?_
        refine hn_sub [1, 2, 3, 0] (L' := [(0, .ref (hn_base B + 72)), (1, .int l1), (2, .int l2), (3, .int 0)]) rfl ?_
        exact gX8_layDays_218 hF hQ hV ih F l1 l2 0 μ14 e
set_option maxHeartbeats 1000000 in
theorem gX8_layDays_192 {Z : hn_Z} {B : hn_B} {F : Nat} {R : Int32 × hn_M} (hF : hn_F Z B (0, 0) cX8_layDays 7 RX8 (some .boolean) 1) (hQ : hn_goal Z B (some (.int R.1), R.2)) (hV : hn_V B hn_nA) {l1 : Int32} {l2 : Int32} {μ : hn_M} (e : fX8_layDays_192 F l1 l2 μ = some R) : hn_G Z B (0, 0) 7 192 [(0, .ref (hn_base B + 72)), (1, .int l1), (2, .int l2)] [] μ := by
  unfold fX8_layDays_192 at e
  have o72 : hn_isO B 72 8 hn_k72 := hV 72 (by decide)
  refine hn_aload_n hF dX8_layDays_192 (q := 193) rfl 0 rfl ?_
  refine hn_iconst hF dX8_layDays_193 (q := 194) rfl ki_1 ?_
  refine hn_put hF fl_X8_110 fp_X8_22 o72 rfl rfl rfl rfl dX8_layDays_194 (q := 197) rfl e (fun μ15 e => ?_)
  exact gX8_layDays_197 hF hQ hV F l1 l2 μ15 e
set_option maxHeartbeats 1000000 in
theorem gX8_layDays_68 {Z : hn_Z} {B : hn_B} {F : Nat} {R : Int32 × hn_M} (hF : hn_F Z B (0, 0) cX8_layDays 7 RX8 (some .boolean) 1) (hQ : hn_goal Z B (some (.int R.1), R.2)) (hV : hn_V B hn_nA) : ∀ (n : Nat) (l1 : Int32) (l2 : Int32) (l3 : Int32) (μ : hn_M), fX8_layDays_68 F n l1 l2 l3 μ = some R → hn_G Z B (0, 0) 7 68 [(0, .ref (hn_base B + 72)), (1, .int l1), (2, .int l2), (3, .int l3)] [] μ := by
  have a75 : hn_isA B 75 false 36 := hV 75 (by decide)
  have a77 : hn_isA B 77 false 108 := hV 77 (by decide)
  have a80 : hn_isA B 80 false 3 := hV 80 (by decide)
  have a81 : hn_isA B 81 false 540 := hV 81 (by decide)
  have a82 : hn_isA B 82 false 60 := hV 82 (by decide)
  have a89 : hn_isA B 89 false 12 := hV 89 (by decide)
  have o72 : hn_isO B 72 8 hn_k72 := hV 72 (by decide)
  intro n
  induction n with
  | zero => intro l1 l2 l3 μ e; rw [fX8_layDays_68] at e; cases e
  | succ n ih =>
    intro l1 l2 l3 μ e
    rw [fX8_layDays_68] at e
    refine hn_iload_n hF dX8_layDays_68 (q := 69) rfl 3 rfl ?_
    refine hn_aload_n hF dX8_layDays_69 (q := 70) rfl 0 rfl ?_
    refine hn_get hF fl_X8_31 o72 rfl rfl dX8_layDays_70 (q := 73) rfl ?_
    refine hn_iconst hF dX8_layDays_73 (q := 74) rfl ki_0 ?_
    refine hn_ald hF a80 dX8_layDays_74 (q := 75) rfl e (fun v16 e => ?_)
    refine hn_icmp_ge hF dX8_layDays_75 (t := 192) (q := 78) rfl rfl e (fun e => ?_) (fun e => ?_)
    · refine hn_sub [0, 1, 2] (L' := [(0, .ref (hn_base B + 72)), (1, .int l1), (2, .int l2)]) rfl ?_
      exact gX8_layDays_192 hF hQ hV e
    · refine hn_aload_n hF dX8_layDays_78 (q := 79) rfl 0 rfl ?_
      refine hn_get hF fl_X8_34 o72 rfl rfl dX8_layDays_79 (q := 82) rfl ?_
      refine hn_bipush hF dX8_layDays_82 (q := 84) rfl kb_6 ?_
      refine hn_iload_n hF dX8_layDays_84 (q := 85) rfl 3 rfl ?_
      refine hn_imul hF dX8_layDays_85 (q := 86) rfl ?_
      refine hn_iconst hF dX8_layDays_86 (q := 87) rfl ki_1 ?_
      refine hn_iadd hF dX8_layDays_87 (q := 88) rfl ?_
      refine hn_ald hF a81 dX8_layDays_88 (q := 89) rfl e (fun v17 e => ?_)
      refine hn_istore hF dX8_layDays_89 (q := 91) rfl (by decide) (L' := [(4, .int v17), (0, .ref (hn_base B + 72)), (1, .int l1), (2, .int l2), (3, .int l3)]) rfl ?_
      refine hn_aload_n hF dX8_layDays_91 (q := 92) rfl 1 rfl ?_
      refine hn_get hF fl_X8_34 o72 rfl rfl dX8_layDays_92 (q := 95) rfl ?_
      refine hn_bipush hF dX8_layDays_95 (q := 97) rfl kb_6 ?_
      refine hn_iload_n hF dX8_layDays_97 (q := 98) rfl 4 rfl ?_
      refine hn_imul hF dX8_layDays_98 (q := 99) rfl ?_
      refine hn_ald hF a81 dX8_layDays_99 (q := 100) rfl e (fun v18 e => ?_)
      refine hn_istore hF dX8_layDays_100 (q := 102) rfl (by decide) (L' := [(5, .int v18), (4, .int v17), (0, .ref (hn_base B + 72)), (1, .int l1), (2, .int l2), (3, .int l3)]) rfl ?_
      refine hn_aload_n hF dX8_layDays_102 (q := 103) rfl 2 rfl ?_
      refine hn_get hF fl_X8_37 o72 rfl rfl dX8_layDays_103 (q := 106) rfl ?_
      refine hn_iconst hF dX8_layDays_106 (q := 107) rfl ki_2 ?_
      refine hn_iload hF dX8_layDays_107 (q := 109) rfl 1 rfl ?_
      refine hn_imul hF dX8_layDays_109 (q := 110) rfl ?_
      refine hn_ald hF a82 dX8_layDays_110 (q := 111) rfl e (fun v19 e => ?_)
      refine hn_if_lt hF dX8_layDays_111 (t := 186) (q := 114) rfl rfl e (fun e => ?_) (fun e => ?_)
      · refine hn_sub [2, 3, 4, 5] (L' := [(0, .ref (hn_base B + 72)), (1, .int l1), (2, .int l2), (3, .int l3)]) rfl ?_
        exact gX8_layDays_186 hF hQ hV ih e
      · refine hn_aload_n hF dX8_layDays_114 (q := 115) rfl 2 rfl ?_
        refine hn_get hF fl_X8_37 o72 rfl rfl dX8_layDays_115 (q := 118) rfl ?_
        refine hn_iconst hF dX8_layDays_118 (q := 119) rfl ki_2 ?_
        refine hn_iload hF dX8_layDays_119 (q := 121) rfl 1 rfl ?_
        refine hn_imul hF dX8_layDays_121 (q := 122) rfl ?_
        refine hn_iconst hF dX8_layDays_122 (q := 123) rfl ki_1 ?_
        refine hn_iadd hF dX8_layDays_123 (q := 124) rfl ?_
        refine hn_ald hF a82 dX8_layDays_124 (q := 125) rfl e (fun v20 e => ?_)
        refine hn_aload_n hF dX8_layDays_125 (q := 126) rfl 2 rfl ?_
        refine hn_get hF fl_X8_16 o72 rfl rfl dX8_layDays_126 (q := 129) rfl ?_
        refine hn_bipush hF dX8_layDays_129 (q := 131) rfl kb_6 ?_
        refine hn_aload_n hF dX8_layDays_131 (q := 132) rfl 2 rfl ?_
        refine hn_get hF fl_X8_37 o72 rfl rfl dX8_layDays_132 (q := 135) rfl ?_
        refine hn_iconst hF dX8_layDays_135 (q := 136) rfl ki_2 ?_
        refine hn_iload hF dX8_layDays_136 (q := 138) rfl 1 rfl ?_
        refine hn_imul hF dX8_layDays_138 (q := 139) rfl ?_
        refine hn_ald hF a82 dX8_layDays_139 (q := 140) rfl e (fun v21 e => ?_)
        refine hn_imul hF dX8_layDays_140 (q := 141) rfl ?_
        refine hn_aload_n hF dX8_layDays_141 (q := 142) rfl 2 rfl ?_
        refine hn_get hF fl_X8_22 o72 rfl rfl dX8_layDays_142 (q := 145) rfl ?_
        refine hn_iconst hF dX8_layDays_145 (q := 146) rfl ki_3 ?_
        refine hn_iload hF dX8_layDays_146 (q := 148) rfl 0 rfl ?_
        refine hn_imul hF dX8_layDays_148 (q := 149) rfl ?_
        refine hn_ald hF a77 dX8_layDays_149 (q := 150) rfl e (fun v22 e => ?_)
        refine hn_iadd hF dX8_layDays_150 (q := 151) rfl ?_
        refine hn_ald hF a75 dX8_layDays_151 (q := 152) rfl e (fun v23 e => ?_)
        refine hn_iadd hF dX8_layDays_152 (q := 153) rfl ?_
        refine hn_istore hF dX8_layDays_153 (q := 155) rfl (by decide) (L' := [(6, .int (v20 + v23)), (5, .int v18), (4, .int v17), (0, .ref (hn_base B + 72)), (1, .int l1), (2, .int l2), (3, .int l3)]) rfl ?_
        refine hn_aload_n hF dX8_layDays_155 (q := 156) rfl 3 rfl ?_
        refine hn_get hF fl_X8_62 o72 rfl rfl dX8_layDays_156 (q := 159) rfl ?_
        refine hn_iload hF dX8_layDays_159 (q := 161) rfl 1 rfl ?_
        refine hn_iload hF dX8_layDays_161 (q := 163) rfl 0 rfl ?_
        refine hn_aload_n hF dX8_layDays_163 (q := 164) rfl 3 rfl ?_
        refine hn_get hF fl_X8_62 o72 rfl rfl dX8_layDays_164 (q := 167) rfl ?_
        refine hn_iload hF dX8_layDays_167 (q := 169) rfl 1 rfl ?_
        refine hn_ald hF a89 dX8_layDays_169 (q := 170) rfl e (fun v24 e => ?_)
        refine hn_icmp_le hF dX8_layDays_170 (t := 178) (q := 173) rfl rfl e (fun e => ?_) (fun e => ?_)
        · refine hn_aload_n hF dX8_layDays_178 (q := 179) rfl 3 rfl ?_
          refine hn_get hF fl_X8_62 o72 rfl rfl dX8_layDays_179 (q := 182) rfl ?_
          refine hn_iload hF dX8_layDays_182 (q := 184) rfl 1 rfl ?_
          refine hn_ald hF a89 dX8_layDays_184 (q := 185) rfl e (fun v25 e => ?_)
          refine hn_sub [3, 4, 5, 6] (L' := [(0, .ref (hn_base B + 72)), (1, .int l1), (2, .int l2), (3, .int l3)]) rfl ?_
          exact gX8_layDays_185 hF hQ hV ih e
        · refine hn_iload hF dX8_layDays_173 (q := 175) rfl 0 rfl ?_
          refine hn_goto hF dX8_layDays_175 (q := 185) rfl ?_
          refine hn_sub [3, 4, 5, 6] (L' := [(0, .ref (hn_base B + 72)), (1, .int l1), (2, .int l2), (3, .int l3)]) rfl ?_
          exact gX8_layDays_185 hF hQ hV ih e
set_option maxHeartbeats 1000000 in
theorem gX8_layDays_66 {Z : hn_Z} {B : hn_B} {F : Nat} {R : Int32 × hn_M} (hF : hn_F Z B (0, 0) cX8_layDays 7 RX8 (some .boolean) 1) (hQ : hn_goal Z B (some (.int R.1), R.2)) (hV : hn_V B hn_nA) {l1 : Int32} {l2 : Int32} {μ : hn_M} (e : fX8_layDays_66 F l1 l2 μ = some R) : hn_G Z B (0, 0) 7 66 [(0, .ref (hn_base B + 72)), (1, .int l1), (2, .int l2)] [] μ := by
  unfold fX8_layDays_66 at e
  refine hn_iconst hF dX8_layDays_66 (q := 67) rfl ki_0 ?_
  refine hn_istore_n hF dX8_layDays_67 (q := 68) rfl (i := 3) rfl (by decide) (L' := [(3, .int 0), (0, .ref (hn_base B + 72)), (1, .int l1), (2, .int l2)]) rfl ?_
  refine hn_sub [1, 2, 3, 0] (L' := [(0, .ref (hn_base B + 72)), (1, .int l1), (2, .int l2), (3, .int 0)]) rfl ?_
  exact gX8_layDays_68 hF hQ hV F l1 l2 0 μ e
set_option maxHeartbeats 1000000 in
theorem gX8_layDays_2 {Z : hn_Z} {B : hn_B} {F : Nat} {R : Int32 × hn_M} (hF : hn_F Z B (0, 0) cX8_layDays 7 RX8 (some .boolean) 1) (hQ : hn_goal Z B (some (.int R.1), R.2)) (hV : hn_V B hn_nA) : ∀ (n : Nat) (l1 : Int32) (l2 : Int32) (l3 : Int32) (μ : hn_M), fX8_layDays_2 F n l1 l2 l3 μ = some R → hn_G Z B (0, 0) 7 2 [(0, .ref (hn_base B + 72)), (1, .int l1), (2, .int l2), (3, .int l3)] [] μ := by
  have a76 : hn_isA B 76 false 3 := hV 76 (by decide)
  have a77 : hn_isA B 77 false 108 := hV 77 (by decide)
  have o72 : hn_isO B 72 8 hn_k72 := hV 72 (by decide)
  intro n
  induction n with
  | zero => intro l1 l2 l3 μ e; rw [fX8_layDays_2] at e; cases e
  | succ n ih =>
    intro l1 l2 l3 μ e
    rw [fX8_layDays_2] at e
    refine hn_iload_n hF dX8_layDays_2 (q := 3) rfl 3 rfl ?_
    refine hn_aload_n hF dX8_layDays_3 (q := 4) rfl 0 rfl ?_
    refine hn_get hF fl_X8_19 o72 rfl rfl dX8_layDays_4 (q := 7) rfl ?_
    refine hn_iconst hF dX8_layDays_7 (q := 8) rfl ki_0 ?_
    refine hn_ald hF a76 dX8_layDays_8 (q := 9) rfl e (fun v26 e => ?_)
    refine hn_icmp_ge hF dX8_layDays_9 (t := 66) (q := 12) rfl rfl e (fun e => ?_) (fun e => ?_)
    · refine hn_sub [0, 1, 2] (L' := [(0, .ref (hn_base B + 72)), (1, .int l1), (2, .int l2)]) rfl ?_
      exact gX8_layDays_66 hF hQ hV e
    · refine hn_aload_n hF dX8_layDays_12 (q := 13) rfl 0 rfl ?_
      refine hn_get hF fl_X8_22 o72 rfl rfl dX8_layDays_13 (q := 16) rfl ?_
      refine hn_iconst hF dX8_layDays_16 (q := 17) rfl ki_3 ?_
      refine hn_iload_n hF dX8_layDays_17 (q := 18) rfl 3 rfl ?_
      refine hn_imul hF dX8_layDays_18 (q := 19) rfl ?_
      refine hn_iconst hF dX8_layDays_19 (q := 20) rfl ki_2 ?_
      refine hn_iadd hF dX8_layDays_20 (q := 21) rfl ?_
      refine hn_ald hF a77 dX8_layDays_21 (q := 22) rfl e (fun v27 e => ?_)
      refine hn_istore hF dX8_layDays_22 (q := 24) rfl (by decide) (L' := [(4, .int v27), (0, .ref (hn_base B + 72)), (1, .int l1), (2, .int l2), (3, .int l3)]) rfl ?_
      refine hn_aload_n hF dX8_layDays_24 (q := 25) rfl 1 rfl ?_
      refine hn_get hF fl_X8_62 o72 rfl rfl dX8_layDays_25 (q := 28) rfl ?_
      refine hn_iload_n hF dX8_layDays_28 (q := 29) rfl 4 rfl ?_
      refine hn_iload hF dX8_layDays_29 (q := 31) rfl 0 rfl ?_
      refine hn_if_ge hF dX8_layDays_31 (t := 38) (q := 34) rfl rfl e (fun e => ?_) (fun e => ?_)
      · refine hn_iload hF dX8_layDays_38 (q := 40) rfl 0 rfl ?_
        refine hn_sub [1, 2, 3, 4, 0] (L' := [(0, .ref (hn_base B + 72)), (1, .int l1), (2, .int l2), (3, .int l3), (4, .int v27)]) rfl ?_
        exact gX8_layDays_40 hF hQ hV ih e
      · refine hn_iconst hF dX8_layDays_34 (q := 35) rfl ki_0 ?_
        refine hn_goto hF dX8_layDays_35 (q := 40) rfl ?_
        refine hn_sub [1, 2, 3, 4, 0] (L' := [(0, .ref (hn_base B + 72)), (1, .int l1), (2, .int l2), (3, .int l3), (4, .int v27)]) rfl ?_
        exact gX8_layDays_40 hF hQ hV ih e
set_option maxHeartbeats 1000000 in
theorem gX8_layDays {Z : hn_Z} {B : hn_B} {F : Nat} {R : Int32 × hn_M} (hF : hn_F Z B (0, 0) cX8_layDays 7 RX8 (some .boolean) 1) (hQ : hn_goal Z B (some (.int R.1), R.2)) (hV : hn_V B hn_nA) {l1 : Int32} {l2 : Int32} {μ : hn_M} (e : fX8_layDays F l1 l2 μ = some R) : hn_G Z B (0, 0) 7 0 [(0, .ref (hn_base B + 72)), (1, .int l1), (2, .int l2)] [] μ := by
  unfold fX8_layDays at e
  refine hn_iconst hF dX8_layDays_0 (q := 1) rfl ki_0 ?_
  refine hn_istore_n hF dX8_layDays_1 (q := 2) rfl (i := 3) rfl (by decide) (L' := [(3, .int 0), (0, .ref (hn_base B + 72)), (1, .int l1), (2, .int l2)]) rfl ?_
  refine hn_sub [1, 2, 3, 0] (L' := [(0, .ref (hn_base B + 72)), (1, .int l1), (2, .int l2), (3, .int 0)]) rfl ?_
  exact gX8_layDays_2 hF hQ hV F l1 l2 0 μ e
theorem cX8_layDays_ {B : hn_B} {F : Nat} {μ : hn_M} {R : Int32 × hn_M} {l1 : Int32} {l2 : Int32} (hV : hn_V B hn_nA) (e : fX8_layDays F l1 l2 μ = some R) : hn_C yX8_layDays cX8_layDays 7 (some .boolean) 1 B [.ref (hn_base B + 72), .int l1, .int l2] μ (some (.int R.1), R.2) :=
  hn_C.of RX8 (by decide) rfl (Nat.le_of_ble_eq_true rfl) (fun _ hF hQ => gX8_layDays hF hQ hV e)
/-! HandNewsModel.areDays()Z -/
def fX8_areDays (F : Nat) (μ : hn_M) : Option (Int32 × hn_M) := (fX8_layDays F (-1) (-1) μ).bind fun w1 => hn_bo w1.1 (some (w1.1, w1.2))
set_option maxHeartbeats 1000000 in
theorem gX8_areDays {Z : hn_Z} {B : hn_B} {F : Nat} {R : Int32 × hn_M} (hF : hn_F Z B (0, 0) cX8_areDays 1 RX8 (some .boolean) 2) (hQ : hn_goal Z B (some (.int R.1), R.2)) (hV : hn_V B hn_nA) {μ : hn_M} (e : fX8_areDays F μ = some R) : hn_G Z B (0, 0) 1 0 [(0, .ref (hn_base B + 72))] [] μ := by
  unfold fX8_areDays at e
  have o72 : hn_isO B 72 8 hn_k72 := hV 72 (by decide)
  refine hn_aload_n hF dX8_areDays_0 (q := 1) rfl 0 rfl ?_
  refine hn_iconst hF dX8_areDays_1 (q := 2) rfl ki_m1 ?_
  refine hn_iconst hF dX8_areDays_2 (q := 3) rfl ki_m1 ?_
  refine hn_callVm (rest := []) hF ms_X8_layDays mv_X8_layDays lk_X8_122 o72 rfl (by decide) [.int ((-1)), .int ((-1))] rfl (Nat.le_of_ble_eq_true rfl) dX8_areDays_3 (q := 6) rfl rfl e (fun v hv => cX8_layDays_ hV hv) (fun w1 e => ?_)
  exact hn_zretMg hF hQ dX8_areDays_6 e
theorem cX8_areDays_ {B : hn_B} {F : Nat} {μ : hn_M} {R : Int32 × hn_M} (hV : hn_V B hn_nA) (e : fX8_areDays F μ = some R) : hn_C yX8_areDays cX8_areDays 1 (some .boolean) 2 B [.ref (hn_base B + 72)] μ (some (.int R.1), R.2) :=
  hn_C.of RX8 (by decide) rfl (Nat.le_of_ble_eq_true rfl) (fun _ hF hQ => gX8_areDays hF hQ hV e)
/-! HandNewsModel.span(II)I -/
def fX8_span (F : Nat) (l1 : Int32) (l2 : Int32) (μ : hn_M) : Option (Int32 × hn_M) := (fX8_isSheet μ l1).bind fun v1 => if v1 = 0 then some ((-1), μ) else (fX8_in l2.toInt64 0 1).bind fun v2 => if v2 = 0 then some ((-1), μ) else (fX8_areDays F μ).bind fun w3 => if w3.1 = 0 then some ((-2), w3.2) else if l2 = 0 then hn_rd w3.2 89 12 l1 fun v5 => some (v5, w3.2) else hn_rd w3.2 90 12 l1 fun v4 => some (v4, w3.2)
set_option maxHeartbeats 1000000 in
theorem gX8_span {Z : hn_Z} {B : hn_B} {F : Nat} {R : Int32 × hn_M} (hF : hn_F Z B (0, 0) cX8_span 3 RX8 (some .int) 3) (hQ : hn_goal Z B (some (.int R.1), R.2)) (hV : hn_V B hn_nA) {l1 : Int32} {l2 : Int32} {μ : hn_M} (e : fX8_span F l1 l2 μ = some R) : hn_G Z B (0, 0) 3 0 [(0, .ref (hn_base B + 72)), (1, .int l1), (2, .int l2)] [] μ := by
  unfold fX8_span at e
  have a89 : hn_isA B 89 false 12 := hV 89 (by decide)
  have a90 : hn_isA B 90 false 12 := hV 90 (by decide)
  have o72 : hn_isO B 72 8 hn_k72 := hV 72 (by decide)
  refine hn_aload_n hF dX8_span_0 (q := 1) rfl 0 rfl ?_
  refine hn_iload_n hF dX8_span_1 (q := 2) rfl 1 rfl ?_
  refine hn_callVi (rest := []) hF ms_X8_isSheet mv_X8_isSheet lk_X8_97 o72 rfl (by decide) [.int l1] rfl (Nat.le_of_ble_eq_true rfl) dX8_span_2 (q := 5) rfl rfl e (fun v hv => cX8_isSheet_ hV hv) (fun v1 e => ?_)
  refine hn_if_eq hF dX8_span_5 (t := 18) (q := 8) rfl rfl e (fun e => ?_) (fun e => ?_)
  · refine hn_iconst hF dX8_span_18 (q := 19) rfl ki_m1 ?_
    exact hn_iretM hF hQ dX8_span_19 e
  · refine hn_iload_n hF dX8_span_8 (q := 9) rfl 2 rfl ?_
    refine hn_i2l hF dX8_span_9 (q := 10) rfl rfl ?_
    refine hn_lconst hF dX8_span_10 (q := 11) rfl kl_0 ?_
    refine hn_lconst hF dX8_span_11 (q := 12) rfl kl_1 ?_
    refine hn_callSi (rest := []) hF ms_X8_in mt_X8_in lk_X8_79 (by decide) [.long (l2.toInt64), .long 0, .long 1] rfl (Nat.le_of_ble_eq_true rfl) dX8_span_12 (q := 15) rfl rfl e (fun v hv => cX8_in_ hv) (fun v2 e => ?_)
    refine hn_if_ne hF dX8_span_15 (t := 20) (q := 18) rfl rfl e (fun e => ?_) (fun e => ?_)
    · refine hn_aload_n hF dX8_span_20 (q := 21) rfl 0 rfl ?_
      refine hn_callVm (rest := []) hF ms_X8_areDays mv_X8_areDays lk_X8_126 o72 rfl (by decide) [] rfl (Nat.le_of_ble_eq_true rfl) dX8_span_21 (q := 24) rfl rfl e (fun v hv => cX8_areDays_ hV hv) (fun w3 e => ?_)
      refine hn_if_ne hF dX8_span_24 (t := 32) (q := 27) rfl rfl e (fun e => ?_) (fun e => ?_)
      · refine hn_iload_n hF dX8_span_32 (q := 33) rfl 2 rfl ?_
        refine hn_if_ne hF dX8_span_33 (t := 45) (q := 36) rfl rfl e (fun e => ?_) (fun e => ?_)
        · refine hn_aload_n hF dX8_span_45 (q := 46) rfl 0 rfl ?_
          refine hn_get hF fl_X8_65 o72 rfl rfl dX8_span_46 (q := 49) rfl ?_
          refine hn_iload_n hF dX8_span_49 (q := 50) rfl 1 rfl ?_
          refine hn_ald hF a90 dX8_span_50 (q := 51) rfl e (fun v4 e => ?_)
          exact hn_iretM hF hQ dX8_span_51 e
        · refine hn_aload_n hF dX8_span_36 (q := 37) rfl 0 rfl ?_
          refine hn_get hF fl_X8_62 o72 rfl rfl dX8_span_37 (q := 40) rfl ?_
          refine hn_iload_n hF dX8_span_40 (q := 41) rfl 1 rfl ?_
          refine hn_ald hF a89 dX8_span_41 (q := 42) rfl e (fun v5 e => ?_)
          refine hn_goto hF dX8_span_42 (q := 51) rfl ?_
          exact hn_iretM hF hQ dX8_span_51 e
      · refine hn_bipush hF dX8_span_27 (q := 29) rfl kb_m2 ?_
        refine hn_goto hF dX8_span_29 (q := 51) rfl ?_
        exact hn_iretM hF hQ dX8_span_51 e
    · refine hn_iconst hF dX8_span_18 (q := 19) rfl ki_m1 ?_
      exact hn_iretM hF hQ dX8_span_19 e
theorem cX8_span_ {B : hn_B} {F : Nat} {μ : hn_M} {R : Int32 × hn_M} {l1 : Int32} {l2 : Int32} (hV : hn_V B hn_nA) (e : fX8_span F l1 l2 μ = some R) : hn_C yX8_span cX8_span 3 (some .int) 3 B [.ref (hn_base B + 72), .int l1, .int l2] μ (some (.int R.1), R.2) :=
  hn_C.of RX8 (by decide) rfl (Nat.le_of_ble_eq_true rfl) (fun _ hF hQ => gX8_span hF hQ hV e)
/-! HandNewsModel.ahead(II)I -/
def fX8_ahead (F : Nat) (l1 : Int32) (l2 : Int32) (μ : hn_M) : Option (Int32 × hn_M) := (fX8_isSheet μ l1).bind fun v1 => if v1 = 0 then some ((-1), μ) else (fX8_isSheet μ l2).bind fun v2 => if v2 = 0 then some ((-1), μ) else (fX8_areDays F μ).bind fun w3 => if w3.1 = 0 then some ((-2), w3.2) else if l1 = l2 then some (0, w3.2) else (fX8_layDays F l1 l2 w3.2).bind fun w4 => if w4.1 = 0 then some (1, w4.2) else some (0, w4.2)
set_option maxHeartbeats 1000000 in
theorem gX8_ahead {Z : hn_Z} {B : hn_B} {F : Nat} {R : Int32 × hn_M} (hF : hn_F Z B (0, 0) cX8_ahead 3 RX8 (some .int) 3) (hQ : hn_goal Z B (some (.int R.1), R.2)) (hV : hn_V B hn_nA) {l1 : Int32} {l2 : Int32} {μ : hn_M} (e : fX8_ahead F l1 l2 μ = some R) : hn_G Z B (0, 0) 3 0 [(0, .ref (hn_base B + 72)), (1, .int l1), (2, .int l2)] [] μ := by
  unfold fX8_ahead at e
  have o72 : hn_isO B 72 8 hn_k72 := hV 72 (by decide)
  refine hn_aload_n hF dX8_ahead_0 (q := 1) rfl 0 rfl ?_
  refine hn_iload_n hF dX8_ahead_1 (q := 2) rfl 1 rfl ?_
  refine hn_callVi (rest := []) hF ms_X8_isSheet mv_X8_isSheet lk_X8_97 o72 rfl (by decide) [.int l1] rfl (Nat.le_of_ble_eq_true rfl) dX8_ahead_2 (q := 5) rfl rfl e (fun v hv => cX8_isSheet_ hV hv) (fun v1 e => ?_)
  refine hn_if_eq hF dX8_ahead_5 (t := 16) (q := 8) rfl rfl e (fun e => ?_) (fun e => ?_)
  · refine hn_iconst hF dX8_ahead_16 (q := 17) rfl ki_m1 ?_
    exact hn_iretM hF hQ dX8_ahead_17 e
  · refine hn_aload_n hF dX8_ahead_8 (q := 9) rfl 0 rfl ?_
    refine hn_iload_n hF dX8_ahead_9 (q := 10) rfl 2 rfl ?_
    refine hn_callVi (rest := []) hF ms_X8_isSheet mv_X8_isSheet lk_X8_97 o72 rfl (by decide) [.int l2] rfl (Nat.le_of_ble_eq_true rfl) dX8_ahead_10 (q := 13) rfl rfl e (fun v hv => cX8_isSheet_ hV hv) (fun v2 e => ?_)
    refine hn_if_ne hF dX8_ahead_13 (t := 18) (q := 16) rfl rfl e (fun e => ?_) (fun e => ?_)
    · refine hn_aload_n hF dX8_ahead_18 (q := 19) rfl 0 rfl ?_
      refine hn_callVm (rest := []) hF ms_X8_areDays mv_X8_areDays lk_X8_126 o72 rfl (by decide) [] rfl (Nat.le_of_ble_eq_true rfl) dX8_ahead_19 (q := 22) rfl rfl e (fun v hv => cX8_areDays_ hV hv) (fun w3 e => ?_)
      refine hn_if_ne hF dX8_ahead_22 (t := 28) (q := 25) rfl rfl e (fun e => ?_) (fun e => ?_)
      · refine hn_iload_n hF dX8_ahead_28 (q := 29) rfl 1 rfl ?_
        refine hn_iload_n hF dX8_ahead_29 (q := 30) rfl 2 rfl ?_
        refine hn_icmp_eq hF dX8_ahead_30 (t := 42) (q := 33) rfl rfl e (fun e => ?_) (fun e => ?_)
        · refine hn_iconst hF dX8_ahead_42 (q := 43) rfl ki_0 ?_
          refine hn_goto hF dX8_ahead_43 (q := 47) rfl ?_
          exact hn_iretM hF hQ dX8_ahead_47 e
        · refine hn_aload_n hF dX8_ahead_33 (q := 34) rfl 0 rfl ?_
          refine hn_iload_n hF dX8_ahead_34 (q := 35) rfl 1 rfl ?_
          refine hn_iload_n hF dX8_ahead_35 (q := 36) rfl 2 rfl ?_
          refine hn_callVm (rest := []) hF ms_X8_layDays mv_X8_layDays lk_X8_122 o72 rfl (by decide) [.int l1, .int l2] rfl (Nat.le_of_ble_eq_true rfl) dX8_ahead_36 (q := 39) rfl rfl e (fun v hv => cX8_layDays_ hV hv) (fun w4 e => ?_)
          refine hn_if_eq hF dX8_ahead_39 (t := 46) (q := 42) rfl rfl e (fun e => ?_) (fun e => ?_)
          · refine hn_iconst hF dX8_ahead_46 (q := 47) rfl ki_1 ?_
            exact hn_iretM hF hQ dX8_ahead_47 e
          · refine hn_iconst hF dX8_ahead_42 (q := 43) rfl ki_0 ?_
            refine hn_goto hF dX8_ahead_43 (q := 47) rfl ?_
            exact hn_iretM hF hQ dX8_ahead_47 e
      · refine hn_bipush hF dX8_ahead_25 (q := 27) rfl kb_m2 ?_
        exact hn_iretM hF hQ dX8_ahead_27 e
    · refine hn_iconst hF dX8_ahead_16 (q := 17) rfl ki_m1 ?_
      exact hn_iretM hF hQ dX8_ahead_17 e
theorem cX8_ahead_ {B : hn_B} {F : Nat} {μ : hn_M} {R : Int32 × hn_M} {l1 : Int32} {l2 : Int32} (hV : hn_V B hn_nA) (e : fX8_ahead F l1 l2 μ = some R) : hn_C yX8_ahead cX8_ahead 3 (some .int) 3 B [.ref (hn_base B + 72), .int l1, .int l2] μ (some (.int R.1), R.2) :=
  hn_C.of RX8 (by decide) rfl (Nat.le_of_ble_eq_true rfl) (fun _ hF hQ => gX8_ahead hF hQ hV e)
/-! HandNewsModel.say(IIIIZZ)I -/
def fX8_say_185 (s0 : Int32) (s1 : Int32) (μ : hn_M) : Option (Int32 × hn_M) := hn_wr μ 81 540 s1 s0 fun μ1 => hn_rd μ1 80 3 0 fun v2 => hn_wr μ1 80 3 0 (v2 + 1) fun μ3 => hn_rd μ3 80 3 0 fun v4 => some (v4 - 1, μ3)
def fX8_say_166 (l6 : Int32) (l7 : Int32) (s0 : Int32) (s1 : Int32) (μ : hn_M) : Option (Int32 × hn_M) := hn_wr μ 81 540 s1 s0 fun μ5 => if l6 = 0 then fX8_say_185 0 (l7 + 5) μ5 else fX8_say_185 1 (l7 + 5) μ5
def fX8_say_84 (l1 : Int32) (l2 : Int32) (l3 : Int32) (l4 : Int32) (l5 : Int32) (l6 : Int32) (μ : hn_M) : Option (Int32 × hn_M) := hn_rd μ 80 3 0 fun v6 => if v6 = 30 then some ((-3), μ) else hn_rd μ 80 3 0 fun v7 => hn_wr μ 81 540 (6 * v7) l1 fun μ8 => hn_wr μ8 81 540 ((6 * v7) + 1) l2 fun μ9 => hn_wr μ9 81 540 ((6 * v7) + 2) l3 fun μ10 => hn_wr μ10 81 540 ((6 * v7) + 3) l4 fun μ11 => if l5 = 0 then fX8_say_166 l6 (6 * v7) 0 ((6 * v7) + 4) μ11 else fX8_say_166 l6 (6 * v7) 1 ((6 * v7) + 4) μ11
def fX8_say (l1 : Int32) (l2 : Int32) (l3 : Int32) (l4 : Int32) (l5 : Int32) (l6 : Int32) (μ : hn_M) : Option (Int32 × hn_M) := (fX8_isSheet μ l1).bind fun v12 => if v12 = 0 then some ((-1), μ) else (fX8_isThing l2).bind fun v13 => if v13 = 0 then some ((-1), μ) else (fX8_in l3.toInt64 0 9999).bind fun v14 => if v14 = 0 then some ((-1), μ) else (fX8_in l4.toInt64 0 255).bind fun v15 => if v15 = 0 then some ((-1), μ) else hn_rd μ 82 60 (2 * l2) fun v16 => if v16 < 0 then fX8_say_84 l1 l2 l3 l4 l5 l6 μ else hn_rd μ 82 60 (2 * l2) fun v17 => hn_rd μ 77 108 (3 * l1) fun v18 => hn_rd μ 75 36 ((6 * v17) + v18) fun v19 => if 0 ≤ v19 then fX8_say_84 l1 l2 l3 l4 l5 l6 μ else some ((-2), μ)
set_option maxHeartbeats 1000000 in
theorem gX8_say_185 {Z : hn_Z} {B : hn_B} {R : Int32 × hn_M} (hF : hn_F Z B (0, 0) cX8_say 8 RX8 (some .int) 2) (hQ : hn_goal Z B (some (.int R.1), R.2)) (hV : hn_V B hn_nA) {s0 : Int32} {s1 : Int32} {μ : hn_M} (e : fX8_say_185 s0 s1 μ = some R) : hn_G Z B (0, 0) 8 185 [(0, .ref (hn_base B + 72))] [.int s0, .int s1, .ref (hn_base B + 81)] μ := by
  unfold fX8_say_185 at e
  have a80 : hn_isA B 80 false 3 := hV 80 (by decide)
  have a81 : hn_isA B 81 false 540 := hV 81 (by decide)
  have o72 : hn_isO B 72 8 hn_k72 := hV 72 (by decide)
  refine hn_ast hF a81 dX8_say_185 (q := 186) rfl e (fun μ1 e => ?_)
  refine hn_aload_n hF dX8_say_186 (q := 187) rfl 0 rfl ?_
  refine hn_get hF fl_X8_31 o72 rfl rfl dX8_say_187 (q := 190) rfl ?_
  refine hn_iconst hF dX8_say_190 (q := 191) rfl ki_0 ?_
  refine hn_dup2_11 hF dX8_say_191 (q := 192) rfl rfl rfl ?_
  refine hn_ald hF a80 dX8_say_192 (q := 193) rfl e (fun v2 e => ?_)
  refine hn_iconst hF dX8_say_193 (q := 194) rfl ki_1 ?_
  refine hn_iadd hF dX8_say_194 (q := 195) rfl ?_
  refine hn_ast hF a80 dX8_say_195 (q := 196) rfl e (fun μ3 e => ?_)
  refine hn_aload_n hF dX8_say_196 (q := 197) rfl 0 rfl ?_
  refine hn_get hF fl_X8_31 o72 rfl rfl dX8_say_197 (q := 200) rfl ?_
  refine hn_iconst hF dX8_say_200 (q := 201) rfl ki_0 ?_
  refine hn_ald hF a80 dX8_say_201 (q := 202) rfl e (fun v4 e => ?_)
  refine hn_iconst hF dX8_say_202 (q := 203) rfl ki_1 ?_
  refine hn_isub hF dX8_say_203 (q := 204) rfl ?_
  exact hn_iretM hF hQ dX8_say_204 e
set_option maxHeartbeats 1000000 in
theorem gX8_say_166 {Z : hn_Z} {B : hn_B} {R : Int32 × hn_M} (hF : hn_F Z B (0, 0) cX8_say 8 RX8 (some .int) 2) (hQ : hn_goal Z B (some (.int R.1), R.2)) (hV : hn_V B hn_nA) {l6 : Int32} {l7 : Int32} {s0 : Int32} {s1 : Int32} {μ : hn_M} (e : fX8_say_166 l6 l7 s0 s1 μ = some R) : hn_G Z B (0, 0) 8 166 [(0, .ref (hn_base B + 72)), (6, .int l6), (7, .int l7)] [.int s0, .int s1, .ref (hn_base B + 81)] μ := by
  unfold fX8_say_166 at e
  have a81 : hn_isA B 81 false 540 := hV 81 (by decide)
  have o72 : hn_isO B 72 8 hn_k72 := hV 72 (by decide)
  refine hn_ast hF a81 dX8_say_166 (q := 167) rfl e (fun μ5 e => ?_)
  refine hn_aload_n hF dX8_say_167 (q := 168) rfl 0 rfl ?_
  refine hn_get hF fl_X8_34 o72 rfl rfl dX8_say_168 (q := 171) rfl ?_
  refine hn_iload hF dX8_say_171 (q := 173) rfl 2 rfl ?_
  refine hn_iconst hF dX8_say_173 (q := 174) rfl ki_5 ?_
  refine hn_iadd hF dX8_say_174 (q := 175) rfl ?_
  refine hn_iload hF dX8_say_175 (q := 177) rfl 1 rfl ?_
  refine hn_if_eq hF dX8_say_177 (t := 184) (q := 180) rfl rfl e (fun e => ?_) (fun e => ?_)
  · refine hn_iconst hF dX8_say_184 (q := 185) rfl ki_0 ?_
    refine hn_sub [0] (L' := [(0, .ref (hn_base B + 72))]) rfl ?_
    exact gX8_say_185 hF hQ hV e
  · refine hn_iconst hF dX8_say_180 (q := 181) rfl ki_1 ?_
    refine hn_goto hF dX8_say_181 (q := 185) rfl ?_
    refine hn_sub [0] (L' := [(0, .ref (hn_base B + 72))]) rfl ?_
    exact gX8_say_185 hF hQ hV e
set_option maxHeartbeats 1000000 in
theorem gX8_say_84 {Z : hn_Z} {B : hn_B} {R : Int32 × hn_M} (hF : hn_F Z B (0, 0) cX8_say 8 RX8 (some .int) 2) (hQ : hn_goal Z B (some (.int R.1), R.2)) (hV : hn_V B hn_nA) {l1 : Int32} {l2 : Int32} {l3 : Int32} {l4 : Int32} {l5 : Int32} {l6 : Int32} {μ : hn_M} (e : fX8_say_84 l1 l2 l3 l4 l5 l6 μ = some R) : hn_G Z B (0, 0) 8 84 [(0, .ref (hn_base B + 72)), (1, .int l1), (2, .int l2), (3, .int l3), (4, .int l4), (5, .int l5), (6, .int l6)] [] μ := by
  unfold fX8_say_84 at e
  have a80 : hn_isA B 80 false 3 := hV 80 (by decide)
  have a81 : hn_isA B 81 false 540 := hV 81 (by decide)
  have o72 : hn_isO B 72 8 hn_k72 := hV 72 (by decide)
  refine hn_aload_n hF dX8_say_84 (q := 85) rfl 0 rfl ?_
  refine hn_get hF fl_X8_31 o72 rfl rfl dX8_say_85 (q := 88) rfl ?_
  refine hn_iconst hF dX8_say_88 (q := 89) rfl ki_0 ?_
  refine hn_ald hF a80 dX8_say_89 (q := 90) rfl e (fun v6 e => ?_)
  refine hn_bipush hF dX8_say_90 (q := 92) rfl kb_30 ?_
  refine hn_icmp_ne hF dX8_say_92 (t := 98) (q := 95) rfl rfl e (fun e => ?_) (fun e => ?_)
  · refine hn_bipush hF dX8_say_98 (q := 100) rfl kb_6 ?_
    refine hn_aload_n hF dX8_say_100 (q := 101) rfl 0 rfl ?_
    refine hn_get hF fl_X8_31 o72 rfl rfl dX8_say_101 (q := 104) rfl ?_
    refine hn_iconst hF dX8_say_104 (q := 105) rfl ki_0 ?_
    refine hn_ald hF a80 dX8_say_105 (q := 106) rfl e (fun v7 e => ?_)
    refine hn_imul hF dX8_say_106 (q := 107) rfl ?_
    refine hn_istore hF dX8_say_107 (q := 109) rfl (by decide) (L' := [(7, .int (6 * v7)), (0, .ref (hn_base B + 72)), (1, .int l1), (2, .int l2), (3, .int l3), (4, .int l4), (5, .int l5), (6, .int l6)]) rfl ?_
    refine hn_aload_n hF dX8_say_109 (q := 110) rfl 1 rfl ?_
    refine hn_get hF fl_X8_34 o72 rfl rfl dX8_say_110 (q := 113) rfl ?_
    refine hn_iload hF dX8_say_113 (q := 115) rfl 0 rfl ?_
    refine hn_iload_n hF dX8_say_115 (q := 116) rfl 2 rfl ?_
    refine hn_ast hF a81 dX8_say_116 (q := 117) rfl e (fun μ8 e => ?_)
    refine hn_aload_n hF dX8_say_117 (q := 118) rfl 1 rfl ?_
    refine hn_get hF fl_X8_34 o72 rfl rfl dX8_say_118 (q := 121) rfl ?_
    refine hn_iload hF dX8_say_121 (q := 123) rfl 0 rfl ?_
    refine hn_iconst hF dX8_say_123 (q := 124) rfl ki_1 ?_
    refine hn_iadd hF dX8_say_124 (q := 125) rfl ?_
    refine hn_iload_n hF dX8_say_125 (q := 126) rfl 3 rfl ?_
    refine hn_ast hF a81 dX8_say_126 (q := 127) rfl e (fun μ9 e => ?_)
    refine hn_aload_n hF dX8_say_127 (q := 128) rfl 1 rfl ?_
    refine hn_get hF fl_X8_34 o72 rfl rfl dX8_say_128 (q := 131) rfl ?_
    refine hn_iload hF dX8_say_131 (q := 133) rfl 0 rfl ?_
    refine hn_iconst hF dX8_say_133 (q := 134) rfl ki_2 ?_
    refine hn_iadd hF dX8_say_134 (q := 135) rfl ?_
    refine hn_iload_n hF dX8_say_135 (q := 136) rfl 4 rfl ?_
    refine hn_ast hF a81 dX8_say_136 (q := 137) rfl e (fun μ10 e => ?_)
    refine hn_aload_n hF dX8_say_137 (q := 138) rfl 1 rfl ?_
    refine hn_get hF fl_X8_34 o72 rfl rfl dX8_say_138 (q := 141) rfl ?_
    refine hn_iload hF dX8_say_141 (q := 143) rfl 0 rfl ?_
    refine hn_iconst hF dX8_say_143 (q := 144) rfl ki_3 ?_
    refine hn_iadd hF dX8_say_144 (q := 145) rfl ?_
    refine hn_iload hF dX8_say_145 (q := 147) rfl 5 rfl ?_
    refine hn_ast hF a81 dX8_say_147 (q := 148) rfl e (fun μ11 e => ?_)
    refine hn_aload_n hF dX8_say_148 (q := 149) rfl 1 rfl ?_
    refine hn_get hF fl_X8_34 o72 rfl rfl dX8_say_149 (q := 152) rfl ?_
    refine hn_iload hF dX8_say_152 (q := 154) rfl 0 rfl ?_
    refine hn_iconst hF dX8_say_154 (q := 155) rfl ki_4 ?_
    refine hn_iadd hF dX8_say_155 (q := 156) rfl ?_
    refine hn_iload hF dX8_say_156 (q := 158) rfl 6 rfl ?_
    refine hn_if_eq hF dX8_say_158 (t := 165) (q := 161) rfl rfl e (fun e => ?_) (fun e => ?_)
    · refine hn_iconst hF dX8_say_165 (q := 166) rfl ki_0 ?_
      refine hn_sub [1, 7, 0] (L' := [(0, .ref (hn_base B + 72)), (6, .int l6), (7, .int (6 * v7))]) rfl ?_
      exact gX8_say_166 hF hQ hV e
    · refine hn_iconst hF dX8_say_161 (q := 162) rfl ki_1 ?_
      refine hn_goto hF dX8_say_162 (q := 166) rfl ?_
      refine hn_sub [1, 7, 0] (L' := [(0, .ref (hn_base B + 72)), (6, .int l6), (7, .int (6 * v7))]) rfl ?_
      exact gX8_say_166 hF hQ hV e
  · refine hn_bipush hF dX8_say_95 (q := 97) rfl kb_m3 ?_
    exact hn_iretM hF hQ dX8_say_97 e
set_option maxHeartbeats 1000000 in
theorem gX8_say {Z : hn_Z} {B : hn_B} {R : Int32 × hn_M} (hF : hn_F Z B (0, 0) cX8_say 8 RX8 (some .int) 2) (hQ : hn_goal Z B (some (.int R.1), R.2)) (hV : hn_V B hn_nA) {l1 : Int32} {l2 : Int32} {l3 : Int32} {l4 : Int32} {l5 : Int32} {l6 : Int32} {μ : hn_M} (e : fX8_say l1 l2 l3 l4 l5 l6 μ = some R) : hn_G Z B (0, 0) 8 0 [(0, .ref (hn_base B + 72)), (1, .int l1), (2, .int l2), (3, .int l3), (4, .int l4), (5, .int l5), (6, .int l6)] [] μ := by
  unfold fX8_say at e
  have a75 : hn_isA B 75 false 36 := hV 75 (by decide)
  have a77 : hn_isA B 77 false 108 := hV 77 (by decide)
  have a82 : hn_isA B 82 false 60 := hV 82 (by decide)
  have o72 : hn_isO B 72 8 hn_k72 := hV 72 (by decide)
  refine hn_aload_n hF dX8_say_0 (q := 1) rfl 0 rfl ?_
  refine hn_iload_n hF dX8_say_1 (q := 2) rfl 1 rfl ?_
  refine hn_callVi (rest := []) hF ms_X8_isSheet mv_X8_isSheet lk_X8_97 o72 rfl (by decide) [.int l1] rfl (Nat.le_of_ble_eq_true rfl) dX8_say_2 (q := 5) rfl rfl e (fun v hv => cX8_isSheet_ hV hv) (fun v12 e => ?_)
  refine hn_if_eq hF dX8_say_5 (t := 40) (q := 8) rfl rfl e (fun e => ?_) (fun e => ?_)
  · refine hn_iconst hF dX8_say_40 (q := 41) rfl ki_m1 ?_
    exact hn_iretM hF hQ dX8_say_41 e
  · refine hn_iload_n hF dX8_say_8 (q := 9) rfl 2 rfl ?_
    refine hn_callSi (rest := []) hF ms_X8_isThing mt_X8_isThing lk_X8_104 (by decide) [.int l2] rfl (Nat.le_of_ble_eq_true rfl) dX8_say_9 (q := 12) rfl rfl e (fun v hv => cX8_isThing_ hv) (fun v13 e => ?_)
    refine hn_if_eq hF dX8_say_12 (t := 40) (q := 15) rfl rfl e (fun e => ?_) (fun e => ?_)
    · refine hn_iconst hF dX8_say_40 (q := 41) rfl ki_m1 ?_
      exact hn_iretM hF hQ dX8_say_41 e
    · refine hn_iload_n hF dX8_say_15 (q := 16) rfl 3 rfl ?_
      refine hn_i2l hF dX8_say_16 (q := 17) rfl rfl ?_
      refine hn_lconst hF dX8_say_17 (q := 18) rfl kl_0 ?_
      refine hn_ldc2 hF kd_X8_129 dX8_say_18 (q := 21) rfl ?_
      refine hn_callSi (rest := []) hF ms_X8_in mt_X8_in lk_X8_79 (by decide) [.long (l3.toInt64), .long 0, .long 9999] rfl (Nat.le_of_ble_eq_true rfl) dX8_say_21 (q := 24) rfl rfl e (fun v hv => cX8_in_ hv) (fun v14 e => ?_)
      refine hn_if_eq hF dX8_say_24 (t := 40) (q := 27) rfl rfl e (fun e => ?_) (fun e => ?_)
      · refine hn_iconst hF dX8_say_40 (q := 41) rfl ki_m1 ?_
        exact hn_iretM hF hQ dX8_say_41 e
      · refine hn_iload hF dX8_say_27 (q := 29) rfl 4 rfl ?_
        refine hn_i2l hF dX8_say_29 (q := 30) rfl rfl ?_
        refine hn_lconst hF dX8_say_30 (q := 31) rfl kl_0 ?_
        refine hn_ldc2 hF kd_X8_131 dX8_say_31 (q := 34) rfl ?_
        refine hn_callSi (rest := []) hF ms_X8_in mt_X8_in lk_X8_79 (by decide) [.long (l4.toInt64), .long 0, .long 255] rfl (Nat.le_of_ble_eq_true rfl) dX8_say_34 (q := 37) rfl rfl e (fun v hv => cX8_in_ hv) (fun v15 e => ?_)
        refine hn_if_ne hF dX8_say_37 (t := 42) (q := 40) rfl rfl e (fun e => ?_) (fun e => ?_)
        · refine hn_aload_n hF dX8_say_42 (q := 43) rfl 0 rfl ?_
          refine hn_get hF fl_X8_37 o72 rfl rfl dX8_say_43 (q := 46) rfl ?_
          refine hn_iconst hF dX8_say_46 (q := 47) rfl ki_2 ?_
          refine hn_iload_n hF dX8_say_47 (q := 48) rfl 2 rfl ?_
          refine hn_imul hF dX8_say_48 (q := 49) rfl ?_
          refine hn_ald hF a82 dX8_say_49 (q := 50) rfl e (fun v16 e => ?_)
          refine hn_if_lt hF dX8_say_50 (t := 84) (q := 53) rfl rfl e (fun e => ?_) (fun e => ?_)
          · exact gX8_say_84 hF hQ hV e
          · refine hn_aload_n hF dX8_say_53 (q := 54) rfl 0 rfl ?_
            refine hn_get hF fl_X8_16 o72 rfl rfl dX8_say_54 (q := 57) rfl ?_
            refine hn_bipush hF dX8_say_57 (q := 59) rfl kb_6 ?_
            refine hn_aload_n hF dX8_say_59 (q := 60) rfl 0 rfl ?_
            refine hn_get hF fl_X8_37 o72 rfl rfl dX8_say_60 (q := 63) rfl ?_
            refine hn_iconst hF dX8_say_63 (q := 64) rfl ki_2 ?_
            refine hn_iload_n hF dX8_say_64 (q := 65) rfl 2 rfl ?_
            refine hn_imul hF dX8_say_65 (q := 66) rfl ?_
            refine hn_ald hF a82 dX8_say_66 (q := 67) rfl e (fun v17 e => ?_)
            refine hn_imul hF dX8_say_67 (q := 68) rfl ?_
            refine hn_aload_n hF dX8_say_68 (q := 69) rfl 0 rfl ?_
            refine hn_get hF fl_X8_22 o72 rfl rfl dX8_say_69 (q := 72) rfl ?_
            refine hn_iconst hF dX8_say_72 (q := 73) rfl ki_3 ?_
            refine hn_iload_n hF dX8_say_73 (q := 74) rfl 1 rfl ?_
            refine hn_imul hF dX8_say_74 (q := 75) rfl ?_
            refine hn_ald hF a77 dX8_say_75 (q := 76) rfl e (fun v18 e => ?_)
            refine hn_iadd hF dX8_say_76 (q := 77) rfl ?_
            refine hn_ald hF a75 dX8_say_77 (q := 78) rfl e (fun v19 e => ?_)
            refine hn_if_ge hF dX8_say_78 (t := 84) (q := 81) rfl rfl e (fun e => ?_) (fun e => ?_)
            · exact gX8_say_84 hF hQ hV e
            · refine hn_bipush hF dX8_say_81 (q := 83) rfl kb_m2 ?_
              exact hn_iretM hF hQ dX8_say_83 e
        · refine hn_iconst hF dX8_say_40 (q := 41) rfl ki_m1 ?_
          exact hn_iretM hF hQ dX8_say_41 e
theorem cX8_say_ {B : hn_B} {μ : hn_M} {R : Int32 × hn_M} {l1 : Int32} {l2 : Int32} {l3 : Int32} {l4 : Int32} {l5 : Int32} {l6 : Int32} (hV : hn_V B hn_nA) (e : fX8_say l1 l2 l3 l4 l5 l6 μ = some R) : hn_C yX8_say cX8_say 8 (some .int) 2 B [.ref (hn_base B + 72), .int l1, .int l2, .int l3, .int l4, .int l5, .int l6] μ (some (.int R.1), R.2) :=
  hn_C.of RX8 (by decide) rfl (Nat.le_of_ble_eq_true rfl) (fun _ hF hQ => gX8_say hF hQ hV e)
/-! HandNewsModel.changeOf(II)I -/
def fX8_changeOf_56 (F : Nat) (μ : hn_M) (k31 : Int32 → Int32 → Int32 → Int32 → Int32 → Int32 → Option Int32) (l1 : Int32) (l2 : Int32) (l3 : Int32) (l4 : Int32) (l6 : Int32) (s0 : Int32) (s1 : Int32) : Option Int32 := k31 l1 l2 (l3 / 10) (l4 / 10) (s1 + s0) (l6 + 1)
def fX8_changeOf_102 (F : Nat) (μ : hn_M) : Nat → Int32 → Int32 → Option Int32
  | 0, _, _ => none
  | n + 1, l5, l6 => if l6 = 0 then some l5 else fX8_changeOf_102 F μ n (l5 + 1) (l6 &&& (l6 - 1))
def fX8_changeOf_77 (F : Nat) (μ : hn_M) (l1 : Int32) (l2 : Int32) (l5 : Int32) : Option Int32 := hn_rd μ 81 540 ((6 * l1) + 3) fun v1 => hn_rd μ 81 540 ((6 * l2) + 3) fun v2 => fX8_changeOf_102 F μ F l5 (v1 ^^^ v2)
def fX8_changeOf_31 (F : Nat) (μ : hn_M) : Nat → Int32 → Int32 → Int32 → Int32 → Int32 → Int32 → Option Int32
  | 0, _, _, _, _, _, _ => none
  | n + 1, l1, l2, l3, l4, l5, l6 => if 4 ≤ l6 then fX8_changeOf_77 F μ l1 l2 l5 else if l3 - l3 / 10 * 10 = l4 - l4 / 10 * 10 then fX8_changeOf_56 F μ (fX8_changeOf_31 F μ n) l1 l2 l3 l4 l6 0 l5 else fX8_changeOf_56 F μ (fX8_changeOf_31 F μ n) l1 l2 l3 l4 l6 3 l5
def fX8_changeOf (F : Nat) (μ : hn_M) (l1 : Int32) (l2 : Int32) : Option Int32 := hn_rd μ 81 540 ((6 * l1) + 2) fun v3 => hn_rd μ 81 540 ((6 * l2) + 2) fun v4 => fX8_changeOf_31 F μ F l1 l2 v3 v4 0 0
set_option maxHeartbeats 1000000 in
theorem gX8_changeOf_56 {Z : hn_Z} {B : hn_B} {F : Nat} {μ : hn_M} {R : Int32} (hF : hn_F Z B (0, 0) cX8_changeOf 7 RX8 (some .int) 0) (hQ : hn_goal Z B (some (.int R), μ)) (hV : hn_V B hn_nA) {k31 : Int32 → Int32 → Int32 → Int32 → Int32 → Int32 → Option Int32} (H31 : ∀ (l1 : Int32) (l2 : Int32) (l3 : Int32) (l4 : Int32) (l5 : Int32) (l6 : Int32), k31 l1 l2 l3 l4 l5 l6 = some R → hn_G Z B (0, 0) 7 31 [(0, .ref (hn_base B + 72)), (1, .int l1), (2, .int l2), (3, .int l3), (4, .int l4), (5, .int l5), (6, .int l6)] [] μ) {l1 : Int32} {l2 : Int32} {l3 : Int32} {l4 : Int32} {l6 : Int32} {s0 : Int32} {s1 : Int32} (e : fX8_changeOf_56 F μ k31 l1 l2 l3 l4 l6 s0 s1 = some R) : hn_G Z B (0, 0) 7 56 [(0, .ref (hn_base B + 72)), (1, .int l1), (2, .int l2), (3, .int l3), (4, .int l4), (6, .int l6)] [.int s0, .int s1] μ := by
  unfold fX8_changeOf_56 at e
  refine hn_iadd hF dX8_changeOf_56 (q := 57) rfl ?_
  refine hn_istore hF dX8_changeOf_57 (q := 59) rfl (by decide) (L' := [(5, .int (s1 + s0)), (0, .ref (hn_base B + 72)), (1, .int l1), (2, .int l2), (3, .int l3), (4, .int l4), (6, .int l6)]) rfl ?_
  refine hn_iload_n hF dX8_changeOf_59 (q := 60) rfl 4 rfl ?_
  refine hn_bipush hF dX8_changeOf_60 (q := 62) rfl kb_10 ?_
  refine hn_idiv hF dX8_changeOf_62 (q := 63) rfl kz_10 ?_
  refine hn_istore_n hF dX8_changeOf_63 (q := 64) rfl (i := 3) rfl (by decide) (L' := [(3, .int (l3 / 10)), (5, .int (s1 + s0)), (0, .ref (hn_base B + 72)), (1, .int l1), (2, .int l2), (4, .int l4), (6, .int l6)]) rfl ?_
  refine hn_iload hF dX8_changeOf_64 (q := 66) rfl 5 rfl ?_
  refine hn_bipush hF dX8_changeOf_66 (q := 68) rfl kb_10 ?_
  refine hn_idiv hF dX8_changeOf_68 (q := 69) rfl kz_10 ?_
  refine hn_istore hF dX8_changeOf_69 (q := 71) rfl (by decide) (L' := [(4, .int (l4 / 10)), (3, .int (l3 / 10)), (5, .int (s1 + s0)), (0, .ref (hn_base B + 72)), (1, .int l1), (2, .int l2), (6, .int l6)]) rfl ?_
  refine hn_iinc (p := 6) hF dX8_changeOf_71 (q := 74) rfl rfl (kn_1 _) (by decide) (L' := [(6, .int (l6 + 1)), (4, .int (l4 / 10)), (3, .int (l3 / 10)), (5, .int (s1 + s0)), (0, .ref (hn_base B + 72)), (1, .int l1), (2, .int l2)]) rfl ?_
  refine hn_goto hF dX8_changeOf_74 (q := 31) rfl ?_
  refine hn_sub [4, 5, 6, 2, 1, 3, 0] (L' := [(0, .ref (hn_base B + 72)), (1, .int l1), (2, .int l2), (3, .int (l3 / 10)), (4, .int (l4 / 10)), (5, .int (s1 + s0)), (6, .int (l6 + 1))]) rfl ?_
  exact H31 l1 l2 (l3 / 10) (l4 / 10) (s1 + s0) (l6 + 1) e
set_option maxHeartbeats 1000000 in
theorem gX8_changeOf_102 {Z : hn_Z} {B : hn_B} {F : Nat} {μ : hn_M} {R : Int32} (hF : hn_F Z B (0, 0) cX8_changeOf 7 RX8 (some .int) 0) (hQ : hn_goal Z B (some (.int R), μ)) (hV : hn_V B hn_nA) : ∀ (n : Nat) (l5 : Int32) (l6 : Int32), fX8_changeOf_102 F μ n l5 l6 = some R → hn_G Z B (0, 0) 7 102 [(5, .int l5), (6, .int l6)] [] μ := by
  intro n
  induction n with
  | zero => intro l5 l6 e; rw [fX8_changeOf_102] at e; cases e
  | succ n ih =>
    intro l5 l6 e
    rw [fX8_changeOf_102] at e
    refine hn_iload hF dX8_changeOf_102 (q := 104) rfl 1 rfl ?_
    refine hn_if_eq hF dX8_changeOf_104 (t := 122) (q := 107) rfl rfl e (fun e => ?_) (fun e => ?_)
    · refine hn_iload hF dX8_changeOf_122 (q := 124) rfl 0 rfl ?_
      exact hn_iretP hF hQ dX8_changeOf_124 e
    · refine hn_iinc (p := 0) hF dX8_changeOf_107 (q := 110) rfl rfl (kn_1 _) (by decide) (L' := [(5, .int (l5 + 1)), (6, .int l6)]) rfl ?_
      refine hn_iload hF dX8_changeOf_110 (q := 112) rfl 1 rfl ?_
      refine hn_iload hF dX8_changeOf_112 (q := 114) rfl 1 rfl ?_
      refine hn_iconst hF dX8_changeOf_114 (q := 115) rfl ki_1 ?_
      refine hn_isub hF dX8_changeOf_115 (q := 116) rfl ?_
      refine hn_iand hF dX8_changeOf_116 (q := 117) rfl ?_
      refine hn_istore hF dX8_changeOf_117 (q := 119) rfl (by decide) (L' := [(6, .int (l6 &&& (l6 - 1))), (5, .int (l5 + 1))]) rfl ?_
      refine hn_goto hF dX8_changeOf_119 (q := 102) rfl ?_
      refine hn_sub [1, 0] (L' := [(5, .int (l5 + 1)), (6, .int (l6 &&& (l6 - 1)))]) rfl ?_
      exact ih (l5 + 1) (l6 &&& (l6 - 1)) e
set_option maxHeartbeats 1000000 in
theorem gX8_changeOf_77 {Z : hn_Z} {B : hn_B} {F : Nat} {μ : hn_M} {R : Int32} (hF : hn_F Z B (0, 0) cX8_changeOf 7 RX8 (some .int) 0) (hQ : hn_goal Z B (some (.int R), μ)) (hV : hn_V B hn_nA) {l1 : Int32} {l2 : Int32} {l5 : Int32} (e : fX8_changeOf_77 F μ l1 l2 l5 = some R) : hn_G Z B (0, 0) 7 77 [(0, .ref (hn_base B + 72)), (1, .int l1), (2, .int l2), (5, .int l5)] [] μ := by
  unfold fX8_changeOf_77 at e
  have a81 : hn_isA B 81 false 540 := hV 81 (by decide)
  have o72 : hn_isO B 72 8 hn_k72 := hV 72 (by decide)
  refine hn_aload_n hF dX8_changeOf_77 (q := 78) rfl 0 rfl ?_
  refine hn_get hF fl_X8_34 o72 rfl rfl dX8_changeOf_78 (q := 81) rfl ?_
  refine hn_bipush hF dX8_changeOf_81 (q := 83) rfl kb_6 ?_
  refine hn_iload_n hF dX8_changeOf_83 (q := 84) rfl 1 rfl ?_
  refine hn_imul hF dX8_changeOf_84 (q := 85) rfl ?_
  refine hn_iconst hF dX8_changeOf_85 (q := 86) rfl ki_3 ?_
  refine hn_iadd hF dX8_changeOf_86 (q := 87) rfl ?_
  refine hn_ald hF a81 dX8_changeOf_87 (q := 88) rfl e (fun v1 e => ?_)
  refine hn_aload_n hF dX8_changeOf_88 (q := 89) rfl 0 rfl ?_
  refine hn_get hF fl_X8_34 o72 rfl rfl dX8_changeOf_89 (q := 92) rfl ?_
  refine hn_bipush hF dX8_changeOf_92 (q := 94) rfl kb_6 ?_
  refine hn_iload_n hF dX8_changeOf_94 (q := 95) rfl 2 rfl ?_
  refine hn_imul hF dX8_changeOf_95 (q := 96) rfl ?_
  refine hn_iconst hF dX8_changeOf_96 (q := 97) rfl ki_3 ?_
  refine hn_iadd hF dX8_changeOf_97 (q := 98) rfl ?_
  refine hn_ald hF a81 dX8_changeOf_98 (q := 99) rfl e (fun v2 e => ?_)
  refine hn_ixor hF dX8_changeOf_99 (q := 100) rfl ?_
  refine hn_istore hF dX8_changeOf_100 (q := 102) rfl (by decide) (L' := [(6, .int (v1 ^^^ v2)), (0, .ref (hn_base B + 72)), (1, .int l1), (2, .int l2), (5, .int l5)]) rfl ?_
  refine hn_sub [4, 0] (L' := [(5, .int l5), (6, .int (v1 ^^^ v2))]) rfl ?_
  exact gX8_changeOf_102 hF hQ hV F l5 (v1 ^^^ v2) e
set_option maxHeartbeats 1000000 in
theorem gX8_changeOf_31 {Z : hn_Z} {B : hn_B} {F : Nat} {μ : hn_M} {R : Int32} (hF : hn_F Z B (0, 0) cX8_changeOf 7 RX8 (some .int) 0) (hQ : hn_goal Z B (some (.int R), μ)) (hV : hn_V B hn_nA) : ∀ (n : Nat) (l1 : Int32) (l2 : Int32) (l3 : Int32) (l4 : Int32) (l5 : Int32) (l6 : Int32), fX8_changeOf_31 F μ n l1 l2 l3 l4 l5 l6 = some R → hn_G Z B (0, 0) 7 31 [(0, .ref (hn_base B + 72)), (1, .int l1), (2, .int l2), (3, .int l3), (4, .int l4), (5, .int l5), (6, .int l6)] [] μ := by
  intro n
  induction n with
  | zero => intro l1 l2 l3 l4 l5 l6 e; rw [fX8_changeOf_31] at e; cases e
  | succ n ih =>
    intro l1 l2 l3 l4 l5 l6 e
    rw [fX8_changeOf_31] at e
    refine hn_iload hF dX8_changeOf_31 (q := 33) rfl 6 rfl ?_
    refine hn_iconst hF dX8_changeOf_33 (q := 34) rfl ki_4 ?_
    refine hn_icmp_ge hF dX8_changeOf_34 (t := 77) (q := 37) rfl rfl e (fun e => ?_) (fun e => ?_)
    · refine hn_sub [0, 1, 2, 5] (L' := [(0, .ref (hn_base B + 72)), (1, .int l1), (2, .int l2), (5, .int l5)]) rfl ?_
      exact gX8_changeOf_77 hF hQ hV e
    · refine hn_iload hF dX8_changeOf_37 (q := 39) rfl 5 rfl ?_
      refine hn_iload_n hF dX8_changeOf_39 (q := 40) rfl 3 rfl ?_
      refine hn_bipush hF dX8_changeOf_40 (q := 42) rfl kb_10 ?_
      refine hn_irem hF dX8_changeOf_42 (q := 43) rfl kz_10 ?_
      refine hn_iload hF dX8_changeOf_43 (q := 45) rfl 4 rfl ?_
      refine hn_bipush hF dX8_changeOf_45 (q := 47) rfl kb_10 ?_
      refine hn_irem hF dX8_changeOf_47 (q := 48) rfl kz_10 ?_
      refine hn_icmp_ne hF dX8_changeOf_48 (t := 55) (q := 51) rfl rfl e (fun e => ?_) (fun e => ?_)
      · refine hn_iconst hF dX8_changeOf_55 (q := 56) rfl ki_3 ?_
        refine hn_sub [0, 1, 2, 3, 4, 6] (L' := [(0, .ref (hn_base B + 72)), (1, .int l1), (2, .int l2), (3, .int l3), (4, .int l4), (6, .int l6)]) rfl ?_
        exact gX8_changeOf_56 hF hQ hV ih e
      · refine hn_iconst hF dX8_changeOf_51 (q := 52) rfl ki_0 ?_
        refine hn_goto hF dX8_changeOf_52 (q := 56) rfl ?_
        refine hn_sub [0, 1, 2, 3, 4, 6] (L' := [(0, .ref (hn_base B + 72)), (1, .int l1), (2, .int l2), (3, .int l3), (4, .int l4), (6, .int l6)]) rfl ?_
        exact gX8_changeOf_56 hF hQ hV ih e
set_option maxHeartbeats 1000000 in
theorem gX8_changeOf {Z : hn_Z} {B : hn_B} {F : Nat} {μ : hn_M} {R : Int32} (hF : hn_F Z B (0, 0) cX8_changeOf 7 RX8 (some .int) 0) (hQ : hn_goal Z B (some (.int R), μ)) (hV : hn_V B hn_nA) {l1 : Int32} {l2 : Int32} (e : fX8_changeOf F μ l1 l2 = some R) : hn_G Z B (0, 0) 7 0 [(0, .ref (hn_base B + 72)), (1, .int l1), (2, .int l2)] [] μ := by
  unfold fX8_changeOf at e
  have a81 : hn_isA B 81 false 540 := hV 81 (by decide)
  have o72 : hn_isO B 72 8 hn_k72 := hV 72 (by decide)
  refine hn_aload_n hF dX8_changeOf_0 (q := 1) rfl 0 rfl ?_
  refine hn_get hF fl_X8_34 o72 rfl rfl dX8_changeOf_1 (q := 4) rfl ?_
  refine hn_bipush hF dX8_changeOf_4 (q := 6) rfl kb_6 ?_
  refine hn_iload_n hF dX8_changeOf_6 (q := 7) rfl 1 rfl ?_
  refine hn_imul hF dX8_changeOf_7 (q := 8) rfl ?_
  refine hn_iconst hF dX8_changeOf_8 (q := 9) rfl ki_2 ?_
  refine hn_iadd hF dX8_changeOf_9 (q := 10) rfl ?_
  refine hn_ald hF a81 dX8_changeOf_10 (q := 11) rfl e (fun v3 e => ?_)
  refine hn_istore_n hF dX8_changeOf_11 (q := 12) rfl (i := 3) rfl (by decide) (L' := [(3, .int v3), (0, .ref (hn_base B + 72)), (1, .int l1), (2, .int l2)]) rfl ?_
  refine hn_aload_n hF dX8_changeOf_12 (q := 13) rfl 1 rfl ?_
  refine hn_get hF fl_X8_34 o72 rfl rfl dX8_changeOf_13 (q := 16) rfl ?_
  refine hn_bipush hF dX8_changeOf_16 (q := 18) rfl kb_6 ?_
  refine hn_iload_n hF dX8_changeOf_18 (q := 19) rfl 3 rfl ?_
  refine hn_imul hF dX8_changeOf_19 (q := 20) rfl ?_
  refine hn_iconst hF dX8_changeOf_20 (q := 21) rfl ki_2 ?_
  refine hn_iadd hF dX8_changeOf_21 (q := 22) rfl ?_
  refine hn_ald hF a81 dX8_changeOf_22 (q := 23) rfl e (fun v4 e => ?_)
  refine hn_istore hF dX8_changeOf_23 (q := 25) rfl (by decide) (L' := [(4, .int v4), (3, .int v3), (0, .ref (hn_base B + 72)), (1, .int l1), (2, .int l2)]) rfl ?_
  refine hn_iconst hF dX8_changeOf_25 (q := 26) rfl ki_0 ?_
  refine hn_istore hF dX8_changeOf_26 (q := 28) rfl (by decide) (L' := [(5, .int 0), (4, .int v4), (3, .int v3), (0, .ref (hn_base B + 72)), (1, .int l1), (2, .int l2)]) rfl ?_
  refine hn_iconst hF dX8_changeOf_28 (q := 29) rfl ki_0 ?_
  refine hn_istore hF dX8_changeOf_29 (q := 31) rfl (by decide) (L' := [(6, .int 0), (5, .int 0), (4, .int v4), (3, .int v3), (0, .ref (hn_base B + 72)), (1, .int l1), (2, .int l2)]) rfl ?_
  refine hn_sub [4, 5, 6, 3, 2, 1, 0] (L' := [(0, .ref (hn_base B + 72)), (1, .int l1), (2, .int l2), (3, .int v3), (4, .int v4), (5, .int 0), (6, .int 0)]) rfl ?_
  exact gX8_changeOf_31 hF hQ hV F l1 l2 v3 v4 0 0 e
theorem cX8_changeOf_ {B : hn_B} {F : Nat} {μ : hn_M} {R : Int32} {l1 : Int32} {l2 : Int32} (hV : hn_V B hn_nA) (e : fX8_changeOf F μ l1 l2 = some R) : hn_C yX8_changeOf cX8_changeOf 7 (some .int) 0 B [.ref (hn_base B + 72), .int l1, .int l2] μ (some (.int R), μ) :=
  hn_C.of RX8 (by decide) rfl (Nat.le_of_ble_eq_true rfl) (fun _ hF hQ => gX8_changeOf hF hQ hV e)
/-! HandNewsModel.change(II)I -/
def fX8_change (F : Nat) (μ : hn_M) (l1 : Int32) (l2 : Int32) : Option Int32 := (fX8_isSaying μ l1).bind fun v1 => if v1 = 0 then some (-1) else (fX8_isSaying μ l2).bind fun v2 => if v2 = 0 then some (-1) else hn_rd μ 81 540 ((6 * l1) + 1) fun v3 => hn_rd μ 81 540 ((6 * l2) + 1) fun v4 => if v3 = v4 then (fX8_changeOf F μ l1 l2).bind fun v5 => some v5 else some (-1)
set_option maxHeartbeats 1000000 in
theorem gX8_change {Z : hn_Z} {B : hn_B} {F : Nat} {μ : hn_M} {R : Int32} (hF : hn_F Z B (0, 0) cX8_change 3 RX8 (some .int) 2) (hQ : hn_goal Z B (some (.int R), μ)) (hV : hn_V B hn_nA) {l1 : Int32} {l2 : Int32} (e : fX8_change F μ l1 l2 = some R) : hn_G Z B (0, 0) 3 0 [(0, .ref (hn_base B + 72)), (1, .int l1), (2, .int l2)] [] μ := by
  unfold fX8_change at e
  have a81 : hn_isA B 81 false 540 := hV 81 (by decide)
  have o72 : hn_isO B 72 8 hn_k72 := hV 72 (by decide)
  refine hn_aload_n hF dX8_change_0 (q := 1) rfl 0 rfl ?_
  refine hn_iload_n hF dX8_change_1 (q := 2) rfl 1 rfl ?_
  refine hn_callVi (rest := []) hF ms_X8_isSaying mv_X8_isSaying lk_X8_133 o72 rfl (by decide) [.int l1] rfl (Nat.le_of_ble_eq_true rfl) dX8_change_2 (q := 5) rfl rfl e (fun v hv => cX8_isSaying_ hV hv) (fun v1 e => ?_)
  refine hn_if_eq hF dX8_change_5 (t := 50) (q := 8) rfl rfl e (fun e => ?_) (fun e => ?_)
  · refine hn_iconst hF dX8_change_50 (q := 51) rfl ki_m1 ?_
    exact hn_iretP hF hQ dX8_change_51 e
  · refine hn_aload_n hF dX8_change_8 (q := 9) rfl 0 rfl ?_
    refine hn_iload_n hF dX8_change_9 (q := 10) rfl 2 rfl ?_
    refine hn_callVi (rest := []) hF ms_X8_isSaying mv_X8_isSaying lk_X8_133 o72 rfl (by decide) [.int l2] rfl (Nat.le_of_ble_eq_true rfl) dX8_change_10 (q := 13) rfl rfl e (fun v hv => cX8_isSaying_ hV hv) (fun v2 e => ?_)
    refine hn_if_eq hF dX8_change_13 (t := 50) (q := 16) rfl rfl e (fun e => ?_) (fun e => ?_)
    · refine hn_iconst hF dX8_change_50 (q := 51) rfl ki_m1 ?_
      exact hn_iretP hF hQ dX8_change_51 e
    · refine hn_aload_n hF dX8_change_16 (q := 17) rfl 0 rfl ?_
      refine hn_get hF fl_X8_34 o72 rfl rfl dX8_change_17 (q := 20) rfl ?_
      refine hn_bipush hF dX8_change_20 (q := 22) rfl kb_6 ?_
      refine hn_iload_n hF dX8_change_22 (q := 23) rfl 1 rfl ?_
      refine hn_imul hF dX8_change_23 (q := 24) rfl ?_
      refine hn_iconst hF dX8_change_24 (q := 25) rfl ki_1 ?_
      refine hn_iadd hF dX8_change_25 (q := 26) rfl ?_
      refine hn_ald hF a81 dX8_change_26 (q := 27) rfl e (fun v3 e => ?_)
      refine hn_aload_n hF dX8_change_27 (q := 28) rfl 0 rfl ?_
      refine hn_get hF fl_X8_34 o72 rfl rfl dX8_change_28 (q := 31) rfl ?_
      refine hn_bipush hF dX8_change_31 (q := 33) rfl kb_6 ?_
      refine hn_iload_n hF dX8_change_33 (q := 34) rfl 2 rfl ?_
      refine hn_imul hF dX8_change_34 (q := 35) rfl ?_
      refine hn_iconst hF dX8_change_35 (q := 36) rfl ki_1 ?_
      refine hn_iadd hF dX8_change_36 (q := 37) rfl ?_
      refine hn_ald hF a81 dX8_change_37 (q := 38) rfl e (fun v4 e => ?_)
      refine hn_icmp_ne hF dX8_change_38 (t := 50) (q := 41) rfl rfl e (fun e => ?_) (fun e => ?_)
      · refine hn_iconst hF dX8_change_50 (q := 51) rfl ki_m1 ?_
        exact hn_iretP hF hQ dX8_change_51 e
      · refine hn_aload_n hF dX8_change_41 (q := 42) rfl 0 rfl ?_
        refine hn_iload_n hF dX8_change_42 (q := 43) rfl 1 rfl ?_
        refine hn_iload_n hF dX8_change_43 (q := 44) rfl 2 rfl ?_
        refine hn_callVi (rest := []) hF ms_X8_changeOf mv_X8_changeOf lk_X8_136 o72 rfl (by decide) [.int l1, .int l2] rfl (Nat.le_of_ble_eq_true rfl) dX8_change_44 (q := 47) rfl rfl e (fun v hv => cX8_changeOf_ hV hv) (fun v5 e => ?_)
        refine hn_goto hF dX8_change_47 (q := 51) rfl ?_
        exact hn_iretP hF hQ dX8_change_51 e
theorem cX8_change_ {B : hn_B} {F : Nat} {μ : hn_M} {R : Int32} {l1 : Int32} {l2 : Int32} (hV : hn_V B hn_nA) (e : fX8_change F μ l1 l2 = some R) : hn_C yX8_change cX8_change 3 (some .int) 2 B [.ref (hn_base B + 72), .int l1, .int l2] μ (some (.int R), μ) :=
  hn_C.of RX8 (by decide) rfl (Nat.le_of_ble_eq_true rfl) (fun _ hF hQ => gX8_change hF hQ hV e)
/-! HandNewsModel.own(I)I -/
def fX8_own (l1 : Int32) (μ : hn_M) : Option (Int32 × hn_M) := (fX8_in l1.toInt64 0 40).bind fun v1 => if v1 = 0 then some ((-1), μ) else hn_pf μ 72 12 l1 fun μ2 => some (μ 72 12, μ2)
set_option maxHeartbeats 1000000 in
theorem gX8_own {Z : hn_Z} {B : hn_B} {R : Int32 × hn_M} (hF : hn_F Z B (0, 0) cX8_own 3 RX8 (some .int) 1) (hQ : hn_goal Z B (some (.int R.1), R.2)) (hV : hn_V B hn_nA) {l1 : Int32} {μ : hn_M} (e : fX8_own l1 μ = some R) : hn_G Z B (0, 0) 3 0 [(0, .ref (hn_base B + 72)), (1, .int l1)] [] μ := by
  unfold fX8_own at e
  have o72 : hn_isO B 72 8 hn_k72 := hV 72 (by decide)
  refine hn_iload_n hF dX8_own_0 (q := 1) rfl 1 rfl ?_
  refine hn_i2l hF dX8_own_1 (q := 2) rfl rfl ?_
  refine hn_lconst hF dX8_own_2 (q := 3) rfl kl_0 ?_
  refine hn_ldc2 hF kd_X8_139 dX8_own_3 (q := 6) rfl ?_
  refine hn_callSi (rest := []) hF ms_X8_in mt_X8_in lk_X8_79 (by decide) [.long (l1.toInt64), .long 0, .long 40] rfl (Nat.le_of_ble_eq_true rfl) dX8_own_6 (q := 9) rfl rfl e (fun v hv => cX8_in_ hv) (fun v1 e => ?_)
  refine hn_if_ne hF dX8_own_9 (t := 14) (q := 12) rfl rfl e (fun e => ?_) (fun e => ?_)
  · refine hn_aload_n hF dX8_own_14 (q := 15) rfl 0 rfl ?_
    refine hn_get hF fl_X8_43 o72 rfl rfl dX8_own_15 (q := 18) rfl ?_
    refine hn_istore_n hF dX8_own_18 (q := 19) rfl (i := 2) rfl (by decide) (L' := [(2, .int (μ 72 12)), (0, .ref (hn_base B + 72)), (1, .int l1)]) rfl ?_
    refine hn_aload_n hF dX8_own_19 (q := 20) rfl 1 rfl ?_
    refine hn_iload_n hF dX8_own_20 (q := 21) rfl 2 rfl ?_
    refine hn_put hF fl_X8_43 fp_X8_12 o72 rfl rfl rfl rfl dX8_own_21 (q := 24) rfl e (fun μ2 e => ?_)
    refine hn_iload_n hF dX8_own_24 (q := 25) rfl 0 rfl ?_
    exact hn_iretM hF hQ dX8_own_25 e
  · refine hn_iconst hF dX8_own_12 (q := 13) rfl ki_m1 ?_
    exact hn_iretM hF hQ dX8_own_13 e
theorem cX8_own_ {B : hn_B} {μ : hn_M} {R : Int32 × hn_M} {l1 : Int32} (hV : hn_V B hn_nA) (e : fX8_own l1 μ = some R) : hn_C yX8_own cX8_own 3 (some .int) 1 B [.ref (hn_base B + 72), .int l1] μ (some (.int R.1), R.2) :=
  hn_C.of RX8 (by decide) rfl (Nat.le_of_ble_eq_true rfl) (fun _ hF hQ => gX8_own hF hQ hV e)
/-! HandNewsModel.couldCopy(II)Z -/
def fX8_couldCopy (μ : hn_M) (l1 : Int32) (l2 : Int32) : Option Int32 := hn_rd μ 81 540 (6 * l1) fun v1 => hn_rd μ 81 540 (6 * l2) fun v2 => if v1 = v2 then some 0 else hn_rd μ 81 540 ((6 * l1) + 4) fun v3 => if v3 = 1 then some 0 else hn_rd μ 81 540 ((6 * l1) + 1) fun v4 => hn_rd μ 81 540 ((6 * l2) + 1) fun v5 => if v4 = v5 then hn_rd μ 81 540 ((6 * l1) + 5) fun v6 => hn_rd μ 81 540 ((6 * l2) + 5) fun v7 => if v6 = v7 then (fX8_wayOf μ v2 v1).bind fun v8 => if v8 < 0 then some 0 else hn_rd μ 90 12 v1 fun v9 => hn_rd μ 89 12 v2 fun v10 => if v9 < v10 + v8 then some 0 else hn_rd μ 89 12 v2 fun v11 => hn_rd μ 89 12 v1 fun v12 => if v11 < v12 then some 1 else hn_rd μ 89 12 v2 fun v13 => hn_rd μ 89 12 v1 fun v14 => if v13 = v14 then if v1 ≤ v2 then some 0 else some 1 else some 0 else some 0 else some 0
set_option maxHeartbeats 1000000 in
theorem gX8_couldCopy {Z : hn_Z} {B : hn_B} {μ : hn_M} {R : Int32} (hF : hn_F Z B (0, 0) cX8_couldCopy 6 RX8 (some .boolean) 1) (hQ : hn_goal Z B (some (.int R), μ)) (hV : hn_V B hn_nA) {l1 : Int32} {l2 : Int32} (e : fX8_couldCopy μ l1 l2 = some R) : hn_G Z B (0, 0) 6 0 [(0, .ref (hn_base B + 72)), (1, .int l1), (2, .int l2)] [] μ := by
  unfold fX8_couldCopy at e
  have a81 : hn_isA B 81 false 540 := hV 81 (by decide)
  have a89 : hn_isA B 89 false 12 := hV 89 (by decide)
  have a90 : hn_isA B 90 false 12 := hV 90 (by decide)
  have o72 : hn_isO B 72 8 hn_k72 := hV 72 (by decide)
  refine hn_aload_n hF dX8_couldCopy_0 (q := 1) rfl 0 rfl ?_
  refine hn_get hF fl_X8_34 o72 rfl rfl dX8_couldCopy_1 (q := 4) rfl ?_
  refine hn_bipush hF dX8_couldCopy_4 (q := 6) rfl kb_6 ?_
  refine hn_iload_n hF dX8_couldCopy_6 (q := 7) rfl 1 rfl ?_
  refine hn_imul hF dX8_couldCopy_7 (q := 8) rfl ?_
  refine hn_ald hF a81 dX8_couldCopy_8 (q := 9) rfl e (fun v1 e => ?_)
  refine hn_istore_n hF dX8_couldCopy_9 (q := 10) rfl (i := 3) rfl (by decide) (L' := [(3, .int v1), (0, .ref (hn_base B + 72)), (1, .int l1), (2, .int l2)]) rfl ?_
  refine hn_aload_n hF dX8_couldCopy_10 (q := 11) rfl 1 rfl ?_
  refine hn_get hF fl_X8_34 o72 rfl rfl dX8_couldCopy_11 (q := 14) rfl ?_
  refine hn_bipush hF dX8_couldCopy_14 (q := 16) rfl kb_6 ?_
  refine hn_iload_n hF dX8_couldCopy_16 (q := 17) rfl 3 rfl ?_
  refine hn_imul hF dX8_couldCopy_17 (q := 18) rfl ?_
  refine hn_ald hF a81 dX8_couldCopy_18 (q := 19) rfl e (fun v2 e => ?_)
  refine hn_istore hF dX8_couldCopy_19 (q := 21) rfl (by decide) (L' := [(4, .int v2), (3, .int v1), (0, .ref (hn_base B + 72)), (1, .int l1), (2, .int l2)]) rfl ?_
  refine hn_iload_n hF dX8_couldCopy_21 (q := 22) rfl 1 rfl ?_
  refine hn_iload hF dX8_couldCopy_22 (q := 24) rfl 0 rfl ?_
  refine hn_icmp_eq hF dX8_couldCopy_24 (t := 92) (q := 27) rfl rfl e (fun e => ?_) (fun e => ?_)
  · refine hn_iconst hF dX8_couldCopy_92 (q := 93) rfl ki_0 ?_
    exact hn_zretP hF hQ dX8_couldCopy_93 (Or.inl rfl) e
  · refine hn_aload_n hF dX8_couldCopy_27 (q := 28) rfl 2 rfl ?_
    refine hn_get hF fl_X8_34 o72 rfl rfl dX8_couldCopy_28 (q := 31) rfl ?_
    refine hn_bipush hF dX8_couldCopy_31 (q := 33) rfl kb_6 ?_
    refine hn_iload_n hF dX8_couldCopy_33 (q := 34) rfl 3 rfl ?_
    refine hn_imul hF dX8_couldCopy_34 (q := 35) rfl ?_
    refine hn_iconst hF dX8_couldCopy_35 (q := 36) rfl ki_4 ?_
    refine hn_iadd hF dX8_couldCopy_36 (q := 37) rfl ?_
    refine hn_ald hF a81 dX8_couldCopy_37 (q := 38) rfl e (fun v3 e => ?_)
    refine hn_iconst hF dX8_couldCopy_38 (q := 39) rfl ki_1 ?_
    refine hn_icmp_eq hF dX8_couldCopy_39 (t := 92) (q := 42) rfl rfl e (fun e => ?_) (fun e => ?_)
    · refine hn_iconst hF dX8_couldCopy_92 (q := 93) rfl ki_0 ?_
      exact hn_zretP hF hQ dX8_couldCopy_93 (Or.inl rfl) e
    · refine hn_aload_n hF dX8_couldCopy_42 (q := 43) rfl 2 rfl ?_
      refine hn_get hF fl_X8_34 o72 rfl rfl dX8_couldCopy_43 (q := 46) rfl ?_
      refine hn_bipush hF dX8_couldCopy_46 (q := 48) rfl kb_6 ?_
      refine hn_iload_n hF dX8_couldCopy_48 (q := 49) rfl 3 rfl ?_
      refine hn_imul hF dX8_couldCopy_49 (q := 50) rfl ?_
      refine hn_iconst hF dX8_couldCopy_50 (q := 51) rfl ki_1 ?_
      refine hn_iadd hF dX8_couldCopy_51 (q := 52) rfl ?_
      refine hn_ald hF a81 dX8_couldCopy_52 (q := 53) rfl e (fun v4 e => ?_)
      refine hn_aload_n hF dX8_couldCopy_53 (q := 54) rfl 2 rfl ?_
      refine hn_get hF fl_X8_34 o72 rfl rfl dX8_couldCopy_54 (q := 57) rfl ?_
      refine hn_bipush hF dX8_couldCopy_57 (q := 59) rfl kb_6 ?_
      refine hn_iload_n hF dX8_couldCopy_59 (q := 60) rfl 4 rfl ?_
      refine hn_imul hF dX8_couldCopy_60 (q := 61) rfl ?_
      refine hn_iconst hF dX8_couldCopy_61 (q := 62) rfl ki_1 ?_
      refine hn_iadd hF dX8_couldCopy_62 (q := 63) rfl ?_
      refine hn_ald hF a81 dX8_couldCopy_63 (q := 64) rfl e (fun v5 e => ?_)
      refine hn_icmp_ne hF dX8_couldCopy_64 (t := 92) (q := 67) rfl rfl e (fun e => ?_) (fun e => ?_)
      · refine hn_iconst hF dX8_couldCopy_92 (q := 93) rfl ki_0 ?_
        exact hn_zretP hF hQ dX8_couldCopy_93 (Or.inl rfl) e
      · refine hn_aload_n hF dX8_couldCopy_67 (q := 68) rfl 2 rfl ?_
        refine hn_get hF fl_X8_34 o72 rfl rfl dX8_couldCopy_68 (q := 71) rfl ?_
        refine hn_bipush hF dX8_couldCopy_71 (q := 73) rfl kb_6 ?_
        refine hn_iload_n hF dX8_couldCopy_73 (q := 74) rfl 3 rfl ?_
        refine hn_imul hF dX8_couldCopy_74 (q := 75) rfl ?_
        refine hn_iconst hF dX8_couldCopy_75 (q := 76) rfl ki_5 ?_
        refine hn_iadd hF dX8_couldCopy_76 (q := 77) rfl ?_
        refine hn_ald hF a81 dX8_couldCopy_77 (q := 78) rfl e (fun v6 e => ?_)
        refine hn_aload_n hF dX8_couldCopy_78 (q := 79) rfl 2 rfl ?_
        refine hn_get hF fl_X8_34 o72 rfl rfl dX8_couldCopy_79 (q := 82) rfl ?_
        refine hn_bipush hF dX8_couldCopy_82 (q := 84) rfl kb_6 ?_
        refine hn_iload_n hF dX8_couldCopy_84 (q := 85) rfl 4 rfl ?_
        refine hn_imul hF dX8_couldCopy_85 (q := 86) rfl ?_
        refine hn_iconst hF dX8_couldCopy_86 (q := 87) rfl ki_5 ?_
        refine hn_iadd hF dX8_couldCopy_87 (q := 88) rfl ?_
        refine hn_ald hF a81 dX8_couldCopy_88 (q := 89) rfl e (fun v7 e => ?_)
        refine hn_icmp_eq hF dX8_couldCopy_89 (t := 94) (q := 92) rfl rfl e (fun e => ?_) (fun e => ?_)
        · refine hn_aload_n hF dX8_couldCopy_94 (q := 95) rfl 2 rfl ?_
          refine hn_iload hF dX8_couldCopy_95 (q := 97) rfl 0 rfl ?_
          refine hn_iload_n hF dX8_couldCopy_97 (q := 98) rfl 1 rfl ?_
          refine hn_callVi (rest := []) hF ms_X8_wayOf mv_X8_wayOf lk_X8_100 o72 rfl (by decide) [.int v2, .int v1] rfl (Nat.le_of_ble_eq_true rfl) dX8_couldCopy_98 (q := 101) rfl rfl e (fun v hv => cX8_wayOf_ hV hv) (fun v8 e => ?_)
          refine hn_istore hF dX8_couldCopy_101 (q := 103) rfl (by decide) (L' := [(5, .int v8), (4, .int v2), (3, .int v1), (0, .ref (hn_base B + 72)), (1, .int l1), (2, .int l2)]) rfl ?_
          refine hn_iload hF dX8_couldCopy_103 (q := 105) rfl 0 rfl ?_
          refine hn_if_lt hF dX8_couldCopy_105 (t := 169) (q := 108) rfl rfl e (fun e => ?_) (fun e => ?_)
          · refine hn_iconst hF dX8_couldCopy_169 (q := 170) rfl ki_0 ?_
            exact hn_zretP hF hQ dX8_couldCopy_170 (Or.inl rfl) e
          · refine hn_aload_n hF dX8_couldCopy_108 (q := 109) rfl 3 rfl ?_
            refine hn_get hF fl_X8_65 o72 rfl rfl dX8_couldCopy_109 (q := 112) rfl ?_
            refine hn_iload_n hF dX8_couldCopy_112 (q := 113) rfl 2 rfl ?_
            refine hn_ald hF a90 dX8_couldCopy_113 (q := 114) rfl e (fun v9 e => ?_)
            refine hn_aload_n hF dX8_couldCopy_114 (q := 115) rfl 3 rfl ?_
            refine hn_get hF fl_X8_62 o72 rfl rfl dX8_couldCopy_115 (q := 118) rfl ?_
            refine hn_iload hF dX8_couldCopy_118 (q := 120) rfl 1 rfl ?_
            refine hn_ald hF a89 dX8_couldCopy_120 (q := 121) rfl e (fun v10 e => ?_)
            refine hn_iload hF dX8_couldCopy_121 (q := 123) rfl 0 rfl ?_
            refine hn_iadd hF dX8_couldCopy_123 (q := 124) rfl ?_
            refine hn_icmp_lt hF dX8_couldCopy_124 (t := 169) (q := 127) rfl rfl e (fun e => ?_) (fun e => ?_)
            · refine hn_iconst hF dX8_couldCopy_169 (q := 170) rfl ki_0 ?_
              exact hn_zretP hF hQ dX8_couldCopy_170 (Or.inl rfl) e
            · refine hn_aload_n hF dX8_couldCopy_127 (q := 128) rfl 3 rfl ?_
              refine hn_get hF fl_X8_62 o72 rfl rfl dX8_couldCopy_128 (q := 131) rfl ?_
              refine hn_iload hF dX8_couldCopy_131 (q := 133) rfl 1 rfl ?_
              refine hn_ald hF a89 dX8_couldCopy_133 (q := 134) rfl e (fun v11 e => ?_)
              refine hn_aload_n hF dX8_couldCopy_134 (q := 135) rfl 3 rfl ?_
              refine hn_get hF fl_X8_62 o72 rfl rfl dX8_couldCopy_135 (q := 138) rfl ?_
              refine hn_iload_n hF dX8_couldCopy_138 (q := 139) rfl 2 rfl ?_
              refine hn_ald hF a89 dX8_couldCopy_139 (q := 140) rfl e (fun v12 e => ?_)
              refine hn_icmp_lt hF dX8_couldCopy_140 (t := 165) (q := 143) rfl rfl e (fun e => ?_) (fun e => ?_)
              · refine hn_iconst hF dX8_couldCopy_165 (q := 166) rfl ki_1 ?_
                refine hn_goto hF dX8_couldCopy_166 (q := 170) rfl ?_
                exact hn_zretP hF hQ dX8_couldCopy_170 (Or.inr rfl) e
              · refine hn_aload_n hF dX8_couldCopy_143 (q := 144) rfl 3 rfl ?_
                refine hn_get hF fl_X8_62 o72 rfl rfl dX8_couldCopy_144 (q := 147) rfl ?_
                refine hn_iload hF dX8_couldCopy_147 (q := 149) rfl 1 rfl ?_
                refine hn_ald hF a89 dX8_couldCopy_149 (q := 150) rfl e (fun v13 e => ?_)
                refine hn_aload_n hF dX8_couldCopy_150 (q := 151) rfl 3 rfl ?_
                refine hn_get hF fl_X8_62 o72 rfl rfl dX8_couldCopy_151 (q := 154) rfl ?_
                refine hn_iload_n hF dX8_couldCopy_154 (q := 155) rfl 2 rfl ?_
                refine hn_ald hF a89 dX8_couldCopy_155 (q := 156) rfl e (fun v14 e => ?_)
                refine hn_icmp_ne hF dX8_couldCopy_156 (t := 169) (q := 159) rfl rfl e (fun e => ?_) (fun e => ?_)
                · refine hn_iconst hF dX8_couldCopy_169 (q := 170) rfl ki_0 ?_
                  exact hn_zretP hF hQ dX8_couldCopy_170 (Or.inl rfl) e
                · refine hn_iload hF dX8_couldCopy_159 (q := 161) rfl 1 rfl ?_
                  refine hn_iload_n hF dX8_couldCopy_161 (q := 162) rfl 2 rfl ?_
                  refine hn_icmp_ge hF dX8_couldCopy_162 (t := 169) (q := 165) rfl rfl e (fun e => ?_) (fun e => ?_)
                  · refine hn_iconst hF dX8_couldCopy_169 (q := 170) rfl ki_0 ?_
                    exact hn_zretP hF hQ dX8_couldCopy_170 (Or.inl rfl) e
                  · refine hn_iconst hF dX8_couldCopy_165 (q := 166) rfl ki_1 ?_
                    refine hn_goto hF dX8_couldCopy_166 (q := 170) rfl ?_
                    exact hn_zretP hF hQ dX8_couldCopy_170 (Or.inr rfl) e
        · refine hn_iconst hF dX8_couldCopy_92 (q := 93) rfl ki_0 ?_
          exact hn_zretP hF hQ dX8_couldCopy_93 (Or.inl rfl) e
theorem cX8_couldCopy_ {B : hn_B} {μ : hn_M} {R : Int32} {l1 : Int32} {l2 : Int32} (hV : hn_V B hn_nA) (e : fX8_couldCopy μ l1 l2 = some R) : hn_C yX8_couldCopy cX8_couldCopy 6 (some .boolean) 1 B [.ref (hn_base B + 72), .int l1, .int l2] μ (some (.int R), μ) :=
  hn_C.of RX8 (by decide) rfl (Nat.le_of_ble_eq_true rfl) (fun _ hF hQ => gX8_couldCopy hF hQ hV e)
/-! HandNewsModel.layTree()Z -/
def fX8_layTree_81 (F : Nat) (k11 : Int32 → hn_M → Option (Int32 × hn_M)) (k38 : Int32 → Int32 → Int32 → hn_M → Option (Int32 × hn_M)) (l1 : Int32) (l2 : Int32) (l3 : Int32) (μ : hn_M) : Option (Int32 × hn_M) := k38 l1 l2 (l3 + 1) μ
def fX8_layTree_87 (F : Nat) (k11 : Int32 → hn_M → Option (Int32 × hn_M)) (l1 : Int32) (μ : hn_M) : Option (Int32 × hn_M) := k11 (l1 + 1) μ
def fX8_layTree_38 (F : Nat) (k11 : Int32 → hn_M → Option (Int32 × hn_M)) : Nat → Int32 → Int32 → Int32 → hn_M → Option (Int32 × hn_M)
  | 0, _, _, _, _ => none
  | n + 1, l1, l2, l3, μ => hn_rd μ 80 3 0 fun v1 => if v1 ≤ l3 then fX8_layTree_87 F k11 l1 μ else (fX8_couldCopy μ l1 l3).bind fun v2 => if v2 = 0 then fX8_layTree_81 F k11 (fX8_layTree_38 F k11 n) l1 l2 l3 μ else (fX8_changeOf F μ l1 l3).bind fun v3 => if l2 ≤ v3 then fX8_layTree_81 F k11 (fX8_layTree_38 F k11 n) l1 l2 l3 μ else (fX8_changeOf F μ l1 l3).bind fun v4 => hn_wr μ 91 30 l1 l3 fun μ5 => fX8_layTree_81 F k11 (fX8_layTree_38 F k11 n) l1 v4 l3 μ5
def fX8_layTree_11 (F : Nat) : Nat → Int32 → hn_M → Option (Int32 × hn_M)
  | 0, _, _ => none
  | n + 1, l1, μ => hn_rd μ 80 3 0 fun v6 => if v6 ≤ l1 then some (1, μ) else hn_wr μ 91 30 l1 (-4) fun μ7 => fX8_layTree_38 F (fX8_layTree_11 F n) F l1 ((μ7 72 12) + 1) 0 μ7
def fX8_layTree (F : Nat) (μ : hn_M) : Option (Int32 × hn_M) := (fX8_areDays F μ).bind fun w8 => if w8.1 = 0 then some (0, w8.2) else fX8_layTree_11 F F 0 w8.2
set_option maxHeartbeats 1000000 in
theorem gX8_layTree_81 {Z : hn_Z} {B : hn_B} {F : Nat} {R : Int32 × hn_M} (hF : hn_F Z B (0, 0) cX8_layTree 4 RX8 (some .boolean) 3) (hQ : hn_goal Z B (some (.int R.1), R.2)) (hV : hn_V B hn_nA) {k11 : Int32 → hn_M → Option (Int32 × hn_M)} (H11 : ∀ (l1 : Int32) (μ : hn_M), k11 l1 μ = some R → hn_G Z B (0, 0) 4 11 [(0, .ref (hn_base B + 72)), (1, .int l1)] [] μ) {k38 : Int32 → Int32 → Int32 → hn_M → Option (Int32 × hn_M)} (H38 : ∀ (l1 : Int32) (l2 : Int32) (l3 : Int32) (μ : hn_M), k38 l1 l2 l3 μ = some R → hn_G Z B (0, 0) 4 38 [(0, .ref (hn_base B + 72)), (1, .int l1), (2, .int l2), (3, .int l3)] [] μ) {l1 : Int32} {l2 : Int32} {l3 : Int32} {μ : hn_M} (e : fX8_layTree_81 F k11 k38 l1 l2 l3 μ = some R) : hn_G Z B (0, 0) 4 81 [(0, .ref (hn_base B + 72)), (1, .int l1), (2, .int l2), (3, .int l3)] [] μ := by
  unfold fX8_layTree_81 at e
  refine hn_iinc (p := 3) hF dX8_layTree_81 (q := 84) rfl rfl (kn_1 _) (by decide) (L' := [(3, .int (l3 + 1)), (0, .ref (hn_base B + 72)), (1, .int l1), (2, .int l2)]) rfl ?_
  refine hn_goto hF dX8_layTree_84 (q := 38) rfl ?_
  refine hn_sub [1, 2, 3, 0] (L' := [(0, .ref (hn_base B + 72)), (1, .int l1), (2, .int l2), (3, .int (l3 + 1))]) rfl ?_
  exact H38 l1 l2 (l3 + 1) μ e
set_option maxHeartbeats 1000000 in
theorem gX8_layTree_87 {Z : hn_Z} {B : hn_B} {F : Nat} {R : Int32 × hn_M} (hF : hn_F Z B (0, 0) cX8_layTree 4 RX8 (some .boolean) 3) (hQ : hn_goal Z B (some (.int R.1), R.2)) (hV : hn_V B hn_nA) {k11 : Int32 → hn_M → Option (Int32 × hn_M)} (H11 : ∀ (l1 : Int32) (μ : hn_M), k11 l1 μ = some R → hn_G Z B (0, 0) 4 11 [(0, .ref (hn_base B + 72)), (1, .int l1)] [] μ) {l1 : Int32} {μ : hn_M} (e : fX8_layTree_87 F k11 l1 μ = some R) : hn_G Z B (0, 0) 4 87 [(0, .ref (hn_base B + 72)), (1, .int l1)] [] μ := by
  unfold fX8_layTree_87 at e
  refine hn_iinc (p := 1) hF dX8_layTree_87 (q := 90) rfl rfl (kn_1 _) (by decide) (L' := [(1, .int (l1 + 1)), (0, .ref (hn_base B + 72))]) rfl ?_
  refine hn_goto hF dX8_layTree_90 (q := 11) rfl ?_
  refine hn_sub [1, 0] (L' := [(0, .ref (hn_base B + 72)), (1, .int (l1 + 1))]) rfl ?_
  exact H11 (l1 + 1) μ e
set_option maxHeartbeats 1000000 in
theorem gX8_layTree_38 {Z : hn_Z} {B : hn_B} {F : Nat} {R : Int32 × hn_M} (hF : hn_F Z B (0, 0) cX8_layTree 4 RX8 (some .boolean) 3) (hQ : hn_goal Z B (some (.int R.1), R.2)) (hV : hn_V B hn_nA) {k11 : Int32 → hn_M → Option (Int32 × hn_M)} (H11 : ∀ (l1 : Int32) (μ : hn_M), k11 l1 μ = some R → hn_G Z B (0, 0) 4 11 [(0, .ref (hn_base B + 72)), (1, .int l1)] [] μ) : ∀ (n : Nat) (l1 : Int32) (l2 : Int32) (l3 : Int32) (μ : hn_M), fX8_layTree_38 F k11 n l1 l2 l3 μ = some R → hn_G Z B (0, 0) 4 38 [(0, .ref (hn_base B + 72)), (1, .int l1), (2, .int l2), (3, .int l3)] [] μ := by
  have a80 : hn_isA B 80 false 3 := hV 80 (by decide)
  have a91 : hn_isA B 91 false 30 := hV 91 (by decide)
  have o72 : hn_isO B 72 8 hn_k72 := hV 72 (by decide)
  intro n
  induction n with
  | zero => intro l1 l2 l3 μ e; rw [fX8_layTree_38] at e; cases e
  | succ n ih =>
    intro l1 l2 l3 μ e
    rw [fX8_layTree_38] at e
    refine hn_iload_n hF dX8_layTree_38 (q := 39) rfl 3 rfl ?_
    refine hn_aload_n hF dX8_layTree_39 (q := 40) rfl 0 rfl ?_
    refine hn_get hF fl_X8_31 o72 rfl rfl dX8_layTree_40 (q := 43) rfl ?_
    refine hn_iconst hF dX8_layTree_43 (q := 44) rfl ki_0 ?_
    refine hn_ald hF a80 dX8_layTree_44 (q := 45) rfl e (fun v1 e => ?_)
    refine hn_icmp_ge hF dX8_layTree_45 (t := 87) (q := 48) rfl rfl e (fun e => ?_) (fun e => ?_)
    · refine hn_sub [0, 1] (L' := [(0, .ref (hn_base B + 72)), (1, .int l1)]) rfl ?_
      exact gX8_layTree_87 hF hQ hV H11 e
    · refine hn_aload_n hF dX8_layTree_48 (q := 49) rfl 0 rfl ?_
      refine hn_iload_n hF dX8_layTree_49 (q := 50) rfl 1 rfl ?_
      refine hn_iload_n hF dX8_layTree_50 (q := 51) rfl 3 rfl ?_
      refine hn_callVi (rest := []) hF ms_X8_couldCopy mv_X8_couldCopy lk_X8_141 o72 rfl (by decide) [.int l1, .int l3] rfl (Nat.le_of_ble_eq_true rfl) dX8_layTree_51 (q := 54) rfl rfl e (fun v hv => cX8_couldCopy_ hV hv) (fun v2 e => ?_)
      refine hn_if_eq hF dX8_layTree_54 (t := 81) (q := 57) rfl rfl e (fun e => ?_) (fun e => ?_)
      · exact gX8_layTree_81 hF hQ hV H11 ih e
      · refine hn_aload_n hF dX8_layTree_57 (q := 58) rfl 0 rfl ?_
        refine hn_iload_n hF dX8_layTree_58 (q := 59) rfl 1 rfl ?_
        refine hn_iload_n hF dX8_layTree_59 (q := 60) rfl 3 rfl ?_
        refine hn_callVi (rest := []) hF ms_X8_changeOf mv_X8_changeOf lk_X8_136 o72 rfl (by decide) [.int l1, .int l3] rfl (Nat.le_of_ble_eq_true rfl) dX8_layTree_60 (q := 63) rfl rfl e (fun v hv => cX8_changeOf_ hV hv) (fun v3 e => ?_)
        refine hn_iload_n hF dX8_layTree_63 (q := 64) rfl 2 rfl ?_
        refine hn_icmp_ge hF dX8_layTree_64 (t := 81) (q := 67) rfl rfl e (fun e => ?_) (fun e => ?_)
        · exact gX8_layTree_81 hF hQ hV H11 ih e
        · refine hn_aload_n hF dX8_layTree_67 (q := 68) rfl 0 rfl ?_
          refine hn_iload_n hF dX8_layTree_68 (q := 69) rfl 1 rfl ?_
          refine hn_iload_n hF dX8_layTree_69 (q := 70) rfl 3 rfl ?_
          refine hn_callVi (rest := []) hF ms_X8_changeOf mv_X8_changeOf lk_X8_136 o72 rfl (by decide) [.int l1, .int l3] rfl (Nat.le_of_ble_eq_true rfl) dX8_layTree_70 (q := 73) rfl rfl e (fun v hv => cX8_changeOf_ hV hv) (fun v4 e => ?_)
          refine hn_istore_n hF dX8_layTree_73 (q := 74) rfl (i := 2) rfl (by decide) (L' := [(2, .int v4), (0, .ref (hn_base B + 72)), (1, .int l1), (3, .int l3)]) rfl ?_
          refine hn_aload_n hF dX8_layTree_74 (q := 75) rfl 1 rfl ?_
          refine hn_get hF fl_X8_68 o72 rfl rfl dX8_layTree_75 (q := 78) rfl ?_
          refine hn_iload_n hF dX8_layTree_78 (q := 79) rfl 2 rfl ?_
          refine hn_iload_n hF dX8_layTree_79 (q := 80) rfl 3 rfl ?_
          refine hn_ast hF a91 dX8_layTree_80 (q := 81) rfl e (fun μ5 e => ?_)
          refine hn_sub [1, 2, 0, 3] (L' := [(0, .ref (hn_base B + 72)), (1, .int l1), (2, .int v4), (3, .int l3)]) rfl ?_
          exact gX8_layTree_81 hF hQ hV H11 ih e
set_option maxHeartbeats 1000000 in
theorem gX8_layTree_11 {Z : hn_Z} {B : hn_B} {F : Nat} {R : Int32 × hn_M} (hF : hn_F Z B (0, 0) cX8_layTree 4 RX8 (some .boolean) 3) (hQ : hn_goal Z B (some (.int R.1), R.2)) (hV : hn_V B hn_nA) : ∀ (n : Nat) (l1 : Int32) (μ : hn_M), fX8_layTree_11 F n l1 μ = some R → hn_G Z B (0, 0) 4 11 [(0, .ref (hn_base B + 72)), (1, .int l1)] [] μ := by
  have a80 : hn_isA B 80 false 3 := hV 80 (by decide)
  have a91 : hn_isA B 91 false 30 := hV 91 (by decide)
  have o72 : hn_isO B 72 8 hn_k72 := hV 72 (by decide)
  intro n
  induction n with
  | zero => intro l1 μ e; rw [fX8_layTree_11] at e; cases e
  | succ n ih =>
    intro l1 μ e
    rw [fX8_layTree_11] at e
    refine hn_iload_n hF dX8_layTree_11 (q := 12) rfl 1 rfl ?_
    refine hn_aload_n hF dX8_layTree_12 (q := 13) rfl 0 rfl ?_
    refine hn_get hF fl_X8_31 o72 rfl rfl dX8_layTree_13 (q := 16) rfl ?_
    refine hn_iconst hF dX8_layTree_16 (q := 17) rfl ki_0 ?_
    refine hn_ald hF a80 dX8_layTree_17 (q := 18) rfl e (fun v6 e => ?_)
    refine hn_icmp_ge hF dX8_layTree_18 (t := 93) (q := 21) rfl rfl e (fun e => ?_) (fun e => ?_)
    · refine hn_iconst hF dX8_layTree_93 (q := 94) rfl ki_1 ?_
      exact hn_zretM hF hQ dX8_layTree_94 (Or.inr rfl) e
    · refine hn_aload_n hF dX8_layTree_21 (q := 22) rfl 0 rfl ?_
      refine hn_get hF fl_X8_68 o72 rfl rfl dX8_layTree_22 (q := 25) rfl ?_
      refine hn_iload_n hF dX8_layTree_25 (q := 26) rfl 1 rfl ?_
      refine hn_bipush hF dX8_layTree_26 (q := 28) rfl kb_m4 ?_
      refine hn_ast hF a91 dX8_layTree_28 (q := 29) rfl e (fun μ7 e => ?_)
      refine hn_aload_n hF dX8_layTree_29 (q := 30) rfl 0 rfl ?_
      refine hn_get hF fl_X8_43 o72 rfl rfl dX8_layTree_30 (q := 33) rfl ?_
      refine hn_iconst hF dX8_layTree_33 (q := 34) rfl ki_1 ?_
      refine hn_iadd hF dX8_layTree_34 (q := 35) rfl ?_
      refine hn_istore_n hF dX8_layTree_35 (q := 36) rfl (i := 2) rfl (by decide) (L' := [(2, .int ((μ7 72 12) + 1)), (0, .ref (hn_base B + 72)), (1, .int l1)]) rfl ?_
      refine hn_iconst hF dX8_layTree_36 (q := 37) rfl ki_0 ?_
      refine hn_istore_n hF dX8_layTree_37 (q := 38) rfl (i := 3) rfl (by decide) (L' := [(3, .int 0), (2, .int ((μ7 72 12) + 1)), (0, .ref (hn_base B + 72)), (1, .int l1)]) rfl ?_
      refine hn_sub [2, 3, 1, 0] (L' := [(0, .ref (hn_base B + 72)), (1, .int l1), (2, .int ((μ7 72 12) + 1)), (3, .int 0)]) rfl ?_
      exact gX8_layTree_38 hF hQ hV ih F l1 ((μ7 72 12) + 1) 0 μ7 e
set_option maxHeartbeats 1000000 in
theorem gX8_layTree {Z : hn_Z} {B : hn_B} {F : Nat} {R : Int32 × hn_M} (hF : hn_F Z B (0, 0) cX8_layTree 4 RX8 (some .boolean) 3) (hQ : hn_goal Z B (some (.int R.1), R.2)) (hV : hn_V B hn_nA) {μ : hn_M} (e : fX8_layTree F μ = some R) : hn_G Z B (0, 0) 4 0 [(0, .ref (hn_base B + 72))] [] μ := by
  unfold fX8_layTree at e
  have o72 : hn_isO B 72 8 hn_k72 := hV 72 (by decide)
  refine hn_aload_n hF dX8_layTree_0 (q := 1) rfl 0 rfl ?_
  refine hn_callVm (rest := []) hF ms_X8_areDays mv_X8_areDays lk_X8_126 o72 rfl (by decide) [] rfl (Nat.le_of_ble_eq_true rfl) dX8_layTree_1 (q := 4) rfl rfl e (fun v hv => cX8_areDays_ hV hv) (fun w8 e => ?_)
  refine hn_if_ne hF dX8_layTree_4 (t := 9) (q := 7) rfl rfl e (fun e => ?_) (fun e => ?_)
  · refine hn_iconst hF dX8_layTree_9 (q := 10) rfl ki_0 ?_
    refine hn_istore_n hF dX8_layTree_10 (q := 11) rfl (i := 1) rfl (by decide) (L' := [(1, .int 0), (0, .ref (hn_base B + 72))]) rfl ?_
    refine hn_sub [1, 0] (L' := [(0, .ref (hn_base B + 72)), (1, .int 0)]) rfl ?_
    exact gX8_layTree_11 hF hQ hV F 0 w8.2 e
  · refine hn_iconst hF dX8_layTree_7 (q := 8) rfl ki_0 ?_
    exact hn_zretM hF hQ dX8_layTree_8 (Or.inl rfl) e
theorem cX8_layTree_ {B : hn_B} {F : Nat} {μ : hn_M} {R : Int32 × hn_M} (hV : hn_V B hn_nA) (e : fX8_layTree F μ = some R) : hn_C yX8_layTree cX8_layTree 4 (some .boolean) 3 B [.ref (hn_base B + 72)] μ (some (.int R.1), R.2) :=
  hn_C.of RX8 (by decide) rfl (Nat.le_of_ble_eq_true rfl) (fun _ hF hQ => gX8_layTree hF hQ hV e)
/-! HandNewsModel.from(I)I -/
def fX8_from (F : Nat) (l1 : Int32) (μ : hn_M) : Option (Int32 × hn_M) := (fX8_isSaying μ l1).bind fun v1 => if v1 = 0 then some ((-1), μ) else (fX8_layTree F μ).bind fun w2 => if w2.1 = 0 then some ((-2), w2.2) else hn_rd w2.2 91 30 l1 fun v3 => some (v3, w2.2)
set_option maxHeartbeats 1000000 in
theorem gX8_from {Z : hn_Z} {B : hn_B} {F : Nat} {R : Int32 × hn_M} (hF : hn_F Z B (0, 0) cX8_from 2 RX8 (some .int) 4) (hQ : hn_goal Z B (some (.int R.1), R.2)) (hV : hn_V B hn_nA) {l1 : Int32} {μ : hn_M} (e : fX8_from F l1 μ = some R) : hn_G Z B (0, 0) 2 0 [(0, .ref (hn_base B + 72)), (1, .int l1)] [] μ := by
  unfold fX8_from at e
  have a91 : hn_isA B 91 false 30 := hV 91 (by decide)
  have o72 : hn_isO B 72 8 hn_k72 := hV 72 (by decide)
  refine hn_aload_n hF dX8_from_0 (q := 1) rfl 0 rfl ?_
  refine hn_iload_n hF dX8_from_1 (q := 2) rfl 1 rfl ?_
  refine hn_callVi (rest := []) hF ms_X8_isSaying mv_X8_isSaying lk_X8_133 o72 rfl (by decide) [.int l1] rfl (Nat.le_of_ble_eq_true rfl) dX8_from_2 (q := 5) rfl rfl e (fun v hv => cX8_isSaying_ hV hv) (fun v1 e => ?_)
  refine hn_if_ne hF dX8_from_5 (t := 10) (q := 8) rfl rfl e (fun e => ?_) (fun e => ?_)
  · refine hn_aload_n hF dX8_from_10 (q := 11) rfl 0 rfl ?_
    refine hn_callVm (rest := []) hF ms_X8_layTree mv_X8_layTree lk_X8_144 o72 rfl (by decide) [] rfl (Nat.le_of_ble_eq_true rfl) dX8_from_11 (q := 14) rfl rfl e (fun v hv => cX8_layTree_ hV hv) (fun w2 e => ?_)
    refine hn_if_eq hF dX8_from_14 (t := 26) (q := 17) rfl rfl e (fun e => ?_) (fun e => ?_)
    · refine hn_bipush hF dX8_from_26 (q := 28) rfl kb_m2 ?_
      exact hn_iretM hF hQ dX8_from_28 e
    · refine hn_aload_n hF dX8_from_17 (q := 18) rfl 0 rfl ?_
      refine hn_get hF fl_X8_68 o72 rfl rfl dX8_from_18 (q := 21) rfl ?_
      refine hn_iload_n hF dX8_from_21 (q := 22) rfl 1 rfl ?_
      refine hn_ald hF a91 dX8_from_22 (q := 23) rfl e (fun v3 e => ?_)
      refine hn_goto hF dX8_from_23 (q := 28) rfl ?_
      exact hn_iretM hF hQ dX8_from_28 e
  · refine hn_iconst hF dX8_from_8 (q := 9) rfl ki_m1 ?_
    exact hn_iretM hF hQ dX8_from_9 e
theorem cX8_from_ {B : hn_B} {F : Nat} {μ : hn_M} {R : Int32 × hn_M} {l1 : Int32} (hV : hn_V B hn_nA) (e : fX8_from F l1 μ = some R) : hn_C yX8_from cX8_from 2 (some .int) 4 B [.ref (hn_base B + 72), .int l1] μ (some (.int R.1), R.2) :=
  hn_C.of RX8 (by decide) rfl (Nat.le_of_ble_eq_true rfl) (fun _ hF hQ => gX8_from hF hQ hV e)
/-! HandNewsModel.rootOf(I)I -/
def fX8_rootOf_2 (F : Nat) (μ : hn_M) : Nat → Int32 → Option Int32
  | 0, _ => none
  | n + 1, l2 => hn_rd μ 91 30 l2 fun v1 => if v1 < 0 then some l2 else hn_rd μ 91 30 l2 fun v2 => fX8_rootOf_2 F μ n v2
def fX8_rootOf (F : Nat) (μ : hn_M) (l1 : Int32) : Option Int32 := fX8_rootOf_2 F μ F l1
set_option maxHeartbeats 1000000 in
theorem gX8_rootOf_2 {Z : hn_Z} {B : hn_B} {F : Nat} {μ : hn_M} {R : Int32} (hF : hn_F Z B (0, 0) cX8_rootOf 3 RX8 (some .int) 0) (hQ : hn_goal Z B (some (.int R), μ)) (hV : hn_V B hn_nA) : ∀ (n : Nat) (l2 : Int32), fX8_rootOf_2 F μ n l2 = some R → hn_G Z B (0, 0) 3 2 [(0, .ref (hn_base B + 72)), (2, .int l2)] [] μ := by
  have a91 : hn_isA B 91 false 30 := hV 91 (by decide)
  have o72 : hn_isO B 72 8 hn_k72 := hV 72 (by decide)
  intro n
  induction n with
  | zero => intro l2 e; rw [fX8_rootOf_2] at e; cases e
  | succ n ih =>
    intro l2 e
    rw [fX8_rootOf_2] at e
    refine hn_aload_n hF dX8_rootOf_2 (q := 3) rfl 0 rfl ?_
    refine hn_get hF fl_X8_68 o72 rfl rfl dX8_rootOf_3 (q := 6) rfl ?_
    refine hn_iload_n hF dX8_rootOf_6 (q := 7) rfl 1 rfl ?_
    refine hn_ald hF a91 dX8_rootOf_7 (q := 8) rfl e (fun v1 e => ?_)
    refine hn_if_lt hF dX8_rootOf_8 (t := 21) (q := 11) rfl rfl e (fun e => ?_) (fun e => ?_)
    · refine hn_iload_n hF dX8_rootOf_21 (q := 22) rfl 1 rfl ?_
      exact hn_iretP hF hQ dX8_rootOf_22 e
    · refine hn_aload_n hF dX8_rootOf_11 (q := 12) rfl 0 rfl ?_
      refine hn_get hF fl_X8_68 o72 rfl rfl dX8_rootOf_12 (q := 15) rfl ?_
      refine hn_iload_n hF dX8_rootOf_15 (q := 16) rfl 1 rfl ?_
      refine hn_ald hF a91 dX8_rootOf_16 (q := 17) rfl e (fun v2 e => ?_)
      refine hn_istore_n hF dX8_rootOf_17 (q := 18) rfl (i := 2) rfl (by decide) (L' := [(2, .int v2), (0, .ref (hn_base B + 72))]) rfl ?_
      refine hn_goto hF dX8_rootOf_18 (q := 2) rfl ?_
      refine hn_sub [1, 0] (L' := [(0, .ref (hn_base B + 72)), (2, .int v2)]) rfl ?_
      exact ih v2 e
set_option maxHeartbeats 1000000 in
theorem gX8_rootOf {Z : hn_Z} {B : hn_B} {F : Nat} {μ : hn_M} {R : Int32} (hF : hn_F Z B (0, 0) cX8_rootOf 3 RX8 (some .int) 0) (hQ : hn_goal Z B (some (.int R), μ)) (hV : hn_V B hn_nA) {l1 : Int32} (e : fX8_rootOf F μ l1 = some R) : hn_G Z B (0, 0) 3 0 [(0, .ref (hn_base B + 72)), (1, .int l1)] [] μ := by
  unfold fX8_rootOf at e
  refine hn_iload_n hF dX8_rootOf_0 (q := 1) rfl 1 rfl ?_
  refine hn_istore_n hF dX8_rootOf_1 (q := 2) rfl (i := 2) rfl (by decide) (L' := [(2, .int l1), (0, .ref (hn_base B + 72)), (1, .int l1)]) rfl ?_
  refine hn_sub [1, 0] (L' := [(0, .ref (hn_base B + 72)), (2, .int l1)]) rfl ?_
  exact gX8_rootOf_2 hF hQ hV F l1 e
theorem cX8_rootOf_ {B : hn_B} {F : Nat} {μ : hn_M} {R : Int32} {l1 : Int32} (hV : hn_V B hn_nA) (e : fX8_rootOf F μ l1 = some R) : hn_C yX8_rootOf cX8_rootOf 3 (some .int) 0 B [.ref (hn_base B + 72), .int l1] μ (some (.int R), μ) :=
  hn_C.of RX8 (by decide) rfl (Nat.le_of_ble_eq_true rfl) (fun _ hF hQ => gX8_rootOf hF hQ hV e)
/-! HandNewsModel.voice(II)I -/
def fX8_voice_83 (F : Nat) (k55 : Int32 → Int32 → Int32 → hn_M → Option (Int32 × hn_M)) (l3 : Int32) (l5 : Int32) (s0 : Int32) (s1 : Int32) (μ : hn_M) : Option (Int32 × hn_M) := k55 l3 (s1 + s0) (l5 + 1) μ
def fX8_voice_55 (F : Nat) : Nat → Int32 → Int32 → Int32 → hn_M → Option (Int32 × hn_M)
  | 0, _, _, _, _ => none
  | n + 1, l3, l4, l5, μ => hn_rd μ 80 3 0 fun v1 => if v1 ≤ l5 then some (l4, μ) else (fX8_rootOf F μ l5).bind fun v2 => if v2 = l3 then fX8_voice_83 F (fX8_voice_55 F n) l3 l5 1 l4 μ else fX8_voice_83 F (fX8_voice_55 F n) l3 l5 0 l4 μ
def fX8_voice_98 (F : Nat) : Nat → Int32 → Int32 → hn_M → Option (Int32 × hn_M)
  | 0, _, _, _ => none
  | n + 1, l4, l5, μ => hn_rd μ 91 30 l5 fun v3 => if v3 < 0 then some (l4, μ) else hn_rd μ 91 30 l5 fun v4 => fX8_voice_98 F n (l4 + 1) v4 μ
def fX8_voice (F : Nat) (l1 : Int32) (l2 : Int32) (μ : hn_M) : Option (Int32 × hn_M) := (fX8_isSaying μ l1).bind fun v5 => if v5 = 0 then some ((-1), μ) else (fX8_in l2.toInt64 0 2).bind fun v6 => if v6 = 0 then some ((-1), μ) else (fX8_layTree F μ).bind fun w7 => if w7.1 = 0 then some ((-2), w7.2) else (fX8_rootOf F w7.2 l1).bind fun v8 => if l2 = 0 then some (v8, w7.2) else if l2 = 1 then fX8_voice_55 F F v8 0 0 w7.2 else fX8_voice_98 F F 0 l1 w7.2
set_option maxHeartbeats 1000000 in
theorem gX8_voice_83 {Z : hn_Z} {B : hn_B} {F : Nat} {R : Int32 × hn_M} (hF : hn_F Z B (0, 0) cX8_voice 6 RX8 (some .int) 4) (hQ : hn_goal Z B (some (.int R.1), R.2)) (hV : hn_V B hn_nA) {k55 : Int32 → Int32 → Int32 → hn_M → Option (Int32 × hn_M)} (H55 : ∀ (l3 : Int32) (l4 : Int32) (l5 : Int32) (μ : hn_M), k55 l3 l4 l5 μ = some R → hn_G Z B (0, 0) 6 55 [(0, .ref (hn_base B + 72)), (3, .int l3), (4, .int l4), (5, .int l5)] [] μ) {l3 : Int32} {l5 : Int32} {s0 : Int32} {s1 : Int32} {μ : hn_M} (e : fX8_voice_83 F k55 l3 l5 s0 s1 μ = some R) : hn_G Z B (0, 0) 6 83 [(0, .ref (hn_base B + 72)), (3, .int l3), (5, .int l5)] [.int s0, .int s1] μ := by
  unfold fX8_voice_83 at e
  refine hn_iadd hF dX8_voice_83 (q := 84) rfl ?_
  refine hn_istore hF dX8_voice_84 (q := 86) rfl (by decide) (L' := [(4, .int (s1 + s0)), (0, .ref (hn_base B + 72)), (3, .int l3), (5, .int l5)]) rfl ?_
  refine hn_iinc (p := 3) hF dX8_voice_86 (q := 89) rfl rfl (kn_1 _) (by decide) (L' := [(5, .int (l5 + 1)), (4, .int (s1 + s0)), (0, .ref (hn_base B + 72)), (3, .int l3)]) rfl ?_
  refine hn_goto hF dX8_voice_89 (q := 55) rfl ?_
  refine hn_sub [2, 3, 1, 0] (L' := [(0, .ref (hn_base B + 72)), (3, .int l3), (4, .int (s1 + s0)), (5, .int (l5 + 1))]) rfl ?_
  exact H55 l3 (s1 + s0) (l5 + 1) μ e
set_option maxHeartbeats 1000000 in
theorem gX8_voice_55 {Z : hn_Z} {B : hn_B} {F : Nat} {R : Int32 × hn_M} (hF : hn_F Z B (0, 0) cX8_voice 6 RX8 (some .int) 4) (hQ : hn_goal Z B (some (.int R.1), R.2)) (hV : hn_V B hn_nA) : ∀ (n : Nat) (l3 : Int32) (l4 : Int32) (l5 : Int32) (μ : hn_M), fX8_voice_55 F n l3 l4 l5 μ = some R → hn_G Z B (0, 0) 6 55 [(0, .ref (hn_base B + 72)), (3, .int l3), (4, .int l4), (5, .int l5)] [] μ := by
  have a80 : hn_isA B 80 false 3 := hV 80 (by decide)
  have o72 : hn_isO B 72 8 hn_k72 := hV 72 (by decide)
  intro n
  induction n with
  | zero => intro l3 l4 l5 μ e; rw [fX8_voice_55] at e; cases e
  | succ n ih =>
    intro l3 l4 l5 μ e
    rw [fX8_voice_55] at e
    refine hn_iload hF dX8_voice_55 (q := 57) rfl 3 rfl ?_
    refine hn_aload_n hF dX8_voice_57 (q := 58) rfl 0 rfl ?_
    refine hn_get hF fl_X8_31 o72 rfl rfl dX8_voice_58 (q := 61) rfl ?_
    refine hn_iconst hF dX8_voice_61 (q := 62) rfl ki_0 ?_
    refine hn_ald hF a80 dX8_voice_62 (q := 63) rfl e (fun v1 e => ?_)
    refine hn_icmp_ge hF dX8_voice_63 (t := 92) (q := 66) rfl rfl e (fun e => ?_) (fun e => ?_)
    · refine hn_iload hF dX8_voice_92 (q := 94) rfl 2 rfl ?_
      exact hn_iretM hF hQ dX8_voice_94 e
    · refine hn_iload hF dX8_voice_66 (q := 68) rfl 2 rfl ?_
      refine hn_aload_n hF dX8_voice_68 (q := 69) rfl 0 rfl ?_
      refine hn_iload hF dX8_voice_69 (q := 71) rfl 3 rfl ?_
      refine hn_callVi (rest := [.int l4]) hF ms_X8_rootOf mv_X8_rootOf lk_X8_149 o72 rfl (by decide) [.int l5] rfl (Nat.le_of_ble_eq_true rfl) dX8_voice_71 (q := 74) rfl rfl e (fun v hv => cX8_rootOf_ hV hv) (fun v2 e => ?_)
      refine hn_iload_n hF dX8_voice_74 (q := 75) rfl 1 rfl ?_
      refine hn_icmp_ne hF dX8_voice_75 (t := 82) (q := 78) rfl rfl e (fun e => ?_) (fun e => ?_)
      · refine hn_iconst hF dX8_voice_82 (q := 83) rfl ki_0 ?_
        refine hn_sub [0, 1, 3] (L' := [(0, .ref (hn_base B + 72)), (3, .int l3), (5, .int l5)]) rfl ?_
        exact gX8_voice_83 hF hQ hV ih e
      · refine hn_iconst hF dX8_voice_78 (q := 79) rfl ki_1 ?_
        refine hn_goto hF dX8_voice_79 (q := 83) rfl ?_
        refine hn_sub [0, 1, 3] (L' := [(0, .ref (hn_base B + 72)), (3, .int l3), (5, .int l5)]) rfl ?_
        exact gX8_voice_83 hF hQ hV ih e
set_option maxHeartbeats 1000000 in
theorem gX8_voice_98 {Z : hn_Z} {B : hn_B} {F : Nat} {R : Int32 × hn_M} (hF : hn_F Z B (0, 0) cX8_voice 6 RX8 (some .int) 4) (hQ : hn_goal Z B (some (.int R.1), R.2)) (hV : hn_V B hn_nA) : ∀ (n : Nat) (l4 : Int32) (l5 : Int32) (μ : hn_M), fX8_voice_98 F n l4 l5 μ = some R → hn_G Z B (0, 0) 6 98 [(0, .ref (hn_base B + 72)), (4, .int l4), (5, .int l5)] [] μ := by
  have a91 : hn_isA B 91 false 30 := hV 91 (by decide)
  have o72 : hn_isO B 72 8 hn_k72 := hV 72 (by decide)
  intro n
  induction n with
  | zero => intro l4 l5 μ e; rw [fX8_voice_98] at e; cases e
  | succ n ih =>
    intro l4 l5 μ e
    rw [fX8_voice_98] at e
    refine hn_aload_n hF dX8_voice_98 (q := 99) rfl 0 rfl ?_
    refine hn_get hF fl_X8_68 o72 rfl rfl dX8_voice_99 (q := 102) rfl ?_
    refine hn_iload hF dX8_voice_102 (q := 104) rfl 2 rfl ?_
    refine hn_ald hF a91 dX8_voice_104 (q := 105) rfl e (fun v3 e => ?_)
    refine hn_if_lt hF dX8_voice_105 (t := 123) (q := 108) rfl rfl e (fun e => ?_) (fun e => ?_)
    · refine hn_iload hF dX8_voice_123 (q := 125) rfl 1 rfl ?_
      exact hn_iretM hF hQ dX8_voice_125 e
    · refine hn_iinc (p := 1) hF dX8_voice_108 (q := 111) rfl rfl (kn_1 _) (by decide) (L' := [(4, .int (l4 + 1)), (0, .ref (hn_base B + 72)), (5, .int l5)]) rfl ?_
      refine hn_aload_n hF dX8_voice_111 (q := 112) rfl 1 rfl ?_
      refine hn_get hF fl_X8_68 o72 rfl rfl dX8_voice_112 (q := 115) rfl ?_
      refine hn_iload hF dX8_voice_115 (q := 117) rfl 2 rfl ?_
      refine hn_ald hF a91 dX8_voice_117 (q := 118) rfl e (fun v4 e => ?_)
      refine hn_istore hF dX8_voice_118 (q := 120) rfl (by decide) (L' := [(5, .int v4), (4, .int (l4 + 1)), (0, .ref (hn_base B + 72))]) rfl ?_
      refine hn_goto hF dX8_voice_120 (q := 98) rfl ?_
      refine hn_sub [2, 1, 0] (L' := [(0, .ref (hn_base B + 72)), (4, .int (l4 + 1)), (5, .int v4)]) rfl ?_
      exact ih (l4 + 1) v4 μ e
set_option maxHeartbeats 1000000 in
theorem gX8_voice {Z : hn_Z} {B : hn_B} {F : Nat} {R : Int32 × hn_M} (hF : hn_F Z B (0, 0) cX8_voice 6 RX8 (some .int) 4) (hQ : hn_goal Z B (some (.int R.1), R.2)) (hV : hn_V B hn_nA) {l1 : Int32} {l2 : Int32} {μ : hn_M} (e : fX8_voice F l1 l2 μ = some R) : hn_G Z B (0, 0) 6 0 [(0, .ref (hn_base B + 72)), (1, .int l1), (2, .int l2)] [] μ := by
  unfold fX8_voice at e
  have o72 : hn_isO B 72 8 hn_k72 := hV 72 (by decide)
  refine hn_aload_n hF dX8_voice_0 (q := 1) rfl 0 rfl ?_
  refine hn_iload_n hF dX8_voice_1 (q := 2) rfl 1 rfl ?_
  refine hn_callVi (rest := []) hF ms_X8_isSaying mv_X8_isSaying lk_X8_133 o72 rfl (by decide) [.int l1] rfl (Nat.le_of_ble_eq_true rfl) dX8_voice_2 (q := 5) rfl rfl e (fun v hv => cX8_isSaying_ hV hv) (fun v5 e => ?_)
  refine hn_if_eq hF dX8_voice_5 (t := 20) (q := 8) rfl rfl e (fun e => ?_) (fun e => ?_)
  · refine hn_iconst hF dX8_voice_20 (q := 21) rfl ki_m1 ?_
    exact hn_iretM hF hQ dX8_voice_21 e
  · refine hn_iload_n hF dX8_voice_8 (q := 9) rfl 2 rfl ?_
    refine hn_i2l hF dX8_voice_9 (q := 10) rfl rfl ?_
    refine hn_lconst hF dX8_voice_10 (q := 11) rfl kl_0 ?_
    refine hn_ldc2 hF kd_X8_147 dX8_voice_11 (q := 14) rfl ?_
    refine hn_callSi (rest := []) hF ms_X8_in mt_X8_in lk_X8_79 (by decide) [.long (l2.toInt64), .long 0, .long 2] rfl (Nat.le_of_ble_eq_true rfl) dX8_voice_14 (q := 17) rfl rfl e (fun v hv => cX8_in_ hv) (fun v6 e => ?_)
    refine hn_if_ne hF dX8_voice_17 (t := 22) (q := 20) rfl rfl e (fun e => ?_) (fun e => ?_)
    · refine hn_aload_n hF dX8_voice_22 (q := 23) rfl 0 rfl ?_
      refine hn_callVm (rest := []) hF ms_X8_layTree mv_X8_layTree lk_X8_144 o72 rfl (by decide) [] rfl (Nat.le_of_ble_eq_true rfl) dX8_voice_23 (q := 26) rfl rfl e (fun v hv => cX8_layTree_ hV hv) (fun w7 e => ?_)
      refine hn_if_ne hF dX8_voice_26 (t := 32) (q := 29) rfl rfl e (fun e => ?_) (fun e => ?_)
      · refine hn_aload_n hF dX8_voice_32 (q := 33) rfl 0 rfl ?_
        refine hn_iload_n hF dX8_voice_33 (q := 34) rfl 1 rfl ?_
        refine hn_callVi (rest := []) hF ms_X8_rootOf mv_X8_rootOf lk_X8_149 o72 rfl (by decide) [.int l1] rfl (Nat.le_of_ble_eq_true rfl) dX8_voice_34 (q := 37) rfl rfl e (fun v hv => cX8_rootOf_ hV hv) (fun v8 e => ?_)
        refine hn_istore_n hF dX8_voice_37 (q := 38) rfl (i := 3) rfl (by decide) (L' := [(3, .int v8), (0, .ref (hn_base B + 72)), (1, .int l1), (2, .int l2)]) rfl ?_
        refine hn_iload_n hF dX8_voice_38 (q := 39) rfl 3 rfl ?_
        refine hn_if_ne hF dX8_voice_39 (t := 44) (q := 42) rfl rfl e (fun e => ?_) (fun e => ?_)
        · refine hn_iconst hF dX8_voice_44 (q := 45) rfl ki_0 ?_
          refine hn_istore hF dX8_voice_45 (q := 47) rfl (by decide) (L' := [(4, .int 0), (3, .int v8), (0, .ref (hn_base B + 72)), (1, .int l1), (2, .int l2)]) rfl ?_
          refine hn_iload_n hF dX8_voice_47 (q := 48) rfl 4 rfl ?_
          refine hn_iconst hF dX8_voice_48 (q := 49) rfl ki_1 ?_
          refine hn_icmp_ne hF dX8_voice_49 (t := 95) (q := 52) rfl rfl e (fun e => ?_) (fun e => ?_)
          · refine hn_iload_n hF dX8_voice_95 (q := 96) rfl 3 rfl ?_
            refine hn_istore hF dX8_voice_96 (q := 98) rfl (by decide) (L' := [(5, .int l1), (4, .int 0), (3, .int v8), (0, .ref (hn_base B + 72)), (1, .int l1), (2, .int l2)]) rfl ?_
            refine hn_sub [3, 1, 0] (L' := [(0, .ref (hn_base B + 72)), (4, .int 0), (5, .int l1)]) rfl ?_
            exact gX8_voice_98 hF hQ hV F 0 l1 w7.2 e
          · refine hn_iconst hF dX8_voice_52 (q := 53) rfl ki_0 ?_
            refine hn_istore hF dX8_voice_53 (q := 55) rfl (by decide) (L' := [(5, .int 0), (4, .int 0), (3, .int v8), (0, .ref (hn_base B + 72)), (1, .int l1), (2, .int l2)]) rfl ?_
            refine hn_sub [3, 2, 1, 0] (L' := [(0, .ref (hn_base B + 72)), (3, .int v8), (4, .int 0), (5, .int 0)]) rfl ?_
            exact gX8_voice_55 hF hQ hV F v8 0 0 w7.2 e
        · refine hn_iload_n hF dX8_voice_42 (q := 43) rfl 0 rfl ?_
          exact hn_iretM hF hQ dX8_voice_43 e
      · refine hn_bipush hF dX8_voice_29 (q := 31) rfl kb_m2 ?_
        exact hn_iretM hF hQ dX8_voice_31 e
    · refine hn_iconst hF dX8_voice_20 (q := 21) rfl ki_m1 ?_
      exact hn_iretM hF hQ dX8_voice_21 e
theorem cX8_voice_ {B : hn_B} {F : Nat} {μ : hn_M} {R : Int32 × hn_M} {l1 : Int32} {l2 : Int32} (hV : hn_V B hn_nA) (e : fX8_voice F l1 l2 μ = some R) : hn_C yX8_voice cX8_voice 6 (some .int) 4 B [.ref (hn_base B + 72), .int l1, .int l2] μ (some (.int R.1), R.2) :=
  hn_C.of RX8 (by decide) rfl (Nat.le_of_ble_eq_true rfl) (fun _ hF hQ => gX8_voice hF hQ hV e)
/-! HandNewsModel.voices(IZ)I -/
def fX8_voices_91 (F : Nat) (k24 : Int32 → Int32 → Int32 → Int32 → hn_M → Option (Int32 × hn_M)) (l1 : Int32) (l2 : Int32) (l4 : Int32) (s0 : Int32) (s1 : Int32) (μ : hn_M) : Option (Int32 × hn_M) := k24 l1 l2 (s1 + s0) (l4 + 1) μ
def fX8_voices_90 (F : Nat) (k24 : Int32 → Int32 → Int32 → Int32 → hn_M → Option (Int32 × hn_M)) (l1 : Int32) (l2 : Int32) (l4 : Int32) (s0 : Int32) (μ : hn_M) : Option (Int32 × hn_M) := fX8_voices_91 F k24 l1 l2 l4 0 s0 μ
def fX8_voices_83 (F : Nat) (k24 : Int32 → Int32 → Int32 → Int32 → hn_M → Option (Int32 × hn_M)) (l1 : Int32) (l2 : Int32) (l4 : Int32) (s0 : Int32) (s1 : Int32) (s2 : Int32) (μ : hn_M) : Option (Int32 × hn_M) := if s1 = s0 then fX8_voices_91 F k24 l1 l2 l4 1 s2 μ else fX8_voices_90 F k24 l1 l2 l4 s2 μ
def fX8_voices_24 (F : Nat) : Nat → Int32 → Int32 → Int32 → Int32 → hn_M → Option (Int32 × hn_M)
  | 0, _, _, _, _, _ => none
  | n + 1, l1, l2, l3, l4, μ => hn_rd μ 80 3 0 fun v1 => if v1 ≤ l4 then some (l3, μ) else hn_rd μ 91 30 l4 fun v2 => if 0 ≤ v2 then fX8_voices_90 F (fX8_voices_24 F n) l1 l2 l4 l3 μ else hn_rd μ 81 540 ((6 * l4) + 1) fun v3 => if v3 = l1 then hn_rd μ 81 540 ((6 * l4) + 5) fun v4 => if l2 = 0 then fX8_voices_83 F (fX8_voices_24 F n) l1 l2 l4 0 v4 l3 μ else fX8_voices_83 F (fX8_voices_24 F n) l1 l2 l4 1 v4 l3 μ else fX8_voices_90 F (fX8_voices_24 F n) l1 l2 l4 l3 μ
def fX8_voices (F : Nat) (l1 : Int32) (l2 : Int32) (μ : hn_M) : Option (Int32 × hn_M) := (fX8_isThing l1).bind fun v5 => if v5 = 0 then some ((-1), μ) else (fX8_layTree F μ).bind fun w6 => if w6.1 = 0 then some ((-2), w6.2) else fX8_voices_24 F F l1 l2 0 0 w6.2
set_option maxHeartbeats 1000000 in
theorem gX8_voices_91 {Z : hn_Z} {B : hn_B} {F : Nat} {R : Int32 × hn_M} (hF : hn_F Z B (0, 0) cX8_voices 5 RX8 (some .int) 4) (hQ : hn_goal Z B (some (.int R.1), R.2)) (hV : hn_V B hn_nA) {k24 : Int32 → Int32 → Int32 → Int32 → hn_M → Option (Int32 × hn_M)} (H24 : ∀ (l1 : Int32) (l2 : Int32) (l3 : Int32) (l4 : Int32) (μ : hn_M), k24 l1 l2 l3 l4 μ = some R → hn_G Z B (0, 0) 5 24 [(0, .ref (hn_base B + 72)), (1, .int l1), (2, .int l2), (3, .int l3), (4, .int l4)] [] μ) {l1 : Int32} {l2 : Int32} {l4 : Int32} {s0 : Int32} {s1 : Int32} {μ : hn_M} (e : fX8_voices_91 F k24 l1 l2 l4 s0 s1 μ = some R) : hn_G Z B (0, 0) 5 91 [(0, .ref (hn_base B + 72)), (1, .int l1), (2, .int l2), (4, .int l4)] [.int s0, .int s1] μ := by
  unfold fX8_voices_91 at e
  refine hn_iadd hF dX8_voices_91 (q := 92) rfl ?_
  refine hn_istore_n hF dX8_voices_92 (q := 93) rfl (i := 3) rfl (by decide) (L' := [(3, .int (s1 + s0)), (0, .ref (hn_base B + 72)), (1, .int l1), (2, .int l2), (4, .int l4)]) rfl ?_
  refine hn_iinc (p := 4) hF dX8_voices_93 (q := 96) rfl rfl (kn_1 _) (by decide) (L' := [(4, .int (l4 + 1)), (3, .int (s1 + s0)), (0, .ref (hn_base B + 72)), (1, .int l1), (2, .int l2)]) rfl ?_
  refine hn_goto hF dX8_voices_96 (q := 24) rfl ?_
  refine hn_sub [2, 3, 4, 1, 0] (L' := [(0, .ref (hn_base B + 72)), (1, .int l1), (2, .int l2), (3, .int (s1 + s0)), (4, .int (l4 + 1))]) rfl ?_
  exact H24 l1 l2 (s1 + s0) (l4 + 1) μ e
set_option maxHeartbeats 1000000 in
theorem gX8_voices_90 {Z : hn_Z} {B : hn_B} {F : Nat} {R : Int32 × hn_M} (hF : hn_F Z B (0, 0) cX8_voices 5 RX8 (some .int) 4) (hQ : hn_goal Z B (some (.int R.1), R.2)) (hV : hn_V B hn_nA) {k24 : Int32 → Int32 → Int32 → Int32 → hn_M → Option (Int32 × hn_M)} (H24 : ∀ (l1 : Int32) (l2 : Int32) (l3 : Int32) (l4 : Int32) (μ : hn_M), k24 l1 l2 l3 l4 μ = some R → hn_G Z B (0, 0) 5 24 [(0, .ref (hn_base B + 72)), (1, .int l1), (2, .int l2), (3, .int l3), (4, .int l4)] [] μ) {l1 : Int32} {l2 : Int32} {l4 : Int32} {s0 : Int32} {μ : hn_M} (e : fX8_voices_90 F k24 l1 l2 l4 s0 μ = some R) : hn_G Z B (0, 0) 5 90 [(0, .ref (hn_base B + 72)), (1, .int l1), (2, .int l2), (4, .int l4)] [.int s0] μ := by
  unfold fX8_voices_90 at e
  refine hn_iconst hF dX8_voices_90 (q := 91) rfl ki_0 ?_
  exact gX8_voices_91 hF hQ hV H24 e
set_option maxHeartbeats 1000000 in
theorem gX8_voices_83 {Z : hn_Z} {B : hn_B} {F : Nat} {R : Int32 × hn_M} (hF : hn_F Z B (0, 0) cX8_voices 5 RX8 (some .int) 4) (hQ : hn_goal Z B (some (.int R.1), R.2)) (hV : hn_V B hn_nA) {k24 : Int32 → Int32 → Int32 → Int32 → hn_M → Option (Int32 × hn_M)} (H24 : ∀ (l1 : Int32) (l2 : Int32) (l3 : Int32) (l4 : Int32) (μ : hn_M), k24 l1 l2 l3 l4 μ = some R → hn_G Z B (0, 0) 5 24 [(0, .ref (hn_base B + 72)), (1, .int l1), (2, .int l2), (3, .int l3), (4, .int l4)] [] μ) {l1 : Int32} {l2 : Int32} {l4 : Int32} {s0 : Int32} {s1 : Int32} {s2 : Int32} {μ : hn_M} (e : fX8_voices_83 F k24 l1 l2 l4 s0 s1 s2 μ = some R) : hn_G Z B (0, 0) 5 83 [(0, .ref (hn_base B + 72)), (1, .int l1), (2, .int l2), (4, .int l4)] [.int s0, .int s1, .int s2] μ := by
  unfold fX8_voices_83 at e
  refine hn_icmp_ne hF dX8_voices_83 (t := 90) (q := 86) rfl rfl e (fun e => ?_) (fun e => ?_)
  · exact gX8_voices_90 hF hQ hV H24 e
  · refine hn_iconst hF dX8_voices_86 (q := 87) rfl ki_1 ?_
    refine hn_goto hF dX8_voices_87 (q := 91) rfl ?_
    exact gX8_voices_91 hF hQ hV H24 e
set_option maxHeartbeats 1000000 in
theorem gX8_voices_24 {Z : hn_Z} {B : hn_B} {F : Nat} {R : Int32 × hn_M} (hF : hn_F Z B (0, 0) cX8_voices 5 RX8 (some .int) 4) (hQ : hn_goal Z B (some (.int R.1), R.2)) (hV : hn_V B hn_nA) : ∀ (n : Nat) (l1 : Int32) (l2 : Int32) (l3 : Int32) (l4 : Int32) (μ : hn_M), fX8_voices_24 F n l1 l2 l3 l4 μ = some R → hn_G Z B (0, 0) 5 24 [(0, .ref (hn_base B + 72)), (1, .int l1), (2, .int l2), (3, .int l3), (4, .int l4)] [] μ := by
  have a80 : hn_isA B 80 false 3 := hV 80 (by decide)
  have a81 : hn_isA B 81 false 540 := hV 81 (by decide)
  have a91 : hn_isA B 91 false 30 := hV 91 (by decide)
  have o72 : hn_isO B 72 8 hn_k72 := hV 72 (by decide)
  intro n
  induction n with
  | zero => intro l1 l2 l3 l4 μ e; rw [fX8_voices_24] at e; cases e
  | succ n ih =>
    intro l1 l2 l3 l4 μ e
    rw [fX8_voices_24] at e
    refine hn_iload hF dX8_voices_24 (q := 26) rfl 4 rfl ?_
    refine hn_aload_n hF dX8_voices_26 (q := 27) rfl 0 rfl ?_
    refine hn_get hF fl_X8_31 o72 rfl rfl dX8_voices_27 (q := 30) rfl ?_
    refine hn_iconst hF dX8_voices_30 (q := 31) rfl ki_0 ?_
    refine hn_ald hF a80 dX8_voices_31 (q := 32) rfl e (fun v1 e => ?_)
    refine hn_icmp_ge hF dX8_voices_32 (t := 99) (q := 35) rfl rfl e (fun e => ?_) (fun e => ?_)
    · refine hn_iload_n hF dX8_voices_99 (q := 100) rfl 3 rfl ?_
      exact hn_iretM hF hQ dX8_voices_100 e
    · refine hn_iload_n hF dX8_voices_35 (q := 36) rfl 3 rfl ?_
      refine hn_aload_n hF dX8_voices_36 (q := 37) rfl 0 rfl ?_
      refine hn_get hF fl_X8_68 o72 rfl rfl dX8_voices_37 (q := 40) rfl ?_
      refine hn_iload hF dX8_voices_40 (q := 42) rfl 4 rfl ?_
      refine hn_ald hF a91 dX8_voices_42 (q := 43) rfl e (fun v2 e => ?_)
      refine hn_if_ge hF dX8_voices_43 (t := 90) (q := 46) rfl rfl e (fun e => ?_) (fun e => ?_)
      · refine hn_sub [0, 1, 2, 4] (L' := [(0, .ref (hn_base B + 72)), (1, .int l1), (2, .int l2), (4, .int l4)]) rfl ?_
        exact gX8_voices_90 hF hQ hV ih e
      · refine hn_aload_n hF dX8_voices_46 (q := 47) rfl 0 rfl ?_
        refine hn_get hF fl_X8_34 o72 rfl rfl dX8_voices_47 (q := 50) rfl ?_
        refine hn_bipush hF dX8_voices_50 (q := 52) rfl kb_6 ?_
        refine hn_iload hF dX8_voices_52 (q := 54) rfl 4 rfl ?_
        refine hn_imul hF dX8_voices_54 (q := 55) rfl ?_
        refine hn_iconst hF dX8_voices_55 (q := 56) rfl ki_1 ?_
        refine hn_iadd hF dX8_voices_56 (q := 57) rfl ?_
        refine hn_ald hF a81 dX8_voices_57 (q := 58) rfl e (fun v3 e => ?_)
        refine hn_iload_n hF dX8_voices_58 (q := 59) rfl 1 rfl ?_
        refine hn_icmp_ne hF dX8_voices_59 (t := 90) (q := 62) rfl rfl e (fun e => ?_) (fun e => ?_)
        · refine hn_sub [0, 1, 2, 4] (L' := [(0, .ref (hn_base B + 72)), (1, .int l1), (2, .int l2), (4, .int l4)]) rfl ?_
          exact gX8_voices_90 hF hQ hV ih e
        · refine hn_aload_n hF dX8_voices_62 (q := 63) rfl 0 rfl ?_
          refine hn_get hF fl_X8_34 o72 rfl rfl dX8_voices_63 (q := 66) rfl ?_
          refine hn_bipush hF dX8_voices_66 (q := 68) rfl kb_6 ?_
          refine hn_iload hF dX8_voices_68 (q := 70) rfl 4 rfl ?_
          refine hn_imul hF dX8_voices_70 (q := 71) rfl ?_
          refine hn_iconst hF dX8_voices_71 (q := 72) rfl ki_5 ?_
          refine hn_iadd hF dX8_voices_72 (q := 73) rfl ?_
          refine hn_ald hF a81 dX8_voices_73 (q := 74) rfl e (fun v4 e => ?_)
          refine hn_iload_n hF dX8_voices_74 (q := 75) rfl 2 rfl ?_
          refine hn_if_eq hF dX8_voices_75 (t := 82) (q := 78) rfl rfl e (fun e => ?_) (fun e => ?_)
          · refine hn_iconst hF dX8_voices_82 (q := 83) rfl ki_0 ?_
            refine hn_sub [0, 1, 2, 4] (L' := [(0, .ref (hn_base B + 72)), (1, .int l1), (2, .int l2), (4, .int l4)]) rfl ?_
            exact gX8_voices_83 hF hQ hV ih e
          · refine hn_iconst hF dX8_voices_78 (q := 79) rfl ki_1 ?_
            refine hn_goto hF dX8_voices_79 (q := 83) rfl ?_
            refine hn_sub [0, 1, 2, 4] (L' := [(0, .ref (hn_base B + 72)), (1, .int l1), (2, .int l2), (4, .int l4)]) rfl ?_
            exact gX8_voices_83 hF hQ hV ih e
set_option maxHeartbeats 1000000 in
theorem gX8_voices {Z : hn_Z} {B : hn_B} {F : Nat} {R : Int32 × hn_M} (hF : hn_F Z B (0, 0) cX8_voices 5 RX8 (some .int) 4) (hQ : hn_goal Z B (some (.int R.1), R.2)) (hV : hn_V B hn_nA) {l1 : Int32} {l2 : Int32} {μ : hn_M} (e : fX8_voices F l1 l2 μ = some R) : hn_G Z B (0, 0) 5 0 [(0, .ref (hn_base B + 72)), (1, .int l1), (2, .int l2)] [] μ := by
  unfold fX8_voices at e
  have o72 : hn_isO B 72 8 hn_k72 := hV 72 (by decide)
  refine hn_iload_n hF dX8_voices_0 (q := 1) rfl 1 rfl ?_
  refine hn_callSi (rest := []) hF ms_X8_isThing mt_X8_isThing lk_X8_104 (by decide) [.int l1] rfl (Nat.le_of_ble_eq_true rfl) dX8_voices_1 (q := 4) rfl rfl e (fun v hv => cX8_isThing_ hv) (fun v5 e => ?_)
  refine hn_if_ne hF dX8_voices_4 (t := 9) (q := 7) rfl rfl e (fun e => ?_) (fun e => ?_)
  · refine hn_aload_n hF dX8_voices_9 (q := 10) rfl 0 rfl ?_
    refine hn_callVm (rest := []) hF ms_X8_layTree mv_X8_layTree lk_X8_144 o72 rfl (by decide) [] rfl (Nat.le_of_ble_eq_true rfl) dX8_voices_10 (q := 13) rfl rfl e (fun v hv => cX8_layTree_ hV hv) (fun w6 e => ?_)
    refine hn_if_ne hF dX8_voices_13 (t := 19) (q := 16) rfl rfl e (fun e => ?_) (fun e => ?_)
    · refine hn_iconst hF dX8_voices_19 (q := 20) rfl ki_0 ?_
      refine hn_istore_n hF dX8_voices_20 (q := 21) rfl (i := 3) rfl (by decide) (L' := [(3, .int 0), (0, .ref (hn_base B + 72)), (1, .int l1), (2, .int l2)]) rfl ?_
      refine hn_iconst hF dX8_voices_21 (q := 22) rfl ki_0 ?_
      refine hn_istore hF dX8_voices_22 (q := 24) rfl (by decide) (L' := [(4, .int 0), (3, .int 0), (0, .ref (hn_base B + 72)), (1, .int l1), (2, .int l2)]) rfl ?_
      refine hn_sub [2, 3, 4, 1, 0] (L' := [(0, .ref (hn_base B + 72)), (1, .int l1), (2, .int l2), (3, .int 0), (4, .int 0)]) rfl ?_
      exact gX8_voices_24 hF hQ hV F l1 l2 0 0 w6.2 e
    · refine hn_bipush hF dX8_voices_16 (q := 18) rfl kb_m2 ?_
      exact hn_iretM hF hQ dX8_voices_18 e
  · refine hn_iconst hF dX8_voices_7 (q := 8) rfl ki_m1 ?_
    exact hn_iretM hF hQ dX8_voices_8 e
theorem cX8_voices_ {B : hn_B} {F : Nat} {μ : hn_M} {R : Int32 × hn_M} {l1 : Int32} {l2 : Int32} (hV : hn_V B hn_nA) (e : fX8_voices F l1 l2 μ = some R) : hn_C yX8_voices cX8_voices 5 (some .int) 4 B [.ref (hn_base B + 72), .int l1, .int l2] μ (some (.int R.1), R.2) :=
  hn_C.of RX8 (by decide) rfl (Nat.le_of_ble_eq_true rfl) (fun _ hF hQ => gX8_voices hF hQ hV e)
/-! HandNewsModel.grewOf(I)I -/
def fX8_grewOf (μ : hn_M) (l1 : Int32) : Option Int32 := hn_rd μ 91 30 l1 fun v1 => if 0 ≤ v1 then hn_rd μ 81 540 ((6 * l1) + 2) fun v2 => hn_rd μ 91 30 l1 fun v3 => hn_rd μ 81 540 ((6 * v3) + 2) fun v4 => some (v2 - v4) else some 0
set_option maxHeartbeats 1000000 in
theorem gX8_grewOf {Z : hn_Z} {B : hn_B} {μ : hn_M} {R : Int32} (hF : hn_F Z B (0, 0) cX8_grewOf 2 RX8 (some .int) 0) (hQ : hn_goal Z B (some (.int R), μ)) (hV : hn_V B hn_nA) {l1 : Int32} (e : fX8_grewOf μ l1 = some R) : hn_G Z B (0, 0) 2 0 [(0, .ref (hn_base B + 72)), (1, .int l1)] [] μ := by
  unfold fX8_grewOf at e
  have a81 : hn_isA B 81 false 540 := hV 81 (by decide)
  have a91 : hn_isA B 91 false 30 := hV 91 (by decide)
  have o72 : hn_isO B 72 8 hn_k72 := hV 72 (by decide)
  refine hn_aload_n hF dX8_grewOf_0 (q := 1) rfl 0 rfl ?_
  refine hn_get hF fl_X8_68 o72 rfl rfl dX8_grewOf_1 (q := 4) rfl ?_
  refine hn_iload_n hF dX8_grewOf_4 (q := 5) rfl 1 rfl ?_
  refine hn_ald hF a91 dX8_grewOf_5 (q := 6) rfl e (fun v1 e => ?_)
  refine hn_if_ge hF dX8_grewOf_6 (t := 13) (q := 9) rfl rfl e (fun e => ?_) (fun e => ?_)
  · refine hn_aload_n hF dX8_grewOf_13 (q := 14) rfl 0 rfl ?_
    refine hn_get hF fl_X8_34 o72 rfl rfl dX8_grewOf_14 (q := 17) rfl ?_
    refine hn_bipush hF dX8_grewOf_17 (q := 19) rfl kb_6 ?_
    refine hn_iload_n hF dX8_grewOf_19 (q := 20) rfl 1 rfl ?_
    refine hn_imul hF dX8_grewOf_20 (q := 21) rfl ?_
    refine hn_iconst hF dX8_grewOf_21 (q := 22) rfl ki_2 ?_
    refine hn_iadd hF dX8_grewOf_22 (q := 23) rfl ?_
    refine hn_ald hF a81 dX8_grewOf_23 (q := 24) rfl e (fun v2 e => ?_)
    refine hn_aload_n hF dX8_grewOf_24 (q := 25) rfl 0 rfl ?_
    refine hn_get hF fl_X8_34 o72 rfl rfl dX8_grewOf_25 (q := 28) rfl ?_
    refine hn_bipush hF dX8_grewOf_28 (q := 30) rfl kb_6 ?_
    refine hn_aload_n hF dX8_grewOf_30 (q := 31) rfl 0 rfl ?_
    refine hn_get hF fl_X8_68 o72 rfl rfl dX8_grewOf_31 (q := 34) rfl ?_
    refine hn_iload_n hF dX8_grewOf_34 (q := 35) rfl 1 rfl ?_
    refine hn_ald hF a91 dX8_grewOf_35 (q := 36) rfl e (fun v3 e => ?_)
    refine hn_imul hF dX8_grewOf_36 (q := 37) rfl ?_
    refine hn_iconst hF dX8_grewOf_37 (q := 38) rfl ki_2 ?_
    refine hn_iadd hF dX8_grewOf_38 (q := 39) rfl ?_
    refine hn_ald hF a81 dX8_grewOf_39 (q := 40) rfl e (fun v4 e => ?_)
    refine hn_isub hF dX8_grewOf_40 (q := 41) rfl ?_
    exact hn_iretP hF hQ dX8_grewOf_41 e
  · refine hn_iconst hF dX8_grewOf_9 (q := 10) rfl ki_0 ?_
    refine hn_goto hF dX8_grewOf_10 (q := 41) rfl ?_
    exact hn_iretP hF hQ dX8_grewOf_41 e
theorem cX8_grewOf_ {B : hn_B} {μ : hn_M} {R : Int32} {l1 : Int32} (hV : hn_V B hn_nA) (e : fX8_grewOf μ l1 = some R) : hn_C yX8_grewOf cX8_grewOf 2 (some .int) 0 B [.ref (hn_base B + 72), .int l1] μ (some (.int R), μ) :=
  hn_C.of RX8 (by decide) rfl (Nat.le_of_ble_eq_true rfl) (fun _ hF hQ => gX8_grewOf hF hQ hV e)
/-! HandNewsModel.grew(I)I -/
def fX8_grew (F : Nat) (l1 : Int32) (μ : hn_M) : Option (Int32 × hn_M) := (fX8_isSaying μ l1).bind fun v1 => if v1 = 0 then some ((-100000), μ) else (fX8_layTree F μ).bind fun w2 => if w2.1 = 0 then some ((-100002), w2.2) else (fX8_grewOf w2.2 l1).bind fun v3 => some (v3, w2.2)
set_option maxHeartbeats 1000000 in
theorem gX8_grew {Z : hn_Z} {B : hn_B} {F : Nat} {R : Int32 × hn_M} (hF : hn_F Z B (0, 0) cX8_grew 2 RX8 (some .int) 4) (hQ : hn_goal Z B (some (.int R.1), R.2)) (hV : hn_V B hn_nA) {l1 : Int32} {μ : hn_M} (e : fX8_grew F l1 μ = some R) : hn_G Z B (0, 0) 2 0 [(0, .ref (hn_base B + 72)), (1, .int l1)] [] μ := by
  unfold fX8_grew at e
  have o72 : hn_isO B 72 8 hn_k72 := hV 72 (by decide)
  refine hn_aload_n hF dX8_grew_0 (q := 1) rfl 0 rfl ?_
  refine hn_iload_n hF dX8_grew_1 (q := 2) rfl 1 rfl ?_
  refine hn_callVi (rest := []) hF ms_X8_isSaying mv_X8_isSaying lk_X8_133 o72 rfl (by decide) [.int l1] rfl (Nat.le_of_ble_eq_true rfl) dX8_grew_2 (q := 5) rfl rfl e (fun v hv => cX8_isSaying_ hV hv) (fun v1 e => ?_)
  refine hn_if_ne hF dX8_grew_5 (t := 11) (q := 8) rfl rfl e (fun e => ?_) (fun e => ?_)
  · refine hn_aload_n hF dX8_grew_11 (q := 12) rfl 0 rfl ?_
    refine hn_callVm (rest := []) hF ms_X8_layTree mv_X8_layTree lk_X8_144 o72 rfl (by decide) [] rfl (Nat.le_of_ble_eq_true rfl) dX8_grew_12 (q := 15) rfl rfl e (fun v hv => cX8_layTree_ hV hv) (fun w2 e => ?_)
    refine hn_if_eq hF dX8_grew_15 (t := 26) (q := 18) rfl rfl e (fun e => ?_) (fun e => ?_)
    · refine hn_ldc hF kd_X8_157 dX8_grew_26 (q := 28) rfl ?_
      exact hn_iretM hF hQ dX8_grew_28 e
    · refine hn_aload_n hF dX8_grew_18 (q := 19) rfl 0 rfl ?_
      refine hn_iload_n hF dX8_grew_19 (q := 20) rfl 1 rfl ?_
      refine hn_callVi (rest := []) hF ms_X8_grewOf mv_X8_grewOf lk_X8_154 o72 rfl (by decide) [.int l1] rfl (Nat.le_of_ble_eq_true rfl) dX8_grew_20 (q := 23) rfl rfl e (fun v hv => cX8_grewOf_ hV hv) (fun v3 e => ?_)
      refine hn_goto hF dX8_grew_23 (q := 28) rfl ?_
      exact hn_iretM hF hQ dX8_grew_28 e
  · refine hn_ldc hF kd_X8_153 dX8_grew_8 (q := 10) rfl ?_
    exact hn_iretM hF hQ dX8_grew_10 e
theorem cX8_grew_ {B : hn_B} {F : Nat} {μ : hn_M} {R : Int32 × hn_M} {l1 : Int32} (hV : hn_V B hn_nA) (e : fX8_grew F l1 μ = some R) : hn_C yX8_grew cX8_grew 2 (some .int) 4 B [.ref (hn_base B + 72), .int l1] μ (some (.int R.1), R.2) :=
  hn_C.of RX8 (by decide) rfl (Nat.le_of_ble_eq_true rfl) (fun _ hF hQ => gX8_grew hF hQ hV e)
/-! HandNewsModel.writerOf(I)I -/
def fX8_writerOf (μ : hn_M) (l1 : Int32) : Option Int32 := hn_rd μ 81 540 (6 * l1) fun v1 => hn_rd μ 77 108 ((3 * v1) + 1) fun v2 => some v2
set_option maxHeartbeats 1000000 in
theorem gX8_writerOf {Z : hn_Z} {B : hn_B} {μ : hn_M} {R : Int32} (hF : hn_F Z B (0, 0) cX8_writerOf 2 RX8 (some .int) 0) (hQ : hn_goal Z B (some (.int R), μ)) (hV : hn_V B hn_nA) {l1 : Int32} (e : fX8_writerOf μ l1 = some R) : hn_G Z B (0, 0) 2 0 [(0, .ref (hn_base B + 72)), (1, .int l1)] [] μ := by
  unfold fX8_writerOf at e
  have a77 : hn_isA B 77 false 108 := hV 77 (by decide)
  have a81 : hn_isA B 81 false 540 := hV 81 (by decide)
  have o72 : hn_isO B 72 8 hn_k72 := hV 72 (by decide)
  refine hn_aload_n hF dX8_writerOf_0 (q := 1) rfl 0 rfl ?_
  refine hn_get hF fl_X8_22 o72 rfl rfl dX8_writerOf_1 (q := 4) rfl ?_
  refine hn_iconst hF dX8_writerOf_4 (q := 5) rfl ki_3 ?_
  refine hn_aload_n hF dX8_writerOf_5 (q := 6) rfl 0 rfl ?_
  refine hn_get hF fl_X8_34 o72 rfl rfl dX8_writerOf_6 (q := 9) rfl ?_
  refine hn_bipush hF dX8_writerOf_9 (q := 11) rfl kb_6 ?_
  refine hn_iload_n hF dX8_writerOf_11 (q := 12) rfl 1 rfl ?_
  refine hn_imul hF dX8_writerOf_12 (q := 13) rfl ?_
  refine hn_ald hF a81 dX8_writerOf_13 (q := 14) rfl e (fun v1 e => ?_)
  refine hn_imul hF dX8_writerOf_14 (q := 15) rfl ?_
  refine hn_iconst hF dX8_writerOf_15 (q := 16) rfl ki_1 ?_
  refine hn_iadd hF dX8_writerOf_16 (q := 17) rfl ?_
  refine hn_ald hF a77 dX8_writerOf_17 (q := 18) rfl e (fun v2 e => ?_)
  exact hn_iretP hF hQ dX8_writerOf_18 e
theorem cX8_writerOf_ {B : hn_B} {μ : hn_M} {R : Int32} {l1 : Int32} (hV : hn_V B hn_nA) (e : fX8_writerOf μ l1 = some R) : hn_C yX8_writerOf cX8_writerOf 2 (some .int) 0 B [.ref (hn_base B + 72), .int l1] μ (some (.int R), μ) :=
  hn_C.of RX8 (by decide) rfl (Nat.le_of_ble_eq_true rfl) (fun _ hF hQ => gX8_writerOf hF hQ hV e)
/-! HandNewsModel.habit(I)I -/
def fX8_habit_58 (F : Nat) (k29 : Int32 → Int32 → Int32 → hn_M → Option (Int32 × hn_M)) (l1 : Int32) (l3 : Int32) (s0 : Int32) (s1 : Int32) (μ : hn_M) : Option (Int32 × hn_M) := k29 l1 (s1 + s0) (l3 + 1) μ
def fX8_habit_29 (F : Nat) : Nat → Int32 → Int32 → Int32 → hn_M → Option (Int32 × hn_M)
  | 0, _, _, _, _ => none
  | n + 1, l1, l2, l3, μ => hn_rd μ 80 3 0 fun v1 => if v1 ≤ l3 then some (l2, μ) else (fX8_writerOf μ l3).bind fun v2 => if v2 = l1 then (fX8_grewOf μ l3).bind fun v3 => fX8_habit_58 F (fX8_habit_29 F n) l1 l3 v3 l2 μ else fX8_habit_58 F (fX8_habit_29 F n) l1 l3 0 l2 μ
def fX8_habit (F : Nat) (l1 : Int32) (μ : hn_M) : Option (Int32 × hn_M) := (fX8_in l1.toInt64 0 7).bind fun v4 => if v4 = 0 then some ((-1000000), μ) else (fX8_layTree F μ).bind fun w5 => if w5.1 = 0 then some ((-1000002), w5.2) else fX8_habit_29 F F l1 0 0 w5.2
set_option maxHeartbeats 1000000 in
theorem gX8_habit_58 {Z : hn_Z} {B : hn_B} {F : Nat} {R : Int32 × hn_M} (hF : hn_F Z B (0, 0) cX8_habit 4 RX8 (some .int) 4) (hQ : hn_goal Z B (some (.int R.1), R.2)) (hV : hn_V B hn_nA) {k29 : Int32 → Int32 → Int32 → hn_M → Option (Int32 × hn_M)} (H29 : ∀ (l1 : Int32) (l2 : Int32) (l3 : Int32) (μ : hn_M), k29 l1 l2 l3 μ = some R → hn_G Z B (0, 0) 4 29 [(0, .ref (hn_base B + 72)), (1, .int l1), (2, .int l2), (3, .int l3)] [] μ) {l1 : Int32} {l3 : Int32} {s0 : Int32} {s1 : Int32} {μ : hn_M} (e : fX8_habit_58 F k29 l1 l3 s0 s1 μ = some R) : hn_G Z B (0, 0) 4 58 [(0, .ref (hn_base B + 72)), (1, .int l1), (3, .int l3)] [.int s0, .int s1] μ := by
  unfold fX8_habit_58 at e
  refine hn_iadd hF dX8_habit_58 (q := 59) rfl ?_
  refine hn_istore_n hF dX8_habit_59 (q := 60) rfl (i := 2) rfl (by decide) (L' := [(2, .int (s1 + s0)), (0, .ref (hn_base B + 72)), (1, .int l1), (3, .int l3)]) rfl ?_
  refine hn_iinc (p := 3) hF dX8_habit_60 (q := 63) rfl rfl (kn_1 _) (by decide) (L' := [(3, .int (l3 + 1)), (2, .int (s1 + s0)), (0, .ref (hn_base B + 72)), (1, .int l1)]) rfl ?_
  refine hn_goto hF dX8_habit_63 (q := 29) rfl ?_
  refine hn_sub [2, 3, 1, 0] (L' := [(0, .ref (hn_base B + 72)), (1, .int l1), (2, .int (s1 + s0)), (3, .int (l3 + 1))]) rfl ?_
  exact H29 l1 (s1 + s0) (l3 + 1) μ e
set_option maxHeartbeats 1000000 in
theorem gX8_habit_29 {Z : hn_Z} {B : hn_B} {F : Nat} {R : Int32 × hn_M} (hF : hn_F Z B (0, 0) cX8_habit 4 RX8 (some .int) 4) (hQ : hn_goal Z B (some (.int R.1), R.2)) (hV : hn_V B hn_nA) : ∀ (n : Nat) (l1 : Int32) (l2 : Int32) (l3 : Int32) (μ : hn_M), fX8_habit_29 F n l1 l2 l3 μ = some R → hn_G Z B (0, 0) 4 29 [(0, .ref (hn_base B + 72)), (1, .int l1), (2, .int l2), (3, .int l3)] [] μ := by
  have a80 : hn_isA B 80 false 3 := hV 80 (by decide)
  have o72 : hn_isO B 72 8 hn_k72 := hV 72 (by decide)
  intro n
  induction n with
  | zero => intro l1 l2 l3 μ e; rw [fX8_habit_29] at e; cases e
  | succ n ih =>
    intro l1 l2 l3 μ e
    rw [fX8_habit_29] at e
    refine hn_iload_n hF dX8_habit_29 (q := 30) rfl 3 rfl ?_
    refine hn_aload_n hF dX8_habit_30 (q := 31) rfl 0 rfl ?_
    refine hn_get hF fl_X8_31 o72 rfl rfl dX8_habit_31 (q := 34) rfl ?_
    refine hn_iconst hF dX8_habit_34 (q := 35) rfl ki_0 ?_
    refine hn_ald hF a80 dX8_habit_35 (q := 36) rfl e (fun v1 e => ?_)
    refine hn_icmp_ge hF dX8_habit_36 (t := 66) (q := 39) rfl rfl e (fun e => ?_) (fun e => ?_)
    · refine hn_iload_n hF dX8_habit_66 (q := 67) rfl 2 rfl ?_
      exact hn_iretM hF hQ dX8_habit_67 e
    · refine hn_iload_n hF dX8_habit_39 (q := 40) rfl 2 rfl ?_
      refine hn_aload_n hF dX8_habit_40 (q := 41) rfl 0 rfl ?_
      refine hn_iload_n hF dX8_habit_41 (q := 42) rfl 3 rfl ?_
      refine hn_callVi (rest := [.int l2]) hF ms_X8_writerOf mv_X8_writerOf lk_X8_160 o72 rfl (by decide) [.int l3] rfl (Nat.le_of_ble_eq_true rfl) dX8_habit_42 (q := 45) rfl rfl e (fun v hv => cX8_writerOf_ hV hv) (fun v2 e => ?_)
      refine hn_iload_n hF dX8_habit_45 (q := 46) rfl 1 rfl ?_
      refine hn_icmp_ne hF dX8_habit_46 (t := 57) (q := 49) rfl rfl e (fun e => ?_) (fun e => ?_)
      · refine hn_iconst hF dX8_habit_57 (q := 58) rfl ki_0 ?_
        refine hn_sub [0, 1, 3] (L' := [(0, .ref (hn_base B + 72)), (1, .int l1), (3, .int l3)]) rfl ?_
        exact gX8_habit_58 hF hQ hV ih e
      · refine hn_aload_n hF dX8_habit_49 (q := 50) rfl 0 rfl ?_
        refine hn_iload_n hF dX8_habit_50 (q := 51) rfl 3 rfl ?_
        refine hn_callVi (rest := [.int l2]) hF ms_X8_grewOf mv_X8_grewOf lk_X8_154 o72 rfl (by decide) [.int l3] rfl (Nat.le_of_ble_eq_true rfl) dX8_habit_51 (q := 54) rfl rfl e (fun v hv => cX8_grewOf_ hV hv) (fun v3 e => ?_)
        refine hn_goto hF dX8_habit_54 (q := 58) rfl ?_
        refine hn_sub [0, 1, 3] (L' := [(0, .ref (hn_base B + 72)), (1, .int l1), (3, .int l3)]) rfl ?_
        exact gX8_habit_58 hF hQ hV ih e
set_option maxHeartbeats 1000000 in
theorem gX8_habit {Z : hn_Z} {B : hn_B} {F : Nat} {R : Int32 × hn_M} (hF : hn_F Z B (0, 0) cX8_habit 4 RX8 (some .int) 4) (hQ : hn_goal Z B (some (.int R.1), R.2)) (hV : hn_V B hn_nA) {l1 : Int32} {μ : hn_M} (e : fX8_habit F l1 μ = some R) : hn_G Z B (0, 0) 4 0 [(0, .ref (hn_base B + 72)), (1, .int l1)] [] μ := by
  unfold fX8_habit at e
  have o72 : hn_isO B 72 8 hn_k72 := hV 72 (by decide)
  refine hn_iload_n hF dX8_habit_0 (q := 1) rfl 1 rfl ?_
  refine hn_i2l hF dX8_habit_1 (q := 2) rfl rfl ?_
  refine hn_lconst hF dX8_habit_2 (q := 3) rfl kl_0 ?_
  refine hn_ldc2 hF kd_X8_93 dX8_habit_3 (q := 6) rfl ?_
  refine hn_callSi (rest := []) hF ms_X8_in mt_X8_in lk_X8_79 (by decide) [.long (l1.toInt64), .long 0, .long 7] rfl (Nat.le_of_ble_eq_true rfl) dX8_habit_6 (q := 9) rfl rfl e (fun v hv => cX8_in_ hv) (fun v4 e => ?_)
  refine hn_if_ne hF dX8_habit_9 (t := 15) (q := 12) rfl rfl e (fun e => ?_) (fun e => ?_)
  · refine hn_aload_n hF dX8_habit_15 (q := 16) rfl 0 rfl ?_
    refine hn_callVm (rest := []) hF ms_X8_layTree mv_X8_layTree lk_X8_144 o72 rfl (by decide) [] rfl (Nat.le_of_ble_eq_true rfl) dX8_habit_16 (q := 19) rfl rfl e (fun v hv => cX8_layTree_ hV hv) (fun w5 e => ?_)
    refine hn_if_ne hF dX8_habit_19 (t := 25) (q := 22) rfl rfl e (fun e => ?_) (fun e => ?_)
    · refine hn_iconst hF dX8_habit_25 (q := 26) rfl ki_0 ?_
      refine hn_istore_n hF dX8_habit_26 (q := 27) rfl (i := 2) rfl (by decide) (L' := [(2, .int 0), (0, .ref (hn_base B + 72)), (1, .int l1)]) rfl ?_
      refine hn_iconst hF dX8_habit_27 (q := 28) rfl ki_0 ?_
      refine hn_istore_n hF dX8_habit_28 (q := 29) rfl (i := 3) rfl (by decide) (L' := [(3, .int 0), (2, .int 0), (0, .ref (hn_base B + 72)), (1, .int l1)]) rfl ?_
      refine hn_sub [2, 3, 1, 0] (L' := [(0, .ref (hn_base B + 72)), (1, .int l1), (2, .int 0), (3, .int 0)]) rfl ?_
      exact gX8_habit_29 hF hQ hV F l1 0 0 w5.2 e
    · refine hn_ldc hF kd_X8_159 dX8_habit_22 (q := 24) rfl ?_
      exact hn_iretM hF hQ dX8_habit_24 e
  · refine hn_ldc hF kd_X8_158 dX8_habit_12 (q := 14) rfl ?_
    exact hn_iretM hF hQ dX8_habit_14 e
theorem cX8_habit_ {B : hn_B} {F : Nat} {μ : hn_M} {R : Int32 × hn_M} {l1 : Int32} (hV : hn_V B hn_nA) (e : fX8_habit F l1 μ = some R) : hn_C yX8_habit cX8_habit 4 (some .int) 4 B [.ref (hn_base B + 72), .int l1] μ (some (.int R.1), R.2) :=
  hn_C.of RX8 (by decide) rfl (Nat.le_of_ble_eq_true rfl) (fun _ hF hQ => gX8_habit hF hQ hV e)
/-! HandNewsModel.write(IJ)I -/
def fX8_write_34 (F : Nat) : Nat → Int64 → Int32 → hn_M → Option (Int32 × hn_M)
  | 0, _, _, _ => none
  | n + 1, l2, l4, μ => if l4 < 0 then some (μ 72 14, μ) else hn_wr μ 84 200 (μ 72 14) (((l2 >>> ((8 * l4).toInt64 &&& 63)) &&& 255).toInt32) fun μ1 => hn_pf μ1 72 14 ((μ1 72 14) + 1) fun μ2 => fX8_write_34 F n l2 (l4 + (-1)) μ2
def fX8_write (F : Nat) (l1 : Int32) (l2 : Int64) (μ : hn_M) : Option (Int32 × hn_M) := (fX8_in l1.toInt64 1 8).bind fun v3 => if v3 = 0 then some ((-1), μ) else if (μ 72 14) + l1 ≤ 200 then fX8_write_34 F F l2 (l1 - 1) μ else some ((-3), μ)
set_option maxHeartbeats 1000000 in
theorem gX8_write_34 {Z : hn_Z} {B : hn_B} {F : Nat} {R : Int32 × hn_M} (hF : hn_F Z B (0, 0) cX8_write 5 RX8 (some .int) 1) (hQ : hn_goal Z B (some (.int R.1), R.2)) (hV : hn_V B hn_nA) : ∀ (n : Nat) (l2 : Int64) (l4 : Int32) (μ : hn_M), fX8_write_34 F n l2 l4 μ = some R → hn_G Z B (0, 0) 5 34 [(0, .ref (hn_base B + 72)), (2, .long l2), (4, .int l4)] [] μ := by
  have a84 : hn_isA B 84 false 200 := hV 84 (by decide)
  have o72 : hn_isO B 72 8 hn_k72 := hV 72 (by decide)
  intro n
  induction n with
  | zero => intro l2 l4 μ e; rw [fX8_write_34] at e; cases e
  | succ n ih =>
    intro l2 l4 μ e
    rw [fX8_write_34] at e
    refine hn_iload hF dX8_write_34 (q := 36) rfl 2 rfl ?_
    refine hn_if_lt hF dX8_write_36 (t := 76) (q := 39) rfl rfl e (fun e => ?_) (fun e => ?_)
    · refine hn_aload_n hF dX8_write_76 (q := 77) rfl 0 rfl ?_
      refine hn_get hF fl_X8_165 o72 rfl rfl dX8_write_77 (q := 80) rfl ?_
      exact hn_iretM hF hQ dX8_write_80 e
    · refine hn_aload_n hF dX8_write_39 (q := 40) rfl 0 rfl ?_
      refine hn_get hF fl_X8_47 o72 rfl rfl dX8_write_40 (q := 43) rfl ?_
      refine hn_aload_n hF dX8_write_43 (q := 44) rfl 0 rfl ?_
      refine hn_get hF fl_X8_165 o72 rfl rfl dX8_write_44 (q := 47) rfl ?_
      refine hn_lload_n hF dX8_write_47 (q := 48) rfl 1 rfl ?_
      refine hn_bipush hF dX8_write_48 (q := 50) rfl kb_8 ?_
      refine hn_iload hF dX8_write_50 (q := 52) rfl 2 rfl ?_
      refine hn_imul hF dX8_write_52 (q := 53) rfl ?_
      refine hn_lshr hF dX8_write_53 (q := 54) rfl rfl ?_
      refine hn_ldc2 hF kd_X8_131 dX8_write_54 (q := 57) rfl ?_
      refine hn_land hF dX8_write_57 (q := 58) rfl ?_
      refine hn_l2i hF dX8_write_58 (q := 59) rfl rfl ?_
      refine hn_ast hF a84 dX8_write_59 (q := 60) rfl e (fun μ1 e => ?_)
      refine hn_aload_n hF dX8_write_60 (q := 61) rfl 0 rfl ?_
      refine hn_dup hF dX8_write_61 (q := 62) rfl rfl ?_
      refine hn_get hF fl_X8_165 o72 rfl rfl dX8_write_62 (q := 65) rfl ?_
      refine hn_iconst hF dX8_write_65 (q := 66) rfl ki_1 ?_
      refine hn_iadd hF dX8_write_66 (q := 67) rfl ?_
      refine hn_put hF fl_X8_165 fp_X8_14 o72 rfl rfl rfl rfl dX8_write_67 (q := 70) rfl e (fun μ2 e => ?_)
      refine hn_iinc (p := 2) hF dX8_write_70 (q := 73) rfl rfl (kn_m1 _) (by decide) (L' := [(4, .int (l4 + (-1))), (0, .ref (hn_base B + 72)), (2, .long l2)]) rfl ?_
      refine hn_goto hF dX8_write_73 (q := 34) rfl ?_
      refine hn_sub [1, 2, 0] (L' := [(0, .ref (hn_base B + 72)), (2, .long l2), (4, .int (l4 + (-1)))]) rfl ?_
      exact ih l2 (l4 + (-1)) μ2 e
set_option maxHeartbeats 1000000 in
theorem gX8_write {Z : hn_Z} {B : hn_B} {F : Nat} {R : Int32 × hn_M} (hF : hn_F Z B (0, 0) cX8_write 5 RX8 (some .int) 1) (hQ : hn_goal Z B (some (.int R.1), R.2)) (hV : hn_V B hn_nA) {l1 : Int32} {l2 : Int64} {μ : hn_M} (e : fX8_write F l1 l2 μ = some R) : hn_G Z B (0, 0) 5 0 [(0, .ref (hn_base B + 72)), (1, .int l1), (2, .long l2)] [] μ := by
  unfold fX8_write at e
  have o72 : hn_isO B 72 8 hn_k72 := hV 72 (by decide)
  refine hn_iload_n hF dX8_write_0 (q := 1) rfl 1 rfl ?_
  refine hn_i2l hF dX8_write_1 (q := 2) rfl rfl ?_
  refine hn_lconst hF dX8_write_2 (q := 3) rfl kl_1 ?_
  refine hn_ldc2 hF kd_X8_163 dX8_write_3 (q := 6) rfl ?_
  refine hn_callSi (rest := []) hF ms_X8_in mt_X8_in lk_X8_79 (by decide) [.long (l1.toInt64), .long 1, .long 8] rfl (Nat.le_of_ble_eq_true rfl) dX8_write_6 (q := 9) rfl rfl e (fun v hv => cX8_in_ hv) (fun v3 e => ?_)
  refine hn_if_ne hF dX8_write_9 (t := 14) (q := 12) rfl rfl e (fun e => ?_) (fun e => ?_)
  · refine hn_aload_n hF dX8_write_14 (q := 15) rfl 0 rfl ?_
    refine hn_get hF fl_X8_165 o72 rfl rfl dX8_write_15 (q := 18) rfl ?_
    refine hn_iload_n hF dX8_write_18 (q := 19) rfl 1 rfl ?_
    refine hn_iadd hF dX8_write_19 (q := 20) rfl ?_
    refine hn_sipush hF dX8_write_20 (q := 23) rfl ks_200 ?_
    refine hn_icmp_le hF dX8_write_23 (t := 29) (q := 26) rfl rfl e (fun e => ?_) (fun e => ?_)
    · refine hn_iload_n hF dX8_write_29 (q := 30) rfl 1 rfl ?_
      refine hn_iconst hF dX8_write_30 (q := 31) rfl ki_1 ?_
      refine hn_isub hF dX8_write_31 (q := 32) rfl ?_
      refine hn_istore hF dX8_write_32 (q := 34) rfl (by decide) (L' := [(4, .int (l1 - 1)), (0, .ref (hn_base B + 72)), (1, .int l1), (2, .long l2)]) rfl ?_
      refine hn_sub [1, 3, 0] (L' := [(0, .ref (hn_base B + 72)), (2, .long l2), (4, .int (l1 - 1))]) rfl ?_
      exact gX8_write_34 hF hQ hV F l2 (l1 - 1) μ e
    · refine hn_bipush hF dX8_write_26 (q := 28) rfl kb_m3 ?_
      exact hn_iretM hF hQ dX8_write_28 e
  · refine hn_iconst hF dX8_write_12 (q := 13) rfl ki_m1 ?_
    exact hn_iretM hF hQ dX8_write_13 e
theorem cX8_write_ {B : hn_B} {F : Nat} {μ : hn_M} {R : Int32 × hn_M} {l1 : Int32} {l2 : Int64} (hV : hn_V B hn_nA) (e : fX8_write F l1 l2 μ = some R) : hn_C yX8_write cX8_write 5 (some .int) 1 B [.ref (hn_base B + 72), .int l1, .long l2] μ (some (.int R.1), R.2) :=
  hn_C.of RX8 (by decide) rfl (Nat.le_of_ble_eq_true rfl) (fun _ hF hQ => gX8_write hF hQ hV e)
/-! HandNewsModel.wipe()I -/
def fX8_wipe (μ : hn_M) : Option (Int32 × hn_M) := hn_pf μ 72 14 0 fun μ1 => some (μ 72 14, μ1)
set_option maxHeartbeats 1000000 in
theorem gX8_wipe {Z : hn_Z} {B : hn_B} {R : Int32 × hn_M} (hF : hn_F Z B (0, 0) cX8_wipe 2 RX8 (some .int) 0) (hQ : hn_goal Z B (some (.int R.1), R.2)) (hV : hn_V B hn_nA) {μ : hn_M} (e : fX8_wipe μ = some R) : hn_G Z B (0, 0) 2 0 [(0, .ref (hn_base B + 72))] [] μ := by
  unfold fX8_wipe at e
  have o72 : hn_isO B 72 8 hn_k72 := hV 72 (by decide)
  refine hn_aload_n hF dX8_wipe_0 (q := 1) rfl 0 rfl ?_
  refine hn_get hF fl_X8_165 o72 rfl rfl dX8_wipe_1 (q := 4) rfl ?_
  refine hn_istore_n hF dX8_wipe_4 (q := 5) rfl (i := 1) rfl (by decide) (L' := [(1, .int (μ 72 14)), (0, .ref (hn_base B + 72))]) rfl ?_
  refine hn_aload_n hF dX8_wipe_5 (q := 6) rfl 1 rfl ?_
  refine hn_iconst hF dX8_wipe_6 (q := 7) rfl ki_0 ?_
  refine hn_put hF fl_X8_165 fp_X8_14 o72 rfl rfl rfl rfl dX8_wipe_7 (q := 10) rfl e (fun μ1 e => ?_)
  refine hn_iload_n hF dX8_wipe_10 (q := 11) rfl 0 rfl ?_
  exact hn_iretM hF hQ dX8_wipe_11 e
theorem cX8_wipe_ {B : hn_B} {μ : hn_M} {R : Int32 × hn_M} (hV : hn_V B hn_nA) (e : fX8_wipe μ = some R) : hn_C yX8_wipe cX8_wipe 2 (some .int) 0 B [.ref (hn_base B + 72)] μ (some (.int R.1), R.2) :=
  hn_C.of RX8 (by decide) rfl (Nat.le_of_ble_eq_true rfl) (fun _ hF hQ => gX8_wipe hF hQ hV e)
/-! HandNewsModel.numbers(I)Z -/
def fX8_numbers_152 (F : Nat) (k22 : Int32 → Int32 → hn_M → Option (Int32 × hn_M)) (l1 : Int32) (l2 : Int32) (l4 : Int32) (s0 : Int32) (s1 : Int32) (μ : hn_M) : Option (Int32 × hn_M) := if s1 = s0 then hn_wr μ 92 4 l2 l4 fun μ1 => hn_pf μ1 72 24 ((μ1 72 24) + 1) fun μ2 => k22 l1 (l2 + 1) μ2 else some (0, μ)
def fX8_numbers_106 (F : Nat) (k22 : Int32 → Int32 → hn_M → Option (Int32 × hn_M)) (l1 : Int32) (l2 : Int32) (l3 : Int32) (l4 : Int32) (μ : hn_M) : Option (Int32 × hn_M) := (fX8_in l3.toInt64 1 3).bind fun v3 => if v3 = 0 then some (0, μ) else if μ 72 24 = μ 72 14 then some (0, μ) else hn_rd μ 84 200 (μ 72 24) fun v4 => if l1 - 1 ≤ l2 then fX8_numbers_152 F k22 l1 l2 l4 59 v4 μ else fX8_numbers_152 F k22 l1 l2 l4 44 v4 μ
def fX8_numbers_32 (F : Nat) (k22 : Int32 → Int32 → hn_M → Option (Int32 × hn_M)) : Nat → Int32 → Int32 → Int32 → Int32 → hn_M → Option (Int32 × hn_M)
  | 0, _, _, _, _, _ => none
  | n + 1, l1, l2, l3, l4, μ => if μ 72 14 ≤ μ 72 24 then fX8_numbers_106 F k22 l1 l2 l3 l4 μ else hn_rd μ 84 200 (μ 72 24) fun v5 => (fX8_in v5.toInt64 48 57).bind fun v6 => if v6 = 0 then fX8_numbers_106 F k22 l1 l2 l3 l4 μ else if 4 ≤ l3 then fX8_numbers_106 F k22 l1 l2 l3 l4 μ else hn_rd μ 84 200 (μ 72 24) fun v7 => hn_pf μ 72 24 ((μ 72 24) + 1) fun μ8 => fX8_numbers_32 F k22 n l1 l2 (l3 + 1) (((10 * l4) + v7) - 48) μ8
def fX8_numbers_22 (F : Nat) : Nat → Int32 → Int32 → hn_M → Option (Int32 × hn_M)
  | 0, _, _, _ => none
  | n + 1, l1, l2, μ => if l1 ≤ l2 then some (1, μ) else fX8_numbers_32 F (fX8_numbers_22 F n) F l1 l2 0 0 μ
def fX8_numbers_20 (F : Nat) (l1 : Int32) (μ : hn_M) : Option (Int32 × hn_M) := fX8_numbers_22 F F l1 0 μ
def fX8_numbers_2 (F : Nat) : Nat → Int32 → Int32 → hn_M → Option (Int32 × hn_M)
  | 0, _, _, _ => none
  | n + 1, l1, l2, μ => if 4 ≤ l2 then fX8_numbers_20 F l1 μ else hn_wr μ 92 4 l2 0 fun μ9 => fX8_numbers_2 F n l1 (l2 + 1) μ9
def fX8_numbers (F : Nat) (l1 : Int32) (μ : hn_M) : Option (Int32 × hn_M) := fX8_numbers_2 F F l1 0 μ
set_option maxHeartbeats 1000000 in
theorem gX8_numbers_152 {Z : hn_Z} {B : hn_B} {F : Nat} {R : Int32 × hn_M} (hF : hn_F Z B (0, 0) cX8_numbers 5 RX8 (some .boolean) 1) (hQ : hn_goal Z B (some (.int R.1), R.2)) (hV : hn_V B hn_nA) {k22 : Int32 → Int32 → hn_M → Option (Int32 × hn_M)} (H22 : ∀ (l1 : Int32) (l2 : Int32) (μ : hn_M), k22 l1 l2 μ = some R → hn_G Z B (0, 0) 5 22 [(0, .ref (hn_base B + 72)), (1, .int l1), (2, .int l2)] [] μ) {l1 : Int32} {l2 : Int32} {l4 : Int32} {s0 : Int32} {s1 : Int32} {μ : hn_M} (e : fX8_numbers_152 F k22 l1 l2 l4 s0 s1 μ = some R) : hn_G Z B (0, 0) 5 152 [(0, .ref (hn_base B + 72)), (1, .int l1), (2, .int l2), (4, .int l4)] [.int s0, .int s1] μ := by
  unfold fX8_numbers_152 at e
  have a92 : hn_isA B 92 false 4 := hV 92 (by decide)
  have o72 : hn_isO B 72 8 hn_k72 := hV 72 (by decide)
  refine hn_icmp_eq hF dX8_numbers_152 (t := 157) (q := 155) rfl rfl e (fun e => ?_) (fun e => ?_)
  · refine hn_aload_n hF dX8_numbers_157 (q := 158) rfl 0 rfl ?_
    refine hn_get hF fl_X8_71 o72 rfl rfl dX8_numbers_158 (q := 161) rfl ?_
    refine hn_iload_n hF dX8_numbers_161 (q := 162) rfl 2 rfl ?_
    refine hn_iload hF dX8_numbers_162 (q := 164) rfl 3 rfl ?_
    refine hn_ast hF a92 dX8_numbers_164 (q := 165) rfl e (fun μ1 e => ?_)
    refine hn_aload_n hF dX8_numbers_165 (q := 166) rfl 0 rfl ?_
    refine hn_dup hF dX8_numbers_166 (q := 167) rfl rfl ?_
    refine hn_get hF fl_X8_168 o72 rfl rfl dX8_numbers_167 (q := 170) rfl ?_
    refine hn_iconst hF dX8_numbers_170 (q := 171) rfl ki_1 ?_
    refine hn_iadd hF dX8_numbers_171 (q := 172) rfl ?_
    refine hn_put hF fl_X8_168 fp_X8_24 o72 rfl rfl rfl rfl dX8_numbers_172 (q := 175) rfl e (fun μ2 e => ?_)
    refine hn_iinc (p := 2) hF dX8_numbers_175 (q := 178) rfl rfl (kn_1 _) (by decide) (L' := [(2, .int (l2 + 1)), (0, .ref (hn_base B + 72)), (1, .int l1), (4, .int l4)]) rfl ?_
    refine hn_goto hF dX8_numbers_178 (q := 22) rfl ?_
    refine hn_sub [1, 2, 0] (L' := [(0, .ref (hn_base B + 72)), (1, .int l1), (2, .int (l2 + 1))]) rfl ?_
    exact H22 l1 (l2 + 1) μ2 e
  · refine hn_iconst hF dX8_numbers_155 (q := 156) rfl ki_0 ?_
    exact hn_zretM hF hQ dX8_numbers_156 (Or.inl rfl) e
set_option maxHeartbeats 1000000 in
theorem gX8_numbers_106 {Z : hn_Z} {B : hn_B} {F : Nat} {R : Int32 × hn_M} (hF : hn_F Z B (0, 0) cX8_numbers 5 RX8 (some .boolean) 1) (hQ : hn_goal Z B (some (.int R.1), R.2)) (hV : hn_V B hn_nA) {k22 : Int32 → Int32 → hn_M → Option (Int32 × hn_M)} (H22 : ∀ (l1 : Int32) (l2 : Int32) (μ : hn_M), k22 l1 l2 μ = some R → hn_G Z B (0, 0) 5 22 [(0, .ref (hn_base B + 72)), (1, .int l1), (2, .int l2)] [] μ) {l1 : Int32} {l2 : Int32} {l3 : Int32} {l4 : Int32} {μ : hn_M} (e : fX8_numbers_106 F k22 l1 l2 l3 l4 μ = some R) : hn_G Z B (0, 0) 5 106 [(0, .ref (hn_base B + 72)), (1, .int l1), (2, .int l2), (3, .int l3), (4, .int l4)] [] μ := by
  unfold fX8_numbers_106 at e
  have a84 : hn_isA B 84 false 200 := hV 84 (by decide)
  have o72 : hn_isO B 72 8 hn_k72 := hV 72 (by decide)
  refine hn_iload_n hF dX8_numbers_106 (q := 107) rfl 3 rfl ?_
  refine hn_i2l hF dX8_numbers_107 (q := 108) rfl rfl ?_
  refine hn_lconst hF dX8_numbers_108 (q := 109) rfl kl_1 ?_
  refine hn_ldc2 hF kd_X8_175 dX8_numbers_109 (q := 112) rfl ?_
  refine hn_callSi (rest := []) hF ms_X8_in mt_X8_in lk_X8_79 (by decide) [.long (l3.toInt64), .long 1, .long 3] rfl (Nat.le_of_ble_eq_true rfl) dX8_numbers_112 (q := 115) rfl rfl e (fun v hv => cX8_in_ hv) (fun v3 e => ?_)
  refine hn_if_eq hF dX8_numbers_115 (t := 155) (q := 118) rfl rfl e (fun e => ?_) (fun e => ?_)
  · refine hn_iconst hF dX8_numbers_155 (q := 156) rfl ki_0 ?_
    exact hn_zretM hF hQ dX8_numbers_156 (Or.inl rfl) e
  · refine hn_aload_n hF dX8_numbers_118 (q := 119) rfl 0 rfl ?_
    refine hn_get hF fl_X8_168 o72 rfl rfl dX8_numbers_119 (q := 122) rfl ?_
    refine hn_aload_n hF dX8_numbers_122 (q := 123) rfl 0 rfl ?_
    refine hn_get hF fl_X8_165 o72 rfl rfl dX8_numbers_123 (q := 126) rfl ?_
    refine hn_icmp_eq hF dX8_numbers_126 (t := 155) (q := 129) rfl rfl e (fun e => ?_) (fun e => ?_)
    · refine hn_iconst hF dX8_numbers_155 (q := 156) rfl ki_0 ?_
      exact hn_zretM hF hQ dX8_numbers_156 (Or.inl rfl) e
    · refine hn_aload_n hF dX8_numbers_129 (q := 130) rfl 0 rfl ?_
      refine hn_get hF fl_X8_47 o72 rfl rfl dX8_numbers_130 (q := 133) rfl ?_
      refine hn_aload_n hF dX8_numbers_133 (q := 134) rfl 0 rfl ?_
      refine hn_get hF fl_X8_168 o72 rfl rfl dX8_numbers_134 (q := 137) rfl ?_
      refine hn_ald hF a84 dX8_numbers_137 (q := 138) rfl e (fun v4 e => ?_)
      refine hn_iload_n hF dX8_numbers_138 (q := 139) rfl 2 rfl ?_
      refine hn_iload_n hF dX8_numbers_139 (q := 140) rfl 1 rfl ?_
      refine hn_iconst hF dX8_numbers_140 (q := 141) rfl ki_1 ?_
      refine hn_isub hF dX8_numbers_141 (q := 142) rfl ?_
      refine hn_icmp_ge hF dX8_numbers_142 (t := 150) (q := 145) rfl rfl e (fun e => ?_) (fun e => ?_)
      · refine hn_bipush hF dX8_numbers_150 (q := 152) rfl kb_59 ?_
        refine hn_sub [0, 1, 2, 4] (L' := [(0, .ref (hn_base B + 72)), (1, .int l1), (2, .int l2), (4, .int l4)]) rfl ?_
        exact gX8_numbers_152 hF hQ hV H22 e
      · refine hn_bipush hF dX8_numbers_145 (q := 147) rfl kb_44 ?_
        refine hn_goto hF dX8_numbers_147 (q := 152) rfl ?_
        refine hn_sub [0, 1, 2, 4] (L' := [(0, .ref (hn_base B + 72)), (1, .int l1), (2, .int l2), (4, .int l4)]) rfl ?_
        exact gX8_numbers_152 hF hQ hV H22 e
set_option maxHeartbeats 1000000 in
theorem gX8_numbers_32 {Z : hn_Z} {B : hn_B} {F : Nat} {R : Int32 × hn_M} (hF : hn_F Z B (0, 0) cX8_numbers 5 RX8 (some .boolean) 1) (hQ : hn_goal Z B (some (.int R.1), R.2)) (hV : hn_V B hn_nA) {k22 : Int32 → Int32 → hn_M → Option (Int32 × hn_M)} (H22 : ∀ (l1 : Int32) (l2 : Int32) (μ : hn_M), k22 l1 l2 μ = some R → hn_G Z B (0, 0) 5 22 [(0, .ref (hn_base B + 72)), (1, .int l1), (2, .int l2)] [] μ) : ∀ (n : Nat) (l1 : Int32) (l2 : Int32) (l3 : Int32) (l4 : Int32) (μ : hn_M), fX8_numbers_32 F k22 n l1 l2 l3 l4 μ = some R → hn_G Z B (0, 0) 5 32 [(0, .ref (hn_base B + 72)), (1, .int l1), (2, .int l2), (3, .int l3), (4, .int l4)] [] μ := by
  have a84 : hn_isA B 84 false 200 := hV 84 (by decide)
  have o72 : hn_isO B 72 8 hn_k72 := hV 72 (by decide)
  intro n
  induction n with
  | zero => intro l1 l2 l3 l4 μ e; rw [fX8_numbers_32] at e; cases e
  | succ n ih =>
    intro l1 l2 l3 l4 μ e
    rw [fX8_numbers_32] at e
    refine hn_aload_n hF dX8_numbers_32 (q := 33) rfl 0 rfl ?_
    refine hn_get hF fl_X8_168 o72 rfl rfl dX8_numbers_33 (q := 36) rfl ?_
    refine hn_aload_n hF dX8_numbers_36 (q := 37) rfl 0 rfl ?_
    refine hn_get hF fl_X8_165 o72 rfl rfl dX8_numbers_37 (q := 40) rfl ?_
    refine hn_icmp_ge hF dX8_numbers_40 (t := 106) (q := 43) rfl rfl e (fun e => ?_) (fun e => ?_)
    · exact gX8_numbers_106 hF hQ hV H22 e
    · refine hn_aload_n hF dX8_numbers_43 (q := 44) rfl 0 rfl ?_
      refine hn_get hF fl_X8_47 o72 rfl rfl dX8_numbers_44 (q := 47) rfl ?_
      refine hn_aload_n hF dX8_numbers_47 (q := 48) rfl 0 rfl ?_
      refine hn_get hF fl_X8_168 o72 rfl rfl dX8_numbers_48 (q := 51) rfl ?_
      refine hn_ald hF a84 dX8_numbers_51 (q := 52) rfl e (fun v5 e => ?_)
      refine hn_i2l hF dX8_numbers_52 (q := 53) rfl rfl ?_
      refine hn_ldc2 hF kd_X8_171 dX8_numbers_53 (q := 56) rfl ?_
      refine hn_ldc2 hF kd_X8_173 dX8_numbers_56 (q := 59) rfl ?_
      refine hn_callSi (rest := []) hF ms_X8_in mt_X8_in lk_X8_79 (by decide) [.long (v5.toInt64), .long 48, .long 57] rfl (Nat.le_of_ble_eq_true rfl) dX8_numbers_59 (q := 62) rfl rfl e (fun v hv => cX8_in_ hv) (fun v6 e => ?_)
      refine hn_if_eq hF dX8_numbers_62 (t := 106) (q := 65) rfl rfl e (fun e => ?_) (fun e => ?_)
      · exact gX8_numbers_106 hF hQ hV H22 e
      · refine hn_iload_n hF dX8_numbers_65 (q := 66) rfl 3 rfl ?_
        refine hn_iconst hF dX8_numbers_66 (q := 67) rfl ki_4 ?_
        refine hn_icmp_ge hF dX8_numbers_67 (t := 106) (q := 70) rfl rfl e (fun e => ?_) (fun e => ?_)
        · exact gX8_numbers_106 hF hQ hV H22 e
        · refine hn_bipush hF dX8_numbers_70 (q := 72) rfl kb_10 ?_
          refine hn_iload hF dX8_numbers_72 (q := 74) rfl 4 rfl ?_
          refine hn_imul hF dX8_numbers_74 (q := 75) rfl ?_
          refine hn_aload_n hF dX8_numbers_75 (q := 76) rfl 0 rfl ?_
          refine hn_get hF fl_X8_47 o72 rfl rfl dX8_numbers_76 (q := 79) rfl ?_
          refine hn_aload_n hF dX8_numbers_79 (q := 80) rfl 0 rfl ?_
          refine hn_get hF fl_X8_168 o72 rfl rfl dX8_numbers_80 (q := 83) rfl ?_
          refine hn_ald hF a84 dX8_numbers_83 (q := 84) rfl e (fun v7 e => ?_)
          refine hn_iadd hF dX8_numbers_84 (q := 85) rfl ?_
          refine hn_bipush hF dX8_numbers_85 (q := 87) rfl kb_48 ?_
          refine hn_isub hF dX8_numbers_87 (q := 88) rfl ?_
          refine hn_istore hF dX8_numbers_88 (q := 90) rfl (by decide) (L' := [(4, .int (((10 * l4) + v7) - 48)), (0, .ref (hn_base B + 72)), (1, .int l1), (2, .int l2), (3, .int l3)]) rfl ?_
          refine hn_iinc (p := 4) hF dX8_numbers_90 (q := 93) rfl rfl (kn_1 _) (by decide) (L' := [(3, .int (l3 + 1)), (4, .int (((10 * l4) + v7) - 48)), (0, .ref (hn_base B + 72)), (1, .int l1), (2, .int l2)]) rfl ?_
          refine hn_aload_n hF dX8_numbers_93 (q := 94) rfl 2 rfl ?_
          refine hn_dup hF dX8_numbers_94 (q := 95) rfl rfl ?_
          refine hn_get hF fl_X8_168 o72 rfl rfl dX8_numbers_95 (q := 98) rfl ?_
          refine hn_iconst hF dX8_numbers_98 (q := 99) rfl ki_1 ?_
          refine hn_iadd hF dX8_numbers_99 (q := 100) rfl ?_
          refine hn_put hF fl_X8_168 fp_X8_24 o72 rfl rfl rfl rfl dX8_numbers_100 (q := 103) rfl e (fun μ8 e => ?_)
          refine hn_goto hF dX8_numbers_103 (q := 32) rfl ?_
          refine hn_sub [2, 3, 4, 0, 1] (L' := [(0, .ref (hn_base B + 72)), (1, .int l1), (2, .int l2), (3, .int (l3 + 1)), (4, .int (((10 * l4) + v7) - 48))]) rfl ?_
          exact ih l1 l2 (l3 + 1) (((10 * l4) + v7) - 48) μ8 e
set_option maxHeartbeats 1000000 in
theorem gX8_numbers_22 {Z : hn_Z} {B : hn_B} {F : Nat} {R : Int32 × hn_M} (hF : hn_F Z B (0, 0) cX8_numbers 5 RX8 (some .boolean) 1) (hQ : hn_goal Z B (some (.int R.1), R.2)) (hV : hn_V B hn_nA) : ∀ (n : Nat) (l1 : Int32) (l2 : Int32) (μ : hn_M), fX8_numbers_22 F n l1 l2 μ = some R → hn_G Z B (0, 0) 5 22 [(0, .ref (hn_base B + 72)), (1, .int l1), (2, .int l2)] [] μ := by
  intro n
  induction n with
  | zero => intro l1 l2 μ e; rw [fX8_numbers_22] at e; cases e
  | succ n ih =>
    intro l1 l2 μ e
    rw [fX8_numbers_22] at e
    refine hn_iload_n hF dX8_numbers_22 (q := 23) rfl 2 rfl ?_
    refine hn_iload_n hF dX8_numbers_23 (q := 24) rfl 1 rfl ?_
    refine hn_icmp_ge hF dX8_numbers_24 (t := 181) (q := 27) rfl rfl e (fun e => ?_) (fun e => ?_)
    · refine hn_iconst hF dX8_numbers_181 (q := 182) rfl ki_1 ?_
      exact hn_zretM hF hQ dX8_numbers_182 (Or.inr rfl) e
    · refine hn_iconst hF dX8_numbers_27 (q := 28) rfl ki_0 ?_
      refine hn_istore_n hF dX8_numbers_28 (q := 29) rfl (i := 3) rfl (by decide) (L' := [(3, .int 0), (0, .ref (hn_base B + 72)), (1, .int l1), (2, .int l2)]) rfl ?_
      refine hn_iconst hF dX8_numbers_29 (q := 30) rfl ki_0 ?_
      refine hn_istore hF dX8_numbers_30 (q := 32) rfl (by decide) (L' := [(4, .int 0), (3, .int 0), (0, .ref (hn_base B + 72)), (1, .int l1), (2, .int l2)]) rfl ?_
      refine hn_sub [2, 3, 4, 1, 0] (L' := [(0, .ref (hn_base B + 72)), (1, .int l1), (2, .int l2), (3, .int 0), (4, .int 0)]) rfl ?_
      exact gX8_numbers_32 hF hQ hV ih F l1 l2 0 0 μ e
set_option maxHeartbeats 1000000 in
theorem gX8_numbers_20 {Z : hn_Z} {B : hn_B} {F : Nat} {R : Int32 × hn_M} (hF : hn_F Z B (0, 0) cX8_numbers 5 RX8 (some .boolean) 1) (hQ : hn_goal Z B (some (.int R.1), R.2)) (hV : hn_V B hn_nA) {l1 : Int32} {μ : hn_M} (e : fX8_numbers_20 F l1 μ = some R) : hn_G Z B (0, 0) 5 20 [(0, .ref (hn_base B + 72)), (1, .int l1)] [] μ := by
  unfold fX8_numbers_20 at e
  refine hn_iconst hF dX8_numbers_20 (q := 21) rfl ki_0 ?_
  refine hn_istore_n hF dX8_numbers_21 (q := 22) rfl (i := 2) rfl (by decide) (L' := [(2, .int 0), (0, .ref (hn_base B + 72)), (1, .int l1)]) rfl ?_
  refine hn_sub [1, 2, 0] (L' := [(0, .ref (hn_base B + 72)), (1, .int l1), (2, .int 0)]) rfl ?_
  exact gX8_numbers_22 hF hQ hV F l1 0 μ e
set_option maxHeartbeats 1000000 in
theorem gX8_numbers_2 {Z : hn_Z} {B : hn_B} {F : Nat} {R : Int32 × hn_M} (hF : hn_F Z B (0, 0) cX8_numbers 5 RX8 (some .boolean) 1) (hQ : hn_goal Z B (some (.int R.1), R.2)) (hV : hn_V B hn_nA) : ∀ (n : Nat) (l1 : Int32) (l2 : Int32) (μ : hn_M), fX8_numbers_2 F n l1 l2 μ = some R → hn_G Z B (0, 0) 5 2 [(0, .ref (hn_base B + 72)), (1, .int l1), (2, .int l2)] [] μ := by
  have a92 : hn_isA B 92 false 4 := hV 92 (by decide)
  have o72 : hn_isO B 72 8 hn_k72 := hV 72 (by decide)
  intro n
  induction n with
  | zero => intro l1 l2 μ e; rw [fX8_numbers_2] at e; cases e
  | succ n ih =>
    intro l1 l2 μ e
    rw [fX8_numbers_2] at e
    refine hn_iload_n hF dX8_numbers_2 (q := 3) rfl 2 rfl ?_
    refine hn_iconst hF dX8_numbers_3 (q := 4) rfl ki_4 ?_
    refine hn_icmp_ge hF dX8_numbers_4 (t := 20) (q := 7) rfl rfl e (fun e => ?_) (fun e => ?_)
    · refine hn_sub [0, 1] (L' := [(0, .ref (hn_base B + 72)), (1, .int l1)]) rfl ?_
      exact gX8_numbers_20 hF hQ hV e
    · refine hn_aload_n hF dX8_numbers_7 (q := 8) rfl 0 rfl ?_
      refine hn_get hF fl_X8_71 o72 rfl rfl dX8_numbers_8 (q := 11) rfl ?_
      refine hn_iload_n hF dX8_numbers_11 (q := 12) rfl 2 rfl ?_
      refine hn_iconst hF dX8_numbers_12 (q := 13) rfl ki_0 ?_
      refine hn_ast hF a92 dX8_numbers_13 (q := 14) rfl e (fun μ9 e => ?_)
      refine hn_iinc (p := 2) hF dX8_numbers_14 (q := 17) rfl rfl (kn_1 _) (by decide) (L' := [(2, .int (l2 + 1)), (0, .ref (hn_base B + 72)), (1, .int l1)]) rfl ?_
      refine hn_goto hF dX8_numbers_17 (q := 2) rfl ?_
      refine hn_sub [1, 2, 0] (L' := [(0, .ref (hn_base B + 72)), (1, .int l1), (2, .int (l2 + 1))]) rfl ?_
      exact ih l1 (l2 + 1) μ9 e
set_option maxHeartbeats 1000000 in
theorem gX8_numbers {Z : hn_Z} {B : hn_B} {F : Nat} {R : Int32 × hn_M} (hF : hn_F Z B (0, 0) cX8_numbers 5 RX8 (some .boolean) 1) (hQ : hn_goal Z B (some (.int R.1), R.2)) (hV : hn_V B hn_nA) {l1 : Int32} {μ : hn_M} (e : fX8_numbers F l1 μ = some R) : hn_G Z B (0, 0) 5 0 [(0, .ref (hn_base B + 72)), (1, .int l1)] [] μ := by
  unfold fX8_numbers at e
  refine hn_iconst hF dX8_numbers_0 (q := 1) rfl ki_0 ?_
  refine hn_istore_n hF dX8_numbers_1 (q := 2) rfl (i := 2) rfl (by decide) (L' := [(2, .int 0), (0, .ref (hn_base B + 72)), (1, .int l1)]) rfl ?_
  refine hn_sub [1, 2, 0] (L' := [(0, .ref (hn_base B + 72)), (1, .int l1), (2, .int 0)]) rfl ?_
  exact gX8_numbers_2 hF hQ hV F l1 0 μ e
theorem cX8_numbers_ {B : hn_B} {F : Nat} {μ : hn_M} {R : Int32 × hn_M} {l1 : Int32} (hV : hn_V B hn_nA) (e : fX8_numbers F l1 μ = some R) : hn_C yX8_numbers cX8_numbers 5 (some .boolean) 1 B [.ref (hn_base B + 72), .int l1] μ (some (.int R.1), R.2) :=
  hn_C.of RX8 (by decide) rfl (Nat.le_of_ble_eq_true rfl) (fun _ hF hQ => gX8_numbers hF hQ hV e)
/-! HandNewsModel.item()Z -/
def fX8_item (F : Nat) (μ : hn_M) : Option (Int32 × hn_M) := hn_rd μ 84 200 (μ 72 24) fun v1 => hn_pf μ 72 24 ((μ 72 24) + 1) fun μ2 => if v1 = 98 then (fX8_numbers F 2 μ2).bind fun w3 => if w3.1 = 0 then some (0, w3.2) else hn_rd w3.2 92 4 0 fun v4 => if v4 ≤ 0 then some (0, w3.2) else some (1, w3.2) else if v1 = 110 then (fX8_numbers F 4 μ2).bind fun w5 => if w5.1 = 0 then some (0, w5.2) else hn_rd w5.2 92 4 0 fun v6 => (fX8_isTown v6).bind fun v7 => if v7 = 0 then some (0, w5.2) else hn_rd w5.2 92 4 1 fun v8 => (fX8_isThing v8).bind fun v9 => if v9 = 0 then some (0, w5.2) else hn_rd w5.2 92 4 2 fun v10 => hn_rd w5.2 92 4 3 fun v11 => if v11 < v10 then some (0, w5.2) else some (1, w5.2) else if v1 = 111 then (fX8_numbers F 2 μ2).bind fun w12 => hn_bo w12.1 (some (w12.1, w12.2)) else if v1 = 118 then (fX8_numbers F 3 μ2).bind fun w13 => if w13.1 = 0 then some (0, w13.2) else hn_rd w13.2 92 4 0 fun v14 => (fX8_in v14.toInt64 0 7).bind fun v15 => if v15 = 0 then some (0, w13.2) else hn_rd w13.2 92 4 1 fun v16 => (fX8_in v16.toInt64 0 100).bind fun v17 => if v17 = 0 then some (0, w13.2) else some (1, w13.2) else if v1 = 119 then (fX8_numbers F 3 μ2).bind fun w18 => if w18.1 = 0 then some (0, w18.2) else hn_rd w18.2 92 4 0 fun v19 => (fX8_isTown v19).bind fun v20 => if v20 = 0 then some (0, w18.2) else hn_rd w18.2 92 4 1 fun v21 => (fX8_in v21.toInt64 0 100).bind fun v22 => if v22 = 0 then some (0, w18.2) else some (1, w18.2) else if v1 = 120 then (fX8_numbers F 2 μ2).bind fun w23 => if w23.1 = 0 then some (0, w23.2) else hn_rd w23.2 92 4 0 fun v24 => if 10 ≤ v24 then some (0, w23.2) else some (1, w23.2) else some (0, μ2)
set_option maxHeartbeats 1000000 in
theorem gX8_item {Z : hn_Z} {B : hn_B} {F : Nat} {R : Int32 × hn_M} (hF : hn_F Z B (0, 0) cX8_item 2 RX8 (some .boolean) 2) (hQ : hn_goal Z B (some (.int R.1), R.2)) (hV : hn_V B hn_nA) {μ : hn_M} (e : fX8_item F μ = some R) : hn_G Z B (0, 0) 2 0 [(0, .ref (hn_base B + 72))] [] μ := by
  unfold fX8_item at e
  have a84 : hn_isA B 84 false 200 := hV 84 (by decide)
  have a92 : hn_isA B 92 false 4 := hV 92 (by decide)
  have o72 : hn_isO B 72 8 hn_k72 := hV 72 (by decide)
  refine hn_aload_n hF dX8_item_0 (q := 1) rfl 0 rfl ?_
  refine hn_get hF fl_X8_47 o72 rfl rfl dX8_item_1 (q := 4) rfl ?_
  refine hn_aload_n hF dX8_item_4 (q := 5) rfl 0 rfl ?_
  refine hn_get hF fl_X8_168 o72 rfl rfl dX8_item_5 (q := 8) rfl ?_
  refine hn_ald hF a84 dX8_item_8 (q := 9) rfl e (fun v1 e => ?_)
  refine hn_istore_n hF dX8_item_9 (q := 10) rfl (i := 1) rfl (by decide) (L' := [(1, .int v1), (0, .ref (hn_base B + 72))]) rfl ?_
  refine hn_aload_n hF dX8_item_10 (q := 11) rfl 1 rfl ?_
  refine hn_dup hF dX8_item_11 (q := 12) rfl rfl ?_
  refine hn_get hF fl_X8_168 o72 rfl rfl dX8_item_12 (q := 15) rfl ?_
  refine hn_iconst hF dX8_item_15 (q := 16) rfl ki_1 ?_
  refine hn_iadd hF dX8_item_16 (q := 17) rfl ?_
  refine hn_put hF fl_X8_168 fp_X8_24 o72 rfl rfl rfl rfl dX8_item_17 (q := 20) rfl e (fun μ2 e => ?_)
  refine hn_iload_n hF dX8_item_20 (q := 21) rfl 0 rfl ?_
  by_cases hx98 : v1 = 98
  · rw [if_pos hx98] at e
    refine hn_lookIn hF hx98 dX8_item_21 (t := 177) (by decide) ?_
    refine hn_aload_n hF dX8_item_177 (q := 178) rfl 1 rfl ?_
    refine hn_iconst hF dX8_item_178 (q := 179) rfl ki_2 ?_
    refine hn_callVm (rest := []) hF ms_X8_numbers mv_X8_numbers lk_X8_177 o72 rfl (by decide) [.int 2] rfl (Nat.le_of_ble_eq_true rfl) dX8_item_179 (q := 182) rfl rfl e (fun v hv => cX8_numbers_ hV hv) (fun w3 e => ?_)
    refine hn_if_eq hF dX8_item_182 (t := 198) (q := 185) rfl rfl e (fun e => ?_) (fun e => ?_)
    · refine hn_iconst hF dX8_item_198 (q := 199) rfl ki_0 ?_
      exact hn_zretM hF hQ dX8_item_199 (Or.inl rfl) e
    · refine hn_aload_n hF dX8_item_185 (q := 186) rfl 1 rfl ?_
      refine hn_get hF fl_X8_71 o72 rfl rfl dX8_item_186 (q := 189) rfl ?_
      refine hn_iconst hF dX8_item_189 (q := 190) rfl ki_0 ?_
      refine hn_ald hF a92 dX8_item_190 (q := 191) rfl e (fun v4 e => ?_)
      refine hn_if_le hF dX8_item_191 (t := 198) (q := 194) rfl rfl e (fun e => ?_) (fun e => ?_)
      · refine hn_iconst hF dX8_item_198 (q := 199) rfl ki_0 ?_
        exact hn_zretM hF hQ dX8_item_199 (Or.inl rfl) e
      · refine hn_iconst hF dX8_item_194 (q := 195) rfl ki_1 ?_
        refine hn_goto hF dX8_item_195 (q := 199) rfl ?_
        exact hn_zretM hF hQ dX8_item_199 (Or.inr rfl) e
  rw [if_neg hx98] at e
  by_cases hx110 : v1 = 110
  · rw [if_pos hx110] at e
    refine hn_lookIn hF hx110 dX8_item_21 (t := 225) (by decide) ?_
    refine hn_aload_n hF dX8_item_225 (q := 226) rfl 1 rfl ?_
    refine hn_iconst hF dX8_item_226 (q := 227) rfl ki_4 ?_
    refine hn_callVm (rest := []) hF ms_X8_numbers mv_X8_numbers lk_X8_177 o72 rfl (by decide) [.int 4] rfl (Nat.le_of_ble_eq_true rfl) dX8_item_227 (q := 230) rfl rfl e (fun v hv => cX8_numbers_ hV hv) (fun w5 e => ?_)
    refine hn_if_eq hF dX8_item_230 (t := 276) (q := 233) rfl rfl e (fun e => ?_) (fun e => ?_)
    · refine hn_iconst hF dX8_item_276 (q := 277) rfl ki_0 ?_
      exact hn_zretM hF hQ dX8_item_277 (Or.inl rfl) e
    · refine hn_aload_n hF dX8_item_233 (q := 234) rfl 1 rfl ?_
      refine hn_get hF fl_X8_71 o72 rfl rfl dX8_item_234 (q := 237) rfl ?_
      refine hn_iconst hF dX8_item_237 (q := 238) rfl ki_0 ?_
      refine hn_ald hF a92 dX8_item_238 (q := 239) rfl e (fun v6 e => ?_)
      refine hn_callSi (rest := []) hF ms_X8_isTown mt_X8_isTown lk_X8_87 (by decide) [.int v6] rfl (Nat.le_of_ble_eq_true rfl) dX8_item_239 (q := 242) rfl rfl e (fun v hv => cX8_isTown_ hv) (fun v7 e => ?_)
      refine hn_if_eq hF dX8_item_242 (t := 276) (q := 245) rfl rfl e (fun e => ?_) (fun e => ?_)
      · refine hn_iconst hF dX8_item_276 (q := 277) rfl ki_0 ?_
        exact hn_zretM hF hQ dX8_item_277 (Or.inl rfl) e
      · refine hn_aload_n hF dX8_item_245 (q := 246) rfl 1 rfl ?_
        refine hn_get hF fl_X8_71 o72 rfl rfl dX8_item_246 (q := 249) rfl ?_
        refine hn_iconst hF dX8_item_249 (q := 250) rfl ki_1 ?_
        refine hn_ald hF a92 dX8_item_250 (q := 251) rfl e (fun v8 e => ?_)
        refine hn_callSi (rest := []) hF ms_X8_isThing mt_X8_isThing lk_X8_104 (by decide) [.int v8] rfl (Nat.le_of_ble_eq_true rfl) dX8_item_251 (q := 254) rfl rfl e (fun v hv => cX8_isThing_ hv) (fun v9 e => ?_)
        refine hn_if_eq hF dX8_item_254 (t := 276) (q := 257) rfl rfl e (fun e => ?_) (fun e => ?_)
        · refine hn_iconst hF dX8_item_276 (q := 277) rfl ki_0 ?_
          exact hn_zretM hF hQ dX8_item_277 (Or.inl rfl) e
        · refine hn_aload_n hF dX8_item_257 (q := 258) rfl 1 rfl ?_
          refine hn_get hF fl_X8_71 o72 rfl rfl dX8_item_258 (q := 261) rfl ?_
          refine hn_iconst hF dX8_item_261 (q := 262) rfl ki_2 ?_
          refine hn_ald hF a92 dX8_item_262 (q := 263) rfl e (fun v10 e => ?_)
          refine hn_aload_n hF dX8_item_263 (q := 264) rfl 1 rfl ?_
          refine hn_get hF fl_X8_71 o72 rfl rfl dX8_item_264 (q := 267) rfl ?_
          refine hn_iconst hF dX8_item_267 (q := 268) rfl ki_3 ?_
          refine hn_ald hF a92 dX8_item_268 (q := 269) rfl e (fun v11 e => ?_)
          refine hn_icmp_gt hF dX8_item_269 (t := 276) (q := 272) rfl rfl e (fun e => ?_) (fun e => ?_)
          · refine hn_iconst hF dX8_item_276 (q := 277) rfl ki_0 ?_
            exact hn_zretM hF hQ dX8_item_277 (Or.inl rfl) e
          · refine hn_iconst hF dX8_item_272 (q := 273) rfl ki_1 ?_
            refine hn_goto hF dX8_item_273 (q := 277) rfl ?_
            exact hn_zretM hF hQ dX8_item_277 (Or.inr rfl) e
  rw [if_neg hx110] at e
  by_cases hx111 : v1 = 111
  · rw [if_pos hx111] at e
    refine hn_lookIn hF hx111 dX8_item_21 (t := 171) (by decide) ?_
    refine hn_aload_n hF dX8_item_171 (q := 172) rfl 1 rfl ?_
    refine hn_iconst hF dX8_item_172 (q := 173) rfl ki_2 ?_
    refine hn_callVm (rest := []) hF ms_X8_numbers mv_X8_numbers lk_X8_177 o72 rfl (by decide) [.int 2] rfl (Nat.le_of_ble_eq_true rfl) dX8_item_173 (q := 176) rfl rfl e (fun v hv => cX8_numbers_ hV hv) (fun w12 e => ?_)
    exact hn_zretMg hF hQ dX8_item_176 e
  rw [if_neg hx111] at e
  by_cases hx118 : v1 = 118
  · rw [if_pos hx118] at e
    refine hn_lookIn hF hx118 dX8_item_21 (t := 123) (by decide) ?_
    refine hn_aload_n hF dX8_item_123 (q := 124) rfl 1 rfl ?_
    refine hn_iconst hF dX8_item_124 (q := 125) rfl ki_3 ?_
    refine hn_callVm (rest := []) hF ms_X8_numbers mv_X8_numbers lk_X8_177 o72 rfl (by decide) [.int 3] rfl (Nat.le_of_ble_eq_true rfl) dX8_item_125 (q := 128) rfl rfl e (fun v hv => cX8_numbers_ hV hv) (fun w13 e => ?_)
    refine hn_if_eq hF dX8_item_128 (t := 169) (q := 131) rfl rfl e (fun e => ?_) (fun e => ?_)
    · refine hn_iconst hF dX8_item_169 (q := 170) rfl ki_0 ?_
      exact hn_zretM hF hQ dX8_item_170 (Or.inl rfl) e
    · refine hn_aload_n hF dX8_item_131 (q := 132) rfl 1 rfl ?_
      refine hn_get hF fl_X8_71 o72 rfl rfl dX8_item_132 (q := 135) rfl ?_
      refine hn_iconst hF dX8_item_135 (q := 136) rfl ki_0 ?_
      refine hn_ald hF a92 dX8_item_136 (q := 137) rfl e (fun v14 e => ?_)
      refine hn_i2l hF dX8_item_137 (q := 138) rfl rfl ?_
      refine hn_lconst hF dX8_item_138 (q := 139) rfl kl_0 ?_
      refine hn_ldc2 hF kd_X8_93 dX8_item_139 (q := 142) rfl ?_
      refine hn_callSi (rest := []) hF ms_X8_in mt_X8_in lk_X8_79 (by decide) [.long (v14.toInt64), .long 0, .long 7] rfl (Nat.le_of_ble_eq_true rfl) dX8_item_142 (q := 145) rfl rfl e (fun v hv => cX8_in_ hv) (fun v15 e => ?_)
      refine hn_if_eq hF dX8_item_145 (t := 169) (q := 148) rfl rfl e (fun e => ?_) (fun e => ?_)
      · refine hn_iconst hF dX8_item_169 (q := 170) rfl ki_0 ?_
        exact hn_zretM hF hQ dX8_item_170 (Or.inl rfl) e
      · refine hn_aload_n hF dX8_item_148 (q := 149) rfl 1 rfl ?_
        refine hn_get hF fl_X8_71 o72 rfl rfl dX8_item_149 (q := 152) rfl ?_
        refine hn_iconst hF dX8_item_152 (q := 153) rfl ki_1 ?_
        refine hn_ald hF a92 dX8_item_153 (q := 154) rfl e (fun v16 e => ?_)
        refine hn_i2l hF dX8_item_154 (q := 155) rfl rfl ?_
        refine hn_lconst hF dX8_item_155 (q := 156) rfl kl_0 ?_
        refine hn_ldc2 hF kd_X8_180 dX8_item_156 (q := 159) rfl ?_
        refine hn_callSi (rest := []) hF ms_X8_in mt_X8_in lk_X8_79 (by decide) [.long (v16.toInt64), .long 0, .long 100] rfl (Nat.le_of_ble_eq_true rfl) dX8_item_159 (q := 162) rfl rfl e (fun v hv => cX8_in_ hv) (fun v17 e => ?_)
        refine hn_if_eq hF dX8_item_162 (t := 169) (q := 165) rfl rfl e (fun e => ?_) (fun e => ?_)
        · refine hn_iconst hF dX8_item_169 (q := 170) rfl ki_0 ?_
          exact hn_zretM hF hQ dX8_item_170 (Or.inl rfl) e
        · refine hn_iconst hF dX8_item_165 (q := 166) rfl ki_1 ?_
          refine hn_goto hF dX8_item_166 (q := 170) rfl ?_
          exact hn_zretM hF hQ dX8_item_170 (Or.inr rfl) e
  rw [if_neg hx118] at e
  by_cases hx119 : v1 = 119
  · rw [if_pos hx119] at e
    refine hn_lookIn hF hx119 dX8_item_21 (t := 80) (by decide) ?_
    refine hn_aload_n hF dX8_item_80 (q := 81) rfl 1 rfl ?_
    refine hn_iconst hF dX8_item_81 (q := 82) rfl ki_3 ?_
    refine hn_callVm (rest := []) hF ms_X8_numbers mv_X8_numbers lk_X8_177 o72 rfl (by decide) [.int 3] rfl (Nat.le_of_ble_eq_true rfl) dX8_item_82 (q := 85) rfl rfl e (fun v hv => cX8_numbers_ hV hv) (fun w18 e => ?_)
    refine hn_if_eq hF dX8_item_85 (t := 121) (q := 88) rfl rfl e (fun e => ?_) (fun e => ?_)
    · refine hn_iconst hF dX8_item_121 (q := 122) rfl ki_0 ?_
      exact hn_zretM hF hQ dX8_item_122 (Or.inl rfl) e
    · refine hn_aload_n hF dX8_item_88 (q := 89) rfl 1 rfl ?_
      refine hn_get hF fl_X8_71 o72 rfl rfl dX8_item_89 (q := 92) rfl ?_
      refine hn_iconst hF dX8_item_92 (q := 93) rfl ki_0 ?_
      refine hn_ald hF a92 dX8_item_93 (q := 94) rfl e (fun v19 e => ?_)
      refine hn_callSi (rest := []) hF ms_X8_isTown mt_X8_isTown lk_X8_87 (by decide) [.int v19] rfl (Nat.le_of_ble_eq_true rfl) dX8_item_94 (q := 97) rfl rfl e (fun v hv => cX8_isTown_ hv) (fun v20 e => ?_)
      refine hn_if_eq hF dX8_item_97 (t := 121) (q := 100) rfl rfl e (fun e => ?_) (fun e => ?_)
      · refine hn_iconst hF dX8_item_121 (q := 122) rfl ki_0 ?_
        exact hn_zretM hF hQ dX8_item_122 (Or.inl rfl) e
      · refine hn_aload_n hF dX8_item_100 (q := 101) rfl 1 rfl ?_
        refine hn_get hF fl_X8_71 o72 rfl rfl dX8_item_101 (q := 104) rfl ?_
        refine hn_iconst hF dX8_item_104 (q := 105) rfl ki_1 ?_
        refine hn_ald hF a92 dX8_item_105 (q := 106) rfl e (fun v21 e => ?_)
        refine hn_i2l hF dX8_item_106 (q := 107) rfl rfl ?_
        refine hn_lconst hF dX8_item_107 (q := 108) rfl kl_0 ?_
        refine hn_ldc2 hF kd_X8_180 dX8_item_108 (q := 111) rfl ?_
        refine hn_callSi (rest := []) hF ms_X8_in mt_X8_in lk_X8_79 (by decide) [.long (v21.toInt64), .long 0, .long 100] rfl (Nat.le_of_ble_eq_true rfl) dX8_item_111 (q := 114) rfl rfl e (fun v hv => cX8_in_ hv) (fun v22 e => ?_)
        refine hn_if_eq hF dX8_item_114 (t := 121) (q := 117) rfl rfl e (fun e => ?_) (fun e => ?_)
        · refine hn_iconst hF dX8_item_121 (q := 122) rfl ki_0 ?_
          exact hn_zretM hF hQ dX8_item_122 (Or.inl rfl) e
        · refine hn_iconst hF dX8_item_117 (q := 118) rfl ki_1 ?_
          refine hn_goto hF dX8_item_118 (q := 122) rfl ?_
          exact hn_zretM hF hQ dX8_item_122 (Or.inr rfl) e
  rw [if_neg hx119] at e
  by_cases hx120 : v1 = 120
  · rw [if_pos hx120] at e
    refine hn_lookIn hF hx120 dX8_item_21 (t := 200) (by decide) ?_
    refine hn_aload_n hF dX8_item_200 (q := 201) rfl 1 rfl ?_
    refine hn_iconst hF dX8_item_201 (q := 202) rfl ki_2 ?_
    refine hn_callVm (rest := []) hF ms_X8_numbers mv_X8_numbers lk_X8_177 o72 rfl (by decide) [.int 2] rfl (Nat.le_of_ble_eq_true rfl) dX8_item_202 (q := 205) rfl rfl e (fun v hv => cX8_numbers_ hV hv) (fun w23 e => ?_)
    refine hn_if_eq hF dX8_item_205 (t := 223) (q := 208) rfl rfl e (fun e => ?_) (fun e => ?_)
    · refine hn_iconst hF dX8_item_223 (q := 224) rfl ki_0 ?_
      exact hn_zretM hF hQ dX8_item_224 (Or.inl rfl) e
    · refine hn_aload_n hF dX8_item_208 (q := 209) rfl 1 rfl ?_
      refine hn_get hF fl_X8_71 o72 rfl rfl dX8_item_209 (q := 212) rfl ?_
      refine hn_iconst hF dX8_item_212 (q := 213) rfl ki_0 ?_
      refine hn_ald hF a92 dX8_item_213 (q := 214) rfl e (fun v24 e => ?_)
      refine hn_bipush hF dX8_item_214 (q := 216) rfl kb_10 ?_
      refine hn_icmp_ge hF dX8_item_216 (t := 223) (q := 219) rfl rfl e (fun e => ?_) (fun e => ?_)
      · refine hn_iconst hF dX8_item_223 (q := 224) rfl ki_0 ?_
        exact hn_zretM hF hQ dX8_item_224 (Or.inl rfl) e
      · refine hn_iconst hF dX8_item_219 (q := 220) rfl ki_1 ?_
        refine hn_goto hF dX8_item_220 (q := 224) rfl ?_
        exact hn_zretM hF hQ dX8_item_224 (Or.inr rfl) e
  rw [if_neg hx120] at e
  refine hn_lookOut hF dX8_item_21 (t := 278) (by decide) (by show Op.lookupswitch.offset [(98, 156), (110, 204), (111, 150), (118, 102), (119, 59), (120, 179)] (257) _ = _; rw [lv_osw hx98 (by decide), lv_osw hx110 (by decide), lv_osw hx111 (by decide), lv_osw hx118 (by decide), lv_osw hx119 (by decide), lv_osw hx120 (by decide)]; rfl) rfl ?_
  refine hn_iconst hF dX8_item_278 (q := 279) rfl ki_0 ?_
  exact hn_zretM hF hQ dX8_item_279 (Or.inl rfl) e
theorem cX8_item_ {B : hn_B} {F : Nat} {μ : hn_M} {R : Int32 × hn_M} (hV : hn_V B hn_nA) (e : fX8_item F μ = some R) : hn_C yX8_item cX8_item 2 (some .boolean) 2 B [.ref (hn_base B + 72)] μ (some (.int R.1), R.2) :=
  hn_C.of RX8 (by decide) rfl (Nat.le_of_ble_eq_true rfl) (fun _ hF hQ => gX8_item hF hQ hV e)
/-! HandNewsModel.readAll()I -/
def fX8_readAll_163 (F : Nat) (k12 : hn_M → Option (Int32 × hn_M)) (l2 : Int32) (s0 : Int32) (s1 : Int32) (μ : hn_M) : Option (Int32 × hn_M) := hn_wr μ 86 400 s1 s0 fun μ1 => hn_rd μ1 92 4 3 fun v2 => hn_wr μ1 86 400 (l2 + 4) v2 fun μ3 => hn_rd μ3 85 2 0 fun v4 => hn_wr μ3 85 2 0 (v4 + 1) fun μ5 => k12 μ5
def fX8_readAll_135 (F : Nat) (k12 : hn_M → Option (Int32 × hn_M)) (l2 : Int32) (l4 : Int32) (s0 : Int32) (s1 : Int32) (μ : hn_M) : Option (Int32 × hn_M) := hn_wr μ 86 400 s1 s0 fun μ6 => if l4 = 0 then hn_rd μ6 92 4 2 fun v7 => fX8_readAll_163 F k12 l2 v7 (l2 + 3) μ6 else hn_rd μ6 92 4 1 fun v8 => fX8_readAll_163 F k12 l2 v8 (l2 + 3) μ6
def fX8_readAll_107 (F : Nat) (k12 : hn_M → Option (Int32 × hn_M)) (l2 : Int32) (l4 : Int32) (s0 : Int32) (s1 : Int32) (μ : hn_M) : Option (Int32 × hn_M) := hn_wr μ 86 400 s1 s0 fun μ9 => if l4 = 0 then hn_rd μ9 92 4 1 fun v10 => fX8_readAll_135 F k12 l2 l4 v10 (l2 + 2) μ9 else hn_rd μ9 92 4 0 fun v11 => fX8_readAll_135 F k12 l2 l4 v11 (l2 + 2) μ9
def fX8_readAll_76 (F : Nat) (k12 : hn_M → Option (Int32 × hn_M)) (l2 : Int32) (l3 : Int32) (s0 : Int32) (μ : hn_M) : Option (Int32 × hn_M) := hn_wr μ 86 400 l2 l3 fun μ12 => if s0 = 0 then hn_rd μ12 92 4 0 fun v13 => fX8_readAll_107 F k12 l2 s0 v13 (l2 + 1) μ12 else fX8_readAll_107 F k12 l2 s0 0 (l2 + 1) μ12
def fX8_readAll_71 (F : Nat) (k12 : hn_M → Option (Int32 × hn_M)) (l2 : Int32) (l3 : Int32) (μ : hn_M) : Option (Int32 × hn_M) := fX8_readAll_76 F k12 l2 l3 1 μ
def fX8_readAll_12 (F : Nat) : Nat → hn_M → Option (Int32 × hn_M)
  | 0, _ => none
  | n + 1, μ => if μ 72 14 ≤ μ 72 24 then some ((-4), μ) else (fX8_item F μ).bind fun w14 => if w14.1 = 0 then some (μ 72 24, w14.2) else hn_rd w14.2 85 2 0 fun v15 => hn_rd w14.2 84 200 (μ 72 24) fun v16 => if v16 = 111 then fX8_readAll_71 F (fX8_readAll_12 F n) (5 * v15) v16 w14.2 else if v16 = 98 then fX8_readAll_71 F (fX8_readAll_12 F n) (5 * v15) v16 w14.2 else if v16 = 120 then fX8_readAll_71 F (fX8_readAll_12 F n) (5 * v15) v16 w14.2 else fX8_readAll_76 F (fX8_readAll_12 F n) (5 * v15) v16 0 w14.2
def fX8_readAll (F : Nat) (μ : hn_M) : Option (Int32 × hn_M) := hn_wr μ 85 2 0 0 fun μ17 => hn_pf μ17 72 24 0 fun μ18 => fX8_readAll_12 F F μ18
set_option maxHeartbeats 1000000 in
theorem gX8_readAll_163 {Z : hn_Z} {B : hn_B} {F : Nat} {R : Int32 × hn_M} (hF : hn_F Z B (0, 0) cX8_readAll 5 RX8 (some .int) 3) (hQ : hn_goal Z B (some (.int R.1), R.2)) (hV : hn_V B hn_nA) {k12 : hn_M → Option (Int32 × hn_M)} (H12 : ∀ (μ : hn_M), k12 μ = some R → hn_G Z B (0, 0) 5 12 [(0, .ref (hn_base B + 72))] [] μ) {l2 : Int32} {s0 : Int32} {s1 : Int32} {μ : hn_M} (e : fX8_readAll_163 F k12 l2 s0 s1 μ = some R) : hn_G Z B (0, 0) 5 163 [(0, .ref (hn_base B + 72)), (2, .int l2)] [.int s0, .int s1, .ref (hn_base B + 86)] μ := by
  unfold fX8_readAll_163 at e
  have a85 : hn_isA B 85 false 2 := hV 85 (by decide)
  have a86 : hn_isA B 86 false 400 := hV 86 (by decide)
  have a92 : hn_isA B 92 false 4 := hV 92 (by decide)
  have o72 : hn_isO B 72 8 hn_k72 := hV 72 (by decide)
  refine hn_ast hF a86 dX8_readAll_163 (q := 164) rfl e (fun μ1 e => ?_)
  refine hn_aload_n hF dX8_readAll_164 (q := 165) rfl 0 rfl ?_
  refine hn_get hF fl_X8_53 o72 rfl rfl dX8_readAll_165 (q := 168) rfl ?_
  refine hn_iload_n hF dX8_readAll_168 (q := 169) rfl 1 rfl ?_
  refine hn_iconst hF dX8_readAll_169 (q := 170) rfl ki_4 ?_
  refine hn_iadd hF dX8_readAll_170 (q := 171) rfl ?_
  refine hn_aload_n hF dX8_readAll_171 (q := 172) rfl 0 rfl ?_
  refine hn_get hF fl_X8_71 o72 rfl rfl dX8_readAll_172 (q := 175) rfl ?_
  refine hn_iconst hF dX8_readAll_175 (q := 176) rfl ki_3 ?_
  refine hn_ald hF a92 dX8_readAll_176 (q := 177) rfl e (fun v2 e => ?_)
  refine hn_ast hF a86 dX8_readAll_177 (q := 178) rfl e (fun μ3 e => ?_)
  refine hn_aload_n hF dX8_readAll_178 (q := 179) rfl 0 rfl ?_
  refine hn_get hF fl_X8_50 o72 rfl rfl dX8_readAll_179 (q := 182) rfl ?_
  refine hn_iconst hF dX8_readAll_182 (q := 183) rfl ki_0 ?_
  refine hn_dup2_11 hF dX8_readAll_183 (q := 184) rfl rfl rfl ?_
  refine hn_ald hF a85 dX8_readAll_184 (q := 185) rfl e (fun v4 e => ?_)
  refine hn_iconst hF dX8_readAll_185 (q := 186) rfl ki_1 ?_
  refine hn_iadd hF dX8_readAll_186 (q := 187) rfl ?_
  refine hn_ast hF a85 dX8_readAll_187 (q := 188) rfl e (fun μ5 e => ?_)
  refine hn_goto hF dX8_readAll_188 (q := 12) rfl ?_
  refine hn_sub [0] (L' := [(0, .ref (hn_base B + 72))]) rfl ?_
  exact H12 μ5 e
set_option maxHeartbeats 1000000 in
theorem gX8_readAll_135 {Z : hn_Z} {B : hn_B} {F : Nat} {R : Int32 × hn_M} (hF : hn_F Z B (0, 0) cX8_readAll 5 RX8 (some .int) 3) (hQ : hn_goal Z B (some (.int R.1), R.2)) (hV : hn_V B hn_nA) {k12 : hn_M → Option (Int32 × hn_M)} (H12 : ∀ (μ : hn_M), k12 μ = some R → hn_G Z B (0, 0) 5 12 [(0, .ref (hn_base B + 72))] [] μ) {l2 : Int32} {l4 : Int32} {s0 : Int32} {s1 : Int32} {μ : hn_M} (e : fX8_readAll_135 F k12 l2 l4 s0 s1 μ = some R) : hn_G Z B (0, 0) 5 135 [(0, .ref (hn_base B + 72)), (2, .int l2), (4, .int l4)] [.int s0, .int s1, .ref (hn_base B + 86)] μ := by
  unfold fX8_readAll_135 at e
  have a86 : hn_isA B 86 false 400 := hV 86 (by decide)
  have a92 : hn_isA B 92 false 4 := hV 92 (by decide)
  have o72 : hn_isO B 72 8 hn_k72 := hV 72 (by decide)
  refine hn_ast hF a86 dX8_readAll_135 (q := 136) rfl e (fun μ6 e => ?_)
  refine hn_aload_n hF dX8_readAll_136 (q := 137) rfl 0 rfl ?_
  refine hn_get hF fl_X8_53 o72 rfl rfl dX8_readAll_137 (q := 140) rfl ?_
  refine hn_iload_n hF dX8_readAll_140 (q := 141) rfl 1 rfl ?_
  refine hn_iconst hF dX8_readAll_141 (q := 142) rfl ki_3 ?_
  refine hn_iadd hF dX8_readAll_142 (q := 143) rfl ?_
  refine hn_iload hF dX8_readAll_143 (q := 145) rfl 2 rfl ?_
  refine hn_if_eq hF dX8_readAll_145 (t := 157) (q := 148) rfl rfl e (fun e => ?_) (fun e => ?_)
  · refine hn_aload_n hF dX8_readAll_157 (q := 158) rfl 0 rfl ?_
    refine hn_get hF fl_X8_71 o72 rfl rfl dX8_readAll_158 (q := 161) rfl ?_
    refine hn_iconst hF dX8_readAll_161 (q := 162) rfl ki_2 ?_
    refine hn_ald hF a92 dX8_readAll_162 (q := 163) rfl e (fun v7 e => ?_)
    refine hn_sub [0, 1] (L' := [(0, .ref (hn_base B + 72)), (2, .int l2)]) rfl ?_
    exact gX8_readAll_163 hF hQ hV H12 e
  · refine hn_aload_n hF dX8_readAll_148 (q := 149) rfl 0 rfl ?_
    refine hn_get hF fl_X8_71 o72 rfl rfl dX8_readAll_149 (q := 152) rfl ?_
    refine hn_iconst hF dX8_readAll_152 (q := 153) rfl ki_1 ?_
    refine hn_ald hF a92 dX8_readAll_153 (q := 154) rfl e (fun v8 e => ?_)
    refine hn_goto hF dX8_readAll_154 (q := 163) rfl ?_
    refine hn_sub [0, 1] (L' := [(0, .ref (hn_base B + 72)), (2, .int l2)]) rfl ?_
    exact gX8_readAll_163 hF hQ hV H12 e
set_option maxHeartbeats 1000000 in
theorem gX8_readAll_107 {Z : hn_Z} {B : hn_B} {F : Nat} {R : Int32 × hn_M} (hF : hn_F Z B (0, 0) cX8_readAll 5 RX8 (some .int) 3) (hQ : hn_goal Z B (some (.int R.1), R.2)) (hV : hn_V B hn_nA) {k12 : hn_M → Option (Int32 × hn_M)} (H12 : ∀ (μ : hn_M), k12 μ = some R → hn_G Z B (0, 0) 5 12 [(0, .ref (hn_base B + 72))] [] μ) {l2 : Int32} {l4 : Int32} {s0 : Int32} {s1 : Int32} {μ : hn_M} (e : fX8_readAll_107 F k12 l2 l4 s0 s1 μ = some R) : hn_G Z B (0, 0) 5 107 [(0, .ref (hn_base B + 72)), (2, .int l2), (4, .int l4)] [.int s0, .int s1, .ref (hn_base B + 86)] μ := by
  unfold fX8_readAll_107 at e
  have a86 : hn_isA B 86 false 400 := hV 86 (by decide)
  have a92 : hn_isA B 92 false 4 := hV 92 (by decide)
  have o72 : hn_isO B 72 8 hn_k72 := hV 72 (by decide)
  refine hn_ast hF a86 dX8_readAll_107 (q := 108) rfl e (fun μ9 e => ?_)
  refine hn_aload_n hF dX8_readAll_108 (q := 109) rfl 0 rfl ?_
  refine hn_get hF fl_X8_53 o72 rfl rfl dX8_readAll_109 (q := 112) rfl ?_
  refine hn_iload_n hF dX8_readAll_112 (q := 113) rfl 1 rfl ?_
  refine hn_iconst hF dX8_readAll_113 (q := 114) rfl ki_2 ?_
  refine hn_iadd hF dX8_readAll_114 (q := 115) rfl ?_
  refine hn_iload hF dX8_readAll_115 (q := 117) rfl 2 rfl ?_
  refine hn_if_eq hF dX8_readAll_117 (t := 129) (q := 120) rfl rfl e (fun e => ?_) (fun e => ?_)
  · refine hn_aload_n hF dX8_readAll_129 (q := 130) rfl 0 rfl ?_
    refine hn_get hF fl_X8_71 o72 rfl rfl dX8_readAll_130 (q := 133) rfl ?_
    refine hn_iconst hF dX8_readAll_133 (q := 134) rfl ki_1 ?_
    refine hn_ald hF a92 dX8_readAll_134 (q := 135) rfl e (fun v10 e => ?_)
    exact gX8_readAll_135 hF hQ hV H12 e
  · refine hn_aload_n hF dX8_readAll_120 (q := 121) rfl 0 rfl ?_
    refine hn_get hF fl_X8_71 o72 rfl rfl dX8_readAll_121 (q := 124) rfl ?_
    refine hn_iconst hF dX8_readAll_124 (q := 125) rfl ki_0 ?_
    refine hn_ald hF a92 dX8_readAll_125 (q := 126) rfl e (fun v11 e => ?_)
    refine hn_goto hF dX8_readAll_126 (q := 135) rfl ?_
    exact gX8_readAll_135 hF hQ hV H12 e
set_option maxHeartbeats 1000000 in
theorem gX8_readAll_76 {Z : hn_Z} {B : hn_B} {F : Nat} {R : Int32 × hn_M} (hF : hn_F Z B (0, 0) cX8_readAll 5 RX8 (some .int) 3) (hQ : hn_goal Z B (some (.int R.1), R.2)) (hV : hn_V B hn_nA) {k12 : hn_M → Option (Int32 × hn_M)} (H12 : ∀ (μ : hn_M), k12 μ = some R → hn_G Z B (0, 0) 5 12 [(0, .ref (hn_base B + 72))] [] μ) {l2 : Int32} {l3 : Int32} {s0 : Int32} {μ : hn_M} (e : fX8_readAll_76 F k12 l2 l3 s0 μ = some R) : hn_G Z B (0, 0) 5 76 [(0, .ref (hn_base B + 72)), (2, .int l2), (3, .int l3)] [.int s0] μ := by
  unfold fX8_readAll_76 at e
  have a86 : hn_isA B 86 false 400 := hV 86 (by decide)
  have a92 : hn_isA B 92 false 4 := hV 92 (by decide)
  have o72 : hn_isO B 72 8 hn_k72 := hV 72 (by decide)
  refine hn_istore hF dX8_readAll_76 (q := 78) rfl (by decide) (L' := [(4, .int s0), (0, .ref (hn_base B + 72)), (2, .int l2), (3, .int l3)]) rfl ?_
  refine hn_aload_n hF dX8_readAll_78 (q := 79) rfl 1 rfl ?_
  refine hn_get hF fl_X8_53 o72 rfl rfl dX8_readAll_79 (q := 82) rfl ?_
  refine hn_iload_n hF dX8_readAll_82 (q := 83) rfl 2 rfl ?_
  refine hn_iload_n hF dX8_readAll_83 (q := 84) rfl 3 rfl ?_
  refine hn_ast hF a86 dX8_readAll_84 (q := 85) rfl e (fun μ12 e => ?_)
  refine hn_aload_n hF dX8_readAll_85 (q := 86) rfl 1 rfl ?_
  refine hn_get hF fl_X8_53 o72 rfl rfl dX8_readAll_86 (q := 89) rfl ?_
  refine hn_iload_n hF dX8_readAll_89 (q := 90) rfl 2 rfl ?_
  refine hn_iconst hF dX8_readAll_90 (q := 91) rfl ki_1 ?_
  refine hn_iadd hF dX8_readAll_91 (q := 92) rfl ?_
  refine hn_iload hF dX8_readAll_92 (q := 94) rfl 0 rfl ?_
  refine hn_if_eq hF dX8_readAll_94 (t := 101) (q := 97) rfl rfl e (fun e => ?_) (fun e => ?_)
  · refine hn_aload_n hF dX8_readAll_101 (q := 102) rfl 1 rfl ?_
    refine hn_get hF fl_X8_71 o72 rfl rfl dX8_readAll_102 (q := 105) rfl ?_
    refine hn_iconst hF dX8_readAll_105 (q := 106) rfl ki_0 ?_
    refine hn_ald hF a92 dX8_readAll_106 (q := 107) rfl e (fun v13 e => ?_)
    refine hn_sub [1, 2, 0] (L' := [(0, .ref (hn_base B + 72)), (2, .int l2), (4, .int s0)]) rfl ?_
    exact gX8_readAll_107 hF hQ hV H12 e
  · refine hn_iconst hF dX8_readAll_97 (q := 98) rfl ki_0 ?_
    refine hn_goto hF dX8_readAll_98 (q := 107) rfl ?_
    refine hn_sub [1, 2, 0] (L' := [(0, .ref (hn_base B + 72)), (2, .int l2), (4, .int s0)]) rfl ?_
    exact gX8_readAll_107 hF hQ hV H12 e
set_option maxHeartbeats 1000000 in
theorem gX8_readAll_71 {Z : hn_Z} {B : hn_B} {F : Nat} {R : Int32 × hn_M} (hF : hn_F Z B (0, 0) cX8_readAll 5 RX8 (some .int) 3) (hQ : hn_goal Z B (some (.int R.1), R.2)) (hV : hn_V B hn_nA) {k12 : hn_M → Option (Int32 × hn_M)} (H12 : ∀ (μ : hn_M), k12 μ = some R → hn_G Z B (0, 0) 5 12 [(0, .ref (hn_base B + 72))] [] μ) {l2 : Int32} {l3 : Int32} {μ : hn_M} (e : fX8_readAll_71 F k12 l2 l3 μ = some R) : hn_G Z B (0, 0) 5 71 [(0, .ref (hn_base B + 72)), (2, .int l2), (3, .int l3)] [] μ := by
  unfold fX8_readAll_71 at e
  refine hn_iconst hF dX8_readAll_71 (q := 72) rfl ki_1 ?_
  refine hn_goto hF dX8_readAll_72 (q := 76) rfl ?_
  exact gX8_readAll_76 hF hQ hV H12 e
set_option maxHeartbeats 1000000 in
theorem gX8_readAll_12 {Z : hn_Z} {B : hn_B} {F : Nat} {R : Int32 × hn_M} (hF : hn_F Z B (0, 0) cX8_readAll 5 RX8 (some .int) 3) (hQ : hn_goal Z B (some (.int R.1), R.2)) (hV : hn_V B hn_nA) : ∀ (n : Nat) (μ : hn_M), fX8_readAll_12 F n μ = some R → hn_G Z B (0, 0) 5 12 [(0, .ref (hn_base B + 72))] [] μ := by
  have a84 : hn_isA B 84 false 200 := hV 84 (by decide)
  have a85 : hn_isA B 85 false 2 := hV 85 (by decide)
  have o72 : hn_isO B 72 8 hn_k72 := hV 72 (by decide)
  intro n
  induction n with
  | zero => intro μ e; rw [fX8_readAll_12] at e; cases e
  | succ n ih =>
    intro μ e
    rw [fX8_readAll_12] at e
    refine hn_aload_n hF dX8_readAll_12 (q := 13) rfl 0 rfl ?_
    refine hn_get hF fl_X8_168 o72 rfl rfl dX8_readAll_13 (q := 16) rfl ?_
    refine hn_aload_n hF dX8_readAll_16 (q := 17) rfl 0 rfl ?_
    refine hn_get hF fl_X8_165 o72 rfl rfl dX8_readAll_17 (q := 20) rfl ?_
    refine hn_icmp_ge hF dX8_readAll_20 (t := 191) (q := 23) rfl rfl e (fun e => ?_) (fun e => ?_)
    · refine hn_bipush hF dX8_readAll_191 (q := 193) rfl kb_m4 ?_
      exact hn_iretM hF hQ dX8_readAll_193 e
    · refine hn_aload_n hF dX8_readAll_23 (q := 24) rfl 0 rfl ?_
      refine hn_get hF fl_X8_168 o72 rfl rfl dX8_readAll_24 (q := 27) rfl ?_
      refine hn_istore_n hF dX8_readAll_27 (q := 28) rfl (i := 1) rfl (by decide) (L' := [(1, .int (μ 72 24)), (0, .ref (hn_base B + 72))]) rfl ?_
      refine hn_aload_n hF dX8_readAll_28 (q := 29) rfl 1 rfl ?_
      refine hn_callVm (rest := []) hF ms_X8_item mv_X8_item lk_X8_182 o72 rfl (by decide) [] rfl (Nat.le_of_ble_eq_true rfl) dX8_readAll_29 (q := 32) rfl rfl e (fun v hv => cX8_item_ hV hv) (fun w14 e => ?_)
      refine hn_if_ne hF dX8_readAll_32 (t := 37) (q := 35) rfl rfl e (fun e => ?_) (fun e => ?_)
      · refine hn_iconst hF dX8_readAll_37 (q := 38) rfl ki_5 ?_
        refine hn_aload_n hF dX8_readAll_38 (q := 39) rfl 1 rfl ?_
        refine hn_get hF fl_X8_50 o72 rfl rfl dX8_readAll_39 (q := 42) rfl ?_
        refine hn_iconst hF dX8_readAll_42 (q := 43) rfl ki_0 ?_
        refine hn_ald hF a85 dX8_readAll_43 (q := 44) rfl e (fun v15 e => ?_)
        refine hn_imul hF dX8_readAll_44 (q := 45) rfl ?_
        refine hn_istore_n hF dX8_readAll_45 (q := 46) rfl (i := 2) rfl (by decide) (L' := [(2, .int (5 * v15)), (1, .int (μ 72 24)), (0, .ref (hn_base B + 72))]) rfl ?_
        refine hn_aload_n hF dX8_readAll_46 (q := 47) rfl 2 rfl ?_
        refine hn_get hF fl_X8_47 o72 rfl rfl dX8_readAll_47 (q := 50) rfl ?_
        refine hn_iload_n hF dX8_readAll_50 (q := 51) rfl 1 rfl ?_
        refine hn_ald hF a84 dX8_readAll_51 (q := 52) rfl e (fun v16 e => ?_)
        refine hn_istore_n hF dX8_readAll_52 (q := 53) rfl (i := 3) rfl (by decide) (L' := [(3, .int v16), (2, .int (5 * v15)), (1, .int (μ 72 24)), (0, .ref (hn_base B + 72))]) rfl ?_
        refine hn_iload_n hF dX8_readAll_53 (q := 54) rfl 0 rfl ?_
        refine hn_bipush hF dX8_readAll_54 (q := 56) rfl kb_111 ?_
        refine hn_icmp_eq hF dX8_readAll_56 (t := 71) (q := 59) rfl rfl e (fun e => ?_) (fun e => ?_)
        · refine hn_sub [3, 1, 0] (L' := [(0, .ref (hn_base B + 72)), (2, .int (5 * v15)), (3, .int v16)]) rfl ?_
          exact gX8_readAll_71 hF hQ hV ih e
        · refine hn_iload_n hF dX8_readAll_59 (q := 60) rfl 0 rfl ?_
          refine hn_bipush hF dX8_readAll_60 (q := 62) rfl kb_98 ?_
          refine hn_icmp_eq hF dX8_readAll_62 (t := 71) (q := 65) rfl rfl e (fun e => ?_) (fun e => ?_)
          · refine hn_sub [3, 1, 0] (L' := [(0, .ref (hn_base B + 72)), (2, .int (5 * v15)), (3, .int v16)]) rfl ?_
            exact gX8_readAll_71 hF hQ hV ih e
          · refine hn_iload_n hF dX8_readAll_65 (q := 66) rfl 0 rfl ?_
            refine hn_bipush hF dX8_readAll_66 (q := 68) rfl kb_120 ?_
            refine hn_icmp_ne hF dX8_readAll_68 (t := 75) (q := 71) rfl rfl e (fun e => ?_) (fun e => ?_)
            · refine hn_iconst hF dX8_readAll_75 (q := 76) rfl ki_0 ?_
              refine hn_sub [3, 1, 0] (L' := [(0, .ref (hn_base B + 72)), (2, .int (5 * v15)), (3, .int v16)]) rfl ?_
              exact gX8_readAll_76 hF hQ hV ih e
            · refine hn_sub [3, 1, 0] (L' := [(0, .ref (hn_base B + 72)), (2, .int (5 * v15)), (3, .int v16)]) rfl ?_
              exact gX8_readAll_71 hF hQ hV ih e
      · refine hn_iload_n hF dX8_readAll_35 (q := 36) rfl 0 rfl ?_
        exact hn_iretM hF hQ dX8_readAll_36 e
set_option maxHeartbeats 1000000 in
theorem gX8_readAll {Z : hn_Z} {B : hn_B} {F : Nat} {R : Int32 × hn_M} (hF : hn_F Z B (0, 0) cX8_readAll 5 RX8 (some .int) 3) (hQ : hn_goal Z B (some (.int R.1), R.2)) (hV : hn_V B hn_nA) {μ : hn_M} (e : fX8_readAll F μ = some R) : hn_G Z B (0, 0) 5 0 [(0, .ref (hn_base B + 72))] [] μ := by
  unfold fX8_readAll at e
  have a85 : hn_isA B 85 false 2 := hV 85 (by decide)
  have o72 : hn_isO B 72 8 hn_k72 := hV 72 (by decide)
  refine hn_aload_n hF dX8_readAll_0 (q := 1) rfl 0 rfl ?_
  refine hn_get hF fl_X8_50 o72 rfl rfl dX8_readAll_1 (q := 4) rfl ?_
  refine hn_iconst hF dX8_readAll_4 (q := 5) rfl ki_0 ?_
  refine hn_iconst hF dX8_readAll_5 (q := 6) rfl ki_0 ?_
  refine hn_ast hF a85 dX8_readAll_6 (q := 7) rfl e (fun μ17 e => ?_)
  refine hn_aload_n hF dX8_readAll_7 (q := 8) rfl 0 rfl ?_
  refine hn_iconst hF dX8_readAll_8 (q := 9) rfl ki_0 ?_
  refine hn_put hF fl_X8_168 fp_X8_24 o72 rfl rfl rfl rfl dX8_readAll_9 (q := 12) rfl e (fun μ18 e => ?_)
  exact gX8_readAll_12 hF hQ hV F μ18 e
theorem cX8_readAll_ {B : hn_B} {F : Nat} {μ : hn_M} {R : Int32 × hn_M} (hV : hn_V B hn_nA) (e : fX8_readAll F μ = some R) : hn_C yX8_readAll cX8_readAll 5 (some .int) 3 B [.ref (hn_base B + 72)] μ (some (.int R.1), R.2) :=
  hn_C.of RX8 (by decide) rfl (Nat.le_of_ble_eq_true rfl) (fun _ hF hQ => gX8_readAll hF hQ hV e)
/-! HandNewsModel.fault()I -/
def fX8_fault (F : Nat) (μ : hn_M) : Option (Int32 × hn_M) := (fX8_readAll F μ).bind fun w1 => some (w1.1, w1.2)
set_option maxHeartbeats 1000000 in
theorem gX8_fault {Z : hn_Z} {B : hn_B} {F : Nat} {R : Int32 × hn_M} (hF : hn_F Z B (0, 0) cX8_fault 1 RX8 (some .int) 4) (hQ : hn_goal Z B (some (.int R.1), R.2)) (hV : hn_V B hn_nA) {μ : hn_M} (e : fX8_fault F μ = some R) : hn_G Z B (0, 0) 1 0 [(0, .ref (hn_base B + 72))] [] μ := by
  unfold fX8_fault at e
  have o72 : hn_isO B 72 8 hn_k72 := hV 72 (by decide)
  refine hn_aload_n hF dX8_fault_0 (q := 1) rfl 0 rfl ?_
  refine hn_callVm (rest := []) hF ms_X8_readAll mv_X8_readAll lk_X8_185 o72 rfl (by decide) [] rfl (Nat.le_of_ble_eq_true rfl) dX8_fault_1 (q := 4) rfl rfl e (fun v hv => cX8_readAll_ hV hv) (fun w1 e => ?_)
  exact hn_iretM hF hQ dX8_fault_4 e
theorem cX8_fault_ {B : hn_B} {F : Nat} {μ : hn_M} {R : Int32 × hn_M} (hV : hn_V B hn_nA) (e : fX8_fault F μ = some R) : hn_C yX8_fault cX8_fault 1 (some .int) 4 B [.ref (hn_base B + 72)] μ (some (.int R.1), R.2) :=
  hn_C.of RX8 (by decide) rfl (Nat.le_of_ble_eq_true rfl) (fun _ hF hQ => gX8_fault hF hQ hV e)
/-! HandNewsModel.force()I -/
def fX8_force_55 (F : Nat) (μ : hn_M) : Option (Int32 × hn_M) := hn_rd μ 85 2 1 fun v1 => some (v1, μ)
def fX8_force_26 (F : Nat) : Nat → Int32 → hn_M → Option (Int32 × hn_M)
  | 0, _, _ => none
  | n + 1, l1, μ => if 200 ≤ l1 then fX8_force_55 F μ else hn_rd μ 86 400 l1 fun v2 => hn_wr μ 86 400 (200 + l1) v2 fun μ3 => fX8_force_26 F n (l1 + 1) μ3
def fX8_force (F : Nat) (μ : hn_M) : Option (Int32 × hn_M) := (fX8_readAll F μ).bind fun w4 => if w4.1 = (-4) then hn_rd w4.2 85 2 0 fun v5 => hn_wr w4.2 85 2 1 v5 fun μ6 => fX8_force_26 F F 0 μ6 else some ((-2), w4.2)
set_option maxHeartbeats 1000000 in
theorem gX8_force_55 {Z : hn_Z} {B : hn_B} {F : Nat} {R : Int32 × hn_M} (hF : hn_F Z B (0, 0) cX8_force 2 RX8 (some .int) 4) (hQ : hn_goal Z B (some (.int R.1), R.2)) (hV : hn_V B hn_nA) {μ : hn_M} (e : fX8_force_55 F μ = some R) : hn_G Z B (0, 0) 2 55 [(0, .ref (hn_base B + 72))] [] μ := by
  unfold fX8_force_55 at e
  have a85 : hn_isA B 85 false 2 := hV 85 (by decide)
  have o72 : hn_isO B 72 8 hn_k72 := hV 72 (by decide)
  refine hn_aload_n hF dX8_force_55 (q := 56) rfl 0 rfl ?_
  refine hn_get hF fl_X8_50 o72 rfl rfl dX8_force_56 (q := 59) rfl ?_
  refine hn_iconst hF dX8_force_59 (q := 60) rfl ki_1 ?_
  refine hn_ald hF a85 dX8_force_60 (q := 61) rfl e (fun v1 e => ?_)
  exact hn_iretM hF hQ dX8_force_61 e
set_option maxHeartbeats 1000000 in
theorem gX8_force_26 {Z : hn_Z} {B : hn_B} {F : Nat} {R : Int32 × hn_M} (hF : hn_F Z B (0, 0) cX8_force 2 RX8 (some .int) 4) (hQ : hn_goal Z B (some (.int R.1), R.2)) (hV : hn_V B hn_nA) : ∀ (n : Nat) (l1 : Int32) (μ : hn_M), fX8_force_26 F n l1 μ = some R → hn_G Z B (0, 0) 2 26 [(0, .ref (hn_base B + 72)), (1, .int l1)] [] μ := by
  have a86 : hn_isA B 86 false 400 := hV 86 (by decide)
  have o72 : hn_isO B 72 8 hn_k72 := hV 72 (by decide)
  intro n
  induction n with
  | zero => intro l1 μ e; rw [fX8_force_26] at e; cases e
  | succ n ih =>
    intro l1 μ e
    rw [fX8_force_26] at e
    refine hn_iload_n hF dX8_force_26 (q := 27) rfl 1 rfl ?_
    refine hn_sipush hF dX8_force_27 (q := 30) rfl ks_200 ?_
    refine hn_icmp_ge hF dX8_force_30 (t := 55) (q := 33) rfl rfl e (fun e => ?_) (fun e => ?_)
    · refine hn_sub [0] (L' := [(0, .ref (hn_base B + 72))]) rfl ?_
      exact gX8_force_55 hF hQ hV e
    · refine hn_aload_n hF dX8_force_33 (q := 34) rfl 0 rfl ?_
      refine hn_get hF fl_X8_53 o72 rfl rfl dX8_force_34 (q := 37) rfl ?_
      refine hn_sipush hF dX8_force_37 (q := 40) rfl ks_200 ?_
      refine hn_iload_n hF dX8_force_40 (q := 41) rfl 1 rfl ?_
      refine hn_iadd hF dX8_force_41 (q := 42) rfl ?_
      refine hn_aload_n hF dX8_force_42 (q := 43) rfl 0 rfl ?_
      refine hn_get hF fl_X8_53 o72 rfl rfl dX8_force_43 (q := 46) rfl ?_
      refine hn_iload_n hF dX8_force_46 (q := 47) rfl 1 rfl ?_
      refine hn_ald hF a86 dX8_force_47 (q := 48) rfl e (fun v2 e => ?_)
      refine hn_ast hF a86 dX8_force_48 (q := 49) rfl e (fun μ3 e => ?_)
      refine hn_iinc (p := 1) hF dX8_force_49 (q := 52) rfl rfl (kn_1 _) (by decide) (L' := [(1, .int (l1 + 1)), (0, .ref (hn_base B + 72))]) rfl ?_
      refine hn_goto hF dX8_force_52 (q := 26) rfl ?_
      refine hn_sub [1, 0] (L' := [(0, .ref (hn_base B + 72)), (1, .int (l1 + 1))]) rfl ?_
      exact ih (l1 + 1) μ3 e
set_option maxHeartbeats 1000000 in
theorem gX8_force {Z : hn_Z} {B : hn_B} {F : Nat} {R : Int32 × hn_M} (hF : hn_F Z B (0, 0) cX8_force 2 RX8 (some .int) 4) (hQ : hn_goal Z B (some (.int R.1), R.2)) (hV : hn_V B hn_nA) {μ : hn_M} (e : fX8_force F μ = some R) : hn_G Z B (0, 0) 2 0 [(0, .ref (hn_base B + 72))] [] μ := by
  unfold fX8_force at e
  have a85 : hn_isA B 85 false 2 := hV 85 (by decide)
  have o72 : hn_isO B 72 8 hn_k72 := hV 72 (by decide)
  refine hn_aload_n hF dX8_force_0 (q := 1) rfl 0 rfl ?_
  refine hn_callVm (rest := []) hF ms_X8_readAll mv_X8_readAll lk_X8_185 o72 rfl (by decide) [] rfl (Nat.le_of_ble_eq_true rfl) dX8_force_1 (q := 4) rfl rfl e (fun v hv => cX8_readAll_ hV hv) (fun w4 e => ?_)
  refine hn_bipush hF dX8_force_4 (q := 6) rfl kb_m4 ?_
  refine hn_icmp_eq hF dX8_force_6 (t := 12) (q := 9) rfl rfl e (fun e => ?_) (fun e => ?_)
  · refine hn_aload_n hF dX8_force_12 (q := 13) rfl 0 rfl ?_
    refine hn_get hF fl_X8_50 o72 rfl rfl dX8_force_13 (q := 16) rfl ?_
    refine hn_iconst hF dX8_force_16 (q := 17) rfl ki_1 ?_
    refine hn_aload_n hF dX8_force_17 (q := 18) rfl 0 rfl ?_
    refine hn_get hF fl_X8_50 o72 rfl rfl dX8_force_18 (q := 21) rfl ?_
    refine hn_iconst hF dX8_force_21 (q := 22) rfl ki_0 ?_
    refine hn_ald hF a85 dX8_force_22 (q := 23) rfl e (fun v5 e => ?_)
    refine hn_ast hF a85 dX8_force_23 (q := 24) rfl e (fun μ6 e => ?_)
    refine hn_iconst hF dX8_force_24 (q := 25) rfl ki_0 ?_
    refine hn_istore_n hF dX8_force_25 (q := 26) rfl (i := 1) rfl (by decide) (L' := [(1, .int 0), (0, .ref (hn_base B + 72))]) rfl ?_
    refine hn_sub [1, 0] (L' := [(0, .ref (hn_base B + 72)), (1, .int 0)]) rfl ?_
    exact gX8_force_26 hF hQ hV F 0 μ6 e
  · refine hn_bipush hF dX8_force_9 (q := 11) rfl kb_m2 ?_
    exact hn_iretM hF hQ dX8_force_11 e
theorem cX8_force_ {B : hn_B} {F : Nat} {μ : hn_M} {R : Int32 × hn_M} (hV : hn_V B hn_nA) (e : fX8_force F μ = some R) : hn_C yX8_force cX8_force 2 (some .int) 4 B [.ref (hn_base B + 72)] μ (some (.int R.1), R.2) :=
  hn_C.of RX8 (by decide) rfl (Nat.le_of_ble_eq_true rfl) (fun _ hF hQ => gX8_force hF hQ hV e)
/-! HandNewsModel.letterOf(I)I -/
def fX8_letterOf (l0 : Int32) : Option Int32 := if l0 = 0 then some 119 else if l0 = 1 then some 118 else if l0 = 2 then some 111 else if l0 = 3 then some 98 else some 120
set_option maxHeartbeats 1000000 in
theorem gX8_letterOf {Z : hn_Z} {B : hn_B} {μ : hn_M} {R : Int32} (hF : hn_F Z B (0, 0) cX8_letterOf 1 RX8 (some .int) 0) (hQ : hn_goal Z B (some (.int R), μ)) {l0 : Int32} (e : fX8_letterOf l0 = some R) : hn_G Z B (0, 0) 1 0 [(0, .int l0)] [] μ := by
  unfold fX8_letterOf at e
  refine hn_iload_n hF dX8_letterOf_0 (q := 1) rfl 0 rfl ?_
  refine hn_if_ne hF dX8_letterOf_1 (t := 9) (q := 4) rfl rfl e (fun e => ?_) (fun e => ?_)
  · refine hn_iload_n hF dX8_letterOf_9 (q := 10) rfl 0 rfl ?_
    refine hn_iconst hF dX8_letterOf_10 (q := 11) rfl ki_1 ?_
    refine hn_icmp_ne hF dX8_letterOf_11 (t := 19) (q := 14) rfl rfl e (fun e => ?_) (fun e => ?_)
    · refine hn_iload_n hF dX8_letterOf_19 (q := 20) rfl 0 rfl ?_
      refine hn_iconst hF dX8_letterOf_20 (q := 21) rfl ki_2 ?_
      refine hn_icmp_ne hF dX8_letterOf_21 (t := 29) (q := 24) rfl rfl e (fun e => ?_) (fun e => ?_)
      · refine hn_iload_n hF dX8_letterOf_29 (q := 30) rfl 0 rfl ?_
        refine hn_iconst hF dX8_letterOf_30 (q := 31) rfl ki_3 ?_
        refine hn_icmp_ne hF dX8_letterOf_31 (t := 39) (q := 34) rfl rfl e (fun e => ?_) (fun e => ?_)
        · refine hn_bipush hF dX8_letterOf_39 (q := 41) rfl kb_120 ?_
          exact hn_iretP hF hQ dX8_letterOf_41 e
        · refine hn_bipush hF dX8_letterOf_34 (q := 36) rfl kb_98 ?_
          refine hn_goto hF dX8_letterOf_36 (q := 41) rfl ?_
          exact hn_iretP hF hQ dX8_letterOf_41 e
      · refine hn_bipush hF dX8_letterOf_24 (q := 26) rfl kb_111 ?_
        refine hn_goto hF dX8_letterOf_26 (q := 41) rfl ?_
        exact hn_iretP hF hQ dX8_letterOf_41 e
    · refine hn_bipush hF dX8_letterOf_14 (q := 16) rfl kb_118 ?_
      refine hn_goto hF dX8_letterOf_16 (q := 41) rfl ?_
      exact hn_iretP hF hQ dX8_letterOf_41 e
  · refine hn_bipush hF dX8_letterOf_4 (q := 6) rfl kb_119 ?_
    refine hn_goto hF dX8_letterOf_6 (q := 41) rfl ?_
    exact hn_iretP hF hQ dX8_letterOf_41 e
theorem cX8_letterOf_ {B : hn_B} {μ : hn_M} {R : Int32} {l0 : Int32} (e : fX8_letterOf l0 = some R) : hn_C yX8_letterOf cX8_letterOf 1 (some .int) 0 B [.int l0] μ (some (.int R), μ) :=
  hn_C.of RX8 (by decide) rfl (Nat.le_of_ble_eq_true rfl) (fun _ hF hQ => gX8_letterOf hF hQ e)
/-! HandNewsModel.whyOf(III)I -/
def fX8_whyOf_92 (F : Nat) (μ : hn_M) (k7 : Int32 → Int32 → Int32 → Int32 → Int32 → Option Int32) (l1 : Int32) (l2 : Int32) (l3 : Int32) (l5 : Int32) (s0 : Int32) : Option Int32 := k7 l1 l2 l3 s0 (l5 + 1)
def fX8_whyOf_78 (F : Nat) (μ : hn_M) (k7 : Int32 → Int32 → Int32 → Int32 → Int32 → Option Int32) (l1 : Int32) (l2 : Int32) (l3 : Int32) (l4 : Int32) (l5 : Int32) (s0 : Int32) : Option Int32 := if s0 = 0 then fX8_whyOf_92 F μ k7 l1 l2 l3 l5 l4 else fX8_whyOf_92 F μ k7 l1 l2 l3 l5 l5
def fX8_whyOf_77 (F : Nat) (μ : hn_M) (k7 : Int32 → Int32 → Int32 → Int32 → Int32 → Option Int32) (l1 : Int32) (l2 : Int32) (l3 : Int32) (l4 : Int32) (l5 : Int32) : Option Int32 := fX8_whyOf_78 F μ k7 l1 l2 l3 l4 l5 0
def fX8_whyOf_60 (F : Nat) (μ : hn_M) (k7 : Int32 → Int32 → Int32 → Int32 → Int32 → Option Int32) (l1 : Int32) (l2 : Int32) (l3 : Int32) (l4 : Int32) (l5 : Int32) (l6 : Int32) : Option Int32 := hn_rd μ 86 400 (l6 + 3) fun v1 => if l3 < v1 then fX8_whyOf_77 F μ k7 l1 l2 l3 l4 l5 else fX8_whyOf_78 F μ k7 l1 l2 l3 l4 l5 1
def fX8_whyOf_7 (F : Nat) (μ : hn_M) : Nat → Int32 → Int32 → Int32 → Int32 → Int32 → Option Int32
  | 0, _, _, _, _, _ => none
  | n + 1, l1, l2, l3, l4, l5 => hn_rd μ 85 2 1 fun v2 => if v2 ≤ l5 then some l4 else hn_rd μ 86 400 (200 + (5 * l5)) fun v3 => (fX8_letterOf l1).bind fun v4 => if v3 = v4 then if 1 < l1 then fX8_whyOf_60 F μ (fX8_whyOf_7 F μ n) l1 l2 l3 l4 l5 (200 + (5 * l5)) else hn_rd μ 86 400 ((200 + (5 * l5)) + 1) fun v5 => if v5 = l2 then fX8_whyOf_60 F μ (fX8_whyOf_7 F μ n) l1 l2 l3 l4 l5 (200 + (5 * l5)) else fX8_whyOf_77 F μ (fX8_whyOf_7 F μ n) l1 l2 l3 l4 l5 else fX8_whyOf_77 F μ (fX8_whyOf_7 F μ n) l1 l2 l3 l4 l5
def fX8_whyOf (F : Nat) (μ : hn_M) (l1 : Int32) (l2 : Int32) (l3 : Int32) : Option Int32 := fX8_whyOf_7 F μ F l1 l2 l3 (-4) 0
set_option maxHeartbeats 1000000 in
theorem gX8_whyOf_92 {Z : hn_Z} {B : hn_B} {F : Nat} {μ : hn_M} {R : Int32} (hF : hn_F Z B (0, 0) cX8_whyOf 8 RX8 (some .int) 1) (hQ : hn_goal Z B (some (.int R), μ)) (hV : hn_V B hn_nA) {k7 : Int32 → Int32 → Int32 → Int32 → Int32 → Option Int32} (H7 : ∀ (l1 : Int32) (l2 : Int32) (l3 : Int32) (l4 : Int32) (l5 : Int32), k7 l1 l2 l3 l4 l5 = some R → hn_G Z B (0, 0) 8 7 [(0, .ref (hn_base B + 72)), (1, .int l1), (2, .int l2), (3, .int l3), (4, .int l4), (5, .int l5)] [] μ) {l1 : Int32} {l2 : Int32} {l3 : Int32} {l5 : Int32} {s0 : Int32} (e : fX8_whyOf_92 F μ k7 l1 l2 l3 l5 s0 = some R) : hn_G Z B (0, 0) 8 92 [(0, .ref (hn_base B + 72)), (1, .int l1), (2, .int l2), (3, .int l3), (5, .int l5)] [.int s0] μ := by
  unfold fX8_whyOf_92 at e
  refine hn_istore hF dX8_whyOf_92 (q := 94) rfl (by decide) (L' := [(4, .int s0), (0, .ref (hn_base B + 72)), (1, .int l1), (2, .int l2), (3, .int l3), (5, .int l5)]) rfl ?_
  refine hn_iinc (p := 5) hF dX8_whyOf_94 (q := 97) rfl rfl (kn_1 _) (by decide) (L' := [(5, .int (l5 + 1)), (4, .int s0), (0, .ref (hn_base B + 72)), (1, .int l1), (2, .int l2), (3, .int l3)]) rfl ?_
  refine hn_goto hF dX8_whyOf_97 (q := 7) rfl ?_
  refine hn_sub [2, 3, 4, 5, 1, 0] (L' := [(0, .ref (hn_base B + 72)), (1, .int l1), (2, .int l2), (3, .int l3), (4, .int s0), (5, .int (l5 + 1))]) rfl ?_
  exact H7 l1 l2 l3 s0 (l5 + 1) e
set_option maxHeartbeats 1000000 in
theorem gX8_whyOf_78 {Z : hn_Z} {B : hn_B} {F : Nat} {μ : hn_M} {R : Int32} (hF : hn_F Z B (0, 0) cX8_whyOf 8 RX8 (some .int) 1) (hQ : hn_goal Z B (some (.int R), μ)) (hV : hn_V B hn_nA) {k7 : Int32 → Int32 → Int32 → Int32 → Int32 → Option Int32} (H7 : ∀ (l1 : Int32) (l2 : Int32) (l3 : Int32) (l4 : Int32) (l5 : Int32), k7 l1 l2 l3 l4 l5 = some R → hn_G Z B (0, 0) 8 7 [(0, .ref (hn_base B + 72)), (1, .int l1), (2, .int l2), (3, .int l3), (4, .int l4), (5, .int l5)] [] μ) {l1 : Int32} {l2 : Int32} {l3 : Int32} {l4 : Int32} {l5 : Int32} {s0 : Int32} (e : fX8_whyOf_78 F μ k7 l1 l2 l3 l4 l5 s0 = some R) : hn_G Z B (0, 0) 8 78 [(0, .ref (hn_base B + 72)), (1, .int l1), (2, .int l2), (3, .int l3), (4, .int l4), (5, .int l5)] [.int s0] μ := by
  unfold fX8_whyOf_78 at e
  refine hn_istore hF dX8_whyOf_78 (q := 80) rfl (by decide) (L' := [(7, .int s0), (0, .ref (hn_base B + 72)), (1, .int l1), (2, .int l2), (3, .int l3), (4, .int l4), (5, .int l5)]) rfl ?_
  refine hn_iload hF dX8_whyOf_80 (q := 82) rfl 0 rfl ?_
  refine hn_if_eq hF dX8_whyOf_82 (t := 90) (q := 85) rfl rfl e (fun e => ?_) (fun e => ?_)
  · refine hn_iload hF dX8_whyOf_90 (q := 92) rfl 5 rfl ?_
    refine hn_sub [1, 2, 3, 4, 6] (L' := [(0, .ref (hn_base B + 72)), (1, .int l1), (2, .int l2), (3, .int l3), (5, .int l5)]) rfl ?_
    exact gX8_whyOf_92 hF hQ hV H7 e
  · refine hn_iload hF dX8_whyOf_85 (q := 87) rfl 6 rfl ?_
    refine hn_goto hF dX8_whyOf_87 (q := 92) rfl ?_
    refine hn_sub [1, 2, 3, 4, 6] (L' := [(0, .ref (hn_base B + 72)), (1, .int l1), (2, .int l2), (3, .int l3), (5, .int l5)]) rfl ?_
    exact gX8_whyOf_92 hF hQ hV H7 e
set_option maxHeartbeats 1000000 in
theorem gX8_whyOf_77 {Z : hn_Z} {B : hn_B} {F : Nat} {μ : hn_M} {R : Int32} (hF : hn_F Z B (0, 0) cX8_whyOf 8 RX8 (some .int) 1) (hQ : hn_goal Z B (some (.int R), μ)) (hV : hn_V B hn_nA) {k7 : Int32 → Int32 → Int32 → Int32 → Int32 → Option Int32} (H7 : ∀ (l1 : Int32) (l2 : Int32) (l3 : Int32) (l4 : Int32) (l5 : Int32), k7 l1 l2 l3 l4 l5 = some R → hn_G Z B (0, 0) 8 7 [(0, .ref (hn_base B + 72)), (1, .int l1), (2, .int l2), (3, .int l3), (4, .int l4), (5, .int l5)] [] μ) {l1 : Int32} {l2 : Int32} {l3 : Int32} {l4 : Int32} {l5 : Int32} (e : fX8_whyOf_77 F μ k7 l1 l2 l3 l4 l5 = some R) : hn_G Z B (0, 0) 8 77 [(0, .ref (hn_base B + 72)), (1, .int l1), (2, .int l2), (3, .int l3), (4, .int l4), (5, .int l5)] [] μ := by
  unfold fX8_whyOf_77 at e
  refine hn_iconst hF dX8_whyOf_77 (q := 78) rfl ki_0 ?_
  exact gX8_whyOf_78 hF hQ hV H7 e
set_option maxHeartbeats 1000000 in
theorem gX8_whyOf_60 {Z : hn_Z} {B : hn_B} {F : Nat} {μ : hn_M} {R : Int32} (hF : hn_F Z B (0, 0) cX8_whyOf 8 RX8 (some .int) 1) (hQ : hn_goal Z B (some (.int R), μ)) (hV : hn_V B hn_nA) {k7 : Int32 → Int32 → Int32 → Int32 → Int32 → Option Int32} (H7 : ∀ (l1 : Int32) (l2 : Int32) (l3 : Int32) (l4 : Int32) (l5 : Int32), k7 l1 l2 l3 l4 l5 = some R → hn_G Z B (0, 0) 8 7 [(0, .ref (hn_base B + 72)), (1, .int l1), (2, .int l2), (3, .int l3), (4, .int l4), (5, .int l5)] [] μ) {l1 : Int32} {l2 : Int32} {l3 : Int32} {l4 : Int32} {l5 : Int32} {l6 : Int32} (e : fX8_whyOf_60 F μ k7 l1 l2 l3 l4 l5 l6 = some R) : hn_G Z B (0, 0) 8 60 [(0, .ref (hn_base B + 72)), (1, .int l1), (2, .int l2), (3, .int l3), (4, .int l4), (5, .int l5), (6, .int l6)] [] μ := by
  unfold fX8_whyOf_60 at e
  have a86 : hn_isA B 86 false 400 := hV 86 (by decide)
  have o72 : hn_isO B 72 8 hn_k72 := hV 72 (by decide)
  refine hn_aload_n hF dX8_whyOf_60 (q := 61) rfl 0 rfl ?_
  refine hn_get hF fl_X8_53 o72 rfl rfl dX8_whyOf_61 (q := 64) rfl ?_
  refine hn_iload hF dX8_whyOf_64 (q := 66) rfl 6 rfl ?_
  refine hn_iconst hF dX8_whyOf_66 (q := 67) rfl ki_3 ?_
  refine hn_iadd hF dX8_whyOf_67 (q := 68) rfl ?_
  refine hn_ald hF a86 dX8_whyOf_68 (q := 69) rfl e (fun v1 e => ?_)
  refine hn_iload_n hF dX8_whyOf_69 (q := 70) rfl 3 rfl ?_
  refine hn_icmp_gt hF dX8_whyOf_70 (t := 77) (q := 73) rfl rfl e (fun e => ?_) (fun e => ?_)
  · refine hn_sub [0, 1, 2, 3, 4, 5] (L' := [(0, .ref (hn_base B + 72)), (1, .int l1), (2, .int l2), (3, .int l3), (4, .int l4), (5, .int l5)]) rfl ?_
    exact gX8_whyOf_77 hF hQ hV H7 e
  · refine hn_iconst hF dX8_whyOf_73 (q := 74) rfl ki_1 ?_
    refine hn_goto hF dX8_whyOf_74 (q := 78) rfl ?_
    refine hn_sub [0, 1, 2, 3, 4, 5] (L' := [(0, .ref (hn_base B + 72)), (1, .int l1), (2, .int l2), (3, .int l3), (4, .int l4), (5, .int l5)]) rfl ?_
    exact gX8_whyOf_78 hF hQ hV H7 e
set_option maxHeartbeats 1000000 in
theorem gX8_whyOf_7 {Z : hn_Z} {B : hn_B} {F : Nat} {μ : hn_M} {R : Int32} (hF : hn_F Z B (0, 0) cX8_whyOf 8 RX8 (some .int) 1) (hQ : hn_goal Z B (some (.int R), μ)) (hV : hn_V B hn_nA) : ∀ (n : Nat) (l1 : Int32) (l2 : Int32) (l3 : Int32) (l4 : Int32) (l5 : Int32), fX8_whyOf_7 F μ n l1 l2 l3 l4 l5 = some R → hn_G Z B (0, 0) 8 7 [(0, .ref (hn_base B + 72)), (1, .int l1), (2, .int l2), (3, .int l3), (4, .int l4), (5, .int l5)] [] μ := by
  have a85 : hn_isA B 85 false 2 := hV 85 (by decide)
  have a86 : hn_isA B 86 false 400 := hV 86 (by decide)
  have o72 : hn_isO B 72 8 hn_k72 := hV 72 (by decide)
  intro n
  induction n with
  | zero => intro l1 l2 l3 l4 l5 e; rw [fX8_whyOf_7] at e; cases e
  | succ n ih =>
    intro l1 l2 l3 l4 l5 e
    rw [fX8_whyOf_7] at e
    refine hn_iload hF dX8_whyOf_7 (q := 9) rfl 5 rfl ?_
    refine hn_aload_n hF dX8_whyOf_9 (q := 10) rfl 0 rfl ?_
    refine hn_get hF fl_X8_50 o72 rfl rfl dX8_whyOf_10 (q := 13) rfl ?_
    refine hn_iconst hF dX8_whyOf_13 (q := 14) rfl ki_1 ?_
    refine hn_ald hF a85 dX8_whyOf_14 (q := 15) rfl e (fun v2 e => ?_)
    refine hn_icmp_ge hF dX8_whyOf_15 (t := 100) (q := 18) rfl rfl e (fun e => ?_) (fun e => ?_)
    · refine hn_iload hF dX8_whyOf_100 (q := 102) rfl 4 rfl ?_
      exact hn_iretP hF hQ dX8_whyOf_102 e
    · refine hn_sipush hF dX8_whyOf_18 (q := 21) rfl ks_200 ?_
      refine hn_iconst hF dX8_whyOf_21 (q := 22) rfl ki_5 ?_
      refine hn_iload hF dX8_whyOf_22 (q := 24) rfl 5 rfl ?_
      refine hn_imul hF dX8_whyOf_24 (q := 25) rfl ?_
      refine hn_iadd hF dX8_whyOf_25 (q := 26) rfl ?_
      refine hn_istore hF dX8_whyOf_26 (q := 28) rfl (by decide) (L' := [(6, .int (200 + (5 * l5))), (0, .ref (hn_base B + 72)), (1, .int l1), (2, .int l2), (3, .int l3), (4, .int l4), (5, .int l5)]) rfl ?_
      refine hn_aload_n hF dX8_whyOf_28 (q := 29) rfl 1 rfl ?_
      refine hn_get hF fl_X8_53 o72 rfl rfl dX8_whyOf_29 (q := 32) rfl ?_
      refine hn_iload hF dX8_whyOf_32 (q := 34) rfl 0 rfl ?_
      refine hn_ald hF a86 dX8_whyOf_34 (q := 35) rfl e (fun v3 e => ?_)
      refine hn_iload_n hF dX8_whyOf_35 (q := 36) rfl 2 rfl ?_
      refine hn_callSi (rest := [.int v3]) hF ms_X8_letterOf mt_X8_letterOf lk_X8_189 (by decide) [.int l1] rfl (Nat.le_of_ble_eq_true rfl) dX8_whyOf_36 (q := 39) rfl rfl e (fun v hv => cX8_letterOf_ hv) (fun v4 e => ?_)
      refine hn_icmp_ne hF dX8_whyOf_39 (t := 77) (q := 42) rfl rfl e (fun e => ?_) (fun e => ?_)
      · refine hn_sub [1, 2, 3, 4, 5, 6] (L' := [(0, .ref (hn_base B + 72)), (1, .int l1), (2, .int l2), (3, .int l3), (4, .int l4), (5, .int l5)]) rfl ?_
        exact gX8_whyOf_77 hF hQ hV ih e
      · refine hn_iload_n hF dX8_whyOf_42 (q := 43) rfl 2 rfl ?_
        refine hn_iconst hF dX8_whyOf_43 (q := 44) rfl ki_1 ?_
        refine hn_icmp_gt hF dX8_whyOf_44 (t := 60) (q := 47) rfl rfl e (fun e => ?_) (fun e => ?_)
        · refine hn_sub [1, 2, 3, 4, 5, 6, 0] (L' := [(0, .ref (hn_base B + 72)), (1, .int l1), (2, .int l2), (3, .int l3), (4, .int l4), (5, .int l5), (6, .int (200 + (5 * l5)))]) rfl ?_
          exact gX8_whyOf_60 hF hQ hV ih e
        · refine hn_aload_n hF dX8_whyOf_47 (q := 48) rfl 1 rfl ?_
          refine hn_get hF fl_X8_53 o72 rfl rfl dX8_whyOf_48 (q := 51) rfl ?_
          refine hn_iload hF dX8_whyOf_51 (q := 53) rfl 0 rfl ?_
          refine hn_iconst hF dX8_whyOf_53 (q := 54) rfl ki_1 ?_
          refine hn_iadd hF dX8_whyOf_54 (q := 55) rfl ?_
          refine hn_ald hF a86 dX8_whyOf_55 (q := 56) rfl e (fun v5 e => ?_)
          refine hn_iload_n hF dX8_whyOf_56 (q := 57) rfl 3 rfl ?_
          refine hn_icmp_ne hF dX8_whyOf_57 (t := 77) (q := 60) rfl rfl e (fun e => ?_) (fun e => ?_)
          · refine hn_sub [1, 2, 3, 4, 5, 6] (L' := [(0, .ref (hn_base B + 72)), (1, .int l1), (2, .int l2), (3, .int l3), (4, .int l4), (5, .int l5)]) rfl ?_
            exact gX8_whyOf_77 hF hQ hV ih e
          · refine hn_sub [1, 2, 3, 4, 5, 6, 0] (L' := [(0, .ref (hn_base B + 72)), (1, .int l1), (2, .int l2), (3, .int l3), (4, .int l4), (5, .int l5), (6, .int (200 + (5 * l5)))]) rfl ?_
            exact gX8_whyOf_60 hF hQ hV ih e
set_option maxHeartbeats 1000000 in
theorem gX8_whyOf {Z : hn_Z} {B : hn_B} {F : Nat} {μ : hn_M} {R : Int32} (hF : hn_F Z B (0, 0) cX8_whyOf 8 RX8 (some .int) 1) (hQ : hn_goal Z B (some (.int R), μ)) (hV : hn_V B hn_nA) {l1 : Int32} {l2 : Int32} {l3 : Int32} (e : fX8_whyOf F μ l1 l2 l3 = some R) : hn_G Z B (0, 0) 8 0 [(0, .ref (hn_base B + 72)), (1, .int l1), (2, .int l2), (3, .int l3)] [] μ := by
  unfold fX8_whyOf at e
  refine hn_bipush hF dX8_whyOf_0 (q := 2) rfl kb_m4 ?_
  refine hn_istore hF dX8_whyOf_2 (q := 4) rfl (by decide) (L' := [(4, .int ((-4))), (0, .ref (hn_base B + 72)), (1, .int l1), (2, .int l2), (3, .int l3)]) rfl ?_
  refine hn_iconst hF dX8_whyOf_4 (q := 5) rfl ki_0 ?_
  refine hn_istore hF dX8_whyOf_5 (q := 7) rfl (by decide) (L' := [(5, .int 0), (4, .int ((-4))), (0, .ref (hn_base B + 72)), (1, .int l1), (2, .int l2), (3, .int l3)]) rfl ?_
  refine hn_sub [2, 3, 4, 5, 1, 0] (L' := [(0, .ref (hn_base B + 72)), (1, .int l1), (2, .int l2), (3, .int l3), (4, .int ((-4))), (5, .int 0)]) rfl ?_
  exact gX8_whyOf_7 hF hQ hV F l1 l2 l3 (-4) 0 e
theorem cX8_whyOf_ {B : hn_B} {F : Nat} {μ : hn_M} {R : Int32} {l1 : Int32} {l2 : Int32} {l3 : Int32} (hV : hn_V B hn_nA) (e : fX8_whyOf F μ l1 l2 l3 = some R) : hn_C yX8_whyOf cX8_whyOf 8 (some .int) 1 B [.ref (hn_base B + 72), .int l1, .int l2, .int l3] μ (some (.int R), μ) :=
  hn_C.of RX8 (by decide) rfl (Nat.le_of_ble_eq_true rfl) (fun _ hF hQ => gX8_whyOf hF hQ hV e)
/-! HandNewsModel.ruleOf(III)I -/
def fX8_ruleOf (F : Nat) (μ : hn_M) (l1 : Int32) (l2 : Int32) (l3 : Int32) : Option Int32 := (fX8_whyOf F μ l1 l2 l3).bind fun v1 => if v1 = (-4) then if l1 = 0 then some 10 else if l1 = 1 then some 0 else if l1 = 2 then some 999 else if l1 = 3 then some 20 else some 1 else hn_rd μ 86 400 (202 + (5 * v1)) fun v2 => some v2
set_option maxHeartbeats 1000000 in
theorem gX8_ruleOf {Z : hn_Z} {B : hn_B} {F : Nat} {μ : hn_M} {R : Int32} (hF : hn_F Z B (0, 0) cX8_ruleOf 5 RX8 (some .int) 2) (hQ : hn_goal Z B (some (.int R), μ)) (hV : hn_V B hn_nA) {l1 : Int32} {l2 : Int32} {l3 : Int32} (e : fX8_ruleOf F μ l1 l2 l3 = some R) : hn_G Z B (0, 0) 5 0 [(0, .ref (hn_base B + 72)), (1, .int l1), (2, .int l2), (3, .int l3)] [] μ := by
  unfold fX8_ruleOf at e
  have a86 : hn_isA B 86 false 400 := hV 86 (by decide)
  have o72 : hn_isO B 72 8 hn_k72 := hV 72 (by decide)
  refine hn_aload_n hF dX8_ruleOf_0 (q := 1) rfl 0 rfl ?_
  refine hn_iload_n hF dX8_ruleOf_1 (q := 2) rfl 1 rfl ?_
  refine hn_iload_n hF dX8_ruleOf_2 (q := 3) rfl 2 rfl ?_
  refine hn_iload_n hF dX8_ruleOf_3 (q := 4) rfl 3 rfl ?_
  refine hn_callVi (rest := []) hF ms_X8_whyOf mv_X8_whyOf lk_X8_192 o72 rfl (by decide) [.int l1, .int l2, .int l3] rfl (Nat.le_of_ble_eq_true rfl) dX8_ruleOf_4 (q := 7) rfl rfl e (fun v hv => cX8_whyOf_ hV hv) (fun v1 e => ?_)
  refine hn_istore hF dX8_ruleOf_7 (q := 9) rfl (by decide) (L' := [(4, .int v1), (0, .ref (hn_base B + 72)), (1, .int l1), (2, .int l2), (3, .int l3)]) rfl ?_
  refine hn_iload hF dX8_ruleOf_9 (q := 11) rfl 0 rfl ?_
  refine hn_bipush hF dX8_ruleOf_11 (q := 13) rfl kb_m4 ?_
  refine hn_icmp_eq hF dX8_ruleOf_13 (t := 30) (q := 16) rfl rfl e (fun e => ?_) (fun e => ?_)
  · refine hn_iload_n hF dX8_ruleOf_30 (q := 31) rfl 2 rfl ?_
    refine hn_if_ne hF dX8_ruleOf_31 (t := 39) (q := 34) rfl rfl e (fun e => ?_) (fun e => ?_)
    · refine hn_iload_n hF dX8_ruleOf_39 (q := 40) rfl 2 rfl ?_
      refine hn_iconst hF dX8_ruleOf_40 (q := 41) rfl ki_1 ?_
      refine hn_icmp_ne hF dX8_ruleOf_41 (t := 48) (q := 44) rfl rfl e (fun e => ?_) (fun e => ?_)
      · refine hn_iload_n hF dX8_ruleOf_48 (q := 49) rfl 2 rfl ?_
        refine hn_iconst hF dX8_ruleOf_49 (q := 50) rfl ki_2 ?_
        refine hn_icmp_ne hF dX8_ruleOf_50 (t := 59) (q := 53) rfl rfl e (fun e => ?_) (fun e => ?_)
        · refine hn_iload_n hF dX8_ruleOf_59 (q := 60) rfl 2 rfl ?_
          refine hn_iconst hF dX8_ruleOf_60 (q := 61) rfl ki_3 ?_
          refine hn_icmp_ne hF dX8_ruleOf_61 (t := 69) (q := 64) rfl rfl e (fun e => ?_) (fun e => ?_)
          · refine hn_iconst hF dX8_ruleOf_69 (q := 70) rfl ki_1 ?_
            exact hn_iretP hF hQ dX8_ruleOf_70 e
          · refine hn_bipush hF dX8_ruleOf_64 (q := 66) rfl kb_20 ?_
            refine hn_goto hF dX8_ruleOf_66 (q := 70) rfl ?_
            exact hn_iretP hF hQ dX8_ruleOf_70 e
        · refine hn_sipush hF dX8_ruleOf_53 (q := 56) rfl ks_999 ?_
          refine hn_goto hF dX8_ruleOf_56 (q := 70) rfl ?_
          exact hn_iretP hF hQ dX8_ruleOf_70 e
      · refine hn_iconst hF dX8_ruleOf_44 (q := 45) rfl ki_0 ?_
        refine hn_goto hF dX8_ruleOf_45 (q := 70) rfl ?_
        exact hn_iretP hF hQ dX8_ruleOf_70 e
    · refine hn_bipush hF dX8_ruleOf_34 (q := 36) rfl kb_10 ?_
      refine hn_goto hF dX8_ruleOf_36 (q := 70) rfl ?_
      exact hn_iretP hF hQ dX8_ruleOf_70 e
  · refine hn_aload_n hF dX8_ruleOf_16 (q := 17) rfl 1 rfl ?_
    refine hn_get hF fl_X8_53 o72 rfl rfl dX8_ruleOf_17 (q := 20) rfl ?_
    refine hn_sipush hF dX8_ruleOf_20 (q := 23) rfl ks_202 ?_
    refine hn_iconst hF dX8_ruleOf_23 (q := 24) rfl ki_5 ?_
    refine hn_iload hF dX8_ruleOf_24 (q := 26) rfl 0 rfl ?_
    refine hn_imul hF dX8_ruleOf_26 (q := 27) rfl ?_
    refine hn_iadd hF dX8_ruleOf_27 (q := 28) rfl ?_
    refine hn_ald hF a86 dX8_ruleOf_28 (q := 29) rfl e (fun v2 e => ?_)
    exact hn_iretP hF hQ dX8_ruleOf_29 e
theorem cX8_ruleOf_ {B : hn_B} {F : Nat} {μ : hn_M} {R : Int32} {l1 : Int32} {l2 : Int32} {l3 : Int32} (hV : hn_V B hn_nA) (e : fX8_ruleOf F μ l1 l2 l3 = some R) : hn_C yX8_ruleOf cX8_ruleOf 5 (some .int) 2 B [.ref (hn_base B + 72), .int l1, .int l2, .int l3] μ (some (.int R), μ) :=
  hn_C.of RX8 (by decide) rfl (Nat.le_of_ble_eq_true rfl) (fun _ hF hQ => gX8_ruleOf hF hQ hV e)
/-! HandNewsModel.isAsked(III)Z -/
def fX8_isAsked_39 (l2 : Int32) : Option Int32 := (fX8_isDay l2).bind fun v1 => if v1 = 0 then some 0 else some 1
def fX8_isAsked_33 (l2 : Int32) (s0 : Int64) (s1 : Int64) (s2 : Int64) : Option Int32 := (fX8_in s2 s1 s0).bind fun v2 => if v2 = 0 then some 0 else fX8_isAsked_39 l2
def fX8_isAsked (l0 : Int32) (l1 : Int32) (l2 : Int32) : Option Int32 := (fX8_in l0.toInt64 0 4).bind fun v3 => if v3 = 0 then some 0 else if 1 < l0 then fX8_isAsked_39 l2 else if l0 = 0 then fX8_isAsked_33 l2 5 0 l1.toInt64 else fX8_isAsked_33 l2 7 0 l1.toInt64
set_option maxHeartbeats 1000000 in
theorem gX8_isAsked_39 {Z : hn_Z} {B : hn_B} {μ : hn_M} {R : Int32} (hF : hn_F Z B (0, 0) cX8_isAsked 3 RX8 (some .boolean) 2) (hQ : hn_goal Z B (some (.int R), μ)) {l2 : Int32} (e : fX8_isAsked_39 l2 = some R) : hn_G Z B (0, 0) 3 39 [(2, .int l2)] [] μ := by
  unfold fX8_isAsked_39 at e
  refine hn_iload_n hF dX8_isAsked_39 (q := 40) rfl 0 rfl ?_
  refine hn_callSi (rest := []) hF ms_X8_isDay mt_X8_isDay lk_X8_107 (by decide) [.int l2] rfl (Nat.le_of_ble_eq_true rfl) dX8_isAsked_40 (q := 43) rfl rfl e (fun v hv => cX8_isDay_ hv) (fun v1 e => ?_)
  refine hn_if_eq hF dX8_isAsked_43 (t := 50) (q := 46) rfl rfl e (fun e => ?_) (fun e => ?_)
  · refine hn_iconst hF dX8_isAsked_50 (q := 51) rfl ki_0 ?_
    exact hn_zretP hF hQ dX8_isAsked_51 (Or.inl rfl) e
  · refine hn_iconst hF dX8_isAsked_46 (q := 47) rfl ki_1 ?_
    refine hn_goto hF dX8_isAsked_47 (q := 51) rfl ?_
    exact hn_zretP hF hQ dX8_isAsked_51 (Or.inr rfl) e
set_option maxHeartbeats 1000000 in
theorem gX8_isAsked_33 {Z : hn_Z} {B : hn_B} {μ : hn_M} {R : Int32} (hF : hn_F Z B (0, 0) cX8_isAsked 3 RX8 (some .boolean) 2) (hQ : hn_goal Z B (some (.int R), μ)) {l2 : Int32} {s0 : Int64} {s1 : Int64} {s2 : Int64} (e : fX8_isAsked_33 l2 s0 s1 s2 = some R) : hn_G Z B (0, 0) 3 33 [(2, .int l2)] [.long s0, .long s1, .long s2] μ := by
  unfold fX8_isAsked_33 at e
  refine hn_callSi (rest := []) hF ms_X8_in mt_X8_in lk_X8_79 (by decide) [.long s2, .long s1, .long s0] rfl (Nat.le_of_ble_eq_true rfl) dX8_isAsked_33 (q := 36) rfl rfl e (fun v hv => cX8_in_ hv) (fun v2 e => ?_)
  refine hn_if_eq hF dX8_isAsked_36 (t := 50) (q := 39) rfl rfl e (fun e => ?_) (fun e => ?_)
  · refine hn_iconst hF dX8_isAsked_50 (q := 51) rfl ki_0 ?_
    exact hn_zretP hF hQ dX8_isAsked_51 (Or.inl rfl) e
  · exact gX8_isAsked_39 hF hQ e
set_option maxHeartbeats 1000000 in
theorem gX8_isAsked {Z : hn_Z} {B : hn_B} {μ : hn_M} {R : Int32} (hF : hn_F Z B (0, 0) cX8_isAsked 3 RX8 (some .boolean) 2) (hQ : hn_goal Z B (some (.int R), μ)) {l0 : Int32} {l1 : Int32} {l2 : Int32} (e : fX8_isAsked l0 l1 l2 = some R) : hn_G Z B (0, 0) 3 0 [(0, .int l0), (1, .int l1), (2, .int l2)] [] μ := by
  unfold fX8_isAsked at e
  refine hn_iload_n hF dX8_isAsked_0 (q := 1) rfl 0 rfl ?_
  refine hn_i2l hF dX8_isAsked_1 (q := 2) rfl rfl ?_
  refine hn_lconst hF dX8_isAsked_2 (q := 3) rfl kl_0 ?_
  refine hn_ldc2 hF kd_X8_196 dX8_isAsked_3 (q := 6) rfl ?_
  refine hn_callSi (rest := []) hF ms_X8_in mt_X8_in lk_X8_79 (by decide) [.long (l0.toInt64), .long 0, .long 4] rfl (Nat.le_of_ble_eq_true rfl) dX8_isAsked_6 (q := 9) rfl rfl e (fun v hv => cX8_in_ hv) (fun v3 e => ?_)
  refine hn_if_eq hF dX8_isAsked_9 (t := 50) (q := 12) rfl rfl e (fun e => ?_) (fun e => ?_)
  · refine hn_iconst hF dX8_isAsked_50 (q := 51) rfl ki_0 ?_
    exact hn_zretP hF hQ dX8_isAsked_51 (Or.inl rfl) e
  · refine hn_iload_n hF dX8_isAsked_12 (q := 13) rfl 0 rfl ?_
    refine hn_iconst hF dX8_isAsked_13 (q := 14) rfl ki_1 ?_
    refine hn_icmp_gt hF dX8_isAsked_14 (t := 39) (q := 17) rfl rfl e (fun e => ?_) (fun e => ?_)
    · refine hn_sub [2] (L' := [(2, .int l2)]) rfl ?_
      exact gX8_isAsked_39 hF hQ e
    · refine hn_iload_n hF dX8_isAsked_17 (q := 18) rfl 1 rfl ?_
      refine hn_i2l hF dX8_isAsked_18 (q := 19) rfl rfl ?_
      refine hn_lconst hF dX8_isAsked_19 (q := 20) rfl kl_0 ?_
      refine hn_iload_n hF dX8_isAsked_20 (q := 21) rfl 0 rfl ?_
      refine hn_if_ne hF dX8_isAsked_21 (t := 30) (q := 24) rfl rfl e (fun e => ?_) (fun e => ?_)
      · refine hn_ldc2 hF kd_X8_93 dX8_isAsked_30 (q := 33) rfl ?_
        refine hn_sub [2] (L' := [(2, .int l2)]) rfl ?_
        exact gX8_isAsked_33 hF hQ e
      · refine hn_ldc2 hF kd_X8_77 dX8_isAsked_24 (q := 27) rfl ?_
        refine hn_goto hF dX8_isAsked_27 (q := 33) rfl ?_
        refine hn_sub [2] (L' := [(2, .int l2)]) rfl ?_
        exact gX8_isAsked_33 hF hQ e
theorem cX8_isAsked_ {B : hn_B} {μ : hn_M} {R : Int32} {l0 : Int32} {l1 : Int32} {l2 : Int32} (e : fX8_isAsked l0 l1 l2 = some R) : hn_C yX8_isAsked cX8_isAsked 3 (some .boolean) 2 B [.int l0, .int l1, .int l2] μ (some (.int R), μ) :=
  hn_C.of RX8 (by decide) rfl (Nat.le_of_ble_eq_true rfl) (fun _ hF hQ => gX8_isAsked hF hQ e)
/-! HandNewsModel.rule(III)I -/
def fX8_rule (F : Nat) (μ : hn_M) (l1 : Int32) (l2 : Int32) (l3 : Int32) : Option Int32 := (fX8_isAsked l1 l2 l3).bind fun v1 => if v1 = 0 then some (-1) else (fX8_ruleOf F μ l1 l2 l3).bind fun v2 => some v2
set_option maxHeartbeats 1000000 in
theorem gX8_rule {Z : hn_Z} {B : hn_B} {F : Nat} {μ : hn_M} {R : Int32} (hF : hn_F Z B (0, 0) cX8_rule 4 RX8 (some .int) 3) (hQ : hn_goal Z B (some (.int R), μ)) (hV : hn_V B hn_nA) {l1 : Int32} {l2 : Int32} {l3 : Int32} (e : fX8_rule F μ l1 l2 l3 = some R) : hn_G Z B (0, 0) 4 0 [(0, .ref (hn_base B + 72)), (1, .int l1), (2, .int l2), (3, .int l3)] [] μ := by
  unfold fX8_rule at e
  have o72 : hn_isO B 72 8 hn_k72 := hV 72 (by decide)
  refine hn_iload_n hF dX8_rule_0 (q := 1) rfl 1 rfl ?_
  refine hn_iload_n hF dX8_rule_1 (q := 2) rfl 2 rfl ?_
  refine hn_iload_n hF dX8_rule_2 (q := 3) rfl 3 rfl ?_
  refine hn_callSi (rest := []) hF ms_X8_isAsked mt_X8_isAsked lk_X8_198 (by decide) [.int l1, .int l2, .int l3] rfl (Nat.le_of_ble_eq_true rfl) dX8_rule_3 (q := 6) rfl rfl e (fun v hv => cX8_isAsked_ hv) (fun v1 e => ?_)
  refine hn_if_eq hF dX8_rule_6 (t := 19) (q := 9) rfl rfl e (fun e => ?_) (fun e => ?_)
  · refine hn_iconst hF dX8_rule_19 (q := 20) rfl ki_m1 ?_
    exact hn_iretP hF hQ dX8_rule_20 e
  · refine hn_aload_n hF dX8_rule_9 (q := 10) rfl 0 rfl ?_
    refine hn_iload_n hF dX8_rule_10 (q := 11) rfl 1 rfl ?_
    refine hn_iload_n hF dX8_rule_11 (q := 12) rfl 2 rfl ?_
    refine hn_iload_n hF dX8_rule_12 (q := 13) rfl 3 rfl ?_
    refine hn_callVi (rest := []) hF ms_X8_ruleOf mv_X8_ruleOf lk_X8_202 o72 rfl (by decide) [.int l1, .int l2, .int l3] rfl (Nat.le_of_ble_eq_true rfl) dX8_rule_13 (q := 16) rfl rfl e (fun v hv => cX8_ruleOf_ hV hv) (fun v2 e => ?_)
    refine hn_goto hF dX8_rule_16 (q := 20) rfl ?_
    exact hn_iretP hF hQ dX8_rule_20 e
theorem cX8_rule_ {B : hn_B} {F : Nat} {μ : hn_M} {R : Int32} {l1 : Int32} {l2 : Int32} {l3 : Int32} (hV : hn_V B hn_nA) (e : fX8_rule F μ l1 l2 l3 = some R) : hn_C yX8_rule cX8_rule 4 (some .int) 3 B [.ref (hn_base B + 72), .int l1, .int l2, .int l3] μ (some (.int R), μ) :=
  hn_C.of RX8 (by decide) rfl (Nat.le_of_ble_eq_true rfl) (fun _ hF hQ => gX8_rule hF hQ hV e)
/-! HandNewsModel.why(III)I -/
def fX8_why (F : Nat) (μ : hn_M) (l1 : Int32) (l2 : Int32) (l3 : Int32) : Option Int32 := (fX8_isAsked l1 l2 l3).bind fun v1 => if v1 = 0 then some (-1) else (fX8_whyOf F μ l1 l2 l3).bind fun v2 => some v2
set_option maxHeartbeats 1000000 in
theorem gX8_why {Z : hn_Z} {B : hn_B} {F : Nat} {μ : hn_M} {R : Int32} (hF : hn_F Z B (0, 0) cX8_why 4 RX8 (some .int) 3) (hQ : hn_goal Z B (some (.int R), μ)) (hV : hn_V B hn_nA) {l1 : Int32} {l2 : Int32} {l3 : Int32} (e : fX8_why F μ l1 l2 l3 = some R) : hn_G Z B (0, 0) 4 0 [(0, .ref (hn_base B + 72)), (1, .int l1), (2, .int l2), (3, .int l3)] [] μ := by
  unfold fX8_why at e
  have o72 : hn_isO B 72 8 hn_k72 := hV 72 (by decide)
  refine hn_iload_n hF dX8_why_0 (q := 1) rfl 1 rfl ?_
  refine hn_iload_n hF dX8_why_1 (q := 2) rfl 2 rfl ?_
  refine hn_iload_n hF dX8_why_2 (q := 3) rfl 3 rfl ?_
  refine hn_callSi (rest := []) hF ms_X8_isAsked mt_X8_isAsked lk_X8_198 (by decide) [.int l1, .int l2, .int l3] rfl (Nat.le_of_ble_eq_true rfl) dX8_why_3 (q := 6) rfl rfl e (fun v hv => cX8_isAsked_ hv) (fun v1 e => ?_)
  refine hn_if_eq hF dX8_why_6 (t := 19) (q := 9) rfl rfl e (fun e => ?_) (fun e => ?_)
  · refine hn_iconst hF dX8_why_19 (q := 20) rfl ki_m1 ?_
    exact hn_iretP hF hQ dX8_why_20 e
  · refine hn_aload_n hF dX8_why_9 (q := 10) rfl 0 rfl ?_
    refine hn_iload_n hF dX8_why_10 (q := 11) rfl 1 rfl ?_
    refine hn_iload_n hF dX8_why_11 (q := 12) rfl 2 rfl ?_
    refine hn_iload_n hF dX8_why_12 (q := 13) rfl 3 rfl ?_
    refine hn_callVi (rest := []) hF ms_X8_whyOf mv_X8_whyOf lk_X8_192 o72 rfl (by decide) [.int l1, .int l2, .int l3] rfl (Nat.le_of_ble_eq_true rfl) dX8_why_13 (q := 16) rfl rfl e (fun v hv => cX8_whyOf_ hV hv) (fun v2 e => ?_)
    refine hn_goto hF dX8_why_16 (q := 20) rfl ?_
    exact hn_iretP hF hQ dX8_why_20 e
theorem cX8_why_ {B : hn_B} {F : Nat} {μ : hn_M} {R : Int32} {l1 : Int32} {l2 : Int32} {l3 : Int32} (hV : hn_V B hn_nA) (e : fX8_why F μ l1 l2 l3 = some R) : hn_C yX8_why cX8_why 4 (some .int) 3 B [.ref (hn_base B + 72), .int l1, .int l2, .int l3] μ (some (.int R), μ) :=
  hn_C.of RX8 (by decide) rfl (Nat.le_of_ble_eq_true rfl) (fun _ hF hQ => gX8_why hF hQ hV e)
/-! HandNewsModel.quarrel()I -/
def fX8_quarrel_142 (F : Nat) (μ : hn_M) (l1 : Int32) (l2 : Int32) : Option Int32 := some ((100 * l1) + l2)
def fX8_quarrel_149 (F : Nat) (μ : hn_M) (k2 : Int32 → Option Int32) (k16 : Int32 → Int32 → Option Int32) (l1 : Int32) (l2 : Int32) : Option Int32 := k16 l1 (l2 + 1)
def fX8_quarrel_115 (F : Nat) (μ : hn_M) (k2 : Int32 → Option Int32) (k16 : Int32 → Int32 → Option Int32) (l1 : Int32) (l2 : Int32) (l3 : Int32) (l4 : Int32) (s0 : Int32) : Option Int32 := if s0 = 0 then fX8_quarrel_149 F μ k2 k16 l1 l2 else hn_rd μ 86 400 (l3 + 2) fun v1 => hn_rd μ 86 400 (l4 + 2) fun v2 => if v1 = v2 then fX8_quarrel_149 F μ k2 k16 l1 l2 else fX8_quarrel_142 F μ l1 l2
def fX8_quarrel_114 (F : Nat) (μ : hn_M) (k2 : Int32 → Option Int32) (k16 : Int32 → Int32 → Option Int32) (l1 : Int32) (l2 : Int32) (l3 : Int32) (l4 : Int32) : Option Int32 := fX8_quarrel_115 F μ k2 k16 l1 l2 l3 l4 0
def fX8_quarrel_155 (F : Nat) (μ : hn_M) (k2 : Int32 → Option Int32) (l1 : Int32) : Option Int32 := k2 (l1 + 1)
def fX8_quarrel_16 (F : Nat) (μ : hn_M) (k2 : Int32 → Option Int32) : Nat → Int32 → Int32 → Option Int32
  | 0, _, _ => none
  | n + 1, l1, l2 => hn_rd μ 85 2 1 fun v3 => if v3 ≤ l2 then fX8_quarrel_155 F μ k2 l1 else hn_rd μ 86 400 (200 + (5 * l1)) fun v4 => if v4 = 110 then fX8_quarrel_114 F μ k2 (fX8_quarrel_16 F μ k2 n) l1 l2 (200 + (5 * l1)) (200 + (5 * l2)) else hn_rd μ 86 400 (200 + (5 * l1)) fun v5 => hn_rd μ 86 400 (200 + (5 * l2)) fun v6 => if v5 = v6 then hn_rd μ 86 400 ((200 + (5 * l1)) + 1) fun v7 => hn_rd μ 86 400 ((200 + (5 * l2)) + 1) fun v8 => if v7 = v8 then hn_rd μ 86 400 ((200 + (5 * l1)) + 3) fun v9 => hn_rd μ 86 400 ((200 + (5 * l2)) + 3) fun v10 => if v9 = v10 then fX8_quarrel_115 F μ k2 (fX8_quarrel_16 F μ k2 n) l1 l2 (200 + (5 * l1)) (200 + (5 * l2)) 1 else fX8_quarrel_114 F μ k2 (fX8_quarrel_16 F μ k2 n) l1 l2 (200 + (5 * l1)) (200 + (5 * l2)) else fX8_quarrel_114 F μ k2 (fX8_quarrel_16 F μ k2 n) l1 l2 (200 + (5 * l1)) (200 + (5 * l2)) else fX8_quarrel_114 F μ k2 (fX8_quarrel_16 F μ k2 n) l1 l2 (200 + (5 * l1)) (200 + (5 * l2))
def fX8_quarrel_2 (F : Nat) (μ : hn_M) : Nat → Int32 → Option Int32
  | 0, _ => none
  | n + 1, l1 => hn_rd μ 85 2 1 fun v11 => if v11 ≤ l1 then some (-4) else fX8_quarrel_16 F μ (fX8_quarrel_2 F μ n) F l1 (l1 + 1)
def fX8_quarrel (F : Nat) (μ : hn_M) : Option Int32 := fX8_quarrel_2 F μ F 0
set_option maxHeartbeats 1000000 in
theorem gX8_quarrel_142 {Z : hn_Z} {B : hn_B} {F : Nat} {μ : hn_M} {R : Int32} (hF : hn_F Z B (0, 0) cX8_quarrel 6 RX8 (some .int) 0) (hQ : hn_goal Z B (some (.int R), μ)) (hV : hn_V B hn_nA) {l1 : Int32} {l2 : Int32} (e : fX8_quarrel_142 F μ l1 l2 = some R) : hn_G Z B (0, 0) 6 142 [(1, .int l1), (2, .int l2)] [] μ := by
  unfold fX8_quarrel_142 at e
  refine hn_bipush hF dX8_quarrel_142 (q := 144) rfl kb_100 ?_
  refine hn_iload_n hF dX8_quarrel_144 (q := 145) rfl 0 rfl ?_
  refine hn_imul hF dX8_quarrel_145 (q := 146) rfl ?_
  refine hn_iload_n hF dX8_quarrel_146 (q := 147) rfl 1 rfl ?_
  refine hn_iadd hF dX8_quarrel_147 (q := 148) rfl ?_
  exact hn_iretP hF hQ dX8_quarrel_148 e
set_option maxHeartbeats 1000000 in
theorem gX8_quarrel_149 {Z : hn_Z} {B : hn_B} {F : Nat} {μ : hn_M} {R : Int32} (hF : hn_F Z B (0, 0) cX8_quarrel 6 RX8 (some .int) 0) (hQ : hn_goal Z B (some (.int R), μ)) (hV : hn_V B hn_nA) {k2 : Int32 → Option Int32} (H2 : ∀ (l1 : Int32), k2 l1 = some R → hn_G Z B (0, 0) 6 2 [(0, .ref (hn_base B + 72)), (1, .int l1)] [] μ) {k16 : Int32 → Int32 → Option Int32} (H16 : ∀ (l1 : Int32) (l2 : Int32), k16 l1 l2 = some R → hn_G Z B (0, 0) 6 16 [(0, .ref (hn_base B + 72)), (1, .int l1), (2, .int l2)] [] μ) {l1 : Int32} {l2 : Int32} (e : fX8_quarrel_149 F μ k2 k16 l1 l2 = some R) : hn_G Z B (0, 0) 6 149 [(0, .ref (hn_base B + 72)), (1, .int l1), (2, .int l2)] [] μ := by
  unfold fX8_quarrel_149 at e
  refine hn_iinc (p := 2) hF dX8_quarrel_149 (q := 152) rfl rfl (kn_1 _) (by decide) (L' := [(2, .int (l2 + 1)), (0, .ref (hn_base B + 72)), (1, .int l1)]) rfl ?_
  refine hn_goto hF dX8_quarrel_152 (q := 16) rfl ?_
  refine hn_sub [1, 2, 0] (L' := [(0, .ref (hn_base B + 72)), (1, .int l1), (2, .int (l2 + 1))]) rfl ?_
  exact H16 l1 (l2 + 1) e
set_option maxHeartbeats 1000000 in
theorem gX8_quarrel_115 {Z : hn_Z} {B : hn_B} {F : Nat} {μ : hn_M} {R : Int32} (hF : hn_F Z B (0, 0) cX8_quarrel 6 RX8 (some .int) 0) (hQ : hn_goal Z B (some (.int R), μ)) (hV : hn_V B hn_nA) {k2 : Int32 → Option Int32} (H2 : ∀ (l1 : Int32), k2 l1 = some R → hn_G Z B (0, 0) 6 2 [(0, .ref (hn_base B + 72)), (1, .int l1)] [] μ) {k16 : Int32 → Int32 → Option Int32} (H16 : ∀ (l1 : Int32) (l2 : Int32), k16 l1 l2 = some R → hn_G Z B (0, 0) 6 16 [(0, .ref (hn_base B + 72)), (1, .int l1), (2, .int l2)] [] μ) {l1 : Int32} {l2 : Int32} {l3 : Int32} {l4 : Int32} {s0 : Int32} (e : fX8_quarrel_115 F μ k2 k16 l1 l2 l3 l4 s0 = some R) : hn_G Z B (0, 0) 6 115 [(0, .ref (hn_base B + 72)), (1, .int l1), (2, .int l2), (3, .int l3), (4, .int l4)] [.int s0] μ := by
  unfold fX8_quarrel_115 at e
  have a86 : hn_isA B 86 false 400 := hV 86 (by decide)
  have o72 : hn_isO B 72 8 hn_k72 := hV 72 (by decide)
  refine hn_istore hF dX8_quarrel_115 (q := 117) rfl (by decide) (L' := [(5, .int s0), (0, .ref (hn_base B + 72)), (1, .int l1), (2, .int l2), (3, .int l3), (4, .int l4)]) rfl ?_
  refine hn_iload hF dX8_quarrel_117 (q := 119) rfl 0 rfl ?_
  refine hn_if_eq hF dX8_quarrel_119 (t := 149) (q := 122) rfl rfl e (fun e => ?_) (fun e => ?_)
  · refine hn_sub [1, 2, 3] (L' := [(0, .ref (hn_base B + 72)), (1, .int l1), (2, .int l2)]) rfl ?_
    exact gX8_quarrel_149 hF hQ hV H2 H16 e
  · refine hn_aload_n hF dX8_quarrel_122 (q := 123) rfl 1 rfl ?_
    refine hn_get hF fl_X8_53 o72 rfl rfl dX8_quarrel_123 (q := 126) rfl ?_
    refine hn_iload_n hF dX8_quarrel_126 (q := 127) rfl 4 rfl ?_
    refine hn_iconst hF dX8_quarrel_127 (q := 128) rfl ki_2 ?_
    refine hn_iadd hF dX8_quarrel_128 (q := 129) rfl ?_
    refine hn_ald hF a86 dX8_quarrel_129 (q := 130) rfl e (fun v1 e => ?_)
    refine hn_aload_n hF dX8_quarrel_130 (q := 131) rfl 1 rfl ?_
    refine hn_get hF fl_X8_53 o72 rfl rfl dX8_quarrel_131 (q := 134) rfl ?_
    refine hn_iload hF dX8_quarrel_134 (q := 136) rfl 5 rfl ?_
    refine hn_iconst hF dX8_quarrel_136 (q := 137) rfl ki_2 ?_
    refine hn_iadd hF dX8_quarrel_137 (q := 138) rfl ?_
    refine hn_ald hF a86 dX8_quarrel_138 (q := 139) rfl e (fun v2 e => ?_)
    refine hn_icmp_eq hF dX8_quarrel_139 (t := 149) (q := 142) rfl rfl e (fun e => ?_) (fun e => ?_)
    · refine hn_sub [1, 2, 3] (L' := [(0, .ref (hn_base B + 72)), (1, .int l1), (2, .int l2)]) rfl ?_
      exact gX8_quarrel_149 hF hQ hV H2 H16 e
    · refine hn_sub [2, 3] (L' := [(1, .int l1), (2, .int l2)]) rfl ?_
      exact gX8_quarrel_142 hF hQ hV e
set_option maxHeartbeats 1000000 in
theorem gX8_quarrel_114 {Z : hn_Z} {B : hn_B} {F : Nat} {μ : hn_M} {R : Int32} (hF : hn_F Z B (0, 0) cX8_quarrel 6 RX8 (some .int) 0) (hQ : hn_goal Z B (some (.int R), μ)) (hV : hn_V B hn_nA) {k2 : Int32 → Option Int32} (H2 : ∀ (l1 : Int32), k2 l1 = some R → hn_G Z B (0, 0) 6 2 [(0, .ref (hn_base B + 72)), (1, .int l1)] [] μ) {k16 : Int32 → Int32 → Option Int32} (H16 : ∀ (l1 : Int32) (l2 : Int32), k16 l1 l2 = some R → hn_G Z B (0, 0) 6 16 [(0, .ref (hn_base B + 72)), (1, .int l1), (2, .int l2)] [] μ) {l1 : Int32} {l2 : Int32} {l3 : Int32} {l4 : Int32} (e : fX8_quarrel_114 F μ k2 k16 l1 l2 l3 l4 = some R) : hn_G Z B (0, 0) 6 114 [(0, .ref (hn_base B + 72)), (1, .int l1), (2, .int l2), (3, .int l3), (4, .int l4)] [] μ := by
  unfold fX8_quarrel_114 at e
  refine hn_iconst hF dX8_quarrel_114 (q := 115) rfl ki_0 ?_
  exact gX8_quarrel_115 hF hQ hV H2 H16 e
set_option maxHeartbeats 1000000 in
theorem gX8_quarrel_155 {Z : hn_Z} {B : hn_B} {F : Nat} {μ : hn_M} {R : Int32} (hF : hn_F Z B (0, 0) cX8_quarrel 6 RX8 (some .int) 0) (hQ : hn_goal Z B (some (.int R), μ)) (hV : hn_V B hn_nA) {k2 : Int32 → Option Int32} (H2 : ∀ (l1 : Int32), k2 l1 = some R → hn_G Z B (0, 0) 6 2 [(0, .ref (hn_base B + 72)), (1, .int l1)] [] μ) {l1 : Int32} (e : fX8_quarrel_155 F μ k2 l1 = some R) : hn_G Z B (0, 0) 6 155 [(0, .ref (hn_base B + 72)), (1, .int l1)] [] μ := by
  unfold fX8_quarrel_155 at e
  refine hn_iinc (p := 1) hF dX8_quarrel_155 (q := 158) rfl rfl (kn_1 _) (by decide) (L' := [(1, .int (l1 + 1)), (0, .ref (hn_base B + 72))]) rfl ?_
  refine hn_goto hF dX8_quarrel_158 (q := 2) rfl ?_
  refine hn_sub [1, 0] (L' := [(0, .ref (hn_base B + 72)), (1, .int (l1 + 1))]) rfl ?_
  exact H2 (l1 + 1) e
set_option maxHeartbeats 1000000 in
theorem gX8_quarrel_16 {Z : hn_Z} {B : hn_B} {F : Nat} {μ : hn_M} {R : Int32} (hF : hn_F Z B (0, 0) cX8_quarrel 6 RX8 (some .int) 0) (hQ : hn_goal Z B (some (.int R), μ)) (hV : hn_V B hn_nA) {k2 : Int32 → Option Int32} (H2 : ∀ (l1 : Int32), k2 l1 = some R → hn_G Z B (0, 0) 6 2 [(0, .ref (hn_base B + 72)), (1, .int l1)] [] μ) : ∀ (n : Nat) (l1 : Int32) (l2 : Int32), fX8_quarrel_16 F μ k2 n l1 l2 = some R → hn_G Z B (0, 0) 6 16 [(0, .ref (hn_base B + 72)), (1, .int l1), (2, .int l2)] [] μ := by
  have a85 : hn_isA B 85 false 2 := hV 85 (by decide)
  have a86 : hn_isA B 86 false 400 := hV 86 (by decide)
  have o72 : hn_isO B 72 8 hn_k72 := hV 72 (by decide)
  intro n
  induction n with
  | zero => intro l1 l2 e; rw [fX8_quarrel_16] at e; cases e
  | succ n ih =>
    intro l1 l2 e
    rw [fX8_quarrel_16] at e
    refine hn_iload_n hF dX8_quarrel_16 (q := 17) rfl 2 rfl ?_
    refine hn_aload_n hF dX8_quarrel_17 (q := 18) rfl 0 rfl ?_
    refine hn_get hF fl_X8_50 o72 rfl rfl dX8_quarrel_18 (q := 21) rfl ?_
    refine hn_iconst hF dX8_quarrel_21 (q := 22) rfl ki_1 ?_
    refine hn_ald hF a85 dX8_quarrel_22 (q := 23) rfl e (fun v3 e => ?_)
    refine hn_icmp_ge hF dX8_quarrel_23 (t := 155) (q := 26) rfl rfl e (fun e => ?_) (fun e => ?_)
    · refine hn_sub [0, 1] (L' := [(0, .ref (hn_base B + 72)), (1, .int l1)]) rfl ?_
      exact gX8_quarrel_155 hF hQ hV H2 e
    · refine hn_sipush hF dX8_quarrel_26 (q := 29) rfl ks_200 ?_
      refine hn_iconst hF dX8_quarrel_29 (q := 30) rfl ki_5 ?_
      refine hn_iload_n hF dX8_quarrel_30 (q := 31) rfl 1 rfl ?_
      refine hn_imul hF dX8_quarrel_31 (q := 32) rfl ?_
      refine hn_iadd hF dX8_quarrel_32 (q := 33) rfl ?_
      refine hn_istore_n hF dX8_quarrel_33 (q := 34) rfl (i := 3) rfl (by decide) (L' := [(3, .int (200 + (5 * l1))), (0, .ref (hn_base B + 72)), (1, .int l1), (2, .int l2)]) rfl ?_
      refine hn_sipush hF dX8_quarrel_34 (q := 37) rfl ks_200 ?_
      refine hn_iconst hF dX8_quarrel_37 (q := 38) rfl ki_5 ?_
      refine hn_iload_n hF dX8_quarrel_38 (q := 39) rfl 3 rfl ?_
      refine hn_imul hF dX8_quarrel_39 (q := 40) rfl ?_
      refine hn_iadd hF dX8_quarrel_40 (q := 41) rfl ?_
      refine hn_istore hF dX8_quarrel_41 (q := 43) rfl (by decide) (L' := [(4, .int (200 + (5 * l2))), (3, .int (200 + (5 * l1))), (0, .ref (hn_base B + 72)), (1, .int l1), (2, .int l2)]) rfl ?_
      refine hn_aload_n hF dX8_quarrel_43 (q := 44) rfl 2 rfl ?_
      refine hn_get hF fl_X8_53 o72 rfl rfl dX8_quarrel_44 (q := 47) rfl ?_
      refine hn_iload_n hF dX8_quarrel_47 (q := 48) rfl 1 rfl ?_
      refine hn_ald hF a86 dX8_quarrel_48 (q := 49) rfl e (fun v4 e => ?_)
      refine hn_bipush hF dX8_quarrel_49 (q := 51) rfl kb_110 ?_
      refine hn_icmp_eq hF dX8_quarrel_51 (t := 114) (q := 54) rfl rfl e (fun e => ?_) (fun e => ?_)
      · refine hn_sub [2, 3, 4, 1, 0] (L' := [(0, .ref (hn_base B + 72)), (1, .int l1), (2, .int l2), (3, .int (200 + (5 * l1))), (4, .int (200 + (5 * l2)))]) rfl ?_
        exact gX8_quarrel_114 hF hQ hV H2 ih e
      · refine hn_aload_n hF dX8_quarrel_54 (q := 55) rfl 2 rfl ?_
        refine hn_get hF fl_X8_53 o72 rfl rfl dX8_quarrel_55 (q := 58) rfl ?_
        refine hn_iload_n hF dX8_quarrel_58 (q := 59) rfl 1 rfl ?_
        refine hn_ald hF a86 dX8_quarrel_59 (q := 60) rfl e (fun v5 e => ?_)
        refine hn_aload_n hF dX8_quarrel_60 (q := 61) rfl 2 rfl ?_
        refine hn_get hF fl_X8_53 o72 rfl rfl dX8_quarrel_61 (q := 64) rfl ?_
        refine hn_iload hF dX8_quarrel_64 (q := 66) rfl 0 rfl ?_
        refine hn_ald hF a86 dX8_quarrel_66 (q := 67) rfl e (fun v6 e => ?_)
        refine hn_icmp_ne hF dX8_quarrel_67 (t := 114) (q := 70) rfl rfl e (fun e => ?_) (fun e => ?_)
        · refine hn_sub [2, 3, 4, 1, 0] (L' := [(0, .ref (hn_base B + 72)), (1, .int l1), (2, .int l2), (3, .int (200 + (5 * l1))), (4, .int (200 + (5 * l2)))]) rfl ?_
          exact gX8_quarrel_114 hF hQ hV H2 ih e
        · refine hn_aload_n hF dX8_quarrel_70 (q := 71) rfl 2 rfl ?_
          refine hn_get hF fl_X8_53 o72 rfl rfl dX8_quarrel_71 (q := 74) rfl ?_
          refine hn_iload_n hF dX8_quarrel_74 (q := 75) rfl 1 rfl ?_
          refine hn_iconst hF dX8_quarrel_75 (q := 76) rfl ki_1 ?_
          refine hn_iadd hF dX8_quarrel_76 (q := 77) rfl ?_
          refine hn_ald hF a86 dX8_quarrel_77 (q := 78) rfl e (fun v7 e => ?_)
          refine hn_aload_n hF dX8_quarrel_78 (q := 79) rfl 2 rfl ?_
          refine hn_get hF fl_X8_53 o72 rfl rfl dX8_quarrel_79 (q := 82) rfl ?_
          refine hn_iload hF dX8_quarrel_82 (q := 84) rfl 0 rfl ?_
          refine hn_iconst hF dX8_quarrel_84 (q := 85) rfl ki_1 ?_
          refine hn_iadd hF dX8_quarrel_85 (q := 86) rfl ?_
          refine hn_ald hF a86 dX8_quarrel_86 (q := 87) rfl e (fun v8 e => ?_)
          refine hn_icmp_ne hF dX8_quarrel_87 (t := 114) (q := 90) rfl rfl e (fun e => ?_) (fun e => ?_)
          · refine hn_sub [2, 3, 4, 1, 0] (L' := [(0, .ref (hn_base B + 72)), (1, .int l1), (2, .int l2), (3, .int (200 + (5 * l1))), (4, .int (200 + (5 * l2)))]) rfl ?_
            exact gX8_quarrel_114 hF hQ hV H2 ih e
          · refine hn_aload_n hF dX8_quarrel_90 (q := 91) rfl 2 rfl ?_
            refine hn_get hF fl_X8_53 o72 rfl rfl dX8_quarrel_91 (q := 94) rfl ?_
            refine hn_iload_n hF dX8_quarrel_94 (q := 95) rfl 1 rfl ?_
            refine hn_iconst hF dX8_quarrel_95 (q := 96) rfl ki_3 ?_
            refine hn_iadd hF dX8_quarrel_96 (q := 97) rfl ?_
            refine hn_ald hF a86 dX8_quarrel_97 (q := 98) rfl e (fun v9 e => ?_)
            refine hn_aload_n hF dX8_quarrel_98 (q := 99) rfl 2 rfl ?_
            refine hn_get hF fl_X8_53 o72 rfl rfl dX8_quarrel_99 (q := 102) rfl ?_
            refine hn_iload hF dX8_quarrel_102 (q := 104) rfl 0 rfl ?_
            refine hn_iconst hF dX8_quarrel_104 (q := 105) rfl ki_3 ?_
            refine hn_iadd hF dX8_quarrel_105 (q := 106) rfl ?_
            refine hn_ald hF a86 dX8_quarrel_106 (q := 107) rfl e (fun v10 e => ?_)
            refine hn_icmp_ne hF dX8_quarrel_107 (t := 114) (q := 110) rfl rfl e (fun e => ?_) (fun e => ?_)
            · refine hn_sub [2, 3, 4, 1, 0] (L' := [(0, .ref (hn_base B + 72)), (1, .int l1), (2, .int l2), (3, .int (200 + (5 * l1))), (4, .int (200 + (5 * l2)))]) rfl ?_
              exact gX8_quarrel_114 hF hQ hV H2 ih e
            · refine hn_iconst hF dX8_quarrel_110 (q := 111) rfl ki_1 ?_
              refine hn_goto hF dX8_quarrel_111 (q := 115) rfl ?_
              refine hn_sub [2, 3, 4, 1, 0] (L' := [(0, .ref (hn_base B + 72)), (1, .int l1), (2, .int l2), (3, .int (200 + (5 * l1))), (4, .int (200 + (5 * l2)))]) rfl ?_
              exact gX8_quarrel_115 hF hQ hV H2 ih e
set_option maxHeartbeats 1000000 in
theorem gX8_quarrel_2 {Z : hn_Z} {B : hn_B} {F : Nat} {μ : hn_M} {R : Int32} (hF : hn_F Z B (0, 0) cX8_quarrel 6 RX8 (some .int) 0) (hQ : hn_goal Z B (some (.int R), μ)) (hV : hn_V B hn_nA) : ∀ (n : Nat) (l1 : Int32), fX8_quarrel_2 F μ n l1 = some R → hn_G Z B (0, 0) 6 2 [(0, .ref (hn_base B + 72)), (1, .int l1)] [] μ := by
  have a85 : hn_isA B 85 false 2 := hV 85 (by decide)
  have o72 : hn_isO B 72 8 hn_k72 := hV 72 (by decide)
  intro n
  induction n with
  | zero => intro l1 e; rw [fX8_quarrel_2] at e; cases e
  | succ n ih =>
    intro l1 e
    rw [fX8_quarrel_2] at e
    refine hn_iload_n hF dX8_quarrel_2 (q := 3) rfl 1 rfl ?_
    refine hn_aload_n hF dX8_quarrel_3 (q := 4) rfl 0 rfl ?_
    refine hn_get hF fl_X8_50 o72 rfl rfl dX8_quarrel_4 (q := 7) rfl ?_
    refine hn_iconst hF dX8_quarrel_7 (q := 8) rfl ki_1 ?_
    refine hn_ald hF a85 dX8_quarrel_8 (q := 9) rfl e (fun v11 e => ?_)
    refine hn_icmp_ge hF dX8_quarrel_9 (t := 161) (q := 12) rfl rfl e (fun e => ?_) (fun e => ?_)
    · refine hn_bipush hF dX8_quarrel_161 (q := 163) rfl kb_m4 ?_
      exact hn_iretP hF hQ dX8_quarrel_163 e
    · refine hn_iload_n hF dX8_quarrel_12 (q := 13) rfl 1 rfl ?_
      refine hn_iconst hF dX8_quarrel_13 (q := 14) rfl ki_1 ?_
      refine hn_iadd hF dX8_quarrel_14 (q := 15) rfl ?_
      refine hn_istore_n hF dX8_quarrel_15 (q := 16) rfl (i := 2) rfl (by decide) (L' := [(2, .int (l1 + 1)), (0, .ref (hn_base B + 72)), (1, .int l1)]) rfl ?_
      refine hn_sub [1, 2, 0] (L' := [(0, .ref (hn_base B + 72)), (1, .int l1), (2, .int (l1 + 1))]) rfl ?_
      exact gX8_quarrel_16 hF hQ hV ih F l1 (l1 + 1) e
set_option maxHeartbeats 1000000 in
theorem gX8_quarrel {Z : hn_Z} {B : hn_B} {F : Nat} {μ : hn_M} {R : Int32} (hF : hn_F Z B (0, 0) cX8_quarrel 6 RX8 (some .int) 0) (hQ : hn_goal Z B (some (.int R), μ)) (hV : hn_V B hn_nA) (e : fX8_quarrel F μ = some R) : hn_G Z B (0, 0) 6 0 [(0, .ref (hn_base B + 72))] [] μ := by
  unfold fX8_quarrel at e
  refine hn_iconst hF dX8_quarrel_0 (q := 1) rfl ki_0 ?_
  refine hn_istore_n hF dX8_quarrel_1 (q := 2) rfl (i := 1) rfl (by decide) (L' := [(1, .int 0), (0, .ref (hn_base B + 72))]) rfl ?_
  refine hn_sub [1, 0] (L' := [(0, .ref (hn_base B + 72)), (1, .int 0)]) rfl ?_
  exact gX8_quarrel_2 hF hQ hV F 0 e
theorem cX8_quarrel_ {B : hn_B} {F : Nat} {μ : hn_M} {R : Int32} (hV : hn_V B hn_nA) (e : fX8_quarrel F μ = some R) : hn_C yX8_quarrel cX8_quarrel 6 (some .int) 0 B [.ref (hn_base B + 72)] μ (some (.int R), μ) :=
  hn_C.of RX8 (by decide) rfl (Nat.le_of_ble_eq_true rfl) (fun _ hF hQ => gX8_quarrel hF hQ hV e)
/-! HandNewsModel.closet(I)I -/
def fX8_closet (l1 : Int32) (μ : hn_M) : Option (Int32 × hn_M) := (fX8_isTown l1).bind fun v1 => if v1 = 0 then some ((-1), μ) else hn_pf μ 72 13 l1 fun μ2 => some (μ 72 13, μ2)
set_option maxHeartbeats 1000000 in
theorem gX8_closet {Z : hn_Z} {B : hn_B} {R : Int32 × hn_M} (hF : hn_F Z B (0, 0) cX8_closet 3 RX8 (some .int) 2) (hQ : hn_goal Z B (some (.int R.1), R.2)) (hV : hn_V B hn_nA) {l1 : Int32} {μ : hn_M} (e : fX8_closet l1 μ = some R) : hn_G Z B (0, 0) 3 0 [(0, .ref (hn_base B + 72)), (1, .int l1)] [] μ := by
  unfold fX8_closet at e
  have o72 : hn_isO B 72 8 hn_k72 := hV 72 (by decide)
  refine hn_iload_n hF dX8_closet_0 (q := 1) rfl 1 rfl ?_
  refine hn_callSi (rest := []) hF ms_X8_isTown mt_X8_isTown lk_X8_87 (by decide) [.int l1] rfl (Nat.le_of_ble_eq_true rfl) dX8_closet_1 (q := 4) rfl rfl e (fun v hv => cX8_isTown_ hv) (fun v1 e => ?_)
  refine hn_if_ne hF dX8_closet_4 (t := 9) (q := 7) rfl rfl e (fun e => ?_) (fun e => ?_)
  · refine hn_aload_n hF dX8_closet_9 (q := 10) rfl 0 rfl ?_
    refine hn_get hF fl_X8_205 o72 rfl rfl dX8_closet_10 (q := 13) rfl ?_
    refine hn_istore_n hF dX8_closet_13 (q := 14) rfl (i := 2) rfl (by decide) (L' := [(2, .int (μ 72 13)), (0, .ref (hn_base B + 72)), (1, .int l1)]) rfl ?_
    refine hn_aload_n hF dX8_closet_14 (q := 15) rfl 1 rfl ?_
    refine hn_iload_n hF dX8_closet_15 (q := 16) rfl 2 rfl ?_
    refine hn_put hF fl_X8_205 fp_X8_13 o72 rfl rfl rfl rfl dX8_closet_16 (q := 19) rfl e (fun μ2 e => ?_)
    refine hn_iload_n hF dX8_closet_19 (q := 20) rfl 0 rfl ?_
    exact hn_iretM hF hQ dX8_closet_20 e
  · refine hn_iconst hF dX8_closet_7 (q := 8) rfl ki_m1 ?_
    exact hn_iretM hF hQ dX8_closet_8 e
theorem cX8_closet_ {B : hn_B} {μ : hn_M} {R : Int32 × hn_M} {l1 : Int32} (hV : hn_V B hn_nA) (e : fX8_closet l1 μ = some R) : hn_C yX8_closet cX8_closet 3 (some .int) 2 B [.ref (hn_base B + 72), .int l1] μ (some (.int R.1), R.2) :=
  hn_C.of RX8 (by decide) rfl (Nat.le_of_ble_eq_true rfl) (fun _ hF hQ => gX8_closet hF hQ hV e)
/-! HandNewsModel.cameOf(I)I -/
def fX8_cameOf (μ : hn_M) (l1 : Int32) : Option Int32 := hn_rd μ 81 540 (6 * l1) fun v1 => hn_rd μ 77 108 (3 * v1) fun v2 => hn_rd μ 75 36 ((6 * v2) + (μ 72 13)) fun v3 => if 0 ≤ v3 then hn_rd μ 89 12 v1 fun v4 => some (v4 + v3) else some (-4)
set_option maxHeartbeats 1000000 in
theorem gX8_cameOf {Z : hn_Z} {B : hn_B} {μ : hn_M} {R : Int32} (hF : hn_F Z B (0, 0) cX8_cameOf 4 RX8 (some .int) 0) (hQ : hn_goal Z B (some (.int R), μ)) (hV : hn_V B hn_nA) {l1 : Int32} (e : fX8_cameOf μ l1 = some R) : hn_G Z B (0, 0) 4 0 [(0, .ref (hn_base B + 72)), (1, .int l1)] [] μ := by
  unfold fX8_cameOf at e
  have a75 : hn_isA B 75 false 36 := hV 75 (by decide)
  have a77 : hn_isA B 77 false 108 := hV 77 (by decide)
  have a81 : hn_isA B 81 false 540 := hV 81 (by decide)
  have a89 : hn_isA B 89 false 12 := hV 89 (by decide)
  have o72 : hn_isO B 72 8 hn_k72 := hV 72 (by decide)
  refine hn_aload_n hF dX8_cameOf_0 (q := 1) rfl 0 rfl ?_
  refine hn_get hF fl_X8_34 o72 rfl rfl dX8_cameOf_1 (q := 4) rfl ?_
  refine hn_bipush hF dX8_cameOf_4 (q := 6) rfl kb_6 ?_
  refine hn_iload_n hF dX8_cameOf_6 (q := 7) rfl 1 rfl ?_
  refine hn_imul hF dX8_cameOf_7 (q := 8) rfl ?_
  refine hn_ald hF a81 dX8_cameOf_8 (q := 9) rfl e (fun v1 e => ?_)
  refine hn_istore_n hF dX8_cameOf_9 (q := 10) rfl (i := 2) rfl (by decide) (L' := [(2, .int v1), (0, .ref (hn_base B + 72)), (1, .int l1)]) rfl ?_
  refine hn_aload_n hF dX8_cameOf_10 (q := 11) rfl 1 rfl ?_
  refine hn_get hF fl_X8_16 o72 rfl rfl dX8_cameOf_11 (q := 14) rfl ?_
  refine hn_bipush hF dX8_cameOf_14 (q := 16) rfl kb_6 ?_
  refine hn_aload_n hF dX8_cameOf_16 (q := 17) rfl 1 rfl ?_
  refine hn_get hF fl_X8_22 o72 rfl rfl dX8_cameOf_17 (q := 20) rfl ?_
  refine hn_iconst hF dX8_cameOf_20 (q := 21) rfl ki_3 ?_
  refine hn_iload_n hF dX8_cameOf_21 (q := 22) rfl 0 rfl ?_
  refine hn_imul hF dX8_cameOf_22 (q := 23) rfl ?_
  refine hn_ald hF a77 dX8_cameOf_23 (q := 24) rfl e (fun v2 e => ?_)
  refine hn_imul hF dX8_cameOf_24 (q := 25) rfl ?_
  refine hn_aload_n hF dX8_cameOf_25 (q := 26) rfl 1 rfl ?_
  refine hn_get hF fl_X8_205 o72 rfl rfl dX8_cameOf_26 (q := 29) rfl ?_
  refine hn_iadd hF dX8_cameOf_29 (q := 30) rfl ?_
  refine hn_ald hF a75 dX8_cameOf_30 (q := 31) rfl e (fun v3 e => ?_)
  refine hn_istore_n hF dX8_cameOf_31 (q := 32) rfl (i := 3) rfl (by decide) (L' := [(3, .int v3), (2, .int v1), (0, .ref (hn_base B + 72)), (1, .int l1)]) rfl ?_
  refine hn_iload_n hF dX8_cameOf_32 (q := 33) rfl 0 rfl ?_
  refine hn_if_ge hF dX8_cameOf_33 (t := 41) (q := 36) rfl rfl e (fun e => ?_) (fun e => ?_)
  · refine hn_aload_n hF dX8_cameOf_41 (q := 42) rfl 2 rfl ?_
    refine hn_get hF fl_X8_62 o72 rfl rfl dX8_cameOf_42 (q := 45) rfl ?_
    refine hn_iload_n hF dX8_cameOf_45 (q := 46) rfl 1 rfl ?_
    refine hn_ald hF a89 dX8_cameOf_46 (q := 47) rfl e (fun v4 e => ?_)
    refine hn_iload_n hF dX8_cameOf_47 (q := 48) rfl 0 rfl ?_
    refine hn_iadd hF dX8_cameOf_48 (q := 49) rfl ?_
    exact hn_iretP hF hQ dX8_cameOf_49 e
  · refine hn_bipush hF dX8_cameOf_36 (q := 38) rfl kb_m4 ?_
    refine hn_goto hF dX8_cameOf_38 (q := 49) rfl ?_
    exact hn_iretP hF hQ dX8_cameOf_49 e
theorem cX8_cameOf_ {B : hn_B} {μ : hn_M} {R : Int32} {l1 : Int32} (hV : hn_V B hn_nA) (e : fX8_cameOf μ l1 = some R) : hn_C yX8_cameOf cX8_cameOf 4 (some .int) 0 B [.ref (hn_base B + 72), .int l1] μ (some (.int R), μ) :=
  hn_C.of RX8 (by decide) rfl (Nat.le_of_ble_eq_true rfl) (fun _ hF hQ => gX8_cameOf hF hQ hV e)
/-! HandNewsModel.came(I)I -/
def fX8_came (F : Nat) (l1 : Int32) (μ : hn_M) : Option (Int32 × hn_M) := (fX8_isSaying μ l1).bind fun v1 => if v1 = 0 then some ((-1), μ) else (fX8_areDays F μ).bind fun w2 => if w2.1 = 0 then some ((-2), w2.2) else (fX8_cameOf w2.2 l1).bind fun v3 => some (v3, w2.2)
set_option maxHeartbeats 1000000 in
theorem gX8_came {Z : hn_Z} {B : hn_B} {F : Nat} {R : Int32 × hn_M} (hF : hn_F Z B (0, 0) cX8_came 2 RX8 (some .int) 3) (hQ : hn_goal Z B (some (.int R.1), R.2)) (hV : hn_V B hn_nA) {l1 : Int32} {μ : hn_M} (e : fX8_came F l1 μ = some R) : hn_G Z B (0, 0) 2 0 [(0, .ref (hn_base B + 72)), (1, .int l1)] [] μ := by
  unfold fX8_came at e
  have o72 : hn_isO B 72 8 hn_k72 := hV 72 (by decide)
  refine hn_aload_n hF dX8_came_0 (q := 1) rfl 0 rfl ?_
  refine hn_iload_n hF dX8_came_1 (q := 2) rfl 1 rfl ?_
  refine hn_callVi (rest := []) hF ms_X8_isSaying mv_X8_isSaying lk_X8_133 o72 rfl (by decide) [.int l1] rfl (Nat.le_of_ble_eq_true rfl) dX8_came_2 (q := 5) rfl rfl e (fun v hv => cX8_isSaying_ hV hv) (fun v1 e => ?_)
  refine hn_if_ne hF dX8_came_5 (t := 10) (q := 8) rfl rfl e (fun e => ?_) (fun e => ?_)
  · refine hn_aload_n hF dX8_came_10 (q := 11) rfl 0 rfl ?_
    refine hn_callVm (rest := []) hF ms_X8_areDays mv_X8_areDays lk_X8_126 o72 rfl (by decide) [] rfl (Nat.le_of_ble_eq_true rfl) dX8_came_11 (q := 14) rfl rfl e (fun v hv => cX8_areDays_ hV hv) (fun w2 e => ?_)
    refine hn_if_eq hF dX8_came_14 (t := 25) (q := 17) rfl rfl e (fun e => ?_) (fun e => ?_)
    · refine hn_bipush hF dX8_came_25 (q := 27) rfl kb_m2 ?_
      exact hn_iretM hF hQ dX8_came_27 e
    · refine hn_aload_n hF dX8_came_17 (q := 18) rfl 0 rfl ?_
      refine hn_iload_n hF dX8_came_18 (q := 19) rfl 1 rfl ?_
      refine hn_callVi (rest := []) hF ms_X8_cameOf mv_X8_cameOf lk_X8_208 o72 rfl (by decide) [.int l1] rfl (Nat.le_of_ble_eq_true rfl) dX8_came_19 (q := 22) rfl rfl e (fun v hv => cX8_cameOf_ hV hv) (fun v3 e => ?_)
      refine hn_goto hF dX8_came_22 (q := 27) rfl ?_
      exact hn_iretM hF hQ dX8_came_27 e
  · refine hn_iconst hF dX8_came_8 (q := 9) rfl ki_m1 ?_
    exact hn_iretM hF hQ dX8_came_9 e
theorem cX8_came_ {B : hn_B} {F : Nat} {μ : hn_M} {R : Int32 × hn_M} {l1 : Int32} (hV : hn_V B hn_nA) (e : fX8_came F l1 μ = some R) : hn_C yX8_came cX8_came 2 (some .int) 3 B [.ref (hn_base B + 72), .int l1] μ (some (.int R.1), R.2) :=
  hn_C.of RX8 (by decide) rfl (Nat.le_of_ble_eq_true rfl) (fun _ hF hQ => gX8_came hF hQ hV e)
/-! HandNewsModel.isHeard(II)Z -/
def fX8_isHeard_85 (F : Nat) (μ : hn_M) (k14 : Int32 → Int32 → Int32 → Int32 → Int32 → Option Int32) (l1 : Int32) (l2 : Int32) (l3 : Int32) (l5 : Int32) (s0 : Int32) : Option Int32 := k14 l1 l2 l3 s0 (l5 + 1)
def fX8_isHeard_80 (F : Nat) (μ : hn_M) (k14 : Int32 → Int32 → Int32 → Int32 → Int32 → Option Int32) (l1 : Int32) (l2 : Int32) (l3 : Int32) (l5 : Int32) : Option Int32 := fX8_isHeard_85 F μ k14 l1 l2 l3 l5 1
def fX8_isHeard_84 (F : Nat) (μ : hn_M) (k14 : Int32 → Int32 → Int32 → Int32 → Int32 → Option Int32) (l1 : Int32) (l2 : Int32) (l3 : Int32) (l5 : Int32) : Option Int32 := fX8_isHeard_85 F μ k14 l1 l2 l3 l5 0
def fX8_isHeard_14 (F : Nat) (μ : hn_M) : Nat → Int32 → Int32 → Int32 → Int32 → Int32 → Option Int32
  | 0, _, _, _, _, _ => none
  | n + 1, l1, l2, l3, l4, l5 => hn_rd μ 80 3 0 fun v1 => if v1 ≤ l5 then hn_bo l4 (some l4) else (fX8_cameOf μ l5).bind fun v2 => if l4 = 0 then (fX8_rootOf F μ l5).bind fun v3 => if v3 = l1 then if v2 < 0 then fX8_isHeard_84 F μ (fX8_isHeard_14 F μ n) l1 l2 l3 l5 else if l2 < v2 then fX8_isHeard_84 F μ (fX8_isHeard_14 F μ n) l1 l2 l3 l5 else hn_rd μ 81 540 (6 * l5) fun v4 => hn_rd μ 89 12 v4 fun v5 => if l3 < l2 - v5 then fX8_isHeard_84 F μ (fX8_isHeard_14 F μ n) l1 l2 l3 l5 else fX8_isHeard_80 F μ (fX8_isHeard_14 F μ n) l1 l2 l3 l5 else fX8_isHeard_84 F μ (fX8_isHeard_14 F μ n) l1 l2 l3 l5 else fX8_isHeard_80 F μ (fX8_isHeard_14 F μ n) l1 l2 l3 l5
def fX8_isHeard (F : Nat) (μ : hn_M) (l1 : Int32) (l2 : Int32) : Option Int32 := (fX8_ruleOf F μ 2 0 l2).bind fun v6 => fX8_isHeard_14 F μ F l1 l2 v6 0 0
set_option maxHeartbeats 1000000 in
theorem gX8_isHeard_85 {Z : hn_Z} {B : hn_B} {F : Nat} {μ : hn_M} {R : Int32} (hF : hn_F Z B (0, 0) cX8_isHeard 7 RX8 (some .boolean) 3) (hQ : hn_goal Z B (some (.int R), μ)) (hV : hn_V B hn_nA) {k14 : Int32 → Int32 → Int32 → Int32 → Int32 → Option Int32} (H14 : ∀ (l1 : Int32) (l2 : Int32) (l3 : Int32) (l4 : Int32) (l5 : Int32), k14 l1 l2 l3 l4 l5 = some R → hn_G Z B (0, 0) 7 14 [(0, .ref (hn_base B + 72)), (1, .int l1), (2, .int l2), (3, .int l3), (4, .int l4), (5, .int l5)] [] μ) {l1 : Int32} {l2 : Int32} {l3 : Int32} {l5 : Int32} {s0 : Int32} (e : fX8_isHeard_85 F μ k14 l1 l2 l3 l5 s0 = some R) : hn_G Z B (0, 0) 7 85 [(0, .ref (hn_base B + 72)), (1, .int l1), (2, .int l2), (3, .int l3), (5, .int l5)] [.int s0] μ := by
  unfold fX8_isHeard_85 at e
  refine hn_istore hF dX8_isHeard_85 (q := 87) rfl (by decide) (L' := [(4, .int s0), (0, .ref (hn_base B + 72)), (1, .int l1), (2, .int l2), (3, .int l3), (5, .int l5)]) rfl ?_
  refine hn_iinc (p := 5) hF dX8_isHeard_87 (q := 90) rfl rfl (kn_1 _) (by decide) (L' := [(5, .int (l5 + 1)), (4, .int s0), (0, .ref (hn_base B + 72)), (1, .int l1), (2, .int l2), (3, .int l3)]) rfl ?_
  refine hn_goto hF dX8_isHeard_90 (q := 14) rfl ?_
  refine hn_sub [2, 3, 4, 5, 1, 0] (L' := [(0, .ref (hn_base B + 72)), (1, .int l1), (2, .int l2), (3, .int l3), (4, .int s0), (5, .int (l5 + 1))]) rfl ?_
  exact H14 l1 l2 l3 s0 (l5 + 1) e
set_option maxHeartbeats 1000000 in
theorem gX8_isHeard_80 {Z : hn_Z} {B : hn_B} {F : Nat} {μ : hn_M} {R : Int32} (hF : hn_F Z B (0, 0) cX8_isHeard 7 RX8 (some .boolean) 3) (hQ : hn_goal Z B (some (.int R), μ)) (hV : hn_V B hn_nA) {k14 : Int32 → Int32 → Int32 → Int32 → Int32 → Option Int32} (H14 : ∀ (l1 : Int32) (l2 : Int32) (l3 : Int32) (l4 : Int32) (l5 : Int32), k14 l1 l2 l3 l4 l5 = some R → hn_G Z B (0, 0) 7 14 [(0, .ref (hn_base B + 72)), (1, .int l1), (2, .int l2), (3, .int l3), (4, .int l4), (5, .int l5)] [] μ) {l1 : Int32} {l2 : Int32} {l3 : Int32} {l5 : Int32} (e : fX8_isHeard_80 F μ k14 l1 l2 l3 l5 = some R) : hn_G Z B (0, 0) 7 80 [(0, .ref (hn_base B + 72)), (1, .int l1), (2, .int l2), (3, .int l3), (5, .int l5)] [] μ := by
  unfold fX8_isHeard_80 at e
  refine hn_iconst hF dX8_isHeard_80 (q := 81) rfl ki_1 ?_
  refine hn_goto hF dX8_isHeard_81 (q := 85) rfl ?_
  exact gX8_isHeard_85 hF hQ hV H14 e
set_option maxHeartbeats 1000000 in
theorem gX8_isHeard_84 {Z : hn_Z} {B : hn_B} {F : Nat} {μ : hn_M} {R : Int32} (hF : hn_F Z B (0, 0) cX8_isHeard 7 RX8 (some .boolean) 3) (hQ : hn_goal Z B (some (.int R), μ)) (hV : hn_V B hn_nA) {k14 : Int32 → Int32 → Int32 → Int32 → Int32 → Option Int32} (H14 : ∀ (l1 : Int32) (l2 : Int32) (l3 : Int32) (l4 : Int32) (l5 : Int32), k14 l1 l2 l3 l4 l5 = some R → hn_G Z B (0, 0) 7 14 [(0, .ref (hn_base B + 72)), (1, .int l1), (2, .int l2), (3, .int l3), (4, .int l4), (5, .int l5)] [] μ) {l1 : Int32} {l2 : Int32} {l3 : Int32} {l5 : Int32} (e : fX8_isHeard_84 F μ k14 l1 l2 l3 l5 = some R) : hn_G Z B (0, 0) 7 84 [(0, .ref (hn_base B + 72)), (1, .int l1), (2, .int l2), (3, .int l3), (5, .int l5)] [] μ := by
  unfold fX8_isHeard_84 at e
  refine hn_iconst hF dX8_isHeard_84 (q := 85) rfl ki_0 ?_
  exact gX8_isHeard_85 hF hQ hV H14 e
set_option maxHeartbeats 1000000 in
theorem gX8_isHeard_14 {Z : hn_Z} {B : hn_B} {F : Nat} {μ : hn_M} {R : Int32} (hF : hn_F Z B (0, 0) cX8_isHeard 7 RX8 (some .boolean) 3) (hQ : hn_goal Z B (some (.int R), μ)) (hV : hn_V B hn_nA) : ∀ (n : Nat) (l1 : Int32) (l2 : Int32) (l3 : Int32) (l4 : Int32) (l5 : Int32), fX8_isHeard_14 F μ n l1 l2 l3 l4 l5 = some R → hn_G Z B (0, 0) 7 14 [(0, .ref (hn_base B + 72)), (1, .int l1), (2, .int l2), (3, .int l3), (4, .int l4), (5, .int l5)] [] μ := by
  have a80 : hn_isA B 80 false 3 := hV 80 (by decide)
  have a81 : hn_isA B 81 false 540 := hV 81 (by decide)
  have a89 : hn_isA B 89 false 12 := hV 89 (by decide)
  have o72 : hn_isO B 72 8 hn_k72 := hV 72 (by decide)
  intro n
  induction n with
  | zero => intro l1 l2 l3 l4 l5 e; rw [fX8_isHeard_14] at e; cases e
  | succ n ih =>
    intro l1 l2 l3 l4 l5 e
    rw [fX8_isHeard_14] at e
    refine hn_iload hF dX8_isHeard_14 (q := 16) rfl 5 rfl ?_
    refine hn_aload_n hF dX8_isHeard_16 (q := 17) rfl 0 rfl ?_
    refine hn_get hF fl_X8_31 o72 rfl rfl dX8_isHeard_17 (q := 20) rfl ?_
    refine hn_iconst hF dX8_isHeard_20 (q := 21) rfl ki_0 ?_
    refine hn_ald hF a80 dX8_isHeard_21 (q := 22) rfl e (fun v1 e => ?_)
    refine hn_icmp_ge hF dX8_isHeard_22 (t := 93) (q := 25) rfl rfl e (fun e => ?_) (fun e => ?_)
    · refine hn_iload hF dX8_isHeard_93 (q := 95) rfl 4 rfl ?_
      exact hn_zretPg hF hQ dX8_isHeard_95 e
    · refine hn_aload_n hF dX8_isHeard_25 (q := 26) rfl 0 rfl ?_
      refine hn_iload hF dX8_isHeard_26 (q := 28) rfl 5 rfl ?_
      refine hn_callVi (rest := []) hF ms_X8_cameOf mv_X8_cameOf lk_X8_208 o72 rfl (by decide) [.int l5] rfl (Nat.le_of_ble_eq_true rfl) dX8_isHeard_28 (q := 31) rfl rfl e (fun v hv => cX8_cameOf_ hV hv) (fun v2 e => ?_)
      refine hn_istore hF dX8_isHeard_31 (q := 33) rfl (by decide) (L' := [(6, .int v2), (0, .ref (hn_base B + 72)), (1, .int l1), (2, .int l2), (3, .int l3), (4, .int l4), (5, .int l5)]) rfl ?_
      refine hn_iload hF dX8_isHeard_33 (q := 35) rfl 5 rfl ?_
      refine hn_if_ne hF dX8_isHeard_35 (t := 80) (q := 38) rfl rfl e (fun e => ?_) (fun e => ?_)
      · refine hn_sub [1, 2, 3, 4, 6] (L' := [(0, .ref (hn_base B + 72)), (1, .int l1), (2, .int l2), (3, .int l3), (5, .int l5)]) rfl ?_
        exact gX8_isHeard_80 hF hQ hV ih e
      · refine hn_aload_n hF dX8_isHeard_38 (q := 39) rfl 1 rfl ?_
        refine hn_iload hF dX8_isHeard_39 (q := 41) rfl 6 rfl ?_
        refine hn_callVi (rest := []) hF ms_X8_rootOf mv_X8_rootOf lk_X8_149 o72 rfl (by decide) [.int l5] rfl (Nat.le_of_ble_eq_true rfl) dX8_isHeard_41 (q := 44) rfl rfl e (fun v hv => cX8_rootOf_ hV hv) (fun v3 e => ?_)
        refine hn_iload_n hF dX8_isHeard_44 (q := 45) rfl 2 rfl ?_
        refine hn_icmp_ne hF dX8_isHeard_45 (t := 84) (q := 48) rfl rfl e (fun e => ?_) (fun e => ?_)
        · refine hn_sub [1, 2, 3, 4, 6] (L' := [(0, .ref (hn_base B + 72)), (1, .int l1), (2, .int l2), (3, .int l3), (5, .int l5)]) rfl ?_
          exact gX8_isHeard_84 hF hQ hV ih e
        · refine hn_iload hF dX8_isHeard_48 (q := 50) rfl 0 rfl ?_
          refine hn_if_lt hF dX8_isHeard_50 (t := 84) (q := 53) rfl rfl e (fun e => ?_) (fun e => ?_)
          · refine hn_sub [1, 2, 3, 4, 6] (L' := [(0, .ref (hn_base B + 72)), (1, .int l1), (2, .int l2), (3, .int l3), (5, .int l5)]) rfl ?_
            exact gX8_isHeard_84 hF hQ hV ih e
          · refine hn_iload hF dX8_isHeard_53 (q := 55) rfl 0 rfl ?_
            refine hn_iload_n hF dX8_isHeard_55 (q := 56) rfl 3 rfl ?_
            refine hn_icmp_gt hF dX8_isHeard_56 (t := 84) (q := 59) rfl rfl e (fun e => ?_) (fun e => ?_)
            · refine hn_sub [1, 2, 3, 4, 6] (L' := [(0, .ref (hn_base B + 72)), (1, .int l1), (2, .int l2), (3, .int l3), (5, .int l5)]) rfl ?_
              exact gX8_isHeard_84 hF hQ hV ih e
            · refine hn_iload_n hF dX8_isHeard_59 (q := 60) rfl 3 rfl ?_
              refine hn_aload_n hF dX8_isHeard_60 (q := 61) rfl 1 rfl ?_
              refine hn_get hF fl_X8_62 o72 rfl rfl dX8_isHeard_61 (q := 64) rfl ?_
              refine hn_aload_n hF dX8_isHeard_64 (q := 65) rfl 1 rfl ?_
              refine hn_get hF fl_X8_34 o72 rfl rfl dX8_isHeard_65 (q := 68) rfl ?_
              refine hn_bipush hF dX8_isHeard_68 (q := 70) rfl kb_6 ?_
              refine hn_iload hF dX8_isHeard_70 (q := 72) rfl 6 rfl ?_
              refine hn_imul hF dX8_isHeard_72 (q := 73) rfl ?_
              refine hn_ald hF a81 dX8_isHeard_73 (q := 74) rfl e (fun v4 e => ?_)
              refine hn_ald hF a89 dX8_isHeard_74 (q := 75) rfl e (fun v5 e => ?_)
              refine hn_isub hF dX8_isHeard_75 (q := 76) rfl ?_
              refine hn_iload_n hF dX8_isHeard_76 (q := 77) rfl 4 rfl ?_
              refine hn_icmp_gt hF dX8_isHeard_77 (t := 84) (q := 80) rfl rfl e (fun e => ?_) (fun e => ?_)
              · refine hn_sub [1, 2, 3, 4, 6] (L' := [(0, .ref (hn_base B + 72)), (1, .int l1), (2, .int l2), (3, .int l3), (5, .int l5)]) rfl ?_
                exact gX8_isHeard_84 hF hQ hV ih e
              · refine hn_sub [1, 2, 3, 4, 6] (L' := [(0, .ref (hn_base B + 72)), (1, .int l1), (2, .int l2), (3, .int l3), (5, .int l5)]) rfl ?_
                exact gX8_isHeard_80 hF hQ hV ih e
set_option maxHeartbeats 1000000 in
theorem gX8_isHeard {Z : hn_Z} {B : hn_B} {F : Nat} {μ : hn_M} {R : Int32} (hF : hn_F Z B (0, 0) cX8_isHeard 7 RX8 (some .boolean) 3) (hQ : hn_goal Z B (some (.int R), μ)) (hV : hn_V B hn_nA) {l1 : Int32} {l2 : Int32} (e : fX8_isHeard F μ l1 l2 = some R) : hn_G Z B (0, 0) 7 0 [(0, .ref (hn_base B + 72)), (1, .int l1), (2, .int l2)] [] μ := by
  unfold fX8_isHeard at e
  have o72 : hn_isO B 72 8 hn_k72 := hV 72 (by decide)
  refine hn_aload_n hF dX8_isHeard_0 (q := 1) rfl 0 rfl ?_
  refine hn_iconst hF dX8_isHeard_1 (q := 2) rfl ki_2 ?_
  refine hn_iconst hF dX8_isHeard_2 (q := 3) rfl ki_0 ?_
  refine hn_iload_n hF dX8_isHeard_3 (q := 4) rfl 2 rfl ?_
  refine hn_callVi (rest := []) hF ms_X8_ruleOf mv_X8_ruleOf lk_X8_202 o72 rfl (by decide) [.int 2, .int 0, .int l2] rfl (Nat.le_of_ble_eq_true rfl) dX8_isHeard_4 (q := 7) rfl rfl e (fun v hv => cX8_ruleOf_ hV hv) (fun v6 e => ?_)
  refine hn_istore_n hF dX8_isHeard_7 (q := 8) rfl (i := 3) rfl (by decide) (L' := [(3, .int v6), (0, .ref (hn_base B + 72)), (1, .int l1), (2, .int l2)]) rfl ?_
  refine hn_iconst hF dX8_isHeard_8 (q := 9) rfl ki_0 ?_
  refine hn_istore hF dX8_isHeard_9 (q := 11) rfl (by decide) (L' := [(4, .int 0), (3, .int v6), (0, .ref (hn_base B + 72)), (1, .int l1), (2, .int l2)]) rfl ?_
  refine hn_iconst hF dX8_isHeard_11 (q := 12) rfl ki_0 ?_
  refine hn_istore hF dX8_isHeard_12 (q := 14) rfl (by decide) (L' := [(5, .int 0), (4, .int 0), (3, .int v6), (0, .ref (hn_base B + 72)), (1, .int l1), (2, .int l2)]) rfl ?_
  refine hn_sub [3, 4, 5, 2, 1, 0] (L' := [(0, .ref (hn_base B + 72)), (1, .int l1), (2, .int l2), (3, .int v6), (4, .int 0), (5, .int 0)]) rfl ?_
  exact gX8_isHeard_14 hF hQ hV F l1 l2 v6 0 0 e
theorem cX8_isHeard_ {B : hn_B} {F : Nat} {μ : hn_M} {R : Int32} {l1 : Int32} {l2 : Int32} (hV : hn_V B hn_nA) (e : fX8_isHeard F μ l1 l2 = some R) : hn_C yX8_isHeard cX8_isHeard 7 (some .boolean) 3 B [.ref (hn_base B + 72), .int l1, .int l2] μ (some (.int R), μ) :=
  hn_C.of RX8 (by decide) rfl (Nat.le_of_ble_eq_true rfl) (fun _ hF hQ => gX8_isHeard hF hQ hV e)
/-! HandNewsModel.belief(III)I -/
def fX8_belief_165 (F : Nat) (k43 : Int32 → Int32 → Int32 → Int32 → Int32 → hn_M → Option (Int32 × hn_M)) (l1 : Int32) (l2 : Int32) (l3 : Int32) (l4 : Int32) (l5 : Int32) (μ : hn_M) : Option (Int32 × hn_M) := k43 l1 l2 l3 l4 (l5 + 1) μ
def fX8_belief_162 (F : Nat) (k43 : Int32 → Int32 → Int32 → Int32 → Int32 → hn_M → Option (Int32 × hn_M)) (l1 : Int32) (l2 : Int32) (l3 : Int32) (l5 : Int32) (s0 : Int32) (s1 : Int32) (μ : hn_M) : Option (Int32 × hn_M) := fX8_belief_165 F k43 l1 l2 l3 (s1 + s0) l5 μ
def fX8_belief_171 (F : Nat) (l2 : Int32) (l3 : Int32) (l4 : Int32) (μ : hn_M) : Option (Int32 × hn_M) := if l3 = 0 then some (l4, μ) else (fX8_ruleOf F μ 3 0 l2).bind fun v1 => if l4 < v1 then some (0, μ) else some (1, μ)
def fX8_belief_43 (F : Nat) : Nat → Int32 → Int32 → Int32 → Int32 → Int32 → hn_M → Option (Int32 × hn_M)
  | 0, _, _, _, _, _, _ => none
  | n + 1, l1, l2, l3, l4, l5, μ => hn_rd μ 80 3 0 fun v2 => if v2 ≤ l5 then fX8_belief_171 F l2 l3 l4 μ else hn_rd μ 91 30 l5 fun v3 => if 0 ≤ v3 then fX8_belief_165 F (fX8_belief_43 F n) l1 l2 l3 l4 l5 μ else hn_rd μ 81 540 ((6 * l5) + 1) fun v4 => if v4 = l1 then (fX8_isHeard F μ l5 l2).bind fun v5 => if v5 = 0 then fX8_belief_165 F (fX8_belief_43 F n) l1 l2 l3 l4 l5 μ else hn_rd μ 81 540 (6 * l5) fun v6 => hn_rd μ 77 108 (3 * v6) fun v7 => (fX8_ruleOf F μ 0 v7 l2).bind fun v8 => (fX8_writerOf μ l5).bind fun v9 => (fX8_ruleOf F μ 1 v9 l2).bind fun v10 => hn_rd μ 81 540 ((6 * l5) + 5) fun v11 => if v11 = 1 then (fX8_ruleOf F μ 4 0 l2).bind fun v12 => fX8_belief_162 F (fX8_belief_43 F n) l1 l2 l3 l5 ((-(v8 + v10)) * v12) l4 μ else fX8_belief_162 F (fX8_belief_43 F n) l1 l2 l3 l5 (v8 + v10) l4 μ else fX8_belief_165 F (fX8_belief_43 F n) l1 l2 l3 l4 l5 μ
def fX8_belief (F : Nat) (l1 : Int32) (l2 : Int32) (l3 : Int32) (μ : hn_M) : Option (Int32 × hn_M) := (fX8_isThing l1).bind fun v13 => if v13 = 0 then some ((-1000000), μ) else (fX8_isDay l2).bind fun v14 => if v14 = 0 then some ((-1000000), μ) else (fX8_in l3.toInt64 0 1).bind fun v15 => if v15 = 0 then some ((-1000000), μ) else (fX8_layTree F μ).bind fun w16 => if w16.1 = 0 then some ((-1000002), w16.2) else fX8_belief_43 F F l1 l2 l3 0 0 w16.2
set_option maxHeartbeats 1000000 in
theorem gX8_belief_165 {Z : hn_Z} {B : hn_B} {F : Nat} {R : Int32 × hn_M} (hF : hn_F Z B (0, 0) cX8_belief 7 RX8 (some .int) 4) (hQ : hn_goal Z B (some (.int R.1), R.2)) (hV : hn_V B hn_nA) {k43 : Int32 → Int32 → Int32 → Int32 → Int32 → hn_M → Option (Int32 × hn_M)} (H43 : ∀ (l1 : Int32) (l2 : Int32) (l3 : Int32) (l4 : Int32) (l5 : Int32) (μ : hn_M), k43 l1 l2 l3 l4 l5 μ = some R → hn_G Z B (0, 0) 7 43 [(0, .ref (hn_base B + 72)), (1, .int l1), (2, .int l2), (3, .int l3), (4, .int l4), (5, .int l5)] [] μ) {l1 : Int32} {l2 : Int32} {l3 : Int32} {l4 : Int32} {l5 : Int32} {μ : hn_M} (e : fX8_belief_165 F k43 l1 l2 l3 l4 l5 μ = some R) : hn_G Z B (0, 0) 7 165 [(0, .ref (hn_base B + 72)), (1, .int l1), (2, .int l2), (3, .int l3), (4, .int l4), (5, .int l5)] [] μ := by
  unfold fX8_belief_165 at e
  refine hn_iinc (p := 5) hF dX8_belief_165 (q := 168) rfl rfl (kn_1 _) (by decide) (L' := [(5, .int (l5 + 1)), (0, .ref (hn_base B + 72)), (1, .int l1), (2, .int l2), (3, .int l3), (4, .int l4)]) rfl ?_
  refine hn_goto hF dX8_belief_168 (q := 43) rfl ?_
  refine hn_sub [1, 2, 3, 4, 5, 0] (L' := [(0, .ref (hn_base B + 72)), (1, .int l1), (2, .int l2), (3, .int l3), (4, .int l4), (5, .int (l5 + 1))]) rfl ?_
  exact H43 l1 l2 l3 l4 (l5 + 1) μ e
set_option maxHeartbeats 1000000 in
theorem gX8_belief_162 {Z : hn_Z} {B : hn_B} {F : Nat} {R : Int32 × hn_M} (hF : hn_F Z B (0, 0) cX8_belief 7 RX8 (some .int) 4) (hQ : hn_goal Z B (some (.int R.1), R.2)) (hV : hn_V B hn_nA) {k43 : Int32 → Int32 → Int32 → Int32 → Int32 → hn_M → Option (Int32 × hn_M)} (H43 : ∀ (l1 : Int32) (l2 : Int32) (l3 : Int32) (l4 : Int32) (l5 : Int32) (μ : hn_M), k43 l1 l2 l3 l4 l5 μ = some R → hn_G Z B (0, 0) 7 43 [(0, .ref (hn_base B + 72)), (1, .int l1), (2, .int l2), (3, .int l3), (4, .int l4), (5, .int l5)] [] μ) {l1 : Int32} {l2 : Int32} {l3 : Int32} {l5 : Int32} {s0 : Int32} {s1 : Int32} {μ : hn_M} (e : fX8_belief_162 F k43 l1 l2 l3 l5 s0 s1 μ = some R) : hn_G Z B (0, 0) 7 162 [(0, .ref (hn_base B + 72)), (1, .int l1), (2, .int l2), (3, .int l3), (5, .int l5)] [.int s0, .int s1] μ := by
  unfold fX8_belief_162 at e
  refine hn_iadd hF dX8_belief_162 (q := 163) rfl ?_
  refine hn_istore hF dX8_belief_163 (q := 165) rfl (by decide) (L' := [(4, .int (s1 + s0)), (0, .ref (hn_base B + 72)), (1, .int l1), (2, .int l2), (3, .int l3), (5, .int l5)]) rfl ?_
  refine hn_sub [1, 2, 3, 4, 0, 5] (L' := [(0, .ref (hn_base B + 72)), (1, .int l1), (2, .int l2), (3, .int l3), (4, .int (s1 + s0)), (5, .int l5)]) rfl ?_
  exact gX8_belief_165 hF hQ hV H43 e
set_option maxHeartbeats 1000000 in
theorem gX8_belief_171 {Z : hn_Z} {B : hn_B} {F : Nat} {R : Int32 × hn_M} (hF : hn_F Z B (0, 0) cX8_belief 7 RX8 (some .int) 4) (hQ : hn_goal Z B (some (.int R.1), R.2)) (hV : hn_V B hn_nA) {l2 : Int32} {l3 : Int32} {l4 : Int32} {μ : hn_M} (e : fX8_belief_171 F l2 l3 l4 μ = some R) : hn_G Z B (0, 0) 7 171 [(0, .ref (hn_base B + 72)), (2, .int l2), (3, .int l3), (4, .int l4)] [] μ := by
  unfold fX8_belief_171 at e
  have o72 : hn_isO B 72 8 hn_k72 := hV 72 (by decide)
  refine hn_iload_n hF dX8_belief_171 (q := 172) rfl 2 rfl ?_
  refine hn_if_ne hF dX8_belief_172 (t := 180) (q := 175) rfl rfl e (fun e => ?_) (fun e => ?_)
  · refine hn_iload hF dX8_belief_180 (q := 182) rfl 3 rfl ?_
    refine hn_aload_n hF dX8_belief_182 (q := 183) rfl 0 rfl ?_
    refine hn_iconst hF dX8_belief_183 (q := 184) rfl ki_3 ?_
    refine hn_iconst hF dX8_belief_184 (q := 185) rfl ki_0 ?_
    refine hn_iload_n hF dX8_belief_185 (q := 186) rfl 1 rfl ?_
    refine hn_callVi (rest := [.int l4]) hF ms_X8_ruleOf mv_X8_ruleOf lk_X8_202 o72 rfl (by decide) [.int 3, .int 0, .int l2] rfl (Nat.le_of_ble_eq_true rfl) dX8_belief_186 (q := 189) rfl rfl e (fun v hv => cX8_ruleOf_ hV hv) (fun v1 e => ?_)
    refine hn_icmp_lt hF dX8_belief_189 (t := 196) (q := 192) rfl rfl e (fun e => ?_) (fun e => ?_)
    · refine hn_iconst hF dX8_belief_196 (q := 197) rfl ki_0 ?_
      exact hn_iretM hF hQ dX8_belief_197 e
    · refine hn_iconst hF dX8_belief_192 (q := 193) rfl ki_1 ?_
      refine hn_goto hF dX8_belief_193 (q := 197) rfl ?_
      exact hn_iretM hF hQ dX8_belief_197 e
  · refine hn_iload hF dX8_belief_175 (q := 177) rfl 3 rfl ?_
    refine hn_goto hF dX8_belief_177 (q := 197) rfl ?_
    exact hn_iretM hF hQ dX8_belief_197 e
set_option maxHeartbeats 1000000 in
theorem gX8_belief_43 {Z : hn_Z} {B : hn_B} {F : Nat} {R : Int32 × hn_M} (hF : hn_F Z B (0, 0) cX8_belief 7 RX8 (some .int) 4) (hQ : hn_goal Z B (some (.int R.1), R.2)) (hV : hn_V B hn_nA) : ∀ (n : Nat) (l1 : Int32) (l2 : Int32) (l3 : Int32) (l4 : Int32) (l5 : Int32) (μ : hn_M), fX8_belief_43 F n l1 l2 l3 l4 l5 μ = some R → hn_G Z B (0, 0) 7 43 [(0, .ref (hn_base B + 72)), (1, .int l1), (2, .int l2), (3, .int l3), (4, .int l4), (5, .int l5)] [] μ := by
  have a77 : hn_isA B 77 false 108 := hV 77 (by decide)
  have a80 : hn_isA B 80 false 3 := hV 80 (by decide)
  have a81 : hn_isA B 81 false 540 := hV 81 (by decide)
  have a91 : hn_isA B 91 false 30 := hV 91 (by decide)
  have o72 : hn_isO B 72 8 hn_k72 := hV 72 (by decide)
  intro n
  induction n with
  | zero => intro l1 l2 l3 l4 l5 μ e; rw [fX8_belief_43] at e; cases e
  | succ n ih =>
    intro l1 l2 l3 l4 l5 μ e
    rw [fX8_belief_43] at e
    refine hn_iload hF dX8_belief_43 (q := 45) rfl 5 rfl ?_
    refine hn_aload_n hF dX8_belief_45 (q := 46) rfl 0 rfl ?_
    refine hn_get hF fl_X8_31 o72 rfl rfl dX8_belief_46 (q := 49) rfl ?_
    refine hn_iconst hF dX8_belief_49 (q := 50) rfl ki_0 ?_
    refine hn_ald hF a80 dX8_belief_50 (q := 51) rfl e (fun v2 e => ?_)
    refine hn_icmp_ge hF dX8_belief_51 (t := 171) (q := 54) rfl rfl e (fun e => ?_) (fun e => ?_)
    · refine hn_sub [0, 2, 3, 4] (L' := [(0, .ref (hn_base B + 72)), (2, .int l2), (3, .int l3), (4, .int l4)]) rfl ?_
      exact gX8_belief_171 hF hQ hV e
    · refine hn_aload_n hF dX8_belief_54 (q := 55) rfl 0 rfl ?_
      refine hn_get hF fl_X8_68 o72 rfl rfl dX8_belief_55 (q := 58) rfl ?_
      refine hn_iload hF dX8_belief_58 (q := 60) rfl 5 rfl ?_
      refine hn_ald hF a91 dX8_belief_60 (q := 61) rfl e (fun v3 e => ?_)
      refine hn_if_ge hF dX8_belief_61 (t := 165) (q := 64) rfl rfl e (fun e => ?_) (fun e => ?_)
      · exact gX8_belief_165 hF hQ hV ih e
      · refine hn_aload_n hF dX8_belief_64 (q := 65) rfl 0 rfl ?_
        refine hn_get hF fl_X8_34 o72 rfl rfl dX8_belief_65 (q := 68) rfl ?_
        refine hn_bipush hF dX8_belief_68 (q := 70) rfl kb_6 ?_
        refine hn_iload hF dX8_belief_70 (q := 72) rfl 5 rfl ?_
        refine hn_imul hF dX8_belief_72 (q := 73) rfl ?_
        refine hn_iconst hF dX8_belief_73 (q := 74) rfl ki_1 ?_
        refine hn_iadd hF dX8_belief_74 (q := 75) rfl ?_
        refine hn_ald hF a81 dX8_belief_75 (q := 76) rfl e (fun v4 e => ?_)
        refine hn_iload_n hF dX8_belief_76 (q := 77) rfl 1 rfl ?_
        refine hn_icmp_ne hF dX8_belief_77 (t := 165) (q := 80) rfl rfl e (fun e => ?_) (fun e => ?_)
        · exact gX8_belief_165 hF hQ hV ih e
        · refine hn_aload_n hF dX8_belief_80 (q := 81) rfl 0 rfl ?_
          refine hn_iload hF dX8_belief_81 (q := 83) rfl 5 rfl ?_
          refine hn_iload_n hF dX8_belief_83 (q := 84) rfl 2 rfl ?_
          refine hn_callVi (rest := []) hF ms_X8_isHeard mv_X8_isHeard lk_X8_211 o72 rfl (by decide) [.int l5, .int l2] rfl (Nat.le_of_ble_eq_true rfl) dX8_belief_84 (q := 87) rfl rfl e (fun v hv => cX8_isHeard_ hV hv) (fun v5 e => ?_)
          refine hn_if_eq hF dX8_belief_87 (t := 165) (q := 90) rfl rfl e (fun e => ?_) (fun e => ?_)
          · exact gX8_belief_165 hF hQ hV ih e
          · refine hn_aload_n hF dX8_belief_90 (q := 91) rfl 0 rfl ?_
            refine hn_iconst hF dX8_belief_91 (q := 92) rfl ki_0 ?_
            refine hn_aload_n hF dX8_belief_92 (q := 93) rfl 0 rfl ?_
            refine hn_get hF fl_X8_22 o72 rfl rfl dX8_belief_93 (q := 96) rfl ?_
            refine hn_iconst hF dX8_belief_96 (q := 97) rfl ki_3 ?_
            refine hn_aload_n hF dX8_belief_97 (q := 98) rfl 0 rfl ?_
            refine hn_get hF fl_X8_34 o72 rfl rfl dX8_belief_98 (q := 101) rfl ?_
            refine hn_bipush hF dX8_belief_101 (q := 103) rfl kb_6 ?_
            refine hn_iload hF dX8_belief_103 (q := 105) rfl 5 rfl ?_
            refine hn_imul hF dX8_belief_105 (q := 106) rfl ?_
            refine hn_ald hF a81 dX8_belief_106 (q := 107) rfl e (fun v6 e => ?_)
            refine hn_imul hF dX8_belief_107 (q := 108) rfl ?_
            refine hn_ald hF a77 dX8_belief_108 (q := 109) rfl e (fun v7 e => ?_)
            refine hn_iload_n hF dX8_belief_109 (q := 110) rfl 2 rfl ?_
            refine hn_callVi (rest := []) hF ms_X8_ruleOf mv_X8_ruleOf lk_X8_202 o72 rfl (by decide) [.int 0, .int v7, .int l2] rfl (Nat.le_of_ble_eq_true rfl) dX8_belief_110 (q := 113) rfl rfl e (fun v hv => cX8_ruleOf_ hV hv) (fun v8 e => ?_)
            refine hn_aload_n hF dX8_belief_113 (q := 114) rfl 0 rfl ?_
            refine hn_iconst hF dX8_belief_114 (q := 115) rfl ki_1 ?_
            refine hn_aload_n hF dX8_belief_115 (q := 116) rfl 0 rfl ?_
            refine hn_iload hF dX8_belief_116 (q := 118) rfl 5 rfl ?_
            refine hn_callVi (rest := [.int 1, .ref (hn_base B + 72), .int v8]) hF ms_X8_writerOf mv_X8_writerOf lk_X8_160 o72 rfl (by decide) [.int l5] rfl (Nat.le_of_ble_eq_true rfl) dX8_belief_118 (q := 121) rfl rfl e (fun v hv => cX8_writerOf_ hV hv) (fun v9 e => ?_)
            refine hn_iload_n hF dX8_belief_121 (q := 122) rfl 2 rfl ?_
            refine hn_callVi (rest := [.int v8]) hF ms_X8_ruleOf mv_X8_ruleOf lk_X8_202 o72 rfl (by decide) [.int 1, .int v9, .int l2] rfl (Nat.le_of_ble_eq_true rfl) dX8_belief_122 (q := 125) rfl rfl e (fun v hv => cX8_ruleOf_ hV hv) (fun v10 e => ?_)
            refine hn_iadd hF dX8_belief_125 (q := 126) rfl ?_
            refine hn_istore hF dX8_belief_126 (q := 128) rfl (by decide) (L' := [(6, .int (v8 + v10)), (0, .ref (hn_base B + 72)), (1, .int l1), (2, .int l2), (3, .int l3), (4, .int l4), (5, .int l5)]) rfl ?_
            refine hn_iload hF dX8_belief_128 (q := 130) rfl 5 rfl ?_
            refine hn_aload_n hF dX8_belief_130 (q := 131) rfl 1 rfl ?_
            refine hn_get hF fl_X8_34 o72 rfl rfl dX8_belief_131 (q := 134) rfl ?_
            refine hn_bipush hF dX8_belief_134 (q := 136) rfl kb_6 ?_
            refine hn_iload hF dX8_belief_136 (q := 138) rfl 6 rfl ?_
            refine hn_imul hF dX8_belief_138 (q := 139) rfl ?_
            refine hn_iconst hF dX8_belief_139 (q := 140) rfl ki_5 ?_
            refine hn_iadd hF dX8_belief_140 (q := 141) rfl ?_
            refine hn_ald hF a81 dX8_belief_141 (q := 142) rfl e (fun v11 e => ?_)
            refine hn_iconst hF dX8_belief_142 (q := 143) rfl ki_1 ?_
            refine hn_icmp_ne hF dX8_belief_143 (t := 160) (q := 146) rfl rfl e (fun e => ?_) (fun e => ?_)
            · refine hn_iload hF dX8_belief_160 (q := 162) rfl 0 rfl ?_
              refine hn_sub [1, 2, 3, 4, 6] (L' := [(0, .ref (hn_base B + 72)), (1, .int l1), (2, .int l2), (3, .int l3), (5, .int l5)]) rfl ?_
              exact gX8_belief_162 hF hQ hV ih e
            · refine hn_iload hF dX8_belief_146 (q := 148) rfl 0 rfl ?_
              refine hn_ineg hF dX8_belief_148 (q := 149) rfl ?_
              refine hn_aload_n hF dX8_belief_149 (q := 150) rfl 1 rfl ?_
              refine hn_iconst hF dX8_belief_150 (q := 151) rfl ki_4 ?_
              refine hn_iconst hF dX8_belief_151 (q := 152) rfl ki_0 ?_
              refine hn_iload_n hF dX8_belief_152 (q := 153) rfl 3 rfl ?_
              refine hn_callVi (rest := [.int (-(v8 + v10)), .int l4]) hF ms_X8_ruleOf mv_X8_ruleOf lk_X8_202 o72 rfl (by decide) [.int 4, .int 0, .int l2] rfl (Nat.le_of_ble_eq_true rfl) dX8_belief_153 (q := 156) rfl rfl e (fun v hv => cX8_ruleOf_ hV hv) (fun v12 e => ?_)
              refine hn_imul hF dX8_belief_156 (q := 157) rfl ?_
              refine hn_goto hF dX8_belief_157 (q := 162) rfl ?_
              refine hn_sub [1, 2, 3, 4, 6] (L' := [(0, .ref (hn_base B + 72)), (1, .int l1), (2, .int l2), (3, .int l3), (5, .int l5)]) rfl ?_
              exact gX8_belief_162 hF hQ hV ih e
set_option maxHeartbeats 1000000 in
theorem gX8_belief {Z : hn_Z} {B : hn_B} {F : Nat} {R : Int32 × hn_M} (hF : hn_F Z B (0, 0) cX8_belief 7 RX8 (some .int) 4) (hQ : hn_goal Z B (some (.int R.1), R.2)) (hV : hn_V B hn_nA) {l1 : Int32} {l2 : Int32} {l3 : Int32} {μ : hn_M} (e : fX8_belief F l1 l2 l3 μ = some R) : hn_G Z B (0, 0) 7 0 [(0, .ref (hn_base B + 72)), (1, .int l1), (2, .int l2), (3, .int l3)] [] μ := by
  unfold fX8_belief at e
  have o72 : hn_isO B 72 8 hn_k72 := hV 72 (by decide)
  refine hn_iload_n hF dX8_belief_0 (q := 1) rfl 1 rfl ?_
  refine hn_callSi (rest := []) hF ms_X8_isThing mt_X8_isThing lk_X8_104 (by decide) [.int l1] rfl (Nat.le_of_ble_eq_true rfl) dX8_belief_1 (q := 4) rfl rfl e (fun v hv => cX8_isThing_ hv) (fun v13 e => ?_)
  refine hn_if_eq hF dX8_belief_4 (t := 24) (q := 7) rfl rfl e (fun e => ?_) (fun e => ?_)
  · refine hn_ldc hF kd_X8_158 dX8_belief_24 (q := 26) rfl ?_
    exact hn_iretM hF hQ dX8_belief_26 e
  · refine hn_iload_n hF dX8_belief_7 (q := 8) rfl 2 rfl ?_
    refine hn_callSi (rest := []) hF ms_X8_isDay mt_X8_isDay lk_X8_107 (by decide) [.int l2] rfl (Nat.le_of_ble_eq_true rfl) dX8_belief_8 (q := 11) rfl rfl e (fun v hv => cX8_isDay_ hv) (fun v14 e => ?_)
    refine hn_if_eq hF dX8_belief_11 (t := 24) (q := 14) rfl rfl e (fun e => ?_) (fun e => ?_)
    · refine hn_ldc hF kd_X8_158 dX8_belief_24 (q := 26) rfl ?_
      exact hn_iretM hF hQ dX8_belief_26 e
    · refine hn_iload_n hF dX8_belief_14 (q := 15) rfl 3 rfl ?_
      refine hn_i2l hF dX8_belief_15 (q := 16) rfl rfl ?_
      refine hn_lconst hF dX8_belief_16 (q := 17) rfl kl_0 ?_
      refine hn_lconst hF dX8_belief_17 (q := 18) rfl kl_1 ?_
      refine hn_callSi (rest := []) hF ms_X8_in mt_X8_in lk_X8_79 (by decide) [.long (l3.toInt64), .long 0, .long 1] rfl (Nat.le_of_ble_eq_true rfl) dX8_belief_18 (q := 21) rfl rfl e (fun v hv => cX8_in_ hv) (fun v15 e => ?_)
      refine hn_if_ne hF dX8_belief_21 (t := 27) (q := 24) rfl rfl e (fun e => ?_) (fun e => ?_)
      · refine hn_aload_n hF dX8_belief_27 (q := 28) rfl 0 rfl ?_
        refine hn_callVm (rest := []) hF ms_X8_layTree mv_X8_layTree lk_X8_144 o72 rfl (by decide) [] rfl (Nat.le_of_ble_eq_true rfl) dX8_belief_28 (q := 31) rfl rfl e (fun v hv => cX8_layTree_ hV hv) (fun w16 e => ?_)
        refine hn_if_ne hF dX8_belief_31 (t := 37) (q := 34) rfl rfl e (fun e => ?_) (fun e => ?_)
        · refine hn_iconst hF dX8_belief_37 (q := 38) rfl ki_0 ?_
          refine hn_istore hF dX8_belief_38 (q := 40) rfl (by decide) (L' := [(4, .int 0), (0, .ref (hn_base B + 72)), (1, .int l1), (2, .int l2), (3, .int l3)]) rfl ?_
          refine hn_iconst hF dX8_belief_40 (q := 41) rfl ki_0 ?_
          refine hn_istore hF dX8_belief_41 (q := 43) rfl (by decide) (L' := [(5, .int 0), (4, .int 0), (0, .ref (hn_base B + 72)), (1, .int l1), (2, .int l2), (3, .int l3)]) rfl ?_
          refine hn_sub [2, 3, 4, 5, 1, 0] (L' := [(0, .ref (hn_base B + 72)), (1, .int l1), (2, .int l2), (3, .int l3), (4, .int 0), (5, .int 0)]) rfl ?_
          exact gX8_belief_43 hF hQ hV F l1 l2 l3 0 0 w16.2 e
        · refine hn_ldc hF kd_X8_159 dX8_belief_34 (q := 36) rfl ?_
          exact hn_iretM hF hQ dX8_belief_36 e
      · refine hn_ldc hF kd_X8_158 dX8_belief_24 (q := 26) rfl ?_
        exact hn_iretM hF hQ dX8_belief_26 e
theorem cX8_belief_ {B : hn_B} {F : Nat} {μ : hn_M} {R : Int32 × hn_M} {l1 : Int32} {l2 : Int32} {l3 : Int32} (hV : hn_V B hn_nA) (e : fX8_belief F l1 l2 l3 μ = some R) : hn_C yX8_belief cX8_belief 7 (some .int) 4 B [.ref (hn_base B + 72), .int l1, .int l2, .int l3] μ (some (.int R.1), R.2) :=
  hn_C.of RX8 (by decide) rfl (Nat.le_of_ble_eq_true rfl) (fun _ hF hQ => gX8_belief hF hQ hV e)
/-! HandNewsModel.isBanned(I)Z -/
def fX8_isBanned_148 (F : Nat) (μ : hn_M) (k15 : Int32 → Int32 → Int32 → Int32 → Option Int32) (l1 : Int32) (l2 : Int32) (l4 : Int32) (s0 : Int32) : Option Int32 := k15 l1 l2 s0 (l4 + 1)
def fX8_isBanned_143 (F : Nat) (μ : hn_M) (k15 : Int32 → Int32 → Int32 → Int32 → Option Int32) (l1 : Int32) (l2 : Int32) (l4 : Int32) : Option Int32 := fX8_isBanned_148 F μ k15 l1 l2 l4 1
def fX8_isBanned_147 (F : Nat) (μ : hn_M) (k15 : Int32 → Int32 → Int32 → Int32 → Option Int32) (l1 : Int32) (l2 : Int32) (l4 : Int32) : Option Int32 := fX8_isBanned_148 F μ k15 l1 l2 l4 0
def fX8_isBanned_96 (F : Nat) (μ : hn_M) (k15 : Int32 → Int32 → Int32 → Int32 → Option Int32) (l1 : Int32) (l2 : Int32) (l3 : Int32) (l4 : Int32) (l5 : Int32) (s0 : Int32) : Option Int32 := if l3 = 0 then if s0 = 0 then fX8_isBanned_147 F μ k15 l1 l2 l4 else hn_rd μ 86 400 (l5 + 3) fun v1 => hn_rd μ 90 12 l2 fun v2 => if v2 < v1 then fX8_isBanned_147 F μ k15 l1 l2 l4 else hn_rd μ 86 400 (l5 + 4) fun v3 => hn_rd μ 89 12 l2 fun v4 => if v3 < v4 then fX8_isBanned_147 F μ k15 l1 l2 l4 else fX8_isBanned_143 F μ k15 l1 l2 l4 else fX8_isBanned_143 F μ k15 l1 l2 l4
def fX8_isBanned_95 (F : Nat) (μ : hn_M) (k15 : Int32 → Int32 → Int32 → Int32 → Option Int32) (l1 : Int32) (l2 : Int32) (l3 : Int32) (l4 : Int32) (l5 : Int32) : Option Int32 := fX8_isBanned_96 F μ k15 l1 l2 l3 l4 l5 0
def fX8_isBanned_15 (F : Nat) (μ : hn_M) : Nat → Int32 → Int32 → Int32 → Int32 → Option Int32
  | 0, _, _, _, _ => none
  | n + 1, l1, l2, l3, l4 => hn_rd μ 85 2 1 fun v5 => if v5 ≤ l4 then hn_bo l3 (some l3) else hn_rd μ 86 400 (200 + (5 * l4)) fun v6 => if v6 = 110 then hn_rd μ 86 400 ((200 + (5 * l4)) + 1) fun v7 => hn_rd μ 77 108 (3 * l2) fun v8 => if v7 = v8 then hn_rd μ 86 400 ((200 + (5 * l4)) + 2) fun v9 => hn_rd μ 81 540 ((6 * l1) + 1) fun v10 => if v9 = v10 then fX8_isBanned_96 F μ (fX8_isBanned_15 F μ n) l1 l2 l3 l4 (200 + (5 * l4)) 1 else fX8_isBanned_95 F μ (fX8_isBanned_15 F μ n) l1 l2 l3 l4 (200 + (5 * l4)) else fX8_isBanned_95 F μ (fX8_isBanned_15 F μ n) l1 l2 l3 l4 (200 + (5 * l4)) else fX8_isBanned_95 F μ (fX8_isBanned_15 F μ n) l1 l2 l3 l4 (200 + (5 * l4))
def fX8_isBanned (F : Nat) (μ : hn_M) (l1 : Int32) : Option Int32 := hn_rd μ 81 540 (6 * l1) fun v11 => fX8_isBanned_15 F μ F l1 v11 0 0
set_option maxHeartbeats 1000000 in
theorem gX8_isBanned_148 {Z : hn_Z} {B : hn_B} {F : Nat} {μ : hn_M} {R : Int32} (hF : hn_F Z B (0, 0) cX8_isBanned 7 RX8 (some .boolean) 0) (hQ : hn_goal Z B (some (.int R), μ)) (hV : hn_V B hn_nA) {k15 : Int32 → Int32 → Int32 → Int32 → Option Int32} (H15 : ∀ (l1 : Int32) (l2 : Int32) (l3 : Int32) (l4 : Int32), k15 l1 l2 l3 l4 = some R → hn_G Z B (0, 0) 7 15 [(0, .ref (hn_base B + 72)), (1, .int l1), (2, .int l2), (3, .int l3), (4, .int l4)] [] μ) {l1 : Int32} {l2 : Int32} {l4 : Int32} {s0 : Int32} (e : fX8_isBanned_148 F μ k15 l1 l2 l4 s0 = some R) : hn_G Z B (0, 0) 7 148 [(0, .ref (hn_base B + 72)), (1, .int l1), (2, .int l2), (4, .int l4)] [.int s0] μ := by
  unfold fX8_isBanned_148 at e
  refine hn_istore_n hF dX8_isBanned_148 (q := 149) rfl (i := 3) rfl (by decide) (L' := [(3, .int s0), (0, .ref (hn_base B + 72)), (1, .int l1), (2, .int l2), (4, .int l4)]) rfl ?_
  refine hn_iinc (p := 4) hF dX8_isBanned_149 (q := 152) rfl rfl (kn_1 _) (by decide) (L' := [(4, .int (l4 + 1)), (3, .int s0), (0, .ref (hn_base B + 72)), (1, .int l1), (2, .int l2)]) rfl ?_
  refine hn_goto hF dX8_isBanned_152 (q := 15) rfl ?_
  refine hn_sub [2, 3, 4, 1, 0] (L' := [(0, .ref (hn_base B + 72)), (1, .int l1), (2, .int l2), (3, .int s0), (4, .int (l4 + 1))]) rfl ?_
  exact H15 l1 l2 s0 (l4 + 1) e
set_option maxHeartbeats 1000000 in
theorem gX8_isBanned_143 {Z : hn_Z} {B : hn_B} {F : Nat} {μ : hn_M} {R : Int32} (hF : hn_F Z B (0, 0) cX8_isBanned 7 RX8 (some .boolean) 0) (hQ : hn_goal Z B (some (.int R), μ)) (hV : hn_V B hn_nA) {k15 : Int32 → Int32 → Int32 → Int32 → Option Int32} (H15 : ∀ (l1 : Int32) (l2 : Int32) (l3 : Int32) (l4 : Int32), k15 l1 l2 l3 l4 = some R → hn_G Z B (0, 0) 7 15 [(0, .ref (hn_base B + 72)), (1, .int l1), (2, .int l2), (3, .int l3), (4, .int l4)] [] μ) {l1 : Int32} {l2 : Int32} {l4 : Int32} (e : fX8_isBanned_143 F μ k15 l1 l2 l4 = some R) : hn_G Z B (0, 0) 7 143 [(0, .ref (hn_base B + 72)), (1, .int l1), (2, .int l2), (4, .int l4)] [] μ := by
  unfold fX8_isBanned_143 at e
  refine hn_iconst hF dX8_isBanned_143 (q := 144) rfl ki_1 ?_
  refine hn_goto hF dX8_isBanned_144 (q := 148) rfl ?_
  exact gX8_isBanned_148 hF hQ hV H15 e
set_option maxHeartbeats 1000000 in
theorem gX8_isBanned_147 {Z : hn_Z} {B : hn_B} {F : Nat} {μ : hn_M} {R : Int32} (hF : hn_F Z B (0, 0) cX8_isBanned 7 RX8 (some .boolean) 0) (hQ : hn_goal Z B (some (.int R), μ)) (hV : hn_V B hn_nA) {k15 : Int32 → Int32 → Int32 → Int32 → Option Int32} (H15 : ∀ (l1 : Int32) (l2 : Int32) (l3 : Int32) (l4 : Int32), k15 l1 l2 l3 l4 = some R → hn_G Z B (0, 0) 7 15 [(0, .ref (hn_base B + 72)), (1, .int l1), (2, .int l2), (3, .int l3), (4, .int l4)] [] μ) {l1 : Int32} {l2 : Int32} {l4 : Int32} (e : fX8_isBanned_147 F μ k15 l1 l2 l4 = some R) : hn_G Z B (0, 0) 7 147 [(0, .ref (hn_base B + 72)), (1, .int l1), (2, .int l2), (4, .int l4)] [] μ := by
  unfold fX8_isBanned_147 at e
  refine hn_iconst hF dX8_isBanned_147 (q := 148) rfl ki_0 ?_
  exact gX8_isBanned_148 hF hQ hV H15 e
set_option maxHeartbeats 1000000 in
theorem gX8_isBanned_96 {Z : hn_Z} {B : hn_B} {F : Nat} {μ : hn_M} {R : Int32} (hF : hn_F Z B (0, 0) cX8_isBanned 7 RX8 (some .boolean) 0) (hQ : hn_goal Z B (some (.int R), μ)) (hV : hn_V B hn_nA) {k15 : Int32 → Int32 → Int32 → Int32 → Option Int32} (H15 : ∀ (l1 : Int32) (l2 : Int32) (l3 : Int32) (l4 : Int32), k15 l1 l2 l3 l4 = some R → hn_G Z B (0, 0) 7 15 [(0, .ref (hn_base B + 72)), (1, .int l1), (2, .int l2), (3, .int l3), (4, .int l4)] [] μ) {l1 : Int32} {l2 : Int32} {l3 : Int32} {l4 : Int32} {l5 : Int32} {s0 : Int32} (e : fX8_isBanned_96 F μ k15 l1 l2 l3 l4 l5 s0 = some R) : hn_G Z B (0, 0) 7 96 [(0, .ref (hn_base B + 72)), (1, .int l1), (2, .int l2), (3, .int l3), (4, .int l4), (5, .int l5)] [.int s0] μ := by
  unfold fX8_isBanned_96 at e
  have a86 : hn_isA B 86 false 400 := hV 86 (by decide)
  have a89 : hn_isA B 89 false 12 := hV 89 (by decide)
  have a90 : hn_isA B 90 false 12 := hV 90 (by decide)
  have o72 : hn_isO B 72 8 hn_k72 := hV 72 (by decide)
  refine hn_istore hF dX8_isBanned_96 (q := 98) rfl (by decide) (L' := [(6, .int s0), (0, .ref (hn_base B + 72)), (1, .int l1), (2, .int l2), (3, .int l3), (4, .int l4), (5, .int l5)]) rfl ?_
  refine hn_iload_n hF dX8_isBanned_98 (q := 99) rfl 4 rfl ?_
  refine hn_if_ne hF dX8_isBanned_99 (t := 143) (q := 102) rfl rfl e (fun e => ?_) (fun e => ?_)
  · refine hn_sub [1, 2, 3, 5] (L' := [(0, .ref (hn_base B + 72)), (1, .int l1), (2, .int l2), (4, .int l4)]) rfl ?_
    exact gX8_isBanned_143 hF hQ hV H15 e
  · refine hn_iload hF dX8_isBanned_102 (q := 104) rfl 0 rfl ?_
    refine hn_if_eq hF dX8_isBanned_104 (t := 147) (q := 107) rfl rfl e (fun e => ?_) (fun e => ?_)
    · refine hn_sub [1, 2, 3, 5] (L' := [(0, .ref (hn_base B + 72)), (1, .int l1), (2, .int l2), (4, .int l4)]) rfl ?_
      exact gX8_isBanned_147 hF hQ hV H15 e
    · refine hn_aload_n hF dX8_isBanned_107 (q := 108) rfl 1 rfl ?_
      refine hn_get hF fl_X8_53 o72 rfl rfl dX8_isBanned_108 (q := 111) rfl ?_
      refine hn_iload hF dX8_isBanned_111 (q := 113) rfl 6 rfl ?_
      refine hn_iconst hF dX8_isBanned_113 (q := 114) rfl ki_3 ?_
      refine hn_iadd hF dX8_isBanned_114 (q := 115) rfl ?_
      refine hn_ald hF a86 dX8_isBanned_115 (q := 116) rfl e (fun v1 e => ?_)
      refine hn_aload_n hF dX8_isBanned_116 (q := 117) rfl 1 rfl ?_
      refine hn_get hF fl_X8_65 o72 rfl rfl dX8_isBanned_117 (q := 120) rfl ?_
      refine hn_iload_n hF dX8_isBanned_120 (q := 121) rfl 3 rfl ?_
      refine hn_ald hF a90 dX8_isBanned_121 (q := 122) rfl e (fun v2 e => ?_)
      refine hn_icmp_gt hF dX8_isBanned_122 (t := 147) (q := 125) rfl rfl e (fun e => ?_) (fun e => ?_)
      · refine hn_sub [1, 2, 3, 5] (L' := [(0, .ref (hn_base B + 72)), (1, .int l1), (2, .int l2), (4, .int l4)]) rfl ?_
        exact gX8_isBanned_147 hF hQ hV H15 e
      · refine hn_aload_n hF dX8_isBanned_125 (q := 126) rfl 1 rfl ?_
        refine hn_get hF fl_X8_53 o72 rfl rfl dX8_isBanned_126 (q := 129) rfl ?_
        refine hn_iload hF dX8_isBanned_129 (q := 131) rfl 6 rfl ?_
        refine hn_iconst hF dX8_isBanned_131 (q := 132) rfl ki_4 ?_
        refine hn_iadd hF dX8_isBanned_132 (q := 133) rfl ?_
        refine hn_ald hF a86 dX8_isBanned_133 (q := 134) rfl e (fun v3 e => ?_)
        refine hn_aload_n hF dX8_isBanned_134 (q := 135) rfl 1 rfl ?_
        refine hn_get hF fl_X8_62 o72 rfl rfl dX8_isBanned_135 (q := 138) rfl ?_
        refine hn_iload_n hF dX8_isBanned_138 (q := 139) rfl 3 rfl ?_
        refine hn_ald hF a89 dX8_isBanned_139 (q := 140) rfl e (fun v4 e => ?_)
        refine hn_icmp_lt hF dX8_isBanned_140 (t := 147) (q := 143) rfl rfl e (fun e => ?_) (fun e => ?_)
        · refine hn_sub [1, 2, 3, 5] (L' := [(0, .ref (hn_base B + 72)), (1, .int l1), (2, .int l2), (4, .int l4)]) rfl ?_
          exact gX8_isBanned_147 hF hQ hV H15 e
        · refine hn_sub [1, 2, 3, 5] (L' := [(0, .ref (hn_base B + 72)), (1, .int l1), (2, .int l2), (4, .int l4)]) rfl ?_
          exact gX8_isBanned_143 hF hQ hV H15 e
set_option maxHeartbeats 1000000 in
theorem gX8_isBanned_95 {Z : hn_Z} {B : hn_B} {F : Nat} {μ : hn_M} {R : Int32} (hF : hn_F Z B (0, 0) cX8_isBanned 7 RX8 (some .boolean) 0) (hQ : hn_goal Z B (some (.int R), μ)) (hV : hn_V B hn_nA) {k15 : Int32 → Int32 → Int32 → Int32 → Option Int32} (H15 : ∀ (l1 : Int32) (l2 : Int32) (l3 : Int32) (l4 : Int32), k15 l1 l2 l3 l4 = some R → hn_G Z B (0, 0) 7 15 [(0, .ref (hn_base B + 72)), (1, .int l1), (2, .int l2), (3, .int l3), (4, .int l4)] [] μ) {l1 : Int32} {l2 : Int32} {l3 : Int32} {l4 : Int32} {l5 : Int32} (e : fX8_isBanned_95 F μ k15 l1 l2 l3 l4 l5 = some R) : hn_G Z B (0, 0) 7 95 [(0, .ref (hn_base B + 72)), (1, .int l1), (2, .int l2), (3, .int l3), (4, .int l4), (5, .int l5)] [] μ := by
  unfold fX8_isBanned_95 at e
  refine hn_iconst hF dX8_isBanned_95 (q := 96) rfl ki_0 ?_
  exact gX8_isBanned_96 hF hQ hV H15 e
set_option maxHeartbeats 1000000 in
theorem gX8_isBanned_15 {Z : hn_Z} {B : hn_B} {F : Nat} {μ : hn_M} {R : Int32} (hF : hn_F Z B (0, 0) cX8_isBanned 7 RX8 (some .boolean) 0) (hQ : hn_goal Z B (some (.int R), μ)) (hV : hn_V B hn_nA) : ∀ (n : Nat) (l1 : Int32) (l2 : Int32) (l3 : Int32) (l4 : Int32), fX8_isBanned_15 F μ n l1 l2 l3 l4 = some R → hn_G Z B (0, 0) 7 15 [(0, .ref (hn_base B + 72)), (1, .int l1), (2, .int l2), (3, .int l3), (4, .int l4)] [] μ := by
  have a77 : hn_isA B 77 false 108 := hV 77 (by decide)
  have a81 : hn_isA B 81 false 540 := hV 81 (by decide)
  have a85 : hn_isA B 85 false 2 := hV 85 (by decide)
  have a86 : hn_isA B 86 false 400 := hV 86 (by decide)
  have o72 : hn_isO B 72 8 hn_k72 := hV 72 (by decide)
  intro n
  induction n with
  | zero => intro l1 l2 l3 l4 e; rw [fX8_isBanned_15] at e; cases e
  | succ n ih =>
    intro l1 l2 l3 l4 e
    rw [fX8_isBanned_15] at e
    refine hn_iload hF dX8_isBanned_15 (q := 17) rfl 4 rfl ?_
    refine hn_aload_n hF dX8_isBanned_17 (q := 18) rfl 0 rfl ?_
    refine hn_get hF fl_X8_50 o72 rfl rfl dX8_isBanned_18 (q := 21) rfl ?_
    refine hn_iconst hF dX8_isBanned_21 (q := 22) rfl ki_1 ?_
    refine hn_ald hF a85 dX8_isBanned_22 (q := 23) rfl e (fun v5 e => ?_)
    refine hn_icmp_ge hF dX8_isBanned_23 (t := 155) (q := 26) rfl rfl e (fun e => ?_) (fun e => ?_)
    · refine hn_iload_n hF dX8_isBanned_155 (q := 156) rfl 3 rfl ?_
      exact hn_zretPg hF hQ dX8_isBanned_156 e
    · refine hn_sipush hF dX8_isBanned_26 (q := 29) rfl ks_200 ?_
      refine hn_iconst hF dX8_isBanned_29 (q := 30) rfl ki_5 ?_
      refine hn_iload hF dX8_isBanned_30 (q := 32) rfl 4 rfl ?_
      refine hn_imul hF dX8_isBanned_32 (q := 33) rfl ?_
      refine hn_iadd hF dX8_isBanned_33 (q := 34) rfl ?_
      refine hn_istore hF dX8_isBanned_34 (q := 36) rfl (by decide) (L' := [(5, .int (200 + (5 * l4))), (0, .ref (hn_base B + 72)), (1, .int l1), (2, .int l2), (3, .int l3), (4, .int l4)]) rfl ?_
      refine hn_aload_n hF dX8_isBanned_36 (q := 37) rfl 1 rfl ?_
      refine hn_get hF fl_X8_53 o72 rfl rfl dX8_isBanned_37 (q := 40) rfl ?_
      refine hn_iload hF dX8_isBanned_40 (q := 42) rfl 0 rfl ?_
      refine hn_ald hF a86 dX8_isBanned_42 (q := 43) rfl e (fun v6 e => ?_)
      refine hn_bipush hF dX8_isBanned_43 (q := 45) rfl kb_110 ?_
      refine hn_icmp_ne hF dX8_isBanned_45 (t := 95) (q := 48) rfl rfl e (fun e => ?_) (fun e => ?_)
      · refine hn_sub [1, 2, 3, 4, 5, 0] (L' := [(0, .ref (hn_base B + 72)), (1, .int l1), (2, .int l2), (3, .int l3), (4, .int l4), (5, .int (200 + (5 * l4)))]) rfl ?_
        exact gX8_isBanned_95 hF hQ hV ih e
      · refine hn_aload_n hF dX8_isBanned_48 (q := 49) rfl 1 rfl ?_
        refine hn_get hF fl_X8_53 o72 rfl rfl dX8_isBanned_49 (q := 52) rfl ?_
        refine hn_iload hF dX8_isBanned_52 (q := 54) rfl 0 rfl ?_
        refine hn_iconst hF dX8_isBanned_54 (q := 55) rfl ki_1 ?_
        refine hn_iadd hF dX8_isBanned_55 (q := 56) rfl ?_
        refine hn_ald hF a86 dX8_isBanned_56 (q := 57) rfl e (fun v7 e => ?_)
        refine hn_aload_n hF dX8_isBanned_57 (q := 58) rfl 1 rfl ?_
        refine hn_get hF fl_X8_22 o72 rfl rfl dX8_isBanned_58 (q := 61) rfl ?_
        refine hn_iconst hF dX8_isBanned_61 (q := 62) rfl ki_3 ?_
        refine hn_iload_n hF dX8_isBanned_62 (q := 63) rfl 3 rfl ?_
        refine hn_imul hF dX8_isBanned_63 (q := 64) rfl ?_
        refine hn_ald hF a77 dX8_isBanned_64 (q := 65) rfl e (fun v8 e => ?_)
        refine hn_icmp_ne hF dX8_isBanned_65 (t := 95) (q := 68) rfl rfl e (fun e => ?_) (fun e => ?_)
        · refine hn_sub [1, 2, 3, 4, 5, 0] (L' := [(0, .ref (hn_base B + 72)), (1, .int l1), (2, .int l2), (3, .int l3), (4, .int l4), (5, .int (200 + (5 * l4)))]) rfl ?_
          exact gX8_isBanned_95 hF hQ hV ih e
        · refine hn_aload_n hF dX8_isBanned_68 (q := 69) rfl 1 rfl ?_
          refine hn_get hF fl_X8_53 o72 rfl rfl dX8_isBanned_69 (q := 72) rfl ?_
          refine hn_iload hF dX8_isBanned_72 (q := 74) rfl 0 rfl ?_
          refine hn_iconst hF dX8_isBanned_74 (q := 75) rfl ki_2 ?_
          refine hn_iadd hF dX8_isBanned_75 (q := 76) rfl ?_
          refine hn_ald hF a86 dX8_isBanned_76 (q := 77) rfl e (fun v9 e => ?_)
          refine hn_aload_n hF dX8_isBanned_77 (q := 78) rfl 1 rfl ?_
          refine hn_get hF fl_X8_34 o72 rfl rfl dX8_isBanned_78 (q := 81) rfl ?_
          refine hn_bipush hF dX8_isBanned_81 (q := 83) rfl kb_6 ?_
          refine hn_iload_n hF dX8_isBanned_83 (q := 84) rfl 2 rfl ?_
          refine hn_imul hF dX8_isBanned_84 (q := 85) rfl ?_
          refine hn_iconst hF dX8_isBanned_85 (q := 86) rfl ki_1 ?_
          refine hn_iadd hF dX8_isBanned_86 (q := 87) rfl ?_
          refine hn_ald hF a81 dX8_isBanned_87 (q := 88) rfl e (fun v10 e => ?_)
          refine hn_icmp_ne hF dX8_isBanned_88 (t := 95) (q := 91) rfl rfl e (fun e => ?_) (fun e => ?_)
          · refine hn_sub [1, 2, 3, 4, 5, 0] (L' := [(0, .ref (hn_base B + 72)), (1, .int l1), (2, .int l2), (3, .int l3), (4, .int l4), (5, .int (200 + (5 * l4)))]) rfl ?_
            exact gX8_isBanned_95 hF hQ hV ih e
          · refine hn_iconst hF dX8_isBanned_91 (q := 92) rfl ki_1 ?_
            refine hn_goto hF dX8_isBanned_92 (q := 96) rfl ?_
            refine hn_sub [1, 2, 3, 4, 5, 0] (L' := [(0, .ref (hn_base B + 72)), (1, .int l1), (2, .int l2), (3, .int l3), (4, .int l4), (5, .int (200 + (5 * l4)))]) rfl ?_
            exact gX8_isBanned_96 hF hQ hV ih e
set_option maxHeartbeats 1000000 in
theorem gX8_isBanned {Z : hn_Z} {B : hn_B} {F : Nat} {μ : hn_M} {R : Int32} (hF : hn_F Z B (0, 0) cX8_isBanned 7 RX8 (some .boolean) 0) (hQ : hn_goal Z B (some (.int R), μ)) (hV : hn_V B hn_nA) {l1 : Int32} (e : fX8_isBanned F μ l1 = some R) : hn_G Z B (0, 0) 7 0 [(0, .ref (hn_base B + 72)), (1, .int l1)] [] μ := by
  unfold fX8_isBanned at e
  have a81 : hn_isA B 81 false 540 := hV 81 (by decide)
  have o72 : hn_isO B 72 8 hn_k72 := hV 72 (by decide)
  refine hn_aload_n hF dX8_isBanned_0 (q := 1) rfl 0 rfl ?_
  refine hn_get hF fl_X8_34 o72 rfl rfl dX8_isBanned_1 (q := 4) rfl ?_
  refine hn_bipush hF dX8_isBanned_4 (q := 6) rfl kb_6 ?_
  refine hn_iload_n hF dX8_isBanned_6 (q := 7) rfl 1 rfl ?_
  refine hn_imul hF dX8_isBanned_7 (q := 8) rfl ?_
  refine hn_ald hF a81 dX8_isBanned_8 (q := 9) rfl e (fun v11 e => ?_)
  refine hn_istore_n hF dX8_isBanned_9 (q := 10) rfl (i := 2) rfl (by decide) (L' := [(2, .int v11), (0, .ref (hn_base B + 72)), (1, .int l1)]) rfl ?_
  refine hn_iconst hF dX8_isBanned_10 (q := 11) rfl ki_0 ?_
  refine hn_istore_n hF dX8_isBanned_11 (q := 12) rfl (i := 3) rfl (by decide) (L' := [(3, .int 0), (2, .int v11), (0, .ref (hn_base B + 72)), (1, .int l1)]) rfl ?_
  refine hn_iconst hF dX8_isBanned_12 (q := 13) rfl ki_0 ?_
  refine hn_istore hF dX8_isBanned_13 (q := 15) rfl (by decide) (L' := [(4, .int 0), (3, .int 0), (2, .int v11), (0, .ref (hn_base B + 72)), (1, .int l1)]) rfl ?_
  refine hn_sub [3, 4, 2, 1, 0] (L' := [(0, .ref (hn_base B + 72)), (1, .int l1), (2, .int v11), (3, .int 0), (4, .int 0)]) rfl ?_
  exact gX8_isBanned_15 hF hQ hV F l1 v11 0 0 e
theorem cX8_isBanned_ {B : hn_B} {F : Nat} {μ : hn_M} {R : Int32} {l1 : Int32} (hV : hn_V B hn_nA) (e : fX8_isBanned F μ l1 = some R) : hn_C yX8_isBanned cX8_isBanned 7 (some .boolean) 0 B [.ref (hn_base B + 72), .int l1] μ (some (.int R), μ) :=
  hn_C.of RX8 (by decide) rfl (Nat.le_of_ble_eq_true rfl) (fun _ hF hQ => gX8_isBanned hF hQ hV e)
/-! HandNewsModel.banned(I)I -/
def fX8_banned_49 (F : Nat) (k21 : Int32 → Int32 → Int32 → hn_M → Option (Int32 × hn_M)) (l1 : Int32) (l2 : Int32) (l3 : Int32) (μ : hn_M) : Option (Int32 × hn_M) := k21 l1 l2 (l3 + 1) μ
def fX8_banned_55 (F : Nat) (l1 : Int32) (l2 : Int32) (μ : hn_M) : Option (Int32 × hn_M) := if 0 ≤ l1 then some ((-4), μ) else some (l2, μ)
def fX8_banned_21 (F : Nat) : Nat → Int32 → Int32 → Int32 → hn_M → Option (Int32 × hn_M)
  | 0, _, _, _, _ => none
  | n + 1, l1, l2, l3, μ => hn_rd μ 80 3 0 fun v1 => if v1 ≤ l3 then fX8_banned_55 F l1 l2 μ else (fX8_isBanned F μ l3).bind fun v2 => if v2 = 0 then fX8_banned_49 F (fX8_banned_21 F n) l1 l2 l3 μ else if l2 = l1 then some (l3, μ) else fX8_banned_49 F (fX8_banned_21 F n) l1 (l2 + 1) l3 μ
def fX8_banned (F : Nat) (l1 : Int32) (μ : hn_M) : Option (Int32 × hn_M) := if (-1) ≤ l1 then (fX8_areDays F μ).bind fun w3 => if w3.1 = 0 then some ((-2), w3.2) else fX8_banned_21 F F l1 0 0 w3.2 else some ((-1), μ)
set_option maxHeartbeats 1000000 in
theorem gX8_banned_49 {Z : hn_Z} {B : hn_B} {F : Nat} {R : Int32 × hn_M} (hF : hn_F Z B (0, 0) cX8_banned 4 RX8 (some .int) 3) (hQ : hn_goal Z B (some (.int R.1), R.2)) (hV : hn_V B hn_nA) {k21 : Int32 → Int32 → Int32 → hn_M → Option (Int32 × hn_M)} (H21 : ∀ (l1 : Int32) (l2 : Int32) (l3 : Int32) (μ : hn_M), k21 l1 l2 l3 μ = some R → hn_G Z B (0, 0) 4 21 [(0, .ref (hn_base B + 72)), (1, .int l1), (2, .int l2), (3, .int l3)] [] μ) {l1 : Int32} {l2 : Int32} {l3 : Int32} {μ : hn_M} (e : fX8_banned_49 F k21 l1 l2 l3 μ = some R) : hn_G Z B (0, 0) 4 49 [(0, .ref (hn_base B + 72)), (1, .int l1), (2, .int l2), (3, .int l3)] [] μ := by
  unfold fX8_banned_49 at e
  refine hn_iinc (p := 3) hF dX8_banned_49 (q := 52) rfl rfl (kn_1 _) (by decide) (L' := [(3, .int (l3 + 1)), (0, .ref (hn_base B + 72)), (1, .int l1), (2, .int l2)]) rfl ?_
  refine hn_goto hF dX8_banned_52 (q := 21) rfl ?_
  refine hn_sub [1, 2, 3, 0] (L' := [(0, .ref (hn_base B + 72)), (1, .int l1), (2, .int l2), (3, .int (l3 + 1))]) rfl ?_
  exact H21 l1 l2 (l3 + 1) μ e
set_option maxHeartbeats 1000000 in
theorem gX8_banned_55 {Z : hn_Z} {B : hn_B} {F : Nat} {R : Int32 × hn_M} (hF : hn_F Z B (0, 0) cX8_banned 4 RX8 (some .int) 3) (hQ : hn_goal Z B (some (.int R.1), R.2)) (hV : hn_V B hn_nA) {l1 : Int32} {l2 : Int32} {μ : hn_M} (e : fX8_banned_55 F l1 l2 μ = some R) : hn_G Z B (0, 0) 4 55 [(1, .int l1), (2, .int l2)] [] μ := by
  unfold fX8_banned_55 at e
  refine hn_iload_n hF dX8_banned_55 (q := 56) rfl 0 rfl ?_
  refine hn_if_ge hF dX8_banned_56 (t := 63) (q := 59) rfl rfl e (fun e => ?_) (fun e => ?_)
  · refine hn_bipush hF dX8_banned_63 (q := 65) rfl kb_m4 ?_
    exact hn_iretM hF hQ dX8_banned_65 e
  · refine hn_iload_n hF dX8_banned_59 (q := 60) rfl 1 rfl ?_
    refine hn_goto hF dX8_banned_60 (q := 65) rfl ?_
    exact hn_iretM hF hQ dX8_banned_65 e
set_option maxHeartbeats 1000000 in
theorem gX8_banned_21 {Z : hn_Z} {B : hn_B} {F : Nat} {R : Int32 × hn_M} (hF : hn_F Z B (0, 0) cX8_banned 4 RX8 (some .int) 3) (hQ : hn_goal Z B (some (.int R.1), R.2)) (hV : hn_V B hn_nA) : ∀ (n : Nat) (l1 : Int32) (l2 : Int32) (l3 : Int32) (μ : hn_M), fX8_banned_21 F n l1 l2 l3 μ = some R → hn_G Z B (0, 0) 4 21 [(0, .ref (hn_base B + 72)), (1, .int l1), (2, .int l2), (3, .int l3)] [] μ := by
  have a80 : hn_isA B 80 false 3 := hV 80 (by decide)
  have o72 : hn_isO B 72 8 hn_k72 := hV 72 (by decide)
  intro n
  induction n with
  | zero => intro l1 l2 l3 μ e; rw [fX8_banned_21] at e; cases e
  | succ n ih =>
    intro l1 l2 l3 μ e
    rw [fX8_banned_21] at e
    refine hn_iload_n hF dX8_banned_21 (q := 22) rfl 3 rfl ?_
    refine hn_aload_n hF dX8_banned_22 (q := 23) rfl 0 rfl ?_
    refine hn_get hF fl_X8_31 o72 rfl rfl dX8_banned_23 (q := 26) rfl ?_
    refine hn_iconst hF dX8_banned_26 (q := 27) rfl ki_0 ?_
    refine hn_ald hF a80 dX8_banned_27 (q := 28) rfl e (fun v1 e => ?_)
    refine hn_icmp_ge hF dX8_banned_28 (t := 55) (q := 31) rfl rfl e (fun e => ?_) (fun e => ?_)
    · refine hn_sub [1, 2] (L' := [(1, .int l1), (2, .int l2)]) rfl ?_
      exact gX8_banned_55 hF hQ hV e
    · refine hn_aload_n hF dX8_banned_31 (q := 32) rfl 0 rfl ?_
      refine hn_iload_n hF dX8_banned_32 (q := 33) rfl 3 rfl ?_
      refine hn_callVi (rest := []) hF ms_X8_isBanned mv_X8_isBanned lk_X8_214 o72 rfl (by decide) [.int l3] rfl (Nat.le_of_ble_eq_true rfl) dX8_banned_33 (q := 36) rfl rfl e (fun v hv => cX8_isBanned_ hV hv) (fun v2 e => ?_)
      refine hn_if_eq hF dX8_banned_36 (t := 49) (q := 39) rfl rfl e (fun e => ?_) (fun e => ?_)
      · exact gX8_banned_49 hF hQ hV ih e
      · refine hn_iload_n hF dX8_banned_39 (q := 40) rfl 2 rfl ?_
        refine hn_iload_n hF dX8_banned_40 (q := 41) rfl 1 rfl ?_
        refine hn_icmp_ne hF dX8_banned_41 (t := 46) (q := 44) rfl rfl e (fun e => ?_) (fun e => ?_)
        · refine hn_iinc (p := 2) hF dX8_banned_46 (q := 49) rfl rfl (kn_1 _) (by decide) (L' := [(2, .int (l2 + 1)), (0, .ref (hn_base B + 72)), (1, .int l1), (3, .int l3)]) rfl ?_
          refine hn_sub [1, 2, 0, 3] (L' := [(0, .ref (hn_base B + 72)), (1, .int l1), (2, .int (l2 + 1)), (3, .int l3)]) rfl ?_
          exact gX8_banned_49 hF hQ hV ih e
        · refine hn_iload_n hF dX8_banned_44 (q := 45) rfl 3 rfl ?_
          exact hn_iretM hF hQ dX8_banned_45 e
set_option maxHeartbeats 1000000 in
theorem gX8_banned {Z : hn_Z} {B : hn_B} {F : Nat} {R : Int32 × hn_M} (hF : hn_F Z B (0, 0) cX8_banned 4 RX8 (some .int) 3) (hQ : hn_goal Z B (some (.int R.1), R.2)) (hV : hn_V B hn_nA) {l1 : Int32} {μ : hn_M} (e : fX8_banned F l1 μ = some R) : hn_G Z B (0, 0) 4 0 [(0, .ref (hn_base B + 72)), (1, .int l1)] [] μ := by
  unfold fX8_banned at e
  have o72 : hn_isO B 72 8 hn_k72 := hV 72 (by decide)
  refine hn_iload_n hF dX8_banned_0 (q := 1) rfl 1 rfl ?_
  refine hn_iconst hF dX8_banned_1 (q := 2) rfl ki_m1 ?_
  refine hn_icmp_ge hF dX8_banned_2 (t := 7) (q := 5) rfl rfl e (fun e => ?_) (fun e => ?_)
  · refine hn_aload_n hF dX8_banned_7 (q := 8) rfl 0 rfl ?_
    refine hn_callVm (rest := []) hF ms_X8_areDays mv_X8_areDays lk_X8_126 o72 rfl (by decide) [] rfl (Nat.le_of_ble_eq_true rfl) dX8_banned_8 (q := 11) rfl rfl e (fun v hv => cX8_areDays_ hV hv) (fun w3 e => ?_)
    refine hn_if_ne hF dX8_banned_11 (t := 17) (q := 14) rfl rfl e (fun e => ?_) (fun e => ?_)
    · refine hn_iconst hF dX8_banned_17 (q := 18) rfl ki_0 ?_
      refine hn_istore_n hF dX8_banned_18 (q := 19) rfl (i := 2) rfl (by decide) (L' := [(2, .int 0), (0, .ref (hn_base B + 72)), (1, .int l1)]) rfl ?_
      refine hn_iconst hF dX8_banned_19 (q := 20) rfl ki_0 ?_
      refine hn_istore_n hF dX8_banned_20 (q := 21) rfl (i := 3) rfl (by decide) (L' := [(3, .int 0), (2, .int 0), (0, .ref (hn_base B + 72)), (1, .int l1)]) rfl ?_
      refine hn_sub [2, 3, 1, 0] (L' := [(0, .ref (hn_base B + 72)), (1, .int l1), (2, .int 0), (3, .int 0)]) rfl ?_
      exact gX8_banned_21 hF hQ hV F l1 0 0 w3.2 e
    · refine hn_bipush hF dX8_banned_14 (q := 16) rfl kb_m2 ?_
      exact hn_iretM hF hQ dX8_banned_16 e
  · refine hn_iconst hF dX8_banned_5 (q := 6) rfl ki_m1 ?_
    exact hn_iretM hF hQ dX8_banned_6 e
theorem cX8_banned_ {B : hn_B} {F : Nat} {μ : hn_M} {R : Int32 × hn_M} {l1 : Int32} (hV : hn_V B hn_nA) (e : fX8_banned F l1 μ = some R) : hn_C yX8_banned cX8_banned 4 (some .int) 3 B [.ref (hn_base B + 72), .int l1] μ (some (.int R.1), R.2) :=
  hn_C.of RX8 (by decide) rfl (Nat.le_of_ble_eq_true rfl) (fun _ hF hQ => gX8_banned hF hQ hV e)
/-! HandNewsModel.truth(II)I -/
def fX8_truth (l1 : Int32) (l2 : Int32) (μ : hn_M) : Option (Int32 × hn_M) := (fX8_isThing l1).bind fun v1 => if v1 = 0 then some ((-100), μ) else (fX8_in l2.toInt64 (-1) 9999).bind fun v2 => if v2 = 0 then some ((-100), μ) else hn_rd μ 83 30 l1 fun v3 => hn_wr μ 83 30 l1 l2 fun μ4 => some (v3, μ4)
set_option maxHeartbeats 1000000 in
theorem gX8_truth {Z : hn_Z} {B : hn_B} {R : Int32 × hn_M} (hF : hn_F Z B (0, 0) cX8_truth 4 RX8 (some .int) 2) (hQ : hn_goal Z B (some (.int R.1), R.2)) (hV : hn_V B hn_nA) {l1 : Int32} {l2 : Int32} {μ : hn_M} (e : fX8_truth l1 l2 μ = some R) : hn_G Z B (0, 0) 4 0 [(0, .ref (hn_base B + 72)), (1, .int l1), (2, .int l2)] [] μ := by
  unfold fX8_truth at e
  have a83 : hn_isA B 83 false 30 := hV 83 (by decide)
  have o72 : hn_isO B 72 8 hn_k72 := hV 72 (by decide)
  refine hn_iload_n hF dX8_truth_0 (q := 1) rfl 1 rfl ?_
  refine hn_callSi (rest := []) hF ms_X8_isThing mt_X8_isThing lk_X8_104 (by decide) [.int l1] rfl (Nat.le_of_ble_eq_true rfl) dX8_truth_1 (q := 4) rfl rfl e (fun v hv => cX8_isThing_ hv) (fun v1 e => ?_)
  refine hn_if_eq hF dX8_truth_4 (t := 21) (q := 7) rfl rfl e (fun e => ?_) (fun e => ?_)
  · refine hn_bipush hF dX8_truth_21 (q := 23) rfl kb_m100 ?_
    exact hn_iretM hF hQ dX8_truth_23 e
  · refine hn_iload_n hF dX8_truth_7 (q := 8) rfl 2 rfl ?_
    refine hn_i2l hF dX8_truth_8 (q := 9) rfl rfl ?_
    refine hn_ldc2 hF kd_X8_95 dX8_truth_9 (q := 12) rfl ?_
    refine hn_ldc2 hF kd_X8_129 dX8_truth_12 (q := 15) rfl ?_
    refine hn_callSi (rest := []) hF ms_X8_in mt_X8_in lk_X8_79 (by decide) [.long (l2.toInt64), .long ((-1)), .long 9999] rfl (Nat.le_of_ble_eq_true rfl) dX8_truth_15 (q := 18) rfl rfl e (fun v hv => cX8_in_ hv) (fun v2 e => ?_)
    refine hn_if_ne hF dX8_truth_18 (t := 24) (q := 21) rfl rfl e (fun e => ?_) (fun e => ?_)
    · refine hn_aload_n hF dX8_truth_24 (q := 25) rfl 0 rfl ?_
      refine hn_get hF fl_X8_40 o72 rfl rfl dX8_truth_25 (q := 28) rfl ?_
      refine hn_iload_n hF dX8_truth_28 (q := 29) rfl 1 rfl ?_
      refine hn_ald hF a83 dX8_truth_29 (q := 30) rfl e (fun v3 e => ?_)
      refine hn_istore_n hF dX8_truth_30 (q := 31) rfl (i := 3) rfl (by decide) (L' := [(3, .int v3), (0, .ref (hn_base B + 72)), (1, .int l1), (2, .int l2)]) rfl ?_
      refine hn_aload_n hF dX8_truth_31 (q := 32) rfl 1 rfl ?_
      refine hn_get hF fl_X8_40 o72 rfl rfl dX8_truth_32 (q := 35) rfl ?_
      refine hn_iload_n hF dX8_truth_35 (q := 36) rfl 2 rfl ?_
      refine hn_iload_n hF dX8_truth_36 (q := 37) rfl 3 rfl ?_
      refine hn_ast hF a83 dX8_truth_37 (q := 38) rfl e (fun μ4 e => ?_)
      refine hn_iload_n hF dX8_truth_38 (q := 39) rfl 0 rfl ?_
      exact hn_iretM hF hQ dX8_truth_39 e
    · refine hn_bipush hF dX8_truth_21 (q := 23) rfl kb_m100 ?_
      exact hn_iretM hF hQ dX8_truth_23 e
theorem cX8_truth_ {B : hn_B} {μ : hn_M} {R : Int32 × hn_M} {l1 : Int32} {l2 : Int32} (hV : hn_V B hn_nA) (e : fX8_truth l1 l2 μ = some R) : hn_C yX8_truth cX8_truth 4 (some .int) 2 B [.ref (hn_base B + 72), .int l1, .int l2] μ (some (.int R.1), R.2) :=
  hn_C.of RX8 (by decide) rfl (Nat.le_of_ble_eq_true rfl) (fun _ hF hQ => gX8_truth hF hQ hV e)
/-! HandNewsModel.right(II)I -/
def fX8_right_170 (F : Nat) (k41 : Int32 → Int32 → Int32 → Int32 → hn_M → Option (Int32 × hn_M)) (l1 : Int32) (l2 : Int32) (l3 : Int32) (l4 : Int32) (μ : hn_M) : Option (Int32 × hn_M) := k41 l1 l2 l3 (l4 + 1) μ
def fX8_right_168 (F : Nat) (k41 : Int32 → Int32 → Int32 → Int32 → hn_M → Option (Int32 × hn_M)) (l1 : Int32) (l2 : Int32) (l4 : Int32) (s0 : Int32) (s1 : Int32) (μ : hn_M) : Option (Int32 × hn_M) := fX8_right_170 F k41 l1 l2 (s1 + s0) l4 μ
def fX8_right_41 (F : Nat) : Nat → Int32 → Int32 → Int32 → Int32 → hn_M → Option (Int32 × hn_M)
  | 0, _, _, _, _, _ => none
  | n + 1, l1, l2, l3, l4, μ => hn_rd μ 80 3 0 fun v1 => if v1 ≤ l4 then some (l3, μ) else hn_rd μ 81 540 ((6 * l4) + 1) fun v2 => hn_rd μ 83 30 v2 fun v3 => hn_rd μ 91 30 l4 fun v4 => if 0 ≤ v4 then fX8_right_170 F (fX8_right_41 F n) l1 l2 l3 l4 μ else (fX8_writerOf μ l4).bind fun v5 => if v5 = l1 then hn_rd μ 81 540 ((6 * l4) + 5) fun v6 => if v6 = 0 then if v3 < 0 then fX8_right_170 F (fX8_right_41 F n) l1 l2 l3 l4 μ else hn_rd μ 81 540 ((6 * l4) + 2) fun v7 => if l2 = 0 then if v7 - v3 = 0 then fX8_right_168 F (fX8_right_41 F n) l1 l2 l4 1 l3 μ else fX8_right_168 F (fX8_right_41 F n) l1 l2 l4 0 l3 μ else if l2 = 1 then fX8_right_168 F (fX8_right_41 F n) l1 l2 l4 1 l3 μ else if 0 ≤ v7 - v3 then fX8_right_168 F (fX8_right_41 F n) l1 l2 l4 (v7 - v3) l3 μ else fX8_right_168 F (fX8_right_41 F n) l1 l2 l4 (-(v7 - v3)) l3 μ else fX8_right_170 F (fX8_right_41 F n) l1 l2 l3 l4 μ else fX8_right_170 F (fX8_right_41 F n) l1 l2 l3 l4 μ
def fX8_right (F : Nat) (l1 : Int32) (l2 : Int32) (μ : hn_M) : Option (Int32 × hn_M) := (fX8_in l1.toInt64 0 7).bind fun v8 => if v8 = 0 then some ((-1), μ) else (fX8_in l2.toInt64 0 2).bind fun v9 => if v9 = 0 then some ((-1), μ) else (fX8_layTree F μ).bind fun w10 => if w10.1 = 0 then some ((-2), w10.2) else fX8_right_41 F F l1 l2 0 0 w10.2
set_option maxHeartbeats 1000000 in
theorem gX8_right_170 {Z : hn_Z} {B : hn_B} {F : Nat} {R : Int32 × hn_M} (hF : hn_F Z B (0, 0) cX8_right 7 RX8 (some .int) 4) (hQ : hn_goal Z B (some (.int R.1), R.2)) (hV : hn_V B hn_nA) {k41 : Int32 → Int32 → Int32 → Int32 → hn_M → Option (Int32 × hn_M)} (H41 : ∀ (l1 : Int32) (l2 : Int32) (l3 : Int32) (l4 : Int32) (μ : hn_M), k41 l1 l2 l3 l4 μ = some R → hn_G Z B (0, 0) 7 41 [(0, .ref (hn_base B + 72)), (1, .int l1), (2, .int l2), (3, .int l3), (4, .int l4)] [] μ) {l1 : Int32} {l2 : Int32} {l3 : Int32} {l4 : Int32} {μ : hn_M} (e : fX8_right_170 F k41 l1 l2 l3 l4 μ = some R) : hn_G Z B (0, 0) 7 170 [(0, .ref (hn_base B + 72)), (1, .int l1), (2, .int l2), (3, .int l3), (4, .int l4)] [] μ := by
  unfold fX8_right_170 at e
  refine hn_iinc (p := 4) hF dX8_right_170 (q := 173) rfl rfl (kn_1 _) (by decide) (L' := [(4, .int (l4 + 1)), (0, .ref (hn_base B + 72)), (1, .int l1), (2, .int l2), (3, .int l3)]) rfl ?_
  refine hn_goto hF dX8_right_173 (q := 41) rfl ?_
  refine hn_sub [1, 2, 3, 4, 0] (L' := [(0, .ref (hn_base B + 72)), (1, .int l1), (2, .int l2), (3, .int l3), (4, .int (l4 + 1))]) rfl ?_
  exact H41 l1 l2 l3 (l4 + 1) μ e
set_option maxHeartbeats 1000000 in
theorem gX8_right_168 {Z : hn_Z} {B : hn_B} {F : Nat} {R : Int32 × hn_M} (hF : hn_F Z B (0, 0) cX8_right 7 RX8 (some .int) 4) (hQ : hn_goal Z B (some (.int R.1), R.2)) (hV : hn_V B hn_nA) {k41 : Int32 → Int32 → Int32 → Int32 → hn_M → Option (Int32 × hn_M)} (H41 : ∀ (l1 : Int32) (l2 : Int32) (l3 : Int32) (l4 : Int32) (μ : hn_M), k41 l1 l2 l3 l4 μ = some R → hn_G Z B (0, 0) 7 41 [(0, .ref (hn_base B + 72)), (1, .int l1), (2, .int l2), (3, .int l3), (4, .int l4)] [] μ) {l1 : Int32} {l2 : Int32} {l4 : Int32} {s0 : Int32} {s1 : Int32} {μ : hn_M} (e : fX8_right_168 F k41 l1 l2 l4 s0 s1 μ = some R) : hn_G Z B (0, 0) 7 168 [(0, .ref (hn_base B + 72)), (1, .int l1), (2, .int l2), (4, .int l4)] [.int s0, .int s1] μ := by
  unfold fX8_right_168 at e
  refine hn_iadd hF dX8_right_168 (q := 169) rfl ?_
  refine hn_istore_n hF dX8_right_169 (q := 170) rfl (i := 3) rfl (by decide) (L' := [(3, .int (s1 + s0)), (0, .ref (hn_base B + 72)), (1, .int l1), (2, .int l2), (4, .int l4)]) rfl ?_
  refine hn_sub [1, 2, 3, 0, 4] (L' := [(0, .ref (hn_base B + 72)), (1, .int l1), (2, .int l2), (3, .int (s1 + s0)), (4, .int l4)]) rfl ?_
  exact gX8_right_170 hF hQ hV H41 e
set_option maxHeartbeats 1000000 in
theorem gX8_right_41 {Z : hn_Z} {B : hn_B} {F : Nat} {R : Int32 × hn_M} (hF : hn_F Z B (0, 0) cX8_right 7 RX8 (some .int) 4) (hQ : hn_goal Z B (some (.int R.1), R.2)) (hV : hn_V B hn_nA) : ∀ (n : Nat) (l1 : Int32) (l2 : Int32) (l3 : Int32) (l4 : Int32) (μ : hn_M), fX8_right_41 F n l1 l2 l3 l4 μ = some R → hn_G Z B (0, 0) 7 41 [(0, .ref (hn_base B + 72)), (1, .int l1), (2, .int l2), (3, .int l3), (4, .int l4)] [] μ := by
  have a80 : hn_isA B 80 false 3 := hV 80 (by decide)
  have a81 : hn_isA B 81 false 540 := hV 81 (by decide)
  have a83 : hn_isA B 83 false 30 := hV 83 (by decide)
  have a91 : hn_isA B 91 false 30 := hV 91 (by decide)
  have o72 : hn_isO B 72 8 hn_k72 := hV 72 (by decide)
  intro n
  induction n with
  | zero => intro l1 l2 l3 l4 μ e; rw [fX8_right_41] at e; cases e
  | succ n ih =>
    intro l1 l2 l3 l4 μ e
    rw [fX8_right_41] at e
    refine hn_iload hF dX8_right_41 (q := 43) rfl 4 rfl ?_
    refine hn_aload_n hF dX8_right_43 (q := 44) rfl 0 rfl ?_
    refine hn_get hF fl_X8_31 o72 rfl rfl dX8_right_44 (q := 47) rfl ?_
    refine hn_iconst hF dX8_right_47 (q := 48) rfl ki_0 ?_
    refine hn_ald hF a80 dX8_right_48 (q := 49) rfl e (fun v1 e => ?_)
    refine hn_icmp_ge hF dX8_right_49 (t := 176) (q := 52) rfl rfl e (fun e => ?_) (fun e => ?_)
    · refine hn_iload_n hF dX8_right_176 (q := 177) rfl 3 rfl ?_
      exact hn_iretM hF hQ dX8_right_177 e
    · refine hn_aload_n hF dX8_right_52 (q := 53) rfl 0 rfl ?_
      refine hn_get hF fl_X8_40 o72 rfl rfl dX8_right_53 (q := 56) rfl ?_
      refine hn_aload_n hF dX8_right_56 (q := 57) rfl 0 rfl ?_
      refine hn_get hF fl_X8_34 o72 rfl rfl dX8_right_57 (q := 60) rfl ?_
      refine hn_bipush hF dX8_right_60 (q := 62) rfl kb_6 ?_
      refine hn_iload hF dX8_right_62 (q := 64) rfl 4 rfl ?_
      refine hn_imul hF dX8_right_64 (q := 65) rfl ?_
      refine hn_iconst hF dX8_right_65 (q := 66) rfl ki_1 ?_
      refine hn_iadd hF dX8_right_66 (q := 67) rfl ?_
      refine hn_ald hF a81 dX8_right_67 (q := 68) rfl e (fun v2 e => ?_)
      refine hn_ald hF a83 dX8_right_68 (q := 69) rfl e (fun v3 e => ?_)
      refine hn_istore hF dX8_right_69 (q := 71) rfl (by decide) (L' := [(5, .int v3), (0, .ref (hn_base B + 72)), (1, .int l1), (2, .int l2), (3, .int l3), (4, .int l4)]) rfl ?_
      refine hn_aload_n hF dX8_right_71 (q := 72) rfl 1 rfl ?_
      refine hn_get hF fl_X8_68 o72 rfl rfl dX8_right_72 (q := 75) rfl ?_
      refine hn_iload hF dX8_right_75 (q := 77) rfl 5 rfl ?_
      refine hn_ald hF a91 dX8_right_77 (q := 78) rfl e (fun v4 e => ?_)
      refine hn_if_ge hF dX8_right_78 (t := 170) (q := 81) rfl rfl e (fun e => ?_) (fun e => ?_)
      · refine hn_sub [1, 2, 3, 4, 5] (L' := [(0, .ref (hn_base B + 72)), (1, .int l1), (2, .int l2), (3, .int l3), (4, .int l4)]) rfl ?_
        exact gX8_right_170 hF hQ hV ih e
      · refine hn_aload_n hF dX8_right_81 (q := 82) rfl 1 rfl ?_
        refine hn_iload hF dX8_right_82 (q := 84) rfl 5 rfl ?_
        refine hn_callVi (rest := []) hF ms_X8_writerOf mv_X8_writerOf lk_X8_160 o72 rfl (by decide) [.int l4] rfl (Nat.le_of_ble_eq_true rfl) dX8_right_84 (q := 87) rfl rfl e (fun v hv => cX8_writerOf_ hV hv) (fun v5 e => ?_)
        refine hn_iload_n hF dX8_right_87 (q := 88) rfl 2 rfl ?_
        refine hn_icmp_ne hF dX8_right_88 (t := 170) (q := 91) rfl rfl e (fun e => ?_) (fun e => ?_)
        · refine hn_sub [1, 2, 3, 4, 5] (L' := [(0, .ref (hn_base B + 72)), (1, .int l1), (2, .int l2), (3, .int l3), (4, .int l4)]) rfl ?_
          exact gX8_right_170 hF hQ hV ih e
        · refine hn_aload_n hF dX8_right_91 (q := 92) rfl 1 rfl ?_
          refine hn_get hF fl_X8_34 o72 rfl rfl dX8_right_92 (q := 95) rfl ?_
          refine hn_bipush hF dX8_right_95 (q := 97) rfl kb_6 ?_
          refine hn_iload hF dX8_right_97 (q := 99) rfl 5 rfl ?_
          refine hn_imul hF dX8_right_99 (q := 100) rfl ?_
          refine hn_iconst hF dX8_right_100 (q := 101) rfl ki_5 ?_
          refine hn_iadd hF dX8_right_101 (q := 102) rfl ?_
          refine hn_ald hF a81 dX8_right_102 (q := 103) rfl e (fun v6 e => ?_)
          refine hn_if_ne hF dX8_right_103 (t := 170) (q := 106) rfl rfl e (fun e => ?_) (fun e => ?_)
          · refine hn_sub [1, 2, 3, 4, 5] (L' := [(0, .ref (hn_base B + 72)), (1, .int l1), (2, .int l2), (3, .int l3), (4, .int l4)]) rfl ?_
            exact gX8_right_170 hF hQ hV ih e
          · refine hn_iload hF dX8_right_106 (q := 108) rfl 0 rfl ?_
            refine hn_if_lt hF dX8_right_108 (t := 170) (q := 111) rfl rfl e (fun e => ?_) (fun e => ?_)
            · refine hn_sub [1, 2, 3, 4, 5] (L' := [(0, .ref (hn_base B + 72)), (1, .int l1), (2, .int l2), (3, .int l3), (4, .int l4)]) rfl ?_
              exact gX8_right_170 hF hQ hV ih e
            · refine hn_aload_n hF dX8_right_111 (q := 112) rfl 1 rfl ?_
              refine hn_get hF fl_X8_34 o72 rfl rfl dX8_right_112 (q := 115) rfl ?_
              refine hn_bipush hF dX8_right_115 (q := 117) rfl kb_6 ?_
              refine hn_iload hF dX8_right_117 (q := 119) rfl 5 rfl ?_
              refine hn_imul hF dX8_right_119 (q := 120) rfl ?_
              refine hn_iconst hF dX8_right_120 (q := 121) rfl ki_2 ?_
              refine hn_iadd hF dX8_right_121 (q := 122) rfl ?_
              refine hn_ald hF a81 dX8_right_122 (q := 123) rfl e (fun v7 e => ?_)
              refine hn_iload hF dX8_right_123 (q := 125) rfl 0 rfl ?_
              refine hn_isub hF dX8_right_125 (q := 126) rfl ?_
              refine hn_istore hF dX8_right_126 (q := 128) rfl (by decide) (L' := [(6, .int (v7 - v3)), (5, .int v3), (0, .ref (hn_base B + 72)), (1, .int l1), (2, .int l2), (3, .int l3), (4, .int l4)]) rfl ?_
              refine hn_iload_n hF dX8_right_128 (q := 129) rfl 5 rfl ?_
              refine hn_iload_n hF dX8_right_129 (q := 130) rfl 4 rfl ?_
              refine hn_if_ne hF dX8_right_130 (t := 146) (q := 133) rfl rfl e (fun e => ?_) (fun e => ?_)
              · refine hn_iload_n hF dX8_right_146 (q := 147) rfl 4 rfl ?_
                refine hn_iconst hF dX8_right_147 (q := 148) rfl ki_1 ?_
                refine hn_icmp_ne hF dX8_right_148 (t := 155) (q := 151) rfl rfl e (fun e => ?_) (fun e => ?_)
                · refine hn_iload hF dX8_right_155 (q := 157) rfl 0 rfl ?_
                  refine hn_if_ge hF dX8_right_157 (t := 166) (q := 160) rfl rfl e (fun e => ?_) (fun e => ?_)
                  · refine hn_iload hF dX8_right_166 (q := 168) rfl 0 rfl ?_
                    refine hn_sub [2, 3, 4, 6] (L' := [(0, .ref (hn_base B + 72)), (1, .int l1), (2, .int l2), (4, .int l4)]) rfl ?_
                    exact gX8_right_168 hF hQ hV ih e
                  · refine hn_iload hF dX8_right_160 (q := 162) rfl 0 rfl ?_
                    refine hn_ineg hF dX8_right_162 (q := 163) rfl ?_
                    refine hn_goto hF dX8_right_163 (q := 168) rfl ?_
                    refine hn_sub [2, 3, 4, 6] (L' := [(0, .ref (hn_base B + 72)), (1, .int l1), (2, .int l2), (4, .int l4)]) rfl ?_
                    exact gX8_right_168 hF hQ hV ih e
                · refine hn_iconst hF dX8_right_151 (q := 152) rfl ki_1 ?_
                  refine hn_goto hF dX8_right_152 (q := 168) rfl ?_
                  refine hn_sub [2, 3, 4, 6] (L' := [(0, .ref (hn_base B + 72)), (1, .int l1), (2, .int l2), (4, .int l4)]) rfl ?_
                  exact gX8_right_168 hF hQ hV ih e
              · refine hn_iload hF dX8_right_133 (q := 135) rfl 0 rfl ?_
                refine hn_if_ne hF dX8_right_135 (t := 142) (q := 138) rfl rfl e (fun e => ?_) (fun e => ?_)
                · refine hn_iconst hF dX8_right_142 (q := 143) rfl ki_0 ?_
                  refine hn_goto hF dX8_right_143 (q := 168) rfl ?_
                  refine hn_sub [2, 3, 4, 6] (L' := [(0, .ref (hn_base B + 72)), (1, .int l1), (2, .int l2), (4, .int l4)]) rfl ?_
                  exact gX8_right_168 hF hQ hV ih e
                · refine hn_iconst hF dX8_right_138 (q := 139) rfl ki_1 ?_
                  refine hn_goto hF dX8_right_139 (q := 168) rfl ?_
                  refine hn_sub [2, 3, 4, 6] (L' := [(0, .ref (hn_base B + 72)), (1, .int l1), (2, .int l2), (4, .int l4)]) rfl ?_
                  exact gX8_right_168 hF hQ hV ih e
set_option maxHeartbeats 1000000 in
theorem gX8_right {Z : hn_Z} {B : hn_B} {F : Nat} {R : Int32 × hn_M} (hF : hn_F Z B (0, 0) cX8_right 7 RX8 (some .int) 4) (hQ : hn_goal Z B (some (.int R.1), R.2)) (hV : hn_V B hn_nA) {l1 : Int32} {l2 : Int32} {μ : hn_M} (e : fX8_right F l1 l2 μ = some R) : hn_G Z B (0, 0) 7 0 [(0, .ref (hn_base B + 72)), (1, .int l1), (2, .int l2)] [] μ := by
  unfold fX8_right at e
  have o72 : hn_isO B 72 8 hn_k72 := hV 72 (by decide)
  refine hn_iload_n hF dX8_right_0 (q := 1) rfl 1 rfl ?_
  refine hn_i2l hF dX8_right_1 (q := 2) rfl rfl ?_
  refine hn_lconst hF dX8_right_2 (q := 3) rfl kl_0 ?_
  refine hn_ldc2 hF kd_X8_93 dX8_right_3 (q := 6) rfl ?_
  refine hn_callSi (rest := []) hF ms_X8_in mt_X8_in lk_X8_79 (by decide) [.long (l1.toInt64), .long 0, .long 7] rfl (Nat.le_of_ble_eq_true rfl) dX8_right_6 (q := 9) rfl rfl e (fun v hv => cX8_in_ hv) (fun v8 e => ?_)
  refine hn_if_eq hF dX8_right_9 (t := 24) (q := 12) rfl rfl e (fun e => ?_) (fun e => ?_)
  · refine hn_iconst hF dX8_right_24 (q := 25) rfl ki_m1 ?_
    exact hn_iretM hF hQ dX8_right_25 e
  · refine hn_iload_n hF dX8_right_12 (q := 13) rfl 2 rfl ?_
    refine hn_i2l hF dX8_right_13 (q := 14) rfl rfl ?_
    refine hn_lconst hF dX8_right_14 (q := 15) rfl kl_0 ?_
    refine hn_ldc2 hF kd_X8_147 dX8_right_15 (q := 18) rfl ?_
    refine hn_callSi (rest := []) hF ms_X8_in mt_X8_in lk_X8_79 (by decide) [.long (l2.toInt64), .long 0, .long 2] rfl (Nat.le_of_ble_eq_true rfl) dX8_right_18 (q := 21) rfl rfl e (fun v hv => cX8_in_ hv) (fun v9 e => ?_)
    refine hn_if_ne hF dX8_right_21 (t := 26) (q := 24) rfl rfl e (fun e => ?_) (fun e => ?_)
    · refine hn_aload_n hF dX8_right_26 (q := 27) rfl 0 rfl ?_
      refine hn_callVm (rest := []) hF ms_X8_layTree mv_X8_layTree lk_X8_144 o72 rfl (by decide) [] rfl (Nat.le_of_ble_eq_true rfl) dX8_right_27 (q := 30) rfl rfl e (fun v hv => cX8_layTree_ hV hv) (fun w10 e => ?_)
      refine hn_if_ne hF dX8_right_30 (t := 36) (q := 33) rfl rfl e (fun e => ?_) (fun e => ?_)
      · refine hn_iconst hF dX8_right_36 (q := 37) rfl ki_0 ?_
        refine hn_istore_n hF dX8_right_37 (q := 38) rfl (i := 3) rfl (by decide) (L' := [(3, .int 0), (0, .ref (hn_base B + 72)), (1, .int l1), (2, .int l2)]) rfl ?_
        refine hn_iconst hF dX8_right_38 (q := 39) rfl ki_0 ?_
        refine hn_istore hF dX8_right_39 (q := 41) rfl (by decide) (L' := [(4, .int 0), (3, .int 0), (0, .ref (hn_base B + 72)), (1, .int l1), (2, .int l2)]) rfl ?_
        refine hn_sub [2, 3, 4, 1, 0] (L' := [(0, .ref (hn_base B + 72)), (1, .int l1), (2, .int l2), (3, .int 0), (4, .int 0)]) rfl ?_
        exact gX8_right_41 hF hQ hV F l1 l2 0 0 w10.2 e
      · refine hn_bipush hF dX8_right_33 (q := 35) rfl kb_m2 ?_
        exact hn_iretM hF hQ dX8_right_35 e
    · refine hn_iconst hF dX8_right_24 (q := 25) rfl ki_m1 ?_
      exact hn_iretM hF hQ dX8_right_25 e
theorem cX8_right_ {B : hn_B} {F : Nat} {μ : hn_M} {R : Int32 × hn_M} {l1 : Int32} {l2 : Int32} (hV : hn_V B hn_nA) (e : fX8_right F l1 l2 μ = some R) : hn_C yX8_right cX8_right 7 (some .int) 4 B [.ref (hn_base B + 72), .int l1, .int l2] μ (some (.int R.1), R.2) :=
  hn_C.of RX8 (by decide) rfl (Nat.le_of_ble_eq_true rfl) (fun _ hF hQ => gX8_right hF hQ hV e)
/-! HandNewsModel.beyond(III)J -/
def fX8_beyond_114 (F : Nat) (k47 : Int32 → Int32 → Int64 → Int32 → Option Int64) (l1 : Int32) (l3 : Int32) (l4 : Int64) (l6 : Int32) (l7 : Int64) : Option Int64 := k47 l1 l3 (l4 + l7) (l6 + 1)
def fX8_beyond_93 (F : Nat) (k47 : Int32 → Int32 → Int64 → Int32 → Option Int64) : Nat → Int32 → Int32 → Int64 → Int32 → Int64 → Int32 → Option Int64
  | 0, _, _, _, _, _, _ => none
  | n + 1, l1, l3, l4, l6, l7, l9 => if l1 ≤ l9 then fX8_beyond_114 F k47 l1 l3 l4 l6 l7 else fX8_beyond_93 F k47 n l1 l3 l4 l6 (l7 * ((l3 - 1).toInt64)) (l9 + 1)
def fX8_beyond_89 (F : Nat) (k47 : Int32 → Int32 → Int64 → Int32 → Option Int64) (l1 : Int32) (l3 : Int32) (l4 : Int64) (l6 : Int32) (l7 : Int64) : Option Int64 := fX8_beyond_93 F k47 F l1 l3 l4 l6 l7 l6
def fX8_beyond_59 (F : Nat) (k47 : Int32 → Int32 → Int64 → Int32 → Option Int64) : Nat → Int32 → Int32 → Int64 → Int32 → Int64 → Int32 → Option Int64
  | 0, _, _, _, _, _, _ => none
  | n + 1, l1, l3, l4, l6, l7, l9 => if l6 < l9 then fX8_beyond_89 F k47 l1 l3 l4 l6 l7 else if l9.toInt64 = 0 then none else fX8_beyond_59 F k47 n l1 l3 l4 l6 ((l7 * (((l1 - l6) + l9).toInt64)) / l9.toInt64) (l9 + 1)
def fX8_beyond_47 (F : Nat) : Nat → Int32 → Int32 → Int64 → Int32 → Option Int64
  | 0, _, _, _, _ => none
  | n + 1, l1, l3, l4, l6 => if l1 < l6 then some l4 else fX8_beyond_59 F (fX8_beyond_47 F n) F l1 l3 l4 l6 1 1
def fX8_beyond (F : Nat) (l1 : Int32) (l2 : Int32) (l3 : Int32) : Option Int64 := (fX8_in l1.toInt64 1 15).bind fun v1 => if v1 = 0 then some (-1) else (fX8_in l2.toInt64 0 l1.toInt64).bind fun v2 => if v2 = 0 then some (-1) else (fX8_in l3.toInt64 2 10).bind fun v3 => if v3 = 0 then some (-1) else fX8_beyond_47 F F l1 l3 0 l2
set_option maxHeartbeats 1000000 in
theorem gX8_beyond_114 {Z : hn_Z} {B : hn_B} {F : Nat} {μ : hn_M} {R : Int64} (hF : hn_F Z B (0, 0) cX8_beyond 10 RX8 (some .long) 1) (hQ : hn_goal Z B (some (.long R), μ)) {k47 : Int32 → Int32 → Int64 → Int32 → Option Int64} (H47 : ∀ (l1 : Int32) (l3 : Int32) (l4 : Int64) (l6 : Int32), k47 l1 l3 l4 l6 = some R → hn_G Z B (0, 0) 10 47 [(1, .int l1), (3, .int l3), (4, .long l4), (6, .int l6)] [] μ) {l1 : Int32} {l3 : Int32} {l4 : Int64} {l6 : Int32} {l7 : Int64} (e : fX8_beyond_114 F k47 l1 l3 l4 l6 l7 = some R) : hn_G Z B (0, 0) 10 114 [(1, .int l1), (3, .int l3), (4, .long l4), (6, .int l6), (7, .long l7)] [] μ := by
  unfold fX8_beyond_114 at e
  refine hn_lload hF dX8_beyond_114 (q := 116) rfl 2 rfl ?_
  refine hn_lload hF dX8_beyond_116 (q := 118) rfl 4 rfl ?_
  refine hn_ladd hF dX8_beyond_118 (q := 119) rfl ?_
  refine hn_lstore hF dX8_beyond_119 (q := 121) rfl (by decide) (L' := [(4, .long (l4 + l7)), (1, .int l1), (3, .int l3), (6, .int l6), (7, .long l7)]) rfl ?_
  refine hn_iinc (p := 3) hF dX8_beyond_121 (q := 124) rfl rfl (kn_1 _) (by decide) (L' := [(6, .int (l6 + 1)), (4, .long (l4 + l7)), (1, .int l1), (3, .int l3), (7, .long l7)]) rfl ?_
  refine hn_goto hF dX8_beyond_124 (q := 47) rfl ?_
  refine hn_sub [2, 3, 1, 0] (L' := [(1, .int l1), (3, .int l3), (4, .long (l4 + l7)), (6, .int (l6 + 1))]) rfl ?_
  exact H47 l1 l3 (l4 + l7) (l6 + 1) e
set_option maxHeartbeats 1000000 in
theorem gX8_beyond_93 {Z : hn_Z} {B : hn_B} {F : Nat} {μ : hn_M} {R : Int64} (hF : hn_F Z B (0, 0) cX8_beyond 10 RX8 (some .long) 1) (hQ : hn_goal Z B (some (.long R), μ)) {k47 : Int32 → Int32 → Int64 → Int32 → Option Int64} (H47 : ∀ (l1 : Int32) (l3 : Int32) (l4 : Int64) (l6 : Int32), k47 l1 l3 l4 l6 = some R → hn_G Z B (0, 0) 10 47 [(1, .int l1), (3, .int l3), (4, .long l4), (6, .int l6)] [] μ) : ∀ (n : Nat) (l1 : Int32) (l3 : Int32) (l4 : Int64) (l6 : Int32) (l7 : Int64) (l9 : Int32), fX8_beyond_93 F k47 n l1 l3 l4 l6 l7 l9 = some R → hn_G Z B (0, 0) 10 93 [(1, .int l1), (3, .int l3), (4, .long l4), (6, .int l6), (7, .long l7), (9, .int l9)] [] μ := by
  intro n
  induction n with
  | zero => intro l1 l3 l4 l6 l7 l9 e; rw [fX8_beyond_93] at e; cases e
  | succ n ih =>
    intro l1 l3 l4 l6 l7 l9 e
    rw [fX8_beyond_93] at e
    refine hn_iload hF dX8_beyond_93 (q := 95) rfl 5 rfl ?_
    refine hn_iload_n hF dX8_beyond_95 (q := 96) rfl 0 rfl ?_
    refine hn_icmp_ge hF dX8_beyond_96 (t := 114) (q := 99) rfl rfl e (fun e => ?_) (fun e => ?_)
    · refine hn_sub [0, 1, 2, 3, 4] (L' := [(1, .int l1), (3, .int l3), (4, .long l4), (6, .int l6), (7, .long l7)]) rfl ?_
      exact gX8_beyond_114 hF hQ H47 e
    · refine hn_lload hF dX8_beyond_99 (q := 101) rfl 4 rfl ?_
      refine hn_iload_n hF dX8_beyond_101 (q := 102) rfl 1 rfl ?_
      refine hn_iconst hF dX8_beyond_102 (q := 103) rfl ki_1 ?_
      refine hn_isub hF dX8_beyond_103 (q := 104) rfl ?_
      refine hn_i2l hF dX8_beyond_104 (q := 105) rfl rfl ?_
      refine hn_lmul hF dX8_beyond_105 (q := 106) rfl ?_
      refine hn_lstore hF dX8_beyond_106 (q := 108) rfl (by decide) (L' := [(7, .long (l7 * ((l3 - 1).toInt64))), (1, .int l1), (3, .int l3), (4, .long l4), (6, .int l6), (9, .int l9)]) rfl ?_
      refine hn_iinc (p := 5) hF dX8_beyond_108 (q := 111) rfl rfl (kn_1 _) (by decide) (L' := [(9, .int (l9 + 1)), (7, .long (l7 * ((l3 - 1).toInt64))), (1, .int l1), (3, .int l3), (4, .long l4), (6, .int l6)]) rfl ?_
      refine hn_goto hF dX8_beyond_111 (q := 93) rfl ?_
      refine hn_sub [2, 3, 4, 5, 1, 0] (L' := [(1, .int l1), (3, .int l3), (4, .long l4), (6, .int l6), (7, .long (l7 * ((l3 - 1).toInt64))), (9, .int (l9 + 1))]) rfl ?_
      exact ih l1 l3 l4 l6 (l7 * ((l3 - 1).toInt64)) (l9 + 1) e
set_option maxHeartbeats 1000000 in
theorem gX8_beyond_89 {Z : hn_Z} {B : hn_B} {F : Nat} {μ : hn_M} {R : Int64} (hF : hn_F Z B (0, 0) cX8_beyond 10 RX8 (some .long) 1) (hQ : hn_goal Z B (some (.long R), μ)) {k47 : Int32 → Int32 → Int64 → Int32 → Option Int64} (H47 : ∀ (l1 : Int32) (l3 : Int32) (l4 : Int64) (l6 : Int32), k47 l1 l3 l4 l6 = some R → hn_G Z B (0, 0) 10 47 [(1, .int l1), (3, .int l3), (4, .long l4), (6, .int l6)] [] μ) {l1 : Int32} {l3 : Int32} {l4 : Int64} {l6 : Int32} {l7 : Int64} (e : fX8_beyond_89 F k47 l1 l3 l4 l6 l7 = some R) : hn_G Z B (0, 0) 10 89 [(1, .int l1), (3, .int l3), (4, .long l4), (6, .int l6), (7, .long l7)] [] μ := by
  unfold fX8_beyond_89 at e
  refine hn_iload hF dX8_beyond_89 (q := 91) rfl 3 rfl ?_
  refine hn_istore hF dX8_beyond_91 (q := 93) rfl (by decide) (L' := [(9, .int l6), (1, .int l1), (3, .int l3), (4, .long l4), (6, .int l6), (7, .long l7)]) rfl ?_
  refine hn_sub [1, 2, 3, 4, 5, 0] (L' := [(1, .int l1), (3, .int l3), (4, .long l4), (6, .int l6), (7, .long l7), (9, .int l6)]) rfl ?_
  exact gX8_beyond_93 hF hQ H47 F l1 l3 l4 l6 l7 l6 e
set_option maxHeartbeats 1000000 in
theorem gX8_beyond_59 {Z : hn_Z} {B : hn_B} {F : Nat} {μ : hn_M} {R : Int64} (hF : hn_F Z B (0, 0) cX8_beyond 10 RX8 (some .long) 1) (hQ : hn_goal Z B (some (.long R), μ)) {k47 : Int32 → Int32 → Int64 → Int32 → Option Int64} (H47 : ∀ (l1 : Int32) (l3 : Int32) (l4 : Int64) (l6 : Int32), k47 l1 l3 l4 l6 = some R → hn_G Z B (0, 0) 10 47 [(1, .int l1), (3, .int l3), (4, .long l4), (6, .int l6)] [] μ) : ∀ (n : Nat) (l1 : Int32) (l3 : Int32) (l4 : Int64) (l6 : Int32) (l7 : Int64) (l9 : Int32), fX8_beyond_59 F k47 n l1 l3 l4 l6 l7 l9 = some R → hn_G Z B (0, 0) 10 59 [(1, .int l1), (3, .int l3), (4, .long l4), (6, .int l6), (7, .long l7), (9, .int l9)] [] μ := by
  intro n
  induction n with
  | zero => intro l1 l3 l4 l6 l7 l9 e; rw [fX8_beyond_59] at e; cases e
  | succ n ih =>
    intro l1 l3 l4 l6 l7 l9 e
    rw [fX8_beyond_59] at e
    refine hn_iload hF dX8_beyond_59 (q := 61) rfl 5 rfl ?_
    refine hn_iload hF dX8_beyond_61 (q := 63) rfl 3 rfl ?_
    refine hn_icmp_gt hF dX8_beyond_63 (t := 89) (q := 66) rfl rfl e (fun e => ?_) (fun e => ?_)
    · refine hn_sub [0, 1, 2, 3, 4] (L' := [(1, .int l1), (3, .int l3), (4, .long l4), (6, .int l6), (7, .long l7)]) rfl ?_
      exact gX8_beyond_89 hF hQ H47 e
    · refine hn_lload hF dX8_beyond_66 (q := 68) rfl 4 rfl ?_
      refine hn_iload_n hF dX8_beyond_68 (q := 69) rfl 0 rfl ?_
      refine hn_iload hF dX8_beyond_69 (q := 71) rfl 3 rfl ?_
      refine hn_isub hF dX8_beyond_71 (q := 72) rfl ?_
      refine hn_iload hF dX8_beyond_72 (q := 74) rfl 5 rfl ?_
      refine hn_iadd hF dX8_beyond_74 (q := 75) rfl ?_
      refine hn_i2l hF dX8_beyond_75 (q := 76) rfl rfl ?_
      refine hn_lmul hF dX8_beyond_76 (q := 77) rfl ?_
      refine hn_iload hF dX8_beyond_77 (q := 79) rfl 5 rfl ?_
      refine hn_i2l hF dX8_beyond_79 (q := 80) rfl rfl ?_
      refine hn_ldiv hF dX8_beyond_80 (q := 81) rfl e (fun e => ?_)
      refine hn_lstore hF dX8_beyond_81 (q := 83) rfl (by decide) (L' := [(7, .long ((l7 * (((l1 - l6) + l9).toInt64)) / l9.toInt64)), (1, .int l1), (3, .int l3), (4, .long l4), (6, .int l6), (9, .int l9)]) rfl ?_
      refine hn_iinc (p := 5) hF dX8_beyond_83 (q := 86) rfl rfl (kn_1 _) (by decide) (L' := [(9, .int (l9 + 1)), (7, .long ((l7 * (((l1 - l6) + l9).toInt64)) / l9.toInt64)), (1, .int l1), (3, .int l3), (4, .long l4), (6, .int l6)]) rfl ?_
      refine hn_goto hF dX8_beyond_86 (q := 59) rfl ?_
      refine hn_sub [2, 3, 4, 5, 1, 0] (L' := [(1, .int l1), (3, .int l3), (4, .long l4), (6, .int l6), (7, .long ((l7 * (((l1 - l6) + l9).toInt64)) / l9.toInt64)), (9, .int (l9 + 1))]) rfl ?_
      exact ih l1 l3 l4 l6 ((l7 * (((l1 - l6) + l9).toInt64)) / l9.toInt64) (l9 + 1) e
set_option maxHeartbeats 1000000 in
theorem gX8_beyond_47 {Z : hn_Z} {B : hn_B} {F : Nat} {μ : hn_M} {R : Int64} (hF : hn_F Z B (0, 0) cX8_beyond 10 RX8 (some .long) 1) (hQ : hn_goal Z B (some (.long R), μ)) : ∀ (n : Nat) (l1 : Int32) (l3 : Int32) (l4 : Int64) (l6 : Int32), fX8_beyond_47 F n l1 l3 l4 l6 = some R → hn_G Z B (0, 0) 10 47 [(1, .int l1), (3, .int l3), (4, .long l4), (6, .int l6)] [] μ := by
  intro n
  induction n with
  | zero => intro l1 l3 l4 l6 e; rw [fX8_beyond_47] at e; cases e
  | succ n ih =>
    intro l1 l3 l4 l6 e
    rw [fX8_beyond_47] at e
    refine hn_iload hF dX8_beyond_47 (q := 49) rfl 3 rfl ?_
    refine hn_iload_n hF dX8_beyond_49 (q := 50) rfl 0 rfl ?_
    refine hn_icmp_gt hF dX8_beyond_50 (t := 127) (q := 53) rfl rfl e (fun e => ?_) (fun e => ?_)
    · refine hn_lload hF dX8_beyond_127 (q := 129) rfl 2 rfl ?_
      exact hn_lretP hF hQ dX8_beyond_129 e
    · refine hn_lconst hF dX8_beyond_53 (q := 54) rfl kl_1 ?_
      refine hn_lstore hF dX8_beyond_54 (q := 56) rfl (by decide) (L' := [(7, .long 1), (1, .int l1), (3, .int l3), (4, .long l4), (6, .int l6)]) rfl ?_
      refine hn_iconst hF dX8_beyond_56 (q := 57) rfl ki_1 ?_
      refine hn_istore hF dX8_beyond_57 (q := 59) rfl (by decide) (L' := [(9, .int 1), (7, .long 1), (1, .int l1), (3, .int l3), (4, .long l4), (6, .int l6)]) rfl ?_
      refine hn_sub [2, 3, 4, 5, 1, 0] (L' := [(1, .int l1), (3, .int l3), (4, .long l4), (6, .int l6), (7, .long 1), (9, .int 1)]) rfl ?_
      exact gX8_beyond_59 hF hQ ih F l1 l3 l4 l6 1 1 e
set_option maxHeartbeats 1000000 in
theorem gX8_beyond {Z : hn_Z} {B : hn_B} {F : Nat} {μ : hn_M} {R : Int64} (hF : hn_F Z B (0, 0) cX8_beyond 10 RX8 (some .long) 1) (hQ : hn_goal Z B (some (.long R), μ)) {l1 : Int32} {l2 : Int32} {l3 : Int32} (e : fX8_beyond F l1 l2 l3 = some R) : hn_G Z B (0, 0) 10 0 [(0, .ref (hn_base B + 72)), (1, .int l1), (2, .int l2), (3, .int l3)] [] μ := by
  unfold fX8_beyond at e
  refine hn_iload_n hF dX8_beyond_0 (q := 1) rfl 1 rfl ?_
  refine hn_i2l hF dX8_beyond_1 (q := 2) rfl rfl ?_
  refine hn_lconst hF dX8_beyond_2 (q := 3) rfl kl_1 ?_
  refine hn_ldc2 hF kd_X8_217 dX8_beyond_3 (q := 6) rfl ?_
  refine hn_callSi (rest := []) hF ms_X8_in mt_X8_in lk_X8_79 (by decide) [.long (l1.toInt64), .long 1, .long 15] rfl (Nat.le_of_ble_eq_true rfl) dX8_beyond_6 (q := 9) rfl rfl e (fun v hv => cX8_in_ hv) (fun v1 e => ?_)
  refine hn_if_eq hF dX8_beyond_9 (t := 37) (q := 12) rfl rfl e (fun e => ?_) (fun e => ?_)
  · refine hn_ldc2 hF kd_X8_95 dX8_beyond_37 (q := 40) rfl ?_
    exact hn_lretP hF hQ dX8_beyond_40 e
  · refine hn_iload_n hF dX8_beyond_12 (q := 13) rfl 2 rfl ?_
    refine hn_i2l hF dX8_beyond_13 (q := 14) rfl rfl ?_
    refine hn_lconst hF dX8_beyond_14 (q := 15) rfl kl_0 ?_
    refine hn_iload_n hF dX8_beyond_15 (q := 16) rfl 1 rfl ?_
    refine hn_i2l hF dX8_beyond_16 (q := 17) rfl rfl ?_
    refine hn_callSi (rest := []) hF ms_X8_in mt_X8_in lk_X8_79 (by decide) [.long (l2.toInt64), .long 0, .long (l1.toInt64)] rfl (Nat.le_of_ble_eq_true rfl) dX8_beyond_17 (q := 20) rfl rfl e (fun v hv => cX8_in_ hv) (fun v2 e => ?_)
    refine hn_if_eq hF dX8_beyond_20 (t := 37) (q := 23) rfl rfl e (fun e => ?_) (fun e => ?_)
    · refine hn_ldc2 hF kd_X8_95 dX8_beyond_37 (q := 40) rfl ?_
      exact hn_lretP hF hQ dX8_beyond_40 e
    · refine hn_iload_n hF dX8_beyond_23 (q := 24) rfl 3 rfl ?_
      refine hn_i2l hF dX8_beyond_24 (q := 25) rfl rfl ?_
      refine hn_ldc2 hF kd_X8_147 dX8_beyond_25 (q := 28) rfl ?_
      refine hn_ldc2 hF kd_X8_219 dX8_beyond_28 (q := 31) rfl ?_
      refine hn_callSi (rest := []) hF ms_X8_in mt_X8_in lk_X8_79 (by decide) [.long (l3.toInt64), .long 2, .long 10] rfl (Nat.le_of_ble_eq_true rfl) dX8_beyond_31 (q := 34) rfl rfl e (fun v hv => cX8_in_ hv) (fun v3 e => ?_)
      refine hn_if_ne hF dX8_beyond_34 (t := 41) (q := 37) rfl rfl e (fun e => ?_) (fun e => ?_)
      · refine hn_lconst hF dX8_beyond_41 (q := 42) rfl kl_0 ?_
        refine hn_lstore hF dX8_beyond_42 (q := 44) rfl (by decide) (L' := [(4, .long 0), (0, .ref (hn_base B + 72)), (1, .int l1), (2, .int l2), (3, .int l3)]) rfl ?_
        refine hn_iload_n hF dX8_beyond_44 (q := 45) rfl 3 rfl ?_
        refine hn_istore hF dX8_beyond_45 (q := 47) rfl (by decide) (L' := [(6, .int l2), (4, .long 0), (0, .ref (hn_base B + 72)), (1, .int l1), (2, .int l2), (3, .int l3)]) rfl ?_
        refine hn_sub [3, 5, 1, 0] (L' := [(1, .int l1), (3, .int l3), (4, .long 0), (6, .int l2)]) rfl ?_
        exact gX8_beyond_47 hF hQ F l1 l3 0 l2 e
      · refine hn_ldc2 hF kd_X8_95 dX8_beyond_37 (q := 40) rfl ?_
        exact hn_lretP hF hQ dX8_beyond_40 e
theorem cX8_beyond_ {B : hn_B} {F : Nat} {μ : hn_M} {R : Int64} {l1 : Int32} {l2 : Int32} {l3 : Int32} (e : fX8_beyond F l1 l2 l3 = some R) : hn_C yX8_beyond cX8_beyond 10 (some .long) 1 B [.ref (hn_base B + 72), .int l1, .int l2, .int l3] μ (some (.long R), μ) :=
  hn_C.of RX8 (by decide) rfl (Nat.le_of_ble_eq_true rfl) (fun _ hF hQ => gX8_beyond hF hQ e)
/-! HandNewsModel.knownIn(II)I -/
def fX8_knownIn (μ : hn_M) (l1 : Int32) (l2 : Int32) : Option Int32 := hn_rd μ 82 60 (2 * l1) fun v1 => hn_rd μ 75 36 ((6 * v1) + l2) fun v2 => if 0 ≤ v2 then hn_rd μ 82 60 ((2 * l1) + 1) fun v3 => some (v3 + v2) else some (-4)
set_option maxHeartbeats 1000000 in
theorem gX8_knownIn {Z : hn_Z} {B : hn_B} {μ : hn_M} {R : Int32} (hF : hn_F Z B (0, 0) cX8_knownIn 4 RX8 (some .int) 0) (hQ : hn_goal Z B (some (.int R), μ)) (hV : hn_V B hn_nA) {l1 : Int32} {l2 : Int32} (e : fX8_knownIn μ l1 l2 = some R) : hn_G Z B (0, 0) 4 0 [(0, .ref (hn_base B + 72)), (1, .int l1), (2, .int l2)] [] μ := by
  unfold fX8_knownIn at e
  have a75 : hn_isA B 75 false 36 := hV 75 (by decide)
  have a82 : hn_isA B 82 false 60 := hV 82 (by decide)
  have o72 : hn_isO B 72 8 hn_k72 := hV 72 (by decide)
  refine hn_aload_n hF dX8_knownIn_0 (q := 1) rfl 0 rfl ?_
  refine hn_get hF fl_X8_16 o72 rfl rfl dX8_knownIn_1 (q := 4) rfl ?_
  refine hn_bipush hF dX8_knownIn_4 (q := 6) rfl kb_6 ?_
  refine hn_aload_n hF dX8_knownIn_6 (q := 7) rfl 0 rfl ?_
  refine hn_get hF fl_X8_37 o72 rfl rfl dX8_knownIn_7 (q := 10) rfl ?_
  refine hn_iconst hF dX8_knownIn_10 (q := 11) rfl ki_2 ?_
  refine hn_iload_n hF dX8_knownIn_11 (q := 12) rfl 1 rfl ?_
  refine hn_imul hF dX8_knownIn_12 (q := 13) rfl ?_
  refine hn_ald hF a82 dX8_knownIn_13 (q := 14) rfl e (fun v1 e => ?_)
  refine hn_imul hF dX8_knownIn_14 (q := 15) rfl ?_
  refine hn_iload_n hF dX8_knownIn_15 (q := 16) rfl 2 rfl ?_
  refine hn_iadd hF dX8_knownIn_16 (q := 17) rfl ?_
  refine hn_ald hF a75 dX8_knownIn_17 (q := 18) rfl e (fun v2 e => ?_)
  refine hn_istore_n hF dX8_knownIn_18 (q := 19) rfl (i := 3) rfl (by decide) (L' := [(3, .int v2), (0, .ref (hn_base B + 72)), (1, .int l1), (2, .int l2)]) rfl ?_
  refine hn_iload_n hF dX8_knownIn_19 (q := 20) rfl 0 rfl ?_
  refine hn_if_ge hF dX8_knownIn_20 (t := 28) (q := 23) rfl rfl e (fun e => ?_) (fun e => ?_)
  · refine hn_aload_n hF dX8_knownIn_28 (q := 29) rfl 1 rfl ?_
    refine hn_get hF fl_X8_37 o72 rfl rfl dX8_knownIn_29 (q := 32) rfl ?_
    refine hn_iconst hF dX8_knownIn_32 (q := 33) rfl ki_2 ?_
    refine hn_iload_n hF dX8_knownIn_33 (q := 34) rfl 2 rfl ?_
    refine hn_imul hF dX8_knownIn_34 (q := 35) rfl ?_
    refine hn_iconst hF dX8_knownIn_35 (q := 36) rfl ki_1 ?_
    refine hn_iadd hF dX8_knownIn_36 (q := 37) rfl ?_
    refine hn_ald hF a82 dX8_knownIn_37 (q := 38) rfl e (fun v3 e => ?_)
    refine hn_iload_n hF dX8_knownIn_38 (q := 39) rfl 0 rfl ?_
    refine hn_iadd hF dX8_knownIn_39 (q := 40) rfl ?_
    exact hn_iretP hF hQ dX8_knownIn_40 e
  · refine hn_bipush hF dX8_knownIn_23 (q := 25) rfl kb_m4 ?_
    refine hn_goto hF dX8_knownIn_25 (q := 40) rfl ?_
    exact hn_iretP hF hQ dX8_knownIn_40 e
theorem cX8_knownIn_ {B : hn_B} {μ : hn_M} {R : Int32} {l1 : Int32} {l2 : Int32} (hV : hn_V B hn_nA) (e : fX8_knownIn μ l1 l2 = some R) : hn_C yX8_knownIn cX8_knownIn 4 (some .int) 0 B [.ref (hn_base B + 72), .int l1, .int l2] μ (some (.int R), μ) :=
  hn_C.of RX8 (by decide) rfl (Nat.le_of_ble_eq_true rfl) (fun _ hF hQ => gX8_knownIn hF hQ hV e)
/-! HandNewsModel.known(III)I -/
def fX8_known_115 (F : Nat) (μ : hn_M) (k67 : Int32 → Int32 → Int32 → Int32 → Option Int32) (l1 : Int32) (l4 : Int32) (l6 : Int32) (s0 : Int32) : Option Int32 := k67 l1 l4 s0 (l6 + 1)
def fX8_known_105 (F : Nat) (μ : hn_M) (k67 : Int32 → Int32 → Int32 → Int32 → Option Int32) (l1 : Int32) (l4 : Int32) (l6 : Int32) (l7 : Int32) : Option Int32 := fX8_known_115 F μ k67 l1 l4 l6 (l7 - l4)
def fX8_known_113 (F : Nat) (μ : hn_M) (k67 : Int32 → Int32 → Int32 → Int32 → Option Int32) (l1 : Int32) (l4 : Int32) (l5 : Int32) (l6 : Int32) : Option Int32 := fX8_known_115 F μ k67 l1 l4 l6 l5
def fX8_known_67 (F : Nat) (μ : hn_M) : Nat → Int32 → Int32 → Int32 → Int32 → Option Int32
  | 0, _, _, _, _ => none
  | n + 1, l1, l4, l5, l6 => if 6 ≤ l6 then some l5 else (fX8_knownIn μ l1 l6).bind fun v1 => if v1 ≤ l4 then fX8_known_113 F μ (fX8_known_67 F μ n) l1 l4 l5 l6 else if l5 < 0 then fX8_known_105 F μ (fX8_known_67 F μ n) l1 l4 l6 v1 else if l5 ≤ v1 - l4 then fX8_known_113 F μ (fX8_known_67 F μ n) l1 l4 l5 l6 else fX8_known_105 F μ (fX8_known_67 F μ n) l1 l4 l6 v1
def fX8_known (F : Nat) (μ : hn_M) (l1 : Int32) (l2 : Int32) (l3 : Int32) : Option Int32 := (fX8_isThing l1).bind fun v2 => if v2 = 0 then some (-1) else (fX8_isTown l2).bind fun v3 => if v3 = 0 then some (-1) else (fX8_in l3.toInt64 0 1).bind fun v4 => if v4 = 0 then some (-1) else hn_rd μ 82 60 (2 * l1) fun v5 => if 0 ≤ v5 then (fX8_knownIn μ l1 l2).bind fun v6 => if l3 = 0 then some v6 else if 0 ≤ v6 then fX8_known_67 F μ F l1 v6 (-4) 0 else some v6 else some (-2)
set_option maxHeartbeats 1000000 in
theorem gX8_known_115 {Z : hn_Z} {B : hn_B} {F : Nat} {μ : hn_M} {R : Int32} (hF : hn_F Z B (0, 0) cX8_known 8 RX8 (some .int) 2) (hQ : hn_goal Z B (some (.int R), μ)) (hV : hn_V B hn_nA) {k67 : Int32 → Int32 → Int32 → Int32 → Option Int32} (H67 : ∀ (l1 : Int32) (l4 : Int32) (l5 : Int32) (l6 : Int32), k67 l1 l4 l5 l6 = some R → hn_G Z B (0, 0) 8 67 [(0, .ref (hn_base B + 72)), (1, .int l1), (4, .int l4), (5, .int l5), (6, .int l6)] [] μ) {l1 : Int32} {l4 : Int32} {l6 : Int32} {s0 : Int32} (e : fX8_known_115 F μ k67 l1 l4 l6 s0 = some R) : hn_G Z B (0, 0) 8 115 [(0, .ref (hn_base B + 72)), (1, .int l1), (4, .int l4), (6, .int l6)] [.int s0] μ := by
  unfold fX8_known_115 at e
  refine hn_istore hF dX8_known_115 (q := 117) rfl (by decide) (L' := [(5, .int s0), (0, .ref (hn_base B + 72)), (1, .int l1), (4, .int l4), (6, .int l6)]) rfl ?_
  refine hn_iinc (p := 4) hF dX8_known_117 (q := 120) rfl rfl (kn_1 _) (by decide) (L' := [(6, .int (l6 + 1)), (5, .int s0), (0, .ref (hn_base B + 72)), (1, .int l1), (4, .int l4)]) rfl ?_
  refine hn_goto hF dX8_known_120 (q := 67) rfl ?_
  refine hn_sub [2, 3, 4, 1, 0] (L' := [(0, .ref (hn_base B + 72)), (1, .int l1), (4, .int l4), (5, .int s0), (6, .int (l6 + 1))]) rfl ?_
  exact H67 l1 l4 s0 (l6 + 1) e
set_option maxHeartbeats 1000000 in
theorem gX8_known_105 {Z : hn_Z} {B : hn_B} {F : Nat} {μ : hn_M} {R : Int32} (hF : hn_F Z B (0, 0) cX8_known 8 RX8 (some .int) 2) (hQ : hn_goal Z B (some (.int R), μ)) (hV : hn_V B hn_nA) {k67 : Int32 → Int32 → Int32 → Int32 → Option Int32} (H67 : ∀ (l1 : Int32) (l4 : Int32) (l5 : Int32) (l6 : Int32), k67 l1 l4 l5 l6 = some R → hn_G Z B (0, 0) 8 67 [(0, .ref (hn_base B + 72)), (1, .int l1), (4, .int l4), (5, .int l5), (6, .int l6)] [] μ) {l1 : Int32} {l4 : Int32} {l6 : Int32} {l7 : Int32} (e : fX8_known_105 F μ k67 l1 l4 l6 l7 = some R) : hn_G Z B (0, 0) 8 105 [(0, .ref (hn_base B + 72)), (1, .int l1), (4, .int l4), (6, .int l6), (7, .int l7)] [] μ := by
  unfold fX8_known_105 at e
  refine hn_iload hF dX8_known_105 (q := 107) rfl 4 rfl ?_
  refine hn_iload hF dX8_known_107 (q := 109) rfl 2 rfl ?_
  refine hn_isub hF dX8_known_109 (q := 110) rfl ?_
  refine hn_goto hF dX8_known_110 (q := 115) rfl ?_
  refine hn_sub [0, 1, 2, 3] (L' := [(0, .ref (hn_base B + 72)), (1, .int l1), (4, .int l4), (6, .int l6)]) rfl ?_
  exact gX8_known_115 hF hQ hV H67 e
set_option maxHeartbeats 1000000 in
theorem gX8_known_113 {Z : hn_Z} {B : hn_B} {F : Nat} {μ : hn_M} {R : Int32} (hF : hn_F Z B (0, 0) cX8_known 8 RX8 (some .int) 2) (hQ : hn_goal Z B (some (.int R), μ)) (hV : hn_V B hn_nA) {k67 : Int32 → Int32 → Int32 → Int32 → Option Int32} (H67 : ∀ (l1 : Int32) (l4 : Int32) (l5 : Int32) (l6 : Int32), k67 l1 l4 l5 l6 = some R → hn_G Z B (0, 0) 8 67 [(0, .ref (hn_base B + 72)), (1, .int l1), (4, .int l4), (5, .int l5), (6, .int l6)] [] μ) {l1 : Int32} {l4 : Int32} {l5 : Int32} {l6 : Int32} (e : fX8_known_113 F μ k67 l1 l4 l5 l6 = some R) : hn_G Z B (0, 0) 8 113 [(0, .ref (hn_base B + 72)), (1, .int l1), (4, .int l4), (5, .int l5), (6, .int l6)] [] μ := by
  unfold fX8_known_113 at e
  refine hn_iload hF dX8_known_113 (q := 115) rfl 3 rfl ?_
  refine hn_sub [0, 1, 2, 4] (L' := [(0, .ref (hn_base B + 72)), (1, .int l1), (4, .int l4), (6, .int l6)]) rfl ?_
  exact gX8_known_115 hF hQ hV H67 e
set_option maxHeartbeats 1000000 in
theorem gX8_known_67 {Z : hn_Z} {B : hn_B} {F : Nat} {μ : hn_M} {R : Int32} (hF : hn_F Z B (0, 0) cX8_known 8 RX8 (some .int) 2) (hQ : hn_goal Z B (some (.int R), μ)) (hV : hn_V B hn_nA) : ∀ (n : Nat) (l1 : Int32) (l4 : Int32) (l5 : Int32) (l6 : Int32), fX8_known_67 F μ n l1 l4 l5 l6 = some R → hn_G Z B (0, 0) 8 67 [(0, .ref (hn_base B + 72)), (1, .int l1), (4, .int l4), (5, .int l5), (6, .int l6)] [] μ := by
  have o72 : hn_isO B 72 8 hn_k72 := hV 72 (by decide)
  intro n
  induction n with
  | zero => intro l1 l4 l5 l6 e; rw [fX8_known_67] at e; cases e
  | succ n ih =>
    intro l1 l4 l5 l6 e
    rw [fX8_known_67] at e
    refine hn_iload hF dX8_known_67 (q := 69) rfl 4 rfl ?_
    refine hn_bipush hF dX8_known_69 (q := 71) rfl kb_6 ?_
    refine hn_icmp_ge hF dX8_known_71 (t := 123) (q := 74) rfl rfl e (fun e => ?_) (fun e => ?_)
    · refine hn_iload hF dX8_known_123 (q := 125) rfl 3 rfl ?_
      exact hn_iretP hF hQ dX8_known_125 e
    · refine hn_aload_n hF dX8_known_74 (q := 75) rfl 0 rfl ?_
      refine hn_iload_n hF dX8_known_75 (q := 76) rfl 1 rfl ?_
      refine hn_iload hF dX8_known_76 (q := 78) rfl 4 rfl ?_
      refine hn_callVi (rest := []) hF ms_X8_knownIn mv_X8_knownIn lk_X8_221 o72 rfl (by decide) [.int l1, .int l6] rfl (Nat.le_of_ble_eq_true rfl) dX8_known_78 (q := 81) rfl rfl e (fun v hv => cX8_knownIn_ hV hv) (fun v1 e => ?_)
      refine hn_istore hF dX8_known_81 (q := 83) rfl (by decide) (L' := [(7, .int v1), (0, .ref (hn_base B + 72)), (1, .int l1), (4, .int l4), (5, .int l5), (6, .int l6)]) rfl ?_
      refine hn_iload hF dX8_known_83 (q := 85) rfl 0 rfl ?_
      refine hn_iload hF dX8_known_85 (q := 87) rfl 3 rfl ?_
      refine hn_icmp_le hF dX8_known_87 (t := 113) (q := 90) rfl rfl e (fun e => ?_) (fun e => ?_)
      · refine hn_sub [1, 2, 3, 4, 5] (L' := [(0, .ref (hn_base B + 72)), (1, .int l1), (4, .int l4), (5, .int l5), (6, .int l6)]) rfl ?_
        exact gX8_known_113 hF hQ hV ih e
      · refine hn_iload hF dX8_known_90 (q := 92) rfl 4 rfl ?_
        refine hn_if_lt hF dX8_known_92 (t := 105) (q := 95) rfl rfl e (fun e => ?_) (fun e => ?_)
        · refine hn_sub [1, 2, 3, 5, 0] (L' := [(0, .ref (hn_base B + 72)), (1, .int l1), (4, .int l4), (6, .int l6), (7, .int v1)]) rfl ?_
          exact gX8_known_105 hF hQ hV ih e
        · refine hn_iload hF dX8_known_95 (q := 97) rfl 0 rfl ?_
          refine hn_iload hF dX8_known_97 (q := 99) rfl 3 rfl ?_
          refine hn_isub hF dX8_known_99 (q := 100) rfl ?_
          refine hn_iload hF dX8_known_100 (q := 102) rfl 4 rfl ?_
          refine hn_icmp_ge hF dX8_known_102 (t := 113) (q := 105) rfl rfl e (fun e => ?_) (fun e => ?_)
          · refine hn_sub [1, 2, 3, 4, 5] (L' := [(0, .ref (hn_base B + 72)), (1, .int l1), (4, .int l4), (5, .int l5), (6, .int l6)]) rfl ?_
            exact gX8_known_113 hF hQ hV ih e
          · refine hn_sub [1, 2, 3, 5, 0] (L' := [(0, .ref (hn_base B + 72)), (1, .int l1), (4, .int l4), (6, .int l6), (7, .int v1)]) rfl ?_
            exact gX8_known_105 hF hQ hV ih e
set_option maxHeartbeats 1000000 in
theorem gX8_known {Z : hn_Z} {B : hn_B} {F : Nat} {μ : hn_M} {R : Int32} (hF : hn_F Z B (0, 0) cX8_known 8 RX8 (some .int) 2) (hQ : hn_goal Z B (some (.int R), μ)) (hV : hn_V B hn_nA) {l1 : Int32} {l2 : Int32} {l3 : Int32} (e : fX8_known F μ l1 l2 l3 = some R) : hn_G Z B (0, 0) 8 0 [(0, .ref (hn_base B + 72)), (1, .int l1), (2, .int l2), (3, .int l3)] [] μ := by
  unfold fX8_known at e
  have a82 : hn_isA B 82 false 60 := hV 82 (by decide)
  have o72 : hn_isO B 72 8 hn_k72 := hV 72 (by decide)
  refine hn_iload_n hF dX8_known_0 (q := 1) rfl 1 rfl ?_
  refine hn_callSi (rest := []) hF ms_X8_isThing mt_X8_isThing lk_X8_104 (by decide) [.int l1] rfl (Nat.le_of_ble_eq_true rfl) dX8_known_1 (q := 4) rfl rfl e (fun v hv => cX8_isThing_ hv) (fun v2 e => ?_)
  refine hn_if_eq hF dX8_known_4 (t := 24) (q := 7) rfl rfl e (fun e => ?_) (fun e => ?_)
  · refine hn_iconst hF dX8_known_24 (q := 25) rfl ki_m1 ?_
    exact hn_iretP hF hQ dX8_known_25 e
  · refine hn_iload_n hF dX8_known_7 (q := 8) rfl 2 rfl ?_
    refine hn_callSi (rest := []) hF ms_X8_isTown mt_X8_isTown lk_X8_87 (by decide) [.int l2] rfl (Nat.le_of_ble_eq_true rfl) dX8_known_8 (q := 11) rfl rfl e (fun v hv => cX8_isTown_ hv) (fun v3 e => ?_)
    refine hn_if_eq hF dX8_known_11 (t := 24) (q := 14) rfl rfl e (fun e => ?_) (fun e => ?_)
    · refine hn_iconst hF dX8_known_24 (q := 25) rfl ki_m1 ?_
      exact hn_iretP hF hQ dX8_known_25 e
    · refine hn_iload_n hF dX8_known_14 (q := 15) rfl 3 rfl ?_
      refine hn_i2l hF dX8_known_15 (q := 16) rfl rfl ?_
      refine hn_lconst hF dX8_known_16 (q := 17) rfl kl_0 ?_
      refine hn_lconst hF dX8_known_17 (q := 18) rfl kl_1 ?_
      refine hn_callSi (rest := []) hF ms_X8_in mt_X8_in lk_X8_79 (by decide) [.long (l3.toInt64), .long 0, .long 1] rfl (Nat.le_of_ble_eq_true rfl) dX8_known_18 (q := 21) rfl rfl e (fun v hv => cX8_in_ hv) (fun v4 e => ?_)
      refine hn_if_ne hF dX8_known_21 (t := 26) (q := 24) rfl rfl e (fun e => ?_) (fun e => ?_)
      · refine hn_aload_n hF dX8_known_26 (q := 27) rfl 0 rfl ?_
        refine hn_get hF fl_X8_37 o72 rfl rfl dX8_known_27 (q := 30) rfl ?_
        refine hn_iconst hF dX8_known_30 (q := 31) rfl ki_2 ?_
        refine hn_iload_n hF dX8_known_31 (q := 32) rfl 1 rfl ?_
        refine hn_imul hF dX8_known_32 (q := 33) rfl ?_
        refine hn_ald hF a82 dX8_known_33 (q := 34) rfl e (fun v5 e => ?_)
        refine hn_if_ge hF dX8_known_34 (t := 40) (q := 37) rfl rfl e (fun e => ?_) (fun e => ?_)
        · refine hn_aload_n hF dX8_known_40 (q := 41) rfl 0 rfl ?_
          refine hn_iload_n hF dX8_known_41 (q := 42) rfl 1 rfl ?_
          refine hn_iload_n hF dX8_known_42 (q := 43) rfl 2 rfl ?_
          refine hn_callVi (rest := []) hF ms_X8_knownIn mv_X8_knownIn lk_X8_221 o72 rfl (by decide) [.int l1, .int l2] rfl (Nat.le_of_ble_eq_true rfl) dX8_known_43 (q := 46) rfl rfl e (fun v hv => cX8_knownIn_ hV hv) (fun v6 e => ?_)
          refine hn_istore hF dX8_known_46 (q := 48) rfl (by decide) (L' := [(4, .int v6), (0, .ref (hn_base B + 72)), (1, .int l1), (2, .int l2), (3, .int l3)]) rfl ?_
          refine hn_iload_n hF dX8_known_48 (q := 49) rfl 4 rfl ?_
          refine hn_if_eq hF dX8_known_49 (t := 57) (q := 52) rfl rfl e (fun e => ?_) (fun e => ?_)
          · refine hn_iload hF dX8_known_57 (q := 59) rfl 0 rfl ?_
            exact hn_iretP hF hQ dX8_known_59 e
          · refine hn_iload hF dX8_known_52 (q := 54) rfl 0 rfl ?_
            refine hn_if_ge hF dX8_known_54 (t := 60) (q := 57) rfl rfl e (fun e => ?_) (fun e => ?_)
            · refine hn_bipush hF dX8_known_60 (q := 62) rfl kb_m4 ?_
              refine hn_istore hF dX8_known_62 (q := 64) rfl (by decide) (L' := [(5, .int ((-4))), (4, .int v6), (0, .ref (hn_base B + 72)), (1, .int l1), (2, .int l2), (3, .int l3)]) rfl ?_
              refine hn_iconst hF dX8_known_64 (q := 65) rfl ki_0 ?_
              refine hn_istore hF dX8_known_65 (q := 67) rfl (by decide) (L' := [(6, .int 0), (5, .int ((-4))), (4, .int v6), (0, .ref (hn_base B + 72)), (1, .int l1), (2, .int l2), (3, .int l3)]) rfl ?_
              refine hn_sub [3, 4, 2, 1, 0] (L' := [(0, .ref (hn_base B + 72)), (1, .int l1), (4, .int v6), (5, .int ((-4))), (6, .int 0)]) rfl ?_
              exact gX8_known_67 hF hQ hV F l1 v6 (-4) 0 e
            · refine hn_iload hF dX8_known_57 (q := 59) rfl 0 rfl ?_
              exact hn_iretP hF hQ dX8_known_59 e
        · refine hn_bipush hF dX8_known_37 (q := 39) rfl kb_m2 ?_
          exact hn_iretP hF hQ dX8_known_39 e
      · refine hn_iconst hF dX8_known_24 (q := 25) rfl ki_m1 ?_
        exact hn_iretP hF hQ dX8_known_25 e
theorem cX8_known_ {B : hn_B} {F : Nat} {μ : hn_M} {R : Int32} {l1 : Int32} {l2 : Int32} {l3 : Int32} (hV : hn_V B hn_nA) (e : fX8_known F μ l1 l2 l3 = some R) : hn_C yX8_known cX8_known 8 (some .int) 2 B [.ref (hn_base B + 72), .int l1, .int l2, .int l3] μ (some (.int R), μ) :=
  hn_C.of RX8 (by decide) rfl (Nat.le_of_ble_eq_true rfl) (fun _ hF hQ => gX8_known hF hQ hV e)
/-! HandNewsModel.worth(III)I -/
def fX8_worth (l1 : Int32) (l2 : Int32) (l3 : Int32) (μ : hn_M) : Option (Int32 × hn_M) := (fX8_in l1.toInt64 0 5).bind fun v1 => if v1 = 0 then some ((-10000), μ) else (fX8_in l2.toInt64 0 3).bind fun v2 => if v2 = 0 then some ((-10000), μ) else (fX8_in l3.toInt64 (-1000) 1000).bind fun v3 => if v3 = 0 then some ((-10000), μ) else hn_rd μ 87 24 ((4 * l1) + l2) fun v4 => hn_wr μ 87 24 ((4 * l1) + l2) l3 fun μ5 => some (v4, μ5)
set_option maxHeartbeats 1000000 in
theorem gX8_worth {Z : hn_Z} {B : hn_B} {R : Int32 × hn_M} (hF : hn_F Z B (0, 0) cX8_worth 5 RX8 (some .int) 1) (hQ : hn_goal Z B (some (.int R.1), R.2)) (hV : hn_V B hn_nA) {l1 : Int32} {l2 : Int32} {l3 : Int32} {μ : hn_M} (e : fX8_worth l1 l2 l3 μ = some R) : hn_G Z B (0, 0) 5 0 [(0, .ref (hn_base B + 72)), (1, .int l1), (2, .int l2), (3, .int l3)] [] μ := by
  unfold fX8_worth at e
  have a87 : hn_isA B 87 false 24 := hV 87 (by decide)
  have o72 : hn_isO B 72 8 hn_k72 := hV 72 (by decide)
  refine hn_iload_n hF dX8_worth_0 (q := 1) rfl 1 rfl ?_
  refine hn_i2l hF dX8_worth_1 (q := 2) rfl rfl ?_
  refine hn_lconst hF dX8_worth_2 (q := 3) rfl kl_0 ?_
  refine hn_ldc2 hF kd_X8_77 dX8_worth_3 (q := 6) rfl ?_
  refine hn_callSi (rest := []) hF ms_X8_in mt_X8_in lk_X8_79 (by decide) [.long (l1.toInt64), .long 0, .long 5] rfl (Nat.le_of_ble_eq_true rfl) dX8_worth_6 (q := 9) rfl rfl e (fun v hv => cX8_in_ hv) (fun v1 e => ?_)
  refine hn_if_eq hF dX8_worth_9 (t := 38) (q := 12) rfl rfl e (fun e => ?_) (fun e => ?_)
  · refine hn_sipush hF dX8_worth_38 (q := 41) rfl ks_m10000 ?_
    exact hn_iretM hF hQ dX8_worth_41 e
  · refine hn_iload_n hF dX8_worth_12 (q := 13) rfl 2 rfl ?_
    refine hn_i2l hF dX8_worth_13 (q := 14) rfl rfl ?_
    refine hn_lconst hF dX8_worth_14 (q := 15) rfl kl_0 ?_
    refine hn_ldc2 hF kd_X8_175 dX8_worth_15 (q := 18) rfl ?_
    refine hn_callSi (rest := []) hF ms_X8_in mt_X8_in lk_X8_79 (by decide) [.long (l2.toInt64), .long 0, .long 3] rfl (Nat.le_of_ble_eq_true rfl) dX8_worth_18 (q := 21) rfl rfl e (fun v hv => cX8_in_ hv) (fun v2 e => ?_)
    refine hn_if_eq hF dX8_worth_21 (t := 38) (q := 24) rfl rfl e (fun e => ?_) (fun e => ?_)
    · refine hn_sipush hF dX8_worth_38 (q := 41) rfl ks_m10000 ?_
      exact hn_iretM hF hQ dX8_worth_41 e
    · refine hn_iload_n hF dX8_worth_24 (q := 25) rfl 3 rfl ?_
      refine hn_i2l hF dX8_worth_25 (q := 26) rfl rfl ?_
      refine hn_ldc2 hF kd_X8_224 dX8_worth_26 (q := 29) rfl ?_
      refine hn_ldc2 hF kd_X8_226 dX8_worth_29 (q := 32) rfl ?_
      refine hn_callSi (rest := []) hF ms_X8_in mt_X8_in lk_X8_79 (by decide) [.long (l3.toInt64), .long ((-1000)), .long 1000] rfl (Nat.le_of_ble_eq_true rfl) dX8_worth_32 (q := 35) rfl rfl e (fun v hv => cX8_in_ hv) (fun v3 e => ?_)
      refine hn_if_ne hF dX8_worth_35 (t := 42) (q := 38) rfl rfl e (fun e => ?_) (fun e => ?_)
      · refine hn_aload_n hF dX8_worth_42 (q := 43) rfl 0 rfl ?_
        refine hn_get hF fl_X8_56 o72 rfl rfl dX8_worth_43 (q := 46) rfl ?_
        refine hn_iconst hF dX8_worth_46 (q := 47) rfl ki_4 ?_
        refine hn_iload_n hF dX8_worth_47 (q := 48) rfl 1 rfl ?_
        refine hn_imul hF dX8_worth_48 (q := 49) rfl ?_
        refine hn_iload_n hF dX8_worth_49 (q := 50) rfl 2 rfl ?_
        refine hn_iadd hF dX8_worth_50 (q := 51) rfl ?_
        refine hn_ald hF a87 dX8_worth_51 (q := 52) rfl e (fun v4 e => ?_)
        refine hn_istore hF dX8_worth_52 (q := 54) rfl (by decide) (L' := [(4, .int v4), (0, .ref (hn_base B + 72)), (1, .int l1), (2, .int l2), (3, .int l3)]) rfl ?_
        refine hn_aload_n hF dX8_worth_54 (q := 55) rfl 1 rfl ?_
        refine hn_get hF fl_X8_56 o72 rfl rfl dX8_worth_55 (q := 58) rfl ?_
        refine hn_iconst hF dX8_worth_58 (q := 59) rfl ki_4 ?_
        refine hn_iload_n hF dX8_worth_59 (q := 60) rfl 2 rfl ?_
        refine hn_imul hF dX8_worth_60 (q := 61) rfl ?_
        refine hn_iload_n hF dX8_worth_61 (q := 62) rfl 3 rfl ?_
        refine hn_iadd hF dX8_worth_62 (q := 63) rfl ?_
        refine hn_iload_n hF dX8_worth_63 (q := 64) rfl 4 rfl ?_
        refine hn_ast hF a87 dX8_worth_64 (q := 65) rfl e (fun μ5 e => ?_)
        refine hn_iload hF dX8_worth_65 (q := 67) rfl 0 rfl ?_
        exact hn_iretM hF hQ dX8_worth_67 e
      · refine hn_sipush hF dX8_worth_38 (q := 41) rfl ks_m10000 ?_
        exact hn_iretM hF hQ dX8_worth_41 e
theorem cX8_worth_ {B : hn_B} {μ : hn_M} {R : Int32 × hn_M} {l1 : Int32} {l2 : Int32} {l3 : Int32} (hV : hn_V B hn_nA) (e : fX8_worth l1 l2 l3 μ = some R) : hn_C yX8_worth cX8_worth 5 (some .int) 1 B [.ref (hn_base B + 72), .int l1, .int l2, .int l3] μ (some (.int R.1), R.2) :=
  hn_C.of RX8 (by decide) rfl (Nat.le_of_ble_eq_true rfl) (fun _ hF hQ => gX8_worth hF hQ hV e)
/-! HandNewsModel.buy(III)I -/
def fX8_buy_136 (F : Nat) (μ : hn_M) (k57 : Int32 → Int32 → Int32 → Int32 → Int32 → Int32 → Int32 → Int32 → Option Int32) (k73 : Int32 → Int32 → Int32 → Int32 → Int32 → Int32 → Int32 → Int32 → Int32 → Int32 → Int32 → Option Int32) (k96 : Int32 → Int32 → Int32 → Int32 → Int32 → Int32 → Int32 → Int32 → Int32 → Int32 → Int32 → Int32 → Int32 → Option Int32) (l1 : Int32) (l2 : Int32) (l3 : Int32) (l4 : Int32) (l5 : Int32) (l6 : Int32) (l7 : Int32) (l8 : Int32) (l9 : Int32) (l10 : Int32) (l11 : Int32) (l13 : Int32) (s0 : Int32) : Option Int32 := k96 l1 l2 l3 l4 l5 l6 l7 l8 l9 l10 l11 s0 (l13 + 1)
def fX8_buy_196 (F : Nat) (μ : hn_M) (k57 : Int32 → Int32 → Int32 → Int32 → Int32 → Int32 → Int32 → Int32 → Option Int32) (k73 : Int32 → Int32 → Int32 → Int32 → Int32 → Int32 → Int32 → Int32 → Int32 → Int32 → Int32 → Option Int32) (l1 : Int32) (l2 : Int32) (l3 : Int32) (l4 : Int32) (l5 : Int32) (l6 : Int32) (l7 : Int32) (l8 : Int32) (l9 : Int32) (l10 : Int32) (l11 : Int32) : Option Int32 := k73 l1 l2 l3 l4 l5 l6 l7 l8 l9 l10 (l11 + 1)
def fX8_buy_194 (F : Nat) (μ : hn_M) (k57 : Int32 → Int32 → Int32 → Int32 → Int32 → Int32 → Int32 → Int32 → Option Int32) (k73 : Int32 → Int32 → Int32 → Int32 → Int32 → Int32 → Int32 → Int32 → Int32 → Int32 → Int32 → Option Int32) (l1 : Int32) (l2 : Int32) (l3 : Int32) (l4 : Int32) (l5 : Int32) (l6 : Int32) (l7 : Int32) (l8 : Int32) (l9 : Int32) (l11 : Int32) (s0 : Int32) : Option Int32 := fX8_buy_196 F μ k57 k73 l1 l2 l3 l4 l5 l6 l7 l8 l9 s0 l11
def fX8_buy_172 (F : Nat) (μ : hn_M) (k57 : Int32 → Int32 → Int32 → Int32 → Int32 → Int32 → Int32 → Int32 → Option Int32) (k73 : Int32 → Int32 → Int32 → Int32 → Int32 → Int32 → Int32 → Int32 → Int32 → Int32 → Int32 → Option Int32) (l1 : Int32) (l2 : Int32) (l3 : Int32) (l4 : Int32) (l5 : Int32) (l6 : Int32) (l7 : Int32) (l8 : Int32) (l10 : Int32) (l11 : Int32) (l12 : Int32) (l13 : Int32) (s0 : Int32) : Option Int32 := if l12 - l13 ≤ l10 then fX8_buy_194 F μ k57 k73 l1 l2 l3 l4 l5 l6 l7 l8 s0 l11 l10 else fX8_buy_194 F μ k57 k73 l1 l2 l3 l4 l5 l6 l7 l8 s0 l11 (l12 - l13)
def fX8_buy_144 (F : Nat) (μ : hn_M) (k57 : Int32 → Int32 → Int32 → Int32 → Int32 → Int32 → Int32 → Int32 → Option Int32) (k73 : Int32 → Int32 → Int32 → Int32 → Int32 → Int32 → Int32 → Int32 → Int32 → Int32 → Int32 → Option Int32) (l1 : Int32) (l2 : Int32) (l3 : Int32) (l4 : Int32) (l5 : Int32) (l6 : Int32) (l7 : Int32) (l8 : Int32) (l9 : Int32) (l10 : Int32) (l11 : Int32) (l12 : Int32) : Option Int32 := hn_rd μ 87 24 ((4 * l8) + l11) fun v1 => if l9 ≤ v1 then fX8_buy_172 F μ k57 k73 l1 l2 l3 l4 l5 l6 l7 l8 l10 l11 l12 v1 l9 else fX8_buy_172 F μ k57 k73 l1 l2 l3 l4 l5 l6 l7 l8 l10 l11 l12 v1 v1
def fX8_buy_96 (F : Nat) (μ : hn_M) (k57 : Int32 → Int32 → Int32 → Int32 → Int32 → Int32 → Int32 → Int32 → Option Int32) (k73 : Int32 → Int32 → Int32 → Int32 → Int32 → Int32 → Int32 → Int32 → Int32 → Int32 → Int32 → Option Int32) : Nat → Int32 → Int32 → Int32 → Int32 → Int32 → Int32 → Int32 → Int32 → Int32 → Int32 → Int32 → Int32 → Int32 → Option Int32
  | 0, _, _, _, _, _, _, _, _, _, _, _, _, _ => none
  | n + 1, l1, l2, l3, l4, l5, l6, l7, l8, l9, l10, l11, l12, l13 => if l1 ≤ l13 then fX8_buy_144 F μ k57 k73 l1 l2 l3 l4 l5 l6 l7 l8 l9 l10 l11 l12 else hn_rd μ 87 24 ((4 * l13) + l11) fun v2 => if v2 ≤ l12 then fX8_buy_136 F μ k57 k73 (fX8_buy_96 F μ k57 k73 n) l1 l2 l3 l4 l5 l6 l7 l8 l9 l10 l11 l13 l12 else hn_rd μ 87 24 ((4 * l13) + l11) fun v3 => fX8_buy_136 F μ k57 k73 (fX8_buy_96 F μ k57 k73 n) l1 l2 l3 l4 l5 l6 l7 l8 l9 l10 l11 l13 v3
def fX8_buy_246 (F : Nat) (μ : hn_M) (k57 : Int32 → Int32 → Int32 → Int32 → Int32 → Int32 → Int32 → Int32 → Option Int32) (l1 : Int32) (l2 : Int32) (l3 : Int32) (l4 : Int32) (l5 : Int32) (l6 : Int32) (l7 : Int32) (l8 : Int32) : Option Int32 := k57 l1 l2 l3 l4 l5 l6 l7 (l8 + 1)
def fX8_buy_238 (F : Nat) (μ : hn_M) (k57 : Int32 → Int32 → Int32 → Int32 → Int32 → Int32 → Int32 → Int32 → Option Int32) (l1 : Int32) (l2 : Int32) (l3 : Int32) (l4 : Int32) (l5 : Int32) (l8 : Int32) (l10 : Int32) : Option Int32 := fX8_buy_246 F μ k57 l1 l2 l3 l4 l5 l8 l10 l8
def fX8_buy_224 (F : Nat) (μ : hn_M) (k57 : Int32 → Int32 → Int32 → Int32 → Int32 → Int32 → Int32 → Int32 → Option Int32) (l1 : Int32) (l2 : Int32) (l3 : Int32) (l4 : Int32) (l5 : Int32) (l6 : Int32) (l7 : Int32) (l8 : Int32) (l10 : Int32) : Option Int32 := if l6 = (-4) then fX8_buy_238 F μ k57 l1 l2 l3 l4 l5 l8 l10 else if l7 ≤ l10 then fX8_buy_246 F μ k57 l1 l2 l3 l4 l5 l6 l7 l8 else fX8_buy_238 F μ k57 l1 l2 l3 l4 l5 l8 l10
def fX8_buy_216 (F : Nat) (μ : hn_M) (k57 : Int32 → Int32 → Int32 → Int32 → Int32 → Int32 → Int32 → Int32 → Option Int32) (l1 : Int32) (l2 : Int32) (l3 : Int32) (l6 : Int32) (l7 : Int32) (l8 : Int32) (l9 : Int32) (l10 : Int32) : Option Int32 := fX8_buy_224 F μ k57 l1 l2 l3 l8 l9 l6 l7 l8 l10
def fX8_buy_202 (F : Nat) (μ : hn_M) (k57 : Int32 → Int32 → Int32 → Int32 → Int32 → Int32 → Int32 → Int32 → Option Int32) (l1 : Int32) (l2 : Int32) (l3 : Int32) (l4 : Int32) (l5 : Int32) (l6 : Int32) (l7 : Int32) (l8 : Int32) (l9 : Int32) (l10 : Int32) : Option Int32 := if l4 = (-4) then fX8_buy_216 F μ k57 l1 l2 l3 l6 l7 l8 l9 l10 else if l9 ≤ l5 then fX8_buy_224 F μ k57 l1 l2 l3 l4 l5 l6 l7 l8 l10 else fX8_buy_216 F μ k57 l1 l2 l3 l6 l7 l8 l9 l10
def fX8_buy_73 (F : Nat) (μ : hn_M) (k57 : Int32 → Int32 → Int32 → Int32 → Int32 → Int32 → Int32 → Int32 → Option Int32) : Nat → Int32 → Int32 → Int32 → Int32 → Int32 → Int32 → Int32 → Int32 → Int32 → Int32 → Int32 → Option Int32
  | 0, _, _, _, _, _, _, _, _, _, _, _ => none
  | n + 1, l1, l2, l3, l4, l5, l6, l7, l8, l9, l10, l11 => if 4 ≤ l11 then fX8_buy_202 F μ k57 l1 l2 l3 l4 l5 l6 l7 l8 l9 l10 else if (l2 >>> (l11 &&& 31)) &&& 1 = 1 then fX8_buy_96 F μ k57 (fX8_buy_73 F μ k57 n) F l1 l2 l3 l4 l5 l6 l7 l8 l9 l10 l11 (-100000) 0 else fX8_buy_196 F μ k57 (fX8_buy_73 F μ k57 n) l1 l2 l3 l4 l5 l6 l7 l8 l9 l10 l11
def fX8_buy_252 (F : Nat) (μ : hn_M) (l3 : Int32) (l4 : Int32) (l5 : Int32) (l6 : Int32) (l7 : Int32) : Option Int32 := if l3 = 0 then some l4 else if l3 = 1 then some l5 else if l3 = 2 then some l6 else some l7
def fX8_buy_57 (F : Nat) (μ : hn_M) : Nat → Int32 → Int32 → Int32 → Int32 → Int32 → Int32 → Int32 → Int32 → Option Int32
  | 0, _, _, _, _, _, _, _, _ => none
  | n + 1, l1, l2, l3, l4, l5, l6, l7, l8 => if l1 ≤ l8 then fX8_buy_252 F μ l3 l4 l5 l6 l7 else fX8_buy_73 F μ (fX8_buy_57 F μ n) F l1 l2 l3 l4 l5 l6 l7 l8 100000 (-1) 0
def fX8_buy (F : Nat) (μ : hn_M) (l1 : Int32) (l2 : Int32) (l3 : Int32) : Option Int32 := (fX8_in l1.toInt64 1 6).bind fun v4 => if v4 = 0 then some (-10000) else (fX8_in l2.toInt64 1 15).bind fun v5 => if v5 = 0 then some (-10000) else (fX8_in l3.toInt64 0 3).bind fun v6 => if v6 = 0 then some (-10000) else fX8_buy_57 F μ F l1 l2 l3 (-4) 0 (-4) 0 0
set_option maxHeartbeats 1000000 in
theorem gX8_buy_136 {Z : hn_Z} {B : hn_B} {F : Nat} {μ : hn_M} {R : Int32} (hF : hn_F Z B (0, 0) cX8_buy 14 RX8 (some .int) 1) (hQ : hn_goal Z B (some (.int R), μ)) (hV : hn_V B hn_nA) {k57 : Int32 → Int32 → Int32 → Int32 → Int32 → Int32 → Int32 → Int32 → Option Int32} (H57 : ∀ (l1 : Int32) (l2 : Int32) (l3 : Int32) (l4 : Int32) (l5 : Int32) (l6 : Int32) (l7 : Int32) (l8 : Int32), k57 l1 l2 l3 l4 l5 l6 l7 l8 = some R → hn_G Z B (0, 0) 14 57 [(0, .ref (hn_base B + 72)), (1, .int l1), (2, .int l2), (3, .int l3), (4, .int l4), (5, .int l5), (6, .int l6), (7, .int l7), (8, .int l8)] [] μ) {k73 : Int32 → Int32 → Int32 → Int32 → Int32 → Int32 → Int32 → Int32 → Int32 → Int32 → Int32 → Option Int32} (H73 : ∀ (l1 : Int32) (l2 : Int32) (l3 : Int32) (l4 : Int32) (l5 : Int32) (l6 : Int32) (l7 : Int32) (l8 : Int32) (l9 : Int32) (l10 : Int32) (l11 : Int32), k73 l1 l2 l3 l4 l5 l6 l7 l8 l9 l10 l11 = some R → hn_G Z B (0, 0) 14 73 [(0, .ref (hn_base B + 72)), (1, .int l1), (2, .int l2), (3, .int l3), (4, .int l4), (5, .int l5), (6, .int l6), (7, .int l7), (8, .int l8), (9, .int l9), (10, .int l10), (11, .int l11)] [] μ) {k96 : Int32 → Int32 → Int32 → Int32 → Int32 → Int32 → Int32 → Int32 → Int32 → Int32 → Int32 → Int32 → Int32 → Option Int32} (H96 : ∀ (l1 : Int32) (l2 : Int32) (l3 : Int32) (l4 : Int32) (l5 : Int32) (l6 : Int32) (l7 : Int32) (l8 : Int32) (l9 : Int32) (l10 : Int32) (l11 : Int32) (l12 : Int32) (l13 : Int32), k96 l1 l2 l3 l4 l5 l6 l7 l8 l9 l10 l11 l12 l13 = some R → hn_G Z B (0, 0) 14 96 [(0, .ref (hn_base B + 72)), (1, .int l1), (2, .int l2), (3, .int l3), (4, .int l4), (5, .int l5), (6, .int l6), (7, .int l7), (8, .int l8), (9, .int l9), (10, .int l10), (11, .int l11), (12, .int l12), (13, .int l13)] [] μ) {l1 : Int32} {l2 : Int32} {l3 : Int32} {l4 : Int32} {l5 : Int32} {l6 : Int32} {l7 : Int32} {l8 : Int32} {l9 : Int32} {l10 : Int32} {l11 : Int32} {l13 : Int32} {s0 : Int32} (e : fX8_buy_136 F μ k57 k73 k96 l1 l2 l3 l4 l5 l6 l7 l8 l9 l10 l11 l13 s0 = some R) : hn_G Z B (0, 0) 14 136 [(0, .ref (hn_base B + 72)), (1, .int l1), (2, .int l2), (3, .int l3), (4, .int l4), (5, .int l5), (6, .int l6), (7, .int l7), (8, .int l8), (9, .int l9), (10, .int l10), (11, .int l11), (13, .int l13)] [.int s0] μ := by
  unfold fX8_buy_136 at e
  refine hn_istore hF dX8_buy_136 (q := 138) rfl (by decide) (L' := [(12, .int s0), (0, .ref (hn_base B + 72)), (1, .int l1), (2, .int l2), (3, .int l3), (4, .int l4), (5, .int l5), (6, .int l6), (7, .int l7), (8, .int l8), (9, .int l9), (10, .int l10), (11, .int l11), (13, .int l13)]) rfl ?_
  refine hn_iinc (p := 13) hF dX8_buy_138 (q := 141) rfl rfl (kn_1 _) (by decide) (L' := [(13, .int (l13 + 1)), (12, .int s0), (0, .ref (hn_base B + 72)), (1, .int l1), (2, .int l2), (3, .int l3), (4, .int l4), (5, .int l5), (6, .int l6), (7, .int l7), (8, .int l8), (9, .int l9), (10, .int l10), (11, .int l11)]) rfl ?_
  refine hn_goto hF dX8_buy_141 (q := 96) rfl ?_
  refine hn_sub [2, 3, 4, 5, 6, 7, 8, 9, 10, 11, 12, 13, 1, 0] (L' := [(0, .ref (hn_base B + 72)), (1, .int l1), (2, .int l2), (3, .int l3), (4, .int l4), (5, .int l5), (6, .int l6), (7, .int l7), (8, .int l8), (9, .int l9), (10, .int l10), (11, .int l11), (12, .int s0), (13, .int (l13 + 1))]) rfl ?_
  exact H96 l1 l2 l3 l4 l5 l6 l7 l8 l9 l10 l11 s0 (l13 + 1) e
set_option maxHeartbeats 1000000 in
theorem gX8_buy_196 {Z : hn_Z} {B : hn_B} {F : Nat} {μ : hn_M} {R : Int32} (hF : hn_F Z B (0, 0) cX8_buy 14 RX8 (some .int) 1) (hQ : hn_goal Z B (some (.int R), μ)) (hV : hn_V B hn_nA) {k57 : Int32 → Int32 → Int32 → Int32 → Int32 → Int32 → Int32 → Int32 → Option Int32} (H57 : ∀ (l1 : Int32) (l2 : Int32) (l3 : Int32) (l4 : Int32) (l5 : Int32) (l6 : Int32) (l7 : Int32) (l8 : Int32), k57 l1 l2 l3 l4 l5 l6 l7 l8 = some R → hn_G Z B (0, 0) 14 57 [(0, .ref (hn_base B + 72)), (1, .int l1), (2, .int l2), (3, .int l3), (4, .int l4), (5, .int l5), (6, .int l6), (7, .int l7), (8, .int l8)] [] μ) {k73 : Int32 → Int32 → Int32 → Int32 → Int32 → Int32 → Int32 → Int32 → Int32 → Int32 → Int32 → Option Int32} (H73 : ∀ (l1 : Int32) (l2 : Int32) (l3 : Int32) (l4 : Int32) (l5 : Int32) (l6 : Int32) (l7 : Int32) (l8 : Int32) (l9 : Int32) (l10 : Int32) (l11 : Int32), k73 l1 l2 l3 l4 l5 l6 l7 l8 l9 l10 l11 = some R → hn_G Z B (0, 0) 14 73 [(0, .ref (hn_base B + 72)), (1, .int l1), (2, .int l2), (3, .int l3), (4, .int l4), (5, .int l5), (6, .int l6), (7, .int l7), (8, .int l8), (9, .int l9), (10, .int l10), (11, .int l11)] [] μ) {l1 : Int32} {l2 : Int32} {l3 : Int32} {l4 : Int32} {l5 : Int32} {l6 : Int32} {l7 : Int32} {l8 : Int32} {l9 : Int32} {l10 : Int32} {l11 : Int32} (e : fX8_buy_196 F μ k57 k73 l1 l2 l3 l4 l5 l6 l7 l8 l9 l10 l11 = some R) : hn_G Z B (0, 0) 14 196 [(0, .ref (hn_base B + 72)), (1, .int l1), (2, .int l2), (3, .int l3), (4, .int l4), (5, .int l5), (6, .int l6), (7, .int l7), (8, .int l8), (9, .int l9), (10, .int l10), (11, .int l11)] [] μ := by
  unfold fX8_buy_196 at e
  refine hn_iinc (p := 11) hF dX8_buy_196 (q := 199) rfl rfl (kn_1 _) (by decide) (L' := [(11, .int (l11 + 1)), (0, .ref (hn_base B + 72)), (1, .int l1), (2, .int l2), (3, .int l3), (4, .int l4), (5, .int l5), (6, .int l6), (7, .int l7), (8, .int l8), (9, .int l9), (10, .int l10)]) rfl ?_
  refine hn_goto hF dX8_buy_199 (q := 73) rfl ?_
  refine hn_sub [1, 2, 3, 4, 5, 6, 7, 8, 9, 10, 11, 0] (L' := [(0, .ref (hn_base B + 72)), (1, .int l1), (2, .int l2), (3, .int l3), (4, .int l4), (5, .int l5), (6, .int l6), (7, .int l7), (8, .int l8), (9, .int l9), (10, .int l10), (11, .int (l11 + 1))]) rfl ?_
  exact H73 l1 l2 l3 l4 l5 l6 l7 l8 l9 l10 (l11 + 1) e
set_option maxHeartbeats 1000000 in
theorem gX8_buy_194 {Z : hn_Z} {B : hn_B} {F : Nat} {μ : hn_M} {R : Int32} (hF : hn_F Z B (0, 0) cX8_buy 14 RX8 (some .int) 1) (hQ : hn_goal Z B (some (.int R), μ)) (hV : hn_V B hn_nA) {k57 : Int32 → Int32 → Int32 → Int32 → Int32 → Int32 → Int32 → Int32 → Option Int32} (H57 : ∀ (l1 : Int32) (l2 : Int32) (l3 : Int32) (l4 : Int32) (l5 : Int32) (l6 : Int32) (l7 : Int32) (l8 : Int32), k57 l1 l2 l3 l4 l5 l6 l7 l8 = some R → hn_G Z B (0, 0) 14 57 [(0, .ref (hn_base B + 72)), (1, .int l1), (2, .int l2), (3, .int l3), (4, .int l4), (5, .int l5), (6, .int l6), (7, .int l7), (8, .int l8)] [] μ) {k73 : Int32 → Int32 → Int32 → Int32 → Int32 → Int32 → Int32 → Int32 → Int32 → Int32 → Int32 → Option Int32} (H73 : ∀ (l1 : Int32) (l2 : Int32) (l3 : Int32) (l4 : Int32) (l5 : Int32) (l6 : Int32) (l7 : Int32) (l8 : Int32) (l9 : Int32) (l10 : Int32) (l11 : Int32), k73 l1 l2 l3 l4 l5 l6 l7 l8 l9 l10 l11 = some R → hn_G Z B (0, 0) 14 73 [(0, .ref (hn_base B + 72)), (1, .int l1), (2, .int l2), (3, .int l3), (4, .int l4), (5, .int l5), (6, .int l6), (7, .int l7), (8, .int l8), (9, .int l9), (10, .int l10), (11, .int l11)] [] μ) {l1 : Int32} {l2 : Int32} {l3 : Int32} {l4 : Int32} {l5 : Int32} {l6 : Int32} {l7 : Int32} {l8 : Int32} {l9 : Int32} {l11 : Int32} {s0 : Int32} (e : fX8_buy_194 F μ k57 k73 l1 l2 l3 l4 l5 l6 l7 l8 l9 l11 s0 = some R) : hn_G Z B (0, 0) 14 194 [(0, .ref (hn_base B + 72)), (1, .int l1), (2, .int l2), (3, .int l3), (4, .int l4), (5, .int l5), (6, .int l6), (7, .int l7), (8, .int l8), (9, .int l9), (11, .int l11)] [.int s0] μ := by
  unfold fX8_buy_194 at e
  refine hn_istore hF dX8_buy_194 (q := 196) rfl (by decide) (L' := [(10, .int s0), (0, .ref (hn_base B + 72)), (1, .int l1), (2, .int l2), (3, .int l3), (4, .int l4), (5, .int l5), (6, .int l6), (7, .int l7), (8, .int l8), (9, .int l9), (11, .int l11)]) rfl ?_
  refine hn_sub [1, 2, 3, 4, 5, 6, 7, 8, 9, 10, 0, 11] (L' := [(0, .ref (hn_base B + 72)), (1, .int l1), (2, .int l2), (3, .int l3), (4, .int l4), (5, .int l5), (6, .int l6), (7, .int l7), (8, .int l8), (9, .int l9), (10, .int s0), (11, .int l11)]) rfl ?_
  exact gX8_buy_196 hF hQ hV H57 H73 e
set_option maxHeartbeats 1000000 in
theorem gX8_buy_172 {Z : hn_Z} {B : hn_B} {F : Nat} {μ : hn_M} {R : Int32} (hF : hn_F Z B (0, 0) cX8_buy 14 RX8 (some .int) 1) (hQ : hn_goal Z B (some (.int R), μ)) (hV : hn_V B hn_nA) {k57 : Int32 → Int32 → Int32 → Int32 → Int32 → Int32 → Int32 → Int32 → Option Int32} (H57 : ∀ (l1 : Int32) (l2 : Int32) (l3 : Int32) (l4 : Int32) (l5 : Int32) (l6 : Int32) (l7 : Int32) (l8 : Int32), k57 l1 l2 l3 l4 l5 l6 l7 l8 = some R → hn_G Z B (0, 0) 14 57 [(0, .ref (hn_base B + 72)), (1, .int l1), (2, .int l2), (3, .int l3), (4, .int l4), (5, .int l5), (6, .int l6), (7, .int l7), (8, .int l8)] [] μ) {k73 : Int32 → Int32 → Int32 → Int32 → Int32 → Int32 → Int32 → Int32 → Int32 → Int32 → Int32 → Option Int32} (H73 : ∀ (l1 : Int32) (l2 : Int32) (l3 : Int32) (l4 : Int32) (l5 : Int32) (l6 : Int32) (l7 : Int32) (l8 : Int32) (l9 : Int32) (l10 : Int32) (l11 : Int32), k73 l1 l2 l3 l4 l5 l6 l7 l8 l9 l10 l11 = some R → hn_G Z B (0, 0) 14 73 [(0, .ref (hn_base B + 72)), (1, .int l1), (2, .int l2), (3, .int l3), (4, .int l4), (5, .int l5), (6, .int l6), (7, .int l7), (8, .int l8), (9, .int l9), (10, .int l10), (11, .int l11)] [] μ) {l1 : Int32} {l2 : Int32} {l3 : Int32} {l4 : Int32} {l5 : Int32} {l6 : Int32} {l7 : Int32} {l8 : Int32} {l10 : Int32} {l11 : Int32} {l12 : Int32} {l13 : Int32} {s0 : Int32} (e : fX8_buy_172 F μ k57 k73 l1 l2 l3 l4 l5 l6 l7 l8 l10 l11 l12 l13 s0 = some R) : hn_G Z B (0, 0) 14 172 [(0, .ref (hn_base B + 72)), (1, .int l1), (2, .int l2), (3, .int l3), (4, .int l4), (5, .int l5), (6, .int l6), (7, .int l7), (8, .int l8), (10, .int l10), (11, .int l11), (12, .int l12), (13, .int l13)] [.int s0] μ := by
  unfold fX8_buy_172 at e
  refine hn_istore hF dX8_buy_172 (q := 174) rfl (by decide) (L' := [(9, .int s0), (0, .ref (hn_base B + 72)), (1, .int l1), (2, .int l2), (3, .int l3), (4, .int l4), (5, .int l5), (6, .int l6), (7, .int l7), (8, .int l8), (10, .int l10), (11, .int l11), (12, .int l12), (13, .int l13)]) rfl ?_
  refine hn_iload hF dX8_buy_174 (q := 176) rfl 12 rfl ?_
  refine hn_iload hF dX8_buy_176 (q := 178) rfl 13 rfl ?_
  refine hn_isub hF dX8_buy_178 (q := 179) rfl ?_
  refine hn_iload hF dX8_buy_179 (q := 181) rfl 10 rfl ?_
  refine hn_icmp_le hF dX8_buy_181 (t := 192) (q := 184) rfl rfl e (fun e => ?_) (fun e => ?_)
  · refine hn_iload hF dX8_buy_192 (q := 194) rfl 10 rfl ?_
    refine hn_sub [1, 2, 3, 4, 5, 6, 7, 8, 9, 0, 11] (L' := [(0, .ref (hn_base B + 72)), (1, .int l1), (2, .int l2), (3, .int l3), (4, .int l4), (5, .int l5), (6, .int l6), (7, .int l7), (8, .int l8), (9, .int s0), (11, .int l11)]) rfl ?_
    exact gX8_buy_194 hF hQ hV H57 H73 e
  · refine hn_iload hF dX8_buy_184 (q := 186) rfl 12 rfl ?_
    refine hn_iload hF dX8_buy_186 (q := 188) rfl 13 rfl ?_
    refine hn_isub hF dX8_buy_188 (q := 189) rfl ?_
    refine hn_goto hF dX8_buy_189 (q := 194) rfl ?_
    refine hn_sub [1, 2, 3, 4, 5, 6, 7, 8, 9, 0, 11] (L' := [(0, .ref (hn_base B + 72)), (1, .int l1), (2, .int l2), (3, .int l3), (4, .int l4), (5, .int l5), (6, .int l6), (7, .int l7), (8, .int l8), (9, .int s0), (11, .int l11)]) rfl ?_
    exact gX8_buy_194 hF hQ hV H57 H73 e
set_option maxHeartbeats 1000000 in
theorem gX8_buy_144 {Z : hn_Z} {B : hn_B} {F : Nat} {μ : hn_M} {R : Int32} (hF : hn_F Z B (0, 0) cX8_buy 14 RX8 (some .int) 1) (hQ : hn_goal Z B (some (.int R), μ)) (hV : hn_V B hn_nA) {k57 : Int32 → Int32 → Int32 → Int32 → Int32 → Int32 → Int32 → Int32 → Option Int32} (H57 : ∀ (l1 : Int32) (l2 : Int32) (l3 : Int32) (l4 : Int32) (l5 : Int32) (l6 : Int32) (l7 : Int32) (l8 : Int32), k57 l1 l2 l3 l4 l5 l6 l7 l8 = some R → hn_G Z B (0, 0) 14 57 [(0, .ref (hn_base B + 72)), (1, .int l1), (2, .int l2), (3, .int l3), (4, .int l4), (5, .int l5), (6, .int l6), (7, .int l7), (8, .int l8)] [] μ) {k73 : Int32 → Int32 → Int32 → Int32 → Int32 → Int32 → Int32 → Int32 → Int32 → Int32 → Int32 → Option Int32} (H73 : ∀ (l1 : Int32) (l2 : Int32) (l3 : Int32) (l4 : Int32) (l5 : Int32) (l6 : Int32) (l7 : Int32) (l8 : Int32) (l9 : Int32) (l10 : Int32) (l11 : Int32), k73 l1 l2 l3 l4 l5 l6 l7 l8 l9 l10 l11 = some R → hn_G Z B (0, 0) 14 73 [(0, .ref (hn_base B + 72)), (1, .int l1), (2, .int l2), (3, .int l3), (4, .int l4), (5, .int l5), (6, .int l6), (7, .int l7), (8, .int l8), (9, .int l9), (10, .int l10), (11, .int l11)] [] μ) {l1 : Int32} {l2 : Int32} {l3 : Int32} {l4 : Int32} {l5 : Int32} {l6 : Int32} {l7 : Int32} {l8 : Int32} {l9 : Int32} {l10 : Int32} {l11 : Int32} {l12 : Int32} (e : fX8_buy_144 F μ k57 k73 l1 l2 l3 l4 l5 l6 l7 l8 l9 l10 l11 l12 = some R) : hn_G Z B (0, 0) 14 144 [(0, .ref (hn_base B + 72)), (1, .int l1), (2, .int l2), (3, .int l3), (4, .int l4), (5, .int l5), (6, .int l6), (7, .int l7), (8, .int l8), (9, .int l9), (10, .int l10), (11, .int l11), (12, .int l12)] [] μ := by
  unfold fX8_buy_144 at e
  have a87 : hn_isA B 87 false 24 := hV 87 (by decide)
  have o72 : hn_isO B 72 8 hn_k72 := hV 72 (by decide)
  refine hn_aload_n hF dX8_buy_144 (q := 145) rfl 0 rfl ?_
  refine hn_get hF fl_X8_56 o72 rfl rfl dX8_buy_145 (q := 148) rfl ?_
  refine hn_iconst hF dX8_buy_148 (q := 149) rfl ki_4 ?_
  refine hn_iload hF dX8_buy_149 (q := 151) rfl 8 rfl ?_
  refine hn_imul hF dX8_buy_151 (q := 152) rfl ?_
  refine hn_iload hF dX8_buy_152 (q := 154) rfl 11 rfl ?_
  refine hn_iadd hF dX8_buy_154 (q := 155) rfl ?_
  refine hn_ald hF a87 dX8_buy_155 (q := 156) rfl e (fun v1 e => ?_)
  refine hn_istore hF dX8_buy_156 (q := 158) rfl (by decide) (L' := [(13, .int v1), (0, .ref (hn_base B + 72)), (1, .int l1), (2, .int l2), (3, .int l3), (4, .int l4), (5, .int l5), (6, .int l6), (7, .int l7), (8, .int l8), (9, .int l9), (10, .int l10), (11, .int l11), (12, .int l12)]) rfl ?_
  refine hn_iload hF dX8_buy_158 (q := 160) rfl 0 rfl ?_
  refine hn_iload hF dX8_buy_160 (q := 162) rfl 10 rfl ?_
  refine hn_icmp_ge hF dX8_buy_162 (t := 170) (q := 165) rfl rfl e (fun e => ?_) (fun e => ?_)
  · refine hn_iload hF dX8_buy_170 (q := 172) rfl 10 rfl ?_
    refine hn_sub [1, 2, 3, 4, 5, 6, 7, 8, 9, 11, 12, 13, 0] (L' := [(0, .ref (hn_base B + 72)), (1, .int l1), (2, .int l2), (3, .int l3), (4, .int l4), (5, .int l5), (6, .int l6), (7, .int l7), (8, .int l8), (10, .int l10), (11, .int l11), (12, .int l12), (13, .int v1)]) rfl ?_
    exact gX8_buy_172 hF hQ hV H57 H73 e
  · refine hn_iload hF dX8_buy_165 (q := 167) rfl 0 rfl ?_
    refine hn_goto hF dX8_buy_167 (q := 172) rfl ?_
    refine hn_sub [1, 2, 3, 4, 5, 6, 7, 8, 9, 11, 12, 13, 0] (L' := [(0, .ref (hn_base B + 72)), (1, .int l1), (2, .int l2), (3, .int l3), (4, .int l4), (5, .int l5), (6, .int l6), (7, .int l7), (8, .int l8), (10, .int l10), (11, .int l11), (12, .int l12), (13, .int v1)]) rfl ?_
    exact gX8_buy_172 hF hQ hV H57 H73 e
set_option maxHeartbeats 1000000 in
theorem gX8_buy_96 {Z : hn_Z} {B : hn_B} {F : Nat} {μ : hn_M} {R : Int32} (hF : hn_F Z B (0, 0) cX8_buy 14 RX8 (some .int) 1) (hQ : hn_goal Z B (some (.int R), μ)) (hV : hn_V B hn_nA) {k57 : Int32 → Int32 → Int32 → Int32 → Int32 → Int32 → Int32 → Int32 → Option Int32} (H57 : ∀ (l1 : Int32) (l2 : Int32) (l3 : Int32) (l4 : Int32) (l5 : Int32) (l6 : Int32) (l7 : Int32) (l8 : Int32), k57 l1 l2 l3 l4 l5 l6 l7 l8 = some R → hn_G Z B (0, 0) 14 57 [(0, .ref (hn_base B + 72)), (1, .int l1), (2, .int l2), (3, .int l3), (4, .int l4), (5, .int l5), (6, .int l6), (7, .int l7), (8, .int l8)] [] μ) {k73 : Int32 → Int32 → Int32 → Int32 → Int32 → Int32 → Int32 → Int32 → Int32 → Int32 → Int32 → Option Int32} (H73 : ∀ (l1 : Int32) (l2 : Int32) (l3 : Int32) (l4 : Int32) (l5 : Int32) (l6 : Int32) (l7 : Int32) (l8 : Int32) (l9 : Int32) (l10 : Int32) (l11 : Int32), k73 l1 l2 l3 l4 l5 l6 l7 l8 l9 l10 l11 = some R → hn_G Z B (0, 0) 14 73 [(0, .ref (hn_base B + 72)), (1, .int l1), (2, .int l2), (3, .int l3), (4, .int l4), (5, .int l5), (6, .int l6), (7, .int l7), (8, .int l8), (9, .int l9), (10, .int l10), (11, .int l11)] [] μ) : ∀ (n : Nat) (l1 : Int32) (l2 : Int32) (l3 : Int32) (l4 : Int32) (l5 : Int32) (l6 : Int32) (l7 : Int32) (l8 : Int32) (l9 : Int32) (l10 : Int32) (l11 : Int32) (l12 : Int32) (l13 : Int32), fX8_buy_96 F μ k57 k73 n l1 l2 l3 l4 l5 l6 l7 l8 l9 l10 l11 l12 l13 = some R → hn_G Z B (0, 0) 14 96 [(0, .ref (hn_base B + 72)), (1, .int l1), (2, .int l2), (3, .int l3), (4, .int l4), (5, .int l5), (6, .int l6), (7, .int l7), (8, .int l8), (9, .int l9), (10, .int l10), (11, .int l11), (12, .int l12), (13, .int l13)] [] μ := by
  have a87 : hn_isA B 87 false 24 := hV 87 (by decide)
  have o72 : hn_isO B 72 8 hn_k72 := hV 72 (by decide)
  intro n
  induction n with
  | zero => intro l1 l2 l3 l4 l5 l6 l7 l8 l9 l10 l11 l12 l13 e; rw [fX8_buy_96] at e; cases e
  | succ n ih =>
    intro l1 l2 l3 l4 l5 l6 l7 l8 l9 l10 l11 l12 l13 e
    rw [fX8_buy_96] at e
    refine hn_iload hF dX8_buy_96 (q := 98) rfl 13 rfl ?_
    refine hn_iload_n hF dX8_buy_98 (q := 99) rfl 1 rfl ?_
    refine hn_icmp_ge hF dX8_buy_99 (t := 144) (q := 102) rfl rfl e (fun e => ?_) (fun e => ?_)
    · refine hn_sub [0, 1, 2, 3, 4, 5, 6, 7, 8, 9, 10, 11, 12] (L' := [(0, .ref (hn_base B + 72)), (1, .int l1), (2, .int l2), (3, .int l3), (4, .int l4), (5, .int l5), (6, .int l6), (7, .int l7), (8, .int l8), (9, .int l9), (10, .int l10), (11, .int l11), (12, .int l12)]) rfl ?_
      exact gX8_buy_144 hF hQ hV H57 H73 e
    · refine hn_aload_n hF dX8_buy_102 (q := 103) rfl 0 rfl ?_
      refine hn_get hF fl_X8_56 o72 rfl rfl dX8_buy_103 (q := 106) rfl ?_
      refine hn_iconst hF dX8_buy_106 (q := 107) rfl ki_4 ?_
      refine hn_iload hF dX8_buy_107 (q := 109) rfl 13 rfl ?_
      refine hn_imul hF dX8_buy_109 (q := 110) rfl ?_
      refine hn_iload hF dX8_buy_110 (q := 112) rfl 11 rfl ?_
      refine hn_iadd hF dX8_buy_112 (q := 113) rfl ?_
      refine hn_ald hF a87 dX8_buy_113 (q := 114) rfl e (fun v2 e => ?_)
      refine hn_iload hF dX8_buy_114 (q := 116) rfl 12 rfl ?_
      refine hn_icmp_le hF dX8_buy_116 (t := 134) (q := 119) rfl rfl e (fun e => ?_) (fun e => ?_)
      · refine hn_iload hF dX8_buy_134 (q := 136) rfl 12 rfl ?_
        refine hn_sub [0, 1, 2, 3, 4, 5, 6, 7, 8, 9, 10, 11, 13] (L' := [(0, .ref (hn_base B + 72)), (1, .int l1), (2, .int l2), (3, .int l3), (4, .int l4), (5, .int l5), (6, .int l6), (7, .int l7), (8, .int l8), (9, .int l9), (10, .int l10), (11, .int l11), (13, .int l13)]) rfl ?_
        exact gX8_buy_136 hF hQ hV H57 H73 ih e
      · refine hn_aload_n hF dX8_buy_119 (q := 120) rfl 0 rfl ?_
        refine hn_get hF fl_X8_56 o72 rfl rfl dX8_buy_120 (q := 123) rfl ?_
        refine hn_iconst hF dX8_buy_123 (q := 124) rfl ki_4 ?_
        refine hn_iload hF dX8_buy_124 (q := 126) rfl 13 rfl ?_
        refine hn_imul hF dX8_buy_126 (q := 127) rfl ?_
        refine hn_iload hF dX8_buy_127 (q := 129) rfl 11 rfl ?_
        refine hn_iadd hF dX8_buy_129 (q := 130) rfl ?_
        refine hn_ald hF a87 dX8_buy_130 (q := 131) rfl e (fun v3 e => ?_)
        refine hn_goto hF dX8_buy_131 (q := 136) rfl ?_
        refine hn_sub [0, 1, 2, 3, 4, 5, 6, 7, 8, 9, 10, 11, 13] (L' := [(0, .ref (hn_base B + 72)), (1, .int l1), (2, .int l2), (3, .int l3), (4, .int l4), (5, .int l5), (6, .int l6), (7, .int l7), (8, .int l8), (9, .int l9), (10, .int l10), (11, .int l11), (13, .int l13)]) rfl ?_
        exact gX8_buy_136 hF hQ hV H57 H73 ih e
set_option maxHeartbeats 1000000 in
theorem gX8_buy_246 {Z : hn_Z} {B : hn_B} {F : Nat} {μ : hn_M} {R : Int32} (hF : hn_F Z B (0, 0) cX8_buy 14 RX8 (some .int) 1) (hQ : hn_goal Z B (some (.int R), μ)) (hV : hn_V B hn_nA) {k57 : Int32 → Int32 → Int32 → Int32 → Int32 → Int32 → Int32 → Int32 → Option Int32} (H57 : ∀ (l1 : Int32) (l2 : Int32) (l3 : Int32) (l4 : Int32) (l5 : Int32) (l6 : Int32) (l7 : Int32) (l8 : Int32), k57 l1 l2 l3 l4 l5 l6 l7 l8 = some R → hn_G Z B (0, 0) 14 57 [(0, .ref (hn_base B + 72)), (1, .int l1), (2, .int l2), (3, .int l3), (4, .int l4), (5, .int l5), (6, .int l6), (7, .int l7), (8, .int l8)] [] μ) {l1 : Int32} {l2 : Int32} {l3 : Int32} {l4 : Int32} {l5 : Int32} {l6 : Int32} {l7 : Int32} {l8 : Int32} (e : fX8_buy_246 F μ k57 l1 l2 l3 l4 l5 l6 l7 l8 = some R) : hn_G Z B (0, 0) 14 246 [(0, .ref (hn_base B + 72)), (1, .int l1), (2, .int l2), (3, .int l3), (4, .int l4), (5, .int l5), (6, .int l6), (7, .int l7), (8, .int l8)] [] μ := by
  unfold fX8_buy_246 at e
  refine hn_iinc (p := 8) hF dX8_buy_246 (q := 249) rfl rfl (kn_1 _) (by decide) (L' := [(8, .int (l8 + 1)), (0, .ref (hn_base B + 72)), (1, .int l1), (2, .int l2), (3, .int l3), (4, .int l4), (5, .int l5), (6, .int l6), (7, .int l7)]) rfl ?_
  refine hn_goto hF dX8_buy_249 (q := 57) rfl ?_
  refine hn_sub [1, 2, 3, 4, 5, 6, 7, 8, 0] (L' := [(0, .ref (hn_base B + 72)), (1, .int l1), (2, .int l2), (3, .int l3), (4, .int l4), (5, .int l5), (6, .int l6), (7, .int l7), (8, .int (l8 + 1))]) rfl ?_
  exact H57 l1 l2 l3 l4 l5 l6 l7 (l8 + 1) e
set_option maxHeartbeats 1000000 in
theorem gX8_buy_238 {Z : hn_Z} {B : hn_B} {F : Nat} {μ : hn_M} {R : Int32} (hF : hn_F Z B (0, 0) cX8_buy 14 RX8 (some .int) 1) (hQ : hn_goal Z B (some (.int R), μ)) (hV : hn_V B hn_nA) {k57 : Int32 → Int32 → Int32 → Int32 → Int32 → Int32 → Int32 → Int32 → Option Int32} (H57 : ∀ (l1 : Int32) (l2 : Int32) (l3 : Int32) (l4 : Int32) (l5 : Int32) (l6 : Int32) (l7 : Int32) (l8 : Int32), k57 l1 l2 l3 l4 l5 l6 l7 l8 = some R → hn_G Z B (0, 0) 14 57 [(0, .ref (hn_base B + 72)), (1, .int l1), (2, .int l2), (3, .int l3), (4, .int l4), (5, .int l5), (6, .int l6), (7, .int l7), (8, .int l8)] [] μ) {l1 : Int32} {l2 : Int32} {l3 : Int32} {l4 : Int32} {l5 : Int32} {l8 : Int32} {l10 : Int32} (e : fX8_buy_238 F μ k57 l1 l2 l3 l4 l5 l8 l10 = some R) : hn_G Z B (0, 0) 14 238 [(0, .ref (hn_base B + 72)), (1, .int l1), (2, .int l2), (3, .int l3), (4, .int l4), (5, .int l5), (8, .int l8), (10, .int l10)] [] μ := by
  unfold fX8_buy_238 at e
  refine hn_iload hF dX8_buy_238 (q := 240) rfl 6 rfl ?_
  refine hn_istore hF dX8_buy_240 (q := 242) rfl (by decide) (L' := [(6, .int l8), (0, .ref (hn_base B + 72)), (1, .int l1), (2, .int l2), (3, .int l3), (4, .int l4), (5, .int l5), (8, .int l8), (10, .int l10)]) rfl ?_
  refine hn_iload hF dX8_buy_242 (q := 244) rfl 8 rfl ?_
  refine hn_istore hF dX8_buy_244 (q := 246) rfl (by decide) (L' := [(7, .int l10), (6, .int l8), (0, .ref (hn_base B + 72)), (1, .int l1), (2, .int l2), (3, .int l3), (4, .int l4), (5, .int l5), (8, .int l8), (10, .int l10)]) rfl ?_
  refine hn_sub [2, 3, 4, 5, 6, 7, 1, 0, 8] (L' := [(0, .ref (hn_base B + 72)), (1, .int l1), (2, .int l2), (3, .int l3), (4, .int l4), (5, .int l5), (6, .int l8), (7, .int l10), (8, .int l8)]) rfl ?_
  exact gX8_buy_246 hF hQ hV H57 e
set_option maxHeartbeats 1000000 in
theorem gX8_buy_224 {Z : hn_Z} {B : hn_B} {F : Nat} {μ : hn_M} {R : Int32} (hF : hn_F Z B (0, 0) cX8_buy 14 RX8 (some .int) 1) (hQ : hn_goal Z B (some (.int R), μ)) (hV : hn_V B hn_nA) {k57 : Int32 → Int32 → Int32 → Int32 → Int32 → Int32 → Int32 → Int32 → Option Int32} (H57 : ∀ (l1 : Int32) (l2 : Int32) (l3 : Int32) (l4 : Int32) (l5 : Int32) (l6 : Int32) (l7 : Int32) (l8 : Int32), k57 l1 l2 l3 l4 l5 l6 l7 l8 = some R → hn_G Z B (0, 0) 14 57 [(0, .ref (hn_base B + 72)), (1, .int l1), (2, .int l2), (3, .int l3), (4, .int l4), (5, .int l5), (6, .int l6), (7, .int l7), (8, .int l8)] [] μ) {l1 : Int32} {l2 : Int32} {l3 : Int32} {l4 : Int32} {l5 : Int32} {l6 : Int32} {l7 : Int32} {l8 : Int32} {l10 : Int32} (e : fX8_buy_224 F μ k57 l1 l2 l3 l4 l5 l6 l7 l8 l10 = some R) : hn_G Z B (0, 0) 14 224 [(0, .ref (hn_base B + 72)), (1, .int l1), (2, .int l2), (3, .int l3), (4, .int l4), (5, .int l5), (6, .int l6), (7, .int l7), (8, .int l8), (10, .int l10)] [] μ := by
  unfold fX8_buy_224 at e
  refine hn_iload hF dX8_buy_224 (q := 226) rfl 6 rfl ?_
  refine hn_bipush hF dX8_buy_226 (q := 228) rfl kb_m4 ?_
  refine hn_icmp_eq hF dX8_buy_228 (t := 238) (q := 231) rfl rfl e (fun e => ?_) (fun e => ?_)
  · refine hn_sub [0, 1, 2, 3, 4, 5, 8, 9] (L' := [(0, .ref (hn_base B + 72)), (1, .int l1), (2, .int l2), (3, .int l3), (4, .int l4), (5, .int l5), (8, .int l8), (10, .int l10)]) rfl ?_
    exact gX8_buy_238 hF hQ hV H57 e
  · refine hn_iload hF dX8_buy_231 (q := 233) rfl 9 rfl ?_
    refine hn_iload hF dX8_buy_233 (q := 235) rfl 7 rfl ?_
    refine hn_icmp_ge hF dX8_buy_235 (t := 246) (q := 238) rfl rfl e (fun e => ?_) (fun e => ?_)
    · refine hn_sub [0, 1, 2, 3, 4, 5, 6, 7, 8] (L' := [(0, .ref (hn_base B + 72)), (1, .int l1), (2, .int l2), (3, .int l3), (4, .int l4), (5, .int l5), (6, .int l6), (7, .int l7), (8, .int l8)]) rfl ?_
      exact gX8_buy_246 hF hQ hV H57 e
    · refine hn_sub [0, 1, 2, 3, 4, 5, 8, 9] (L' := [(0, .ref (hn_base B + 72)), (1, .int l1), (2, .int l2), (3, .int l3), (4, .int l4), (5, .int l5), (8, .int l8), (10, .int l10)]) rfl ?_
      exact gX8_buy_238 hF hQ hV H57 e
set_option maxHeartbeats 1000000 in
theorem gX8_buy_216 {Z : hn_Z} {B : hn_B} {F : Nat} {μ : hn_M} {R : Int32} (hF : hn_F Z B (0, 0) cX8_buy 14 RX8 (some .int) 1) (hQ : hn_goal Z B (some (.int R), μ)) (hV : hn_V B hn_nA) {k57 : Int32 → Int32 → Int32 → Int32 → Int32 → Int32 → Int32 → Int32 → Option Int32} (H57 : ∀ (l1 : Int32) (l2 : Int32) (l3 : Int32) (l4 : Int32) (l5 : Int32) (l6 : Int32) (l7 : Int32) (l8 : Int32), k57 l1 l2 l3 l4 l5 l6 l7 l8 = some R → hn_G Z B (0, 0) 14 57 [(0, .ref (hn_base B + 72)), (1, .int l1), (2, .int l2), (3, .int l3), (4, .int l4), (5, .int l5), (6, .int l6), (7, .int l7), (8, .int l8)] [] μ) {l1 : Int32} {l2 : Int32} {l3 : Int32} {l6 : Int32} {l7 : Int32} {l8 : Int32} {l9 : Int32} {l10 : Int32} (e : fX8_buy_216 F μ k57 l1 l2 l3 l6 l7 l8 l9 l10 = some R) : hn_G Z B (0, 0) 14 216 [(0, .ref (hn_base B + 72)), (1, .int l1), (2, .int l2), (3, .int l3), (6, .int l6), (7, .int l7), (8, .int l8), (9, .int l9), (10, .int l10)] [] μ := by
  unfold fX8_buy_216 at e
  refine hn_iload hF dX8_buy_216 (q := 218) rfl 6 rfl ?_
  refine hn_istore hF dX8_buy_218 (q := 220) rfl (by decide) (L' := [(4, .int l8), (0, .ref (hn_base B + 72)), (1, .int l1), (2, .int l2), (3, .int l3), (6, .int l6), (7, .int l7), (8, .int l8), (9, .int l9), (10, .int l10)]) rfl ?_
  refine hn_iload hF dX8_buy_220 (q := 222) rfl 8 rfl ?_
  refine hn_istore hF dX8_buy_222 (q := 224) rfl (by decide) (L' := [(5, .int l9), (4, .int l8), (0, .ref (hn_base B + 72)), (1, .int l1), (2, .int l2), (3, .int l3), (6, .int l6), (7, .int l7), (8, .int l8), (9, .int l9), (10, .int l10)]) rfl ?_
  refine hn_sub [2, 3, 4, 5, 1, 0, 6, 7, 8, 10] (L' := [(0, .ref (hn_base B + 72)), (1, .int l1), (2, .int l2), (3, .int l3), (4, .int l8), (5, .int l9), (6, .int l6), (7, .int l7), (8, .int l8), (10, .int l10)]) rfl ?_
  exact gX8_buy_224 hF hQ hV H57 e
set_option maxHeartbeats 1000000 in
theorem gX8_buy_202 {Z : hn_Z} {B : hn_B} {F : Nat} {μ : hn_M} {R : Int32} (hF : hn_F Z B (0, 0) cX8_buy 14 RX8 (some .int) 1) (hQ : hn_goal Z B (some (.int R), μ)) (hV : hn_V B hn_nA) {k57 : Int32 → Int32 → Int32 → Int32 → Int32 → Int32 → Int32 → Int32 → Option Int32} (H57 : ∀ (l1 : Int32) (l2 : Int32) (l3 : Int32) (l4 : Int32) (l5 : Int32) (l6 : Int32) (l7 : Int32) (l8 : Int32), k57 l1 l2 l3 l4 l5 l6 l7 l8 = some R → hn_G Z B (0, 0) 14 57 [(0, .ref (hn_base B + 72)), (1, .int l1), (2, .int l2), (3, .int l3), (4, .int l4), (5, .int l5), (6, .int l6), (7, .int l7), (8, .int l8)] [] μ) {l1 : Int32} {l2 : Int32} {l3 : Int32} {l4 : Int32} {l5 : Int32} {l6 : Int32} {l7 : Int32} {l8 : Int32} {l9 : Int32} {l10 : Int32} (e : fX8_buy_202 F μ k57 l1 l2 l3 l4 l5 l6 l7 l8 l9 l10 = some R) : hn_G Z B (0, 0) 14 202 [(0, .ref (hn_base B + 72)), (1, .int l1), (2, .int l2), (3, .int l3), (4, .int l4), (5, .int l5), (6, .int l6), (7, .int l7), (8, .int l8), (9, .int l9), (10, .int l10)] [] μ := by
  unfold fX8_buy_202 at e
  refine hn_iload hF dX8_buy_202 (q := 204) rfl 4 rfl ?_
  refine hn_bipush hF dX8_buy_204 (q := 206) rfl kb_m4 ?_
  refine hn_icmp_eq hF dX8_buy_206 (t := 216) (q := 209) rfl rfl e (fun e => ?_) (fun e => ?_)
  · refine hn_sub [0, 1, 2, 3, 6, 7, 8, 9, 10] (L' := [(0, .ref (hn_base B + 72)), (1, .int l1), (2, .int l2), (3, .int l3), (6, .int l6), (7, .int l7), (8, .int l8), (9, .int l9), (10, .int l10)]) rfl ?_
    exact gX8_buy_216 hF hQ hV H57 e
  · refine hn_iload hF dX8_buy_209 (q := 211) rfl 9 rfl ?_
    refine hn_iload hF dX8_buy_211 (q := 213) rfl 5 rfl ?_
    refine hn_icmp_le hF dX8_buy_213 (t := 224) (q := 216) rfl rfl e (fun e => ?_) (fun e => ?_)
    · refine hn_sub [0, 1, 2, 3, 4, 5, 6, 7, 8, 10] (L' := [(0, .ref (hn_base B + 72)), (1, .int l1), (2, .int l2), (3, .int l3), (4, .int l4), (5, .int l5), (6, .int l6), (7, .int l7), (8, .int l8), (10, .int l10)]) rfl ?_
      exact gX8_buy_224 hF hQ hV H57 e
    · refine hn_sub [0, 1, 2, 3, 6, 7, 8, 9, 10] (L' := [(0, .ref (hn_base B + 72)), (1, .int l1), (2, .int l2), (3, .int l3), (6, .int l6), (7, .int l7), (8, .int l8), (9, .int l9), (10, .int l10)]) rfl ?_
      exact gX8_buy_216 hF hQ hV H57 e
set_option maxHeartbeats 1000000 in
theorem gX8_buy_73 {Z : hn_Z} {B : hn_B} {F : Nat} {μ : hn_M} {R : Int32} (hF : hn_F Z B (0, 0) cX8_buy 14 RX8 (some .int) 1) (hQ : hn_goal Z B (some (.int R), μ)) (hV : hn_V B hn_nA) {k57 : Int32 → Int32 → Int32 → Int32 → Int32 → Int32 → Int32 → Int32 → Option Int32} (H57 : ∀ (l1 : Int32) (l2 : Int32) (l3 : Int32) (l4 : Int32) (l5 : Int32) (l6 : Int32) (l7 : Int32) (l8 : Int32), k57 l1 l2 l3 l4 l5 l6 l7 l8 = some R → hn_G Z B (0, 0) 14 57 [(0, .ref (hn_base B + 72)), (1, .int l1), (2, .int l2), (3, .int l3), (4, .int l4), (5, .int l5), (6, .int l6), (7, .int l7), (8, .int l8)] [] μ) : ∀ (n : Nat) (l1 : Int32) (l2 : Int32) (l3 : Int32) (l4 : Int32) (l5 : Int32) (l6 : Int32) (l7 : Int32) (l8 : Int32) (l9 : Int32) (l10 : Int32) (l11 : Int32), fX8_buy_73 F μ k57 n l1 l2 l3 l4 l5 l6 l7 l8 l9 l10 l11 = some R → hn_G Z B (0, 0) 14 73 [(0, .ref (hn_base B + 72)), (1, .int l1), (2, .int l2), (3, .int l3), (4, .int l4), (5, .int l5), (6, .int l6), (7, .int l7), (8, .int l8), (9, .int l9), (10, .int l10), (11, .int l11)] [] μ := by
  intro n
  induction n with
  | zero => intro l1 l2 l3 l4 l5 l6 l7 l8 l9 l10 l11 e; rw [fX8_buy_73] at e; cases e
  | succ n ih =>
    intro l1 l2 l3 l4 l5 l6 l7 l8 l9 l10 l11 e
    rw [fX8_buy_73] at e
    refine hn_iload hF dX8_buy_73 (q := 75) rfl 11 rfl ?_
    refine hn_iconst hF dX8_buy_75 (q := 76) rfl ki_4 ?_
    refine hn_icmp_ge hF dX8_buy_76 (t := 202) (q := 79) rfl rfl e (fun e => ?_) (fun e => ?_)
    · refine hn_sub [0, 1, 2, 3, 4, 5, 6, 7, 8, 9, 10] (L' := [(0, .ref (hn_base B + 72)), (1, .int l1), (2, .int l2), (3, .int l3), (4, .int l4), (5, .int l5), (6, .int l6), (7, .int l7), (8, .int l8), (9, .int l9), (10, .int l10)]) rfl ?_
      exact gX8_buy_202 hF hQ hV H57 e
    · refine hn_iload_n hF dX8_buy_79 (q := 80) rfl 2 rfl ?_
      refine hn_iload hF dX8_buy_80 (q := 82) rfl 11 rfl ?_
      refine hn_ishr hF dX8_buy_82 (q := 83) rfl ?_
      refine hn_iconst hF dX8_buy_83 (q := 84) rfl ki_1 ?_
      refine hn_iand hF dX8_buy_84 (q := 85) rfl ?_
      refine hn_iconst hF dX8_buy_85 (q := 86) rfl ki_1 ?_
      refine hn_icmp_ne hF dX8_buy_86 (t := 196) (q := 89) rfl rfl e (fun e => ?_) (fun e => ?_)
      · exact gX8_buy_196 hF hQ hV H57 ih e
      · refine hn_ldc hF kd_X8_153 dX8_buy_89 (q := 91) rfl ?_
        refine hn_istore hF dX8_buy_91 (q := 93) rfl (by decide) (L' := [(12, .int ((-100000))), (0, .ref (hn_base B + 72)), (1, .int l1), (2, .int l2), (3, .int l3), (4, .int l4), (5, .int l5), (6, .int l6), (7, .int l7), (8, .int l8), (9, .int l9), (10, .int l10), (11, .int l11)]) rfl ?_
        refine hn_iconst hF dX8_buy_93 (q := 94) rfl ki_0 ?_
        refine hn_istore hF dX8_buy_94 (q := 96) rfl (by decide) (L' := [(13, .int 0), (12, .int ((-100000))), (0, .ref (hn_base B + 72)), (1, .int l1), (2, .int l2), (3, .int l3), (4, .int l4), (5, .int l5), (6, .int l6), (7, .int l7), (8, .int l8), (9, .int l9), (10, .int l10), (11, .int l11)]) rfl ?_
        refine hn_sub [2, 3, 4, 5, 6, 7, 8, 9, 10, 11, 12, 13, 1, 0] (L' := [(0, .ref (hn_base B + 72)), (1, .int l1), (2, .int l2), (3, .int l3), (4, .int l4), (5, .int l5), (6, .int l6), (7, .int l7), (8, .int l8), (9, .int l9), (10, .int l10), (11, .int l11), (12, .int ((-100000))), (13, .int 0)]) rfl ?_
        exact gX8_buy_96 hF hQ hV H57 ih F l1 l2 l3 l4 l5 l6 l7 l8 l9 l10 l11 (-100000) 0 e
set_option maxHeartbeats 1000000 in
theorem gX8_buy_252 {Z : hn_Z} {B : hn_B} {F : Nat} {μ : hn_M} {R : Int32} (hF : hn_F Z B (0, 0) cX8_buy 14 RX8 (some .int) 1) (hQ : hn_goal Z B (some (.int R), μ)) (hV : hn_V B hn_nA) {l3 : Int32} {l4 : Int32} {l5 : Int32} {l6 : Int32} {l7 : Int32} (e : fX8_buy_252 F μ l3 l4 l5 l6 l7 = some R) : hn_G Z B (0, 0) 14 252 [(3, .int l3), (4, .int l4), (5, .int l5), (6, .int l6), (7, .int l7)] [] μ := by
  unfold fX8_buy_252 at e
  refine hn_iload_n hF dX8_buy_252 (q := 253) rfl 0 rfl ?_
  refine hn_if_ne hF dX8_buy_253 (t := 261) (q := 256) rfl rfl e (fun e => ?_) (fun e => ?_)
  · refine hn_iload_n hF dX8_buy_261 (q := 262) rfl 0 rfl ?_
    refine hn_iconst hF dX8_buy_262 (q := 263) rfl ki_1 ?_
    refine hn_icmp_ne hF dX8_buy_263 (t := 271) (q := 266) rfl rfl e (fun e => ?_) (fun e => ?_)
    · refine hn_iload_n hF dX8_buy_271 (q := 272) rfl 0 rfl ?_
      refine hn_iconst hF dX8_buy_272 (q := 273) rfl ki_2 ?_
      refine hn_icmp_ne hF dX8_buy_273 (t := 281) (q := 276) rfl rfl e (fun e => ?_) (fun e => ?_)
      · refine hn_iload hF dX8_buy_281 (q := 283) rfl 4 rfl ?_
        exact hn_iretP hF hQ dX8_buy_283 e
      · refine hn_iload hF dX8_buy_276 (q := 278) rfl 3 rfl ?_
        refine hn_goto hF dX8_buy_278 (q := 283) rfl ?_
        exact hn_iretP hF hQ dX8_buy_283 e
    · refine hn_iload hF dX8_buy_266 (q := 268) rfl 2 rfl ?_
      refine hn_goto hF dX8_buy_268 (q := 283) rfl ?_
      exact hn_iretP hF hQ dX8_buy_283 e
  · refine hn_iload hF dX8_buy_256 (q := 258) rfl 1 rfl ?_
    refine hn_goto hF dX8_buy_258 (q := 283) rfl ?_
    exact hn_iretP hF hQ dX8_buy_283 e
set_option maxHeartbeats 1000000 in
theorem gX8_buy_57 {Z : hn_Z} {B : hn_B} {F : Nat} {μ : hn_M} {R : Int32} (hF : hn_F Z B (0, 0) cX8_buy 14 RX8 (some .int) 1) (hQ : hn_goal Z B (some (.int R), μ)) (hV : hn_V B hn_nA) : ∀ (n : Nat) (l1 : Int32) (l2 : Int32) (l3 : Int32) (l4 : Int32) (l5 : Int32) (l6 : Int32) (l7 : Int32) (l8 : Int32), fX8_buy_57 F μ n l1 l2 l3 l4 l5 l6 l7 l8 = some R → hn_G Z B (0, 0) 14 57 [(0, .ref (hn_base B + 72)), (1, .int l1), (2, .int l2), (3, .int l3), (4, .int l4), (5, .int l5), (6, .int l6), (7, .int l7), (8, .int l8)] [] μ := by
  intro n
  induction n with
  | zero => intro l1 l2 l3 l4 l5 l6 l7 l8 e; rw [fX8_buy_57] at e; cases e
  | succ n ih =>
    intro l1 l2 l3 l4 l5 l6 l7 l8 e
    rw [fX8_buy_57] at e
    refine hn_iload hF dX8_buy_57 (q := 59) rfl 8 rfl ?_
    refine hn_iload_n hF dX8_buy_59 (q := 60) rfl 1 rfl ?_
    refine hn_icmp_ge hF dX8_buy_60 (t := 252) (q := 63) rfl rfl e (fun e => ?_) (fun e => ?_)
    · refine hn_sub [3, 4, 5, 6, 7] (L' := [(3, .int l3), (4, .int l4), (5, .int l5), (6, .int l6), (7, .int l7)]) rfl ?_
      exact gX8_buy_252 hF hQ hV e
    · refine hn_ldc hF kd_X8_230 dX8_buy_63 (q := 65) rfl ?_
      refine hn_istore hF dX8_buy_65 (q := 67) rfl (by decide) (L' := [(9, .int 100000), (0, .ref (hn_base B + 72)), (1, .int l1), (2, .int l2), (3, .int l3), (4, .int l4), (5, .int l5), (6, .int l6), (7, .int l7), (8, .int l8)]) rfl ?_
      refine hn_iconst hF dX8_buy_67 (q := 68) rfl ki_m1 ?_
      refine hn_istore hF dX8_buy_68 (q := 70) rfl (by decide) (L' := [(10, .int ((-1))), (9, .int 100000), (0, .ref (hn_base B + 72)), (1, .int l1), (2, .int l2), (3, .int l3), (4, .int l4), (5, .int l5), (6, .int l6), (7, .int l7), (8, .int l8)]) rfl ?_
      refine hn_iconst hF dX8_buy_70 (q := 71) rfl ki_0 ?_
      refine hn_istore hF dX8_buy_71 (q := 73) rfl (by decide) (L' := [(11, .int 0), (10, .int ((-1))), (9, .int 100000), (0, .ref (hn_base B + 72)), (1, .int l1), (2, .int l2), (3, .int l3), (4, .int l4), (5, .int l5), (6, .int l6), (7, .int l7), (8, .int l8)]) rfl ?_
      refine hn_sub [3, 4, 5, 6, 7, 8, 9, 10, 11, 2, 1, 0] (L' := [(0, .ref (hn_base B + 72)), (1, .int l1), (2, .int l2), (3, .int l3), (4, .int l4), (5, .int l5), (6, .int l6), (7, .int l7), (8, .int l8), (9, .int 100000), (10, .int ((-1))), (11, .int 0)]) rfl ?_
      exact gX8_buy_73 hF hQ hV ih F l1 l2 l3 l4 l5 l6 l7 l8 100000 (-1) 0 e
set_option maxHeartbeats 1000000 in
theorem gX8_buy {Z : hn_Z} {B : hn_B} {F : Nat} {μ : hn_M} {R : Int32} (hF : hn_F Z B (0, 0) cX8_buy 14 RX8 (some .int) 1) (hQ : hn_goal Z B (some (.int R), μ)) (hV : hn_V B hn_nA) {l1 : Int32} {l2 : Int32} {l3 : Int32} (e : fX8_buy F μ l1 l2 l3 = some R) : hn_G Z B (0, 0) 14 0 [(0, .ref (hn_base B + 72)), (1, .int l1), (2, .int l2), (3, .int l3)] [] μ := by
  unfold fX8_buy at e
  refine hn_iload_n hF dX8_buy_0 (q := 1) rfl 1 rfl ?_
  refine hn_i2l hF dX8_buy_1 (q := 2) rfl rfl ?_
  refine hn_lconst hF dX8_buy_2 (q := 3) rfl kl_1 ?_
  refine hn_ldc2 hF kd_X8_228 dX8_buy_3 (q := 6) rfl ?_
  refine hn_callSi (rest := []) hF ms_X8_in mt_X8_in lk_X8_79 (by decide) [.long (l1.toInt64), .long 1, .long 6] rfl (Nat.le_of_ble_eq_true rfl) dX8_buy_6 (q := 9) rfl rfl e (fun v hv => cX8_in_ hv) (fun v4 e => ?_)
  refine hn_if_eq hF dX8_buy_9 (t := 36) (q := 12) rfl rfl e (fun e => ?_) (fun e => ?_)
  · refine hn_sipush hF dX8_buy_36 (q := 39) rfl ks_m10000 ?_
    exact hn_iretP hF hQ dX8_buy_39 e
  · refine hn_iload_n hF dX8_buy_12 (q := 13) rfl 2 rfl ?_
    refine hn_i2l hF dX8_buy_13 (q := 14) rfl rfl ?_
    refine hn_lconst hF dX8_buy_14 (q := 15) rfl kl_1 ?_
    refine hn_ldc2 hF kd_X8_217 dX8_buy_15 (q := 18) rfl ?_
    refine hn_callSi (rest := []) hF ms_X8_in mt_X8_in lk_X8_79 (by decide) [.long (l2.toInt64), .long 1, .long 15] rfl (Nat.le_of_ble_eq_true rfl) dX8_buy_18 (q := 21) rfl rfl e (fun v hv => cX8_in_ hv) (fun v5 e => ?_)
    refine hn_if_eq hF dX8_buy_21 (t := 36) (q := 24) rfl rfl e (fun e => ?_) (fun e => ?_)
    · refine hn_sipush hF dX8_buy_36 (q := 39) rfl ks_m10000 ?_
      exact hn_iretP hF hQ dX8_buy_39 e
    · refine hn_iload_n hF dX8_buy_24 (q := 25) rfl 3 rfl ?_
      refine hn_i2l hF dX8_buy_25 (q := 26) rfl rfl ?_
      refine hn_lconst hF dX8_buy_26 (q := 27) rfl kl_0 ?_
      refine hn_ldc2 hF kd_X8_175 dX8_buy_27 (q := 30) rfl ?_
      refine hn_callSi (rest := []) hF ms_X8_in mt_X8_in lk_X8_79 (by decide) [.long (l3.toInt64), .long 0, .long 3] rfl (Nat.le_of_ble_eq_true rfl) dX8_buy_30 (q := 33) rfl rfl e (fun v hv => cX8_in_ hv) (fun v6 e => ?_)
      refine hn_if_ne hF dX8_buy_33 (t := 40) (q := 36) rfl rfl e (fun e => ?_) (fun e => ?_)
      · refine hn_bipush hF dX8_buy_40 (q := 42) rfl kb_m4 ?_
        refine hn_istore hF dX8_buy_42 (q := 44) rfl (by decide) (L' := [(4, .int ((-4))), (0, .ref (hn_base B + 72)), (1, .int l1), (2, .int l2), (3, .int l3)]) rfl ?_
        refine hn_iconst hF dX8_buy_44 (q := 45) rfl ki_0 ?_
        refine hn_istore hF dX8_buy_45 (q := 47) rfl (by decide) (L' := [(5, .int 0), (4, .int ((-4))), (0, .ref (hn_base B + 72)), (1, .int l1), (2, .int l2), (3, .int l3)]) rfl ?_
        refine hn_bipush hF dX8_buy_47 (q := 49) rfl kb_m4 ?_
        refine hn_istore hF dX8_buy_49 (q := 51) rfl (by decide) (L' := [(6, .int ((-4))), (5, .int 0), (4, .int ((-4))), (0, .ref (hn_base B + 72)), (1, .int l1), (2, .int l2), (3, .int l3)]) rfl ?_
        refine hn_iconst hF dX8_buy_51 (q := 52) rfl ki_0 ?_
        refine hn_istore hF dX8_buy_52 (q := 54) rfl (by decide) (L' := [(7, .int 0), (6, .int ((-4))), (5, .int 0), (4, .int ((-4))), (0, .ref (hn_base B + 72)), (1, .int l1), (2, .int l2), (3, .int l3)]) rfl ?_
        refine hn_iconst hF dX8_buy_54 (q := 55) rfl ki_0 ?_
        refine hn_istore hF dX8_buy_55 (q := 57) rfl (by decide) (L' := [(8, .int 0), (7, .int 0), (6, .int ((-4))), (5, .int 0), (4, .int ((-4))), (0, .ref (hn_base B + 72)), (1, .int l1), (2, .int l2), (3, .int l3)]) rfl ?_
        refine hn_sub [5, 6, 7, 8, 4, 3, 2, 1, 0] (L' := [(0, .ref (hn_base B + 72)), (1, .int l1), (2, .int l2), (3, .int l3), (4, .int ((-4))), (5, .int 0), (6, .int ((-4))), (7, .int 0), (8, .int 0)]) rfl ?_
        exact gX8_buy_57 hF hQ hV F l1 l2 l3 (-4) 0 (-4) 0 0 e
      · refine hn_sipush hF dX8_buy_36 (q := 39) rfl ks_m10000 ?_
        exact hn_iretP hF hQ dX8_buy_39 e
theorem cX8_buy_ {B : hn_B} {F : Nat} {μ : hn_M} {R : Int32} {l1 : Int32} {l2 : Int32} {l3 : Int32} (hV : hn_V B hn_nA) (e : fX8_buy F μ l1 l2 l3 = some R) : hn_C yX8_buy cX8_buy 14 (some .int) 1 B [.ref (hn_base B + 72), .int l1, .int l2, .int l3] μ (some (.int R), μ) :=
  hn_C.of RX8 (by decide) rfl (Nat.le_of_ble_eq_true rfl) (fun _ hF hQ => gX8_buy hF hQ hV e)
/-! HandNewsModel.copy(II)V -/
def fX8_copy_185 (F : Nat) : Nat → Int32 → Int32 → Int32 → hn_M → Option hn_M
  | 0, _, _, _, _ => none
  | n + 1, l1, l2, l3, μ => if 10 ≤ l3 then some μ else hn_rd μ 83 30 ((10 * l1) + l3) fun v1 => hn_wr μ 83 30 ((10 * l2) + l3) v1 fun μ2 => fX8_copy_185 F n l1 l2 (l3 + 1) μ2
def fX8_copy_183 (F : Nat) (l1 : Int32) (l2 : Int32) (μ : hn_M) : Option hn_M := fX8_copy_185 F F l1 l2 0 μ
def fX8_copy_149 (F : Nat) : Nat → Int32 → Int32 → Int32 → hn_M → Option hn_M
  | 0, _, _, _, _ => none
  | n + 1, l1, l2, l3, μ => if 20 ≤ l3 then fX8_copy_183 F l1 l2 μ else hn_rd μ 82 60 ((20 * l1) + l3) fun v3 => hn_wr μ 82 60 ((20 * l2) + l3) v3 fun μ4 => fX8_copy_149 F n l1 l2 (l3 + 1) μ4
def fX8_copy_147 (F : Nat) (l1 : Int32) (l2 : Int32) (μ : hn_M) : Option hn_M := fX8_copy_149 F F l1 l2 0 μ
def fX8_copy_110 (F : Nat) : Nat → Int32 → Int32 → Int32 → hn_M → Option hn_M
  | 0, _, _, _, _ => none
  | n + 1, l1, l2, l3, μ => if 180 ≤ l3 then fX8_copy_147 F l1 l2 μ else hn_rd μ 81 540 ((180 * l1) + l3) fun v5 => hn_wr μ 81 540 ((180 * l2) + l3) v5 fun μ6 => fX8_copy_110 F n l1 l2 (l3 + 1) μ6
def fX8_copy_108 (F : Nat) (l1 : Int32) (l2 : Int32) (μ : hn_M) : Option hn_M := fX8_copy_110 F F l1 l2 0 μ
def fX8_copy_74 (F : Nat) : Nat → Int32 → Int32 → Int32 → hn_M → Option hn_M
  | 0, _, _, _, _ => none
  | n + 1, l1, l2, l3, μ => if 40 ≤ l3 then fX8_copy_108 F l1 l2 μ else hn_rd μ 79 120 ((40 * l1) + l3) fun v7 => hn_wr μ 79 120 ((40 * l2) + l3) v7 fun μ8 => fX8_copy_74 F n l1 l2 (l3 + 1) μ8
def fX8_copy_72 (F : Nat) (l1 : Int32) (l2 : Int32) (μ : hn_M) : Option hn_M := fX8_copy_74 F F l1 l2 0 μ
def fX8_copy_38 (F : Nat) : Nat → Int32 → Int32 → Int32 → hn_M → Option hn_M
  | 0, _, _, _, _ => none
  | n + 1, l1, l2, l3, μ => if 36 ≤ l3 then fX8_copy_72 F l1 l2 μ else hn_rd μ 77 108 ((36 * l1) + l3) fun v9 => hn_wr μ 77 108 ((36 * l2) + l3) v9 fun μ10 => fX8_copy_38 F n l1 l2 (l3 + 1) μ10
def fX8_copy (F : Nat) (l1 : Int32) (l2 : Int32) (μ : hn_M) : Option hn_M := hn_rd μ 76 3 l1 fun v11 => hn_wr μ 76 3 l2 v11 fun μ12 => hn_rd μ12 78 3 l1 fun v13 => hn_wr μ12 78 3 l2 v13 fun μ14 => hn_rd μ14 80 3 l1 fun v15 => hn_wr μ14 80 3 l2 v15 fun μ16 => fX8_copy_38 F F l1 l2 0 μ16
set_option maxHeartbeats 1000000 in
theorem gX8_copy_185 {Z : hn_Z} {B : hn_B} {F : Nat} {R : hn_M} (hF : hn_F Z B (0, 0) cX8_copy 4 RX8 none 0) (hQ : hn_goal Z B (none, R)) (hV : hn_V B hn_nA) : ∀ (n : Nat) (l1 : Int32) (l2 : Int32) (l3 : Int32) (μ : hn_M), fX8_copy_185 F n l1 l2 l3 μ = some R → hn_G Z B (0, 0) 4 185 [(0, .ref (hn_base B + 72)), (1, .int l1), (2, .int l2), (3, .int l3)] [] μ := by
  have a83 : hn_isA B 83 false 30 := hV 83 (by decide)
  have o72 : hn_isO B 72 8 hn_k72 := hV 72 (by decide)
  intro n
  induction n with
  | zero => intro l1 l2 l3 μ e; rw [fX8_copy_185] at e; cases e
  | succ n ih =>
    intro l1 l2 l3 μ e
    rw [fX8_copy_185] at e
    refine hn_iload_n hF dX8_copy_185 (q := 186) rfl 3 rfl ?_
    refine hn_bipush hF dX8_copy_186 (q := 188) rfl kb_10 ?_
    refine hn_icmp_ge hF dX8_copy_188 (t := 219) (q := 191) rfl rfl e (fun e => ?_) (fun e => ?_)
    · exact hn_vretM hF hQ dX8_copy_219 e
    · refine hn_aload_n hF dX8_copy_191 (q := 192) rfl 0 rfl ?_
      refine hn_get hF fl_X8_40 o72 rfl rfl dX8_copy_192 (q := 195) rfl ?_
      refine hn_bipush hF dX8_copy_195 (q := 197) rfl kb_10 ?_
      refine hn_iload_n hF dX8_copy_197 (q := 198) rfl 2 rfl ?_
      refine hn_imul hF dX8_copy_198 (q := 199) rfl ?_
      refine hn_iload_n hF dX8_copy_199 (q := 200) rfl 3 rfl ?_
      refine hn_iadd hF dX8_copy_200 (q := 201) rfl ?_
      refine hn_aload_n hF dX8_copy_201 (q := 202) rfl 0 rfl ?_
      refine hn_get hF fl_X8_40 o72 rfl rfl dX8_copy_202 (q := 205) rfl ?_
      refine hn_bipush hF dX8_copy_205 (q := 207) rfl kb_10 ?_
      refine hn_iload_n hF dX8_copy_207 (q := 208) rfl 1 rfl ?_
      refine hn_imul hF dX8_copy_208 (q := 209) rfl ?_
      refine hn_iload_n hF dX8_copy_209 (q := 210) rfl 3 rfl ?_
      refine hn_iadd hF dX8_copy_210 (q := 211) rfl ?_
      refine hn_ald hF a83 dX8_copy_211 (q := 212) rfl e (fun v1 e => ?_)
      refine hn_ast hF a83 dX8_copy_212 (q := 213) rfl e (fun μ2 e => ?_)
      refine hn_iinc (p := 3) hF dX8_copy_213 (q := 216) rfl rfl (kn_1 _) (by decide) (L' := [(3, .int (l3 + 1)), (0, .ref (hn_base B + 72)), (1, .int l1), (2, .int l2)]) rfl ?_
      refine hn_goto hF dX8_copy_216 (q := 185) rfl ?_
      refine hn_sub [1, 2, 3, 0] (L' := [(0, .ref (hn_base B + 72)), (1, .int l1), (2, .int l2), (3, .int (l3 + 1))]) rfl ?_
      exact ih l1 l2 (l3 + 1) μ2 e
set_option maxHeartbeats 1000000 in
theorem gX8_copy_183 {Z : hn_Z} {B : hn_B} {F : Nat} {R : hn_M} (hF : hn_F Z B (0, 0) cX8_copy 4 RX8 none 0) (hQ : hn_goal Z B (none, R)) (hV : hn_V B hn_nA) {l1 : Int32} {l2 : Int32} {μ : hn_M} (e : fX8_copy_183 F l1 l2 μ = some R) : hn_G Z B (0, 0) 4 183 [(0, .ref (hn_base B + 72)), (1, .int l1), (2, .int l2)] [] μ := by
  unfold fX8_copy_183 at e
  refine hn_iconst hF dX8_copy_183 (q := 184) rfl ki_0 ?_
  refine hn_istore_n hF dX8_copy_184 (q := 185) rfl (i := 3) rfl (by decide) (L' := [(3, .int 0), (0, .ref (hn_base B + 72)), (1, .int l1), (2, .int l2)]) rfl ?_
  refine hn_sub [1, 2, 3, 0] (L' := [(0, .ref (hn_base B + 72)), (1, .int l1), (2, .int l2), (3, .int 0)]) rfl ?_
  exact gX8_copy_185 hF hQ hV F l1 l2 0 μ e
set_option maxHeartbeats 1000000 in
theorem gX8_copy_149 {Z : hn_Z} {B : hn_B} {F : Nat} {R : hn_M} (hF : hn_F Z B (0, 0) cX8_copy 4 RX8 none 0) (hQ : hn_goal Z B (none, R)) (hV : hn_V B hn_nA) : ∀ (n : Nat) (l1 : Int32) (l2 : Int32) (l3 : Int32) (μ : hn_M), fX8_copy_149 F n l1 l2 l3 μ = some R → hn_G Z B (0, 0) 4 149 [(0, .ref (hn_base B + 72)), (1, .int l1), (2, .int l2), (3, .int l3)] [] μ := by
  have a82 : hn_isA B 82 false 60 := hV 82 (by decide)
  have o72 : hn_isO B 72 8 hn_k72 := hV 72 (by decide)
  intro n
  induction n with
  | zero => intro l1 l2 l3 μ e; rw [fX8_copy_149] at e; cases e
  | succ n ih =>
    intro l1 l2 l3 μ e
    rw [fX8_copy_149] at e
    refine hn_iload_n hF dX8_copy_149 (q := 150) rfl 3 rfl ?_
    refine hn_bipush hF dX8_copy_150 (q := 152) rfl kb_20 ?_
    refine hn_icmp_ge hF dX8_copy_152 (t := 183) (q := 155) rfl rfl e (fun e => ?_) (fun e => ?_)
    · refine hn_sub [0, 1, 2] (L' := [(0, .ref (hn_base B + 72)), (1, .int l1), (2, .int l2)]) rfl ?_
      exact gX8_copy_183 hF hQ hV e
    · refine hn_aload_n hF dX8_copy_155 (q := 156) rfl 0 rfl ?_
      refine hn_get hF fl_X8_37 o72 rfl rfl dX8_copy_156 (q := 159) rfl ?_
      refine hn_bipush hF dX8_copy_159 (q := 161) rfl kb_20 ?_
      refine hn_iload_n hF dX8_copy_161 (q := 162) rfl 2 rfl ?_
      refine hn_imul hF dX8_copy_162 (q := 163) rfl ?_
      refine hn_iload_n hF dX8_copy_163 (q := 164) rfl 3 rfl ?_
      refine hn_iadd hF dX8_copy_164 (q := 165) rfl ?_
      refine hn_aload_n hF dX8_copy_165 (q := 166) rfl 0 rfl ?_
      refine hn_get hF fl_X8_37 o72 rfl rfl dX8_copy_166 (q := 169) rfl ?_
      refine hn_bipush hF dX8_copy_169 (q := 171) rfl kb_20 ?_
      refine hn_iload_n hF dX8_copy_171 (q := 172) rfl 1 rfl ?_
      refine hn_imul hF dX8_copy_172 (q := 173) rfl ?_
      refine hn_iload_n hF dX8_copy_173 (q := 174) rfl 3 rfl ?_
      refine hn_iadd hF dX8_copy_174 (q := 175) rfl ?_
      refine hn_ald hF a82 dX8_copy_175 (q := 176) rfl e (fun v3 e => ?_)
      refine hn_ast hF a82 dX8_copy_176 (q := 177) rfl e (fun μ4 e => ?_)
      refine hn_iinc (p := 3) hF dX8_copy_177 (q := 180) rfl rfl (kn_1 _) (by decide) (L' := [(3, .int (l3 + 1)), (0, .ref (hn_base B + 72)), (1, .int l1), (2, .int l2)]) rfl ?_
      refine hn_goto hF dX8_copy_180 (q := 149) rfl ?_
      refine hn_sub [1, 2, 3, 0] (L' := [(0, .ref (hn_base B + 72)), (1, .int l1), (2, .int l2), (3, .int (l3 + 1))]) rfl ?_
      exact ih l1 l2 (l3 + 1) μ4 e
set_option maxHeartbeats 1000000 in
theorem gX8_copy_147 {Z : hn_Z} {B : hn_B} {F : Nat} {R : hn_M} (hF : hn_F Z B (0, 0) cX8_copy 4 RX8 none 0) (hQ : hn_goal Z B (none, R)) (hV : hn_V B hn_nA) {l1 : Int32} {l2 : Int32} {μ : hn_M} (e : fX8_copy_147 F l1 l2 μ = some R) : hn_G Z B (0, 0) 4 147 [(0, .ref (hn_base B + 72)), (1, .int l1), (2, .int l2)] [] μ := by
  unfold fX8_copy_147 at e
  refine hn_iconst hF dX8_copy_147 (q := 148) rfl ki_0 ?_
  refine hn_istore_n hF dX8_copy_148 (q := 149) rfl (i := 3) rfl (by decide) (L' := [(3, .int 0), (0, .ref (hn_base B + 72)), (1, .int l1), (2, .int l2)]) rfl ?_
  refine hn_sub [1, 2, 3, 0] (L' := [(0, .ref (hn_base B + 72)), (1, .int l1), (2, .int l2), (3, .int 0)]) rfl ?_
  exact gX8_copy_149 hF hQ hV F l1 l2 0 μ e
set_option maxHeartbeats 1000000 in
theorem gX8_copy_110 {Z : hn_Z} {B : hn_B} {F : Nat} {R : hn_M} (hF : hn_F Z B (0, 0) cX8_copy 4 RX8 none 0) (hQ : hn_goal Z B (none, R)) (hV : hn_V B hn_nA) : ∀ (n : Nat) (l1 : Int32) (l2 : Int32) (l3 : Int32) (μ : hn_M), fX8_copy_110 F n l1 l2 l3 μ = some R → hn_G Z B (0, 0) 4 110 [(0, .ref (hn_base B + 72)), (1, .int l1), (2, .int l2), (3, .int l3)] [] μ := by
  have a81 : hn_isA B 81 false 540 := hV 81 (by decide)
  have o72 : hn_isO B 72 8 hn_k72 := hV 72 (by decide)
  intro n
  induction n with
  | zero => intro l1 l2 l3 μ e; rw [fX8_copy_110] at e; cases e
  | succ n ih =>
    intro l1 l2 l3 μ e
    rw [fX8_copy_110] at e
    refine hn_iload_n hF dX8_copy_110 (q := 111) rfl 3 rfl ?_
    refine hn_sipush hF dX8_copy_111 (q := 114) rfl ks_180 ?_
    refine hn_icmp_ge hF dX8_copy_114 (t := 147) (q := 117) rfl rfl e (fun e => ?_) (fun e => ?_)
    · refine hn_sub [0, 1, 2] (L' := [(0, .ref (hn_base B + 72)), (1, .int l1), (2, .int l2)]) rfl ?_
      exact gX8_copy_147 hF hQ hV e
    · refine hn_aload_n hF dX8_copy_117 (q := 118) rfl 0 rfl ?_
      refine hn_get hF fl_X8_34 o72 rfl rfl dX8_copy_118 (q := 121) rfl ?_
      refine hn_sipush hF dX8_copy_121 (q := 124) rfl ks_180 ?_
      refine hn_iload_n hF dX8_copy_124 (q := 125) rfl 2 rfl ?_
      refine hn_imul hF dX8_copy_125 (q := 126) rfl ?_
      refine hn_iload_n hF dX8_copy_126 (q := 127) rfl 3 rfl ?_
      refine hn_iadd hF dX8_copy_127 (q := 128) rfl ?_
      refine hn_aload_n hF dX8_copy_128 (q := 129) rfl 0 rfl ?_
      refine hn_get hF fl_X8_34 o72 rfl rfl dX8_copy_129 (q := 132) rfl ?_
      refine hn_sipush hF dX8_copy_132 (q := 135) rfl ks_180 ?_
      refine hn_iload_n hF dX8_copy_135 (q := 136) rfl 1 rfl ?_
      refine hn_imul hF dX8_copy_136 (q := 137) rfl ?_
      refine hn_iload_n hF dX8_copy_137 (q := 138) rfl 3 rfl ?_
      refine hn_iadd hF dX8_copy_138 (q := 139) rfl ?_
      refine hn_ald hF a81 dX8_copy_139 (q := 140) rfl e (fun v5 e => ?_)
      refine hn_ast hF a81 dX8_copy_140 (q := 141) rfl e (fun μ6 e => ?_)
      refine hn_iinc (p := 3) hF dX8_copy_141 (q := 144) rfl rfl (kn_1 _) (by decide) (L' := [(3, .int (l3 + 1)), (0, .ref (hn_base B + 72)), (1, .int l1), (2, .int l2)]) rfl ?_
      refine hn_goto hF dX8_copy_144 (q := 110) rfl ?_
      refine hn_sub [1, 2, 3, 0] (L' := [(0, .ref (hn_base B + 72)), (1, .int l1), (2, .int l2), (3, .int (l3 + 1))]) rfl ?_
      exact ih l1 l2 (l3 + 1) μ6 e
set_option maxHeartbeats 1000000 in
theorem gX8_copy_108 {Z : hn_Z} {B : hn_B} {F : Nat} {R : hn_M} (hF : hn_F Z B (0, 0) cX8_copy 4 RX8 none 0) (hQ : hn_goal Z B (none, R)) (hV : hn_V B hn_nA) {l1 : Int32} {l2 : Int32} {μ : hn_M} (e : fX8_copy_108 F l1 l2 μ = some R) : hn_G Z B (0, 0) 4 108 [(0, .ref (hn_base B + 72)), (1, .int l1), (2, .int l2)] [] μ := by
  unfold fX8_copy_108 at e
  refine hn_iconst hF dX8_copy_108 (q := 109) rfl ki_0 ?_
  refine hn_istore_n hF dX8_copy_109 (q := 110) rfl (i := 3) rfl (by decide) (L' := [(3, .int 0), (0, .ref (hn_base B + 72)), (1, .int l1), (2, .int l2)]) rfl ?_
  refine hn_sub [1, 2, 3, 0] (L' := [(0, .ref (hn_base B + 72)), (1, .int l1), (2, .int l2), (3, .int 0)]) rfl ?_
  exact gX8_copy_110 hF hQ hV F l1 l2 0 μ e
set_option maxHeartbeats 1000000 in
theorem gX8_copy_74 {Z : hn_Z} {B : hn_B} {F : Nat} {R : hn_M} (hF : hn_F Z B (0, 0) cX8_copy 4 RX8 none 0) (hQ : hn_goal Z B (none, R)) (hV : hn_V B hn_nA) : ∀ (n : Nat) (l1 : Int32) (l2 : Int32) (l3 : Int32) (μ : hn_M), fX8_copy_74 F n l1 l2 l3 μ = some R → hn_G Z B (0, 0) 4 74 [(0, .ref (hn_base B + 72)), (1, .int l1), (2, .int l2), (3, .int l3)] [] μ := by
  have a79 : hn_isA B 79 false 120 := hV 79 (by decide)
  have o72 : hn_isO B 72 8 hn_k72 := hV 72 (by decide)
  intro n
  induction n with
  | zero => intro l1 l2 l3 μ e; rw [fX8_copy_74] at e; cases e
  | succ n ih =>
    intro l1 l2 l3 μ e
    rw [fX8_copy_74] at e
    refine hn_iload_n hF dX8_copy_74 (q := 75) rfl 3 rfl ?_
    refine hn_bipush hF dX8_copy_75 (q := 77) rfl kb_40 ?_
    refine hn_icmp_ge hF dX8_copy_77 (t := 108) (q := 80) rfl rfl e (fun e => ?_) (fun e => ?_)
    · refine hn_sub [0, 1, 2] (L' := [(0, .ref (hn_base B + 72)), (1, .int l1), (2, .int l2)]) rfl ?_
      exact gX8_copy_108 hF hQ hV e
    · refine hn_aload_n hF dX8_copy_80 (q := 81) rfl 0 rfl ?_
      refine hn_get hF fl_X8_28 o72 rfl rfl dX8_copy_81 (q := 84) rfl ?_
      refine hn_bipush hF dX8_copy_84 (q := 86) rfl kb_40 ?_
      refine hn_iload_n hF dX8_copy_86 (q := 87) rfl 2 rfl ?_
      refine hn_imul hF dX8_copy_87 (q := 88) rfl ?_
      refine hn_iload_n hF dX8_copy_88 (q := 89) rfl 3 rfl ?_
      refine hn_iadd hF dX8_copy_89 (q := 90) rfl ?_
      refine hn_aload_n hF dX8_copy_90 (q := 91) rfl 0 rfl ?_
      refine hn_get hF fl_X8_28 o72 rfl rfl dX8_copy_91 (q := 94) rfl ?_
      refine hn_bipush hF dX8_copy_94 (q := 96) rfl kb_40 ?_
      refine hn_iload_n hF dX8_copy_96 (q := 97) rfl 1 rfl ?_
      refine hn_imul hF dX8_copy_97 (q := 98) rfl ?_
      refine hn_iload_n hF dX8_copy_98 (q := 99) rfl 3 rfl ?_
      refine hn_iadd hF dX8_copy_99 (q := 100) rfl ?_
      refine hn_ald hF a79 dX8_copy_100 (q := 101) rfl e (fun v7 e => ?_)
      refine hn_ast hF a79 dX8_copy_101 (q := 102) rfl e (fun μ8 e => ?_)
      refine hn_iinc (p := 3) hF dX8_copy_102 (q := 105) rfl rfl (kn_1 _) (by decide) (L' := [(3, .int (l3 + 1)), (0, .ref (hn_base B + 72)), (1, .int l1), (2, .int l2)]) rfl ?_
      refine hn_goto hF dX8_copy_105 (q := 74) rfl ?_
      refine hn_sub [1, 2, 3, 0] (L' := [(0, .ref (hn_base B + 72)), (1, .int l1), (2, .int l2), (3, .int (l3 + 1))]) rfl ?_
      exact ih l1 l2 (l3 + 1) μ8 e
set_option maxHeartbeats 1000000 in
theorem gX8_copy_72 {Z : hn_Z} {B : hn_B} {F : Nat} {R : hn_M} (hF : hn_F Z B (0, 0) cX8_copy 4 RX8 none 0) (hQ : hn_goal Z B (none, R)) (hV : hn_V B hn_nA) {l1 : Int32} {l2 : Int32} {μ : hn_M} (e : fX8_copy_72 F l1 l2 μ = some R) : hn_G Z B (0, 0) 4 72 [(0, .ref (hn_base B + 72)), (1, .int l1), (2, .int l2)] [] μ := by
  unfold fX8_copy_72 at e
  refine hn_iconst hF dX8_copy_72 (q := 73) rfl ki_0 ?_
  refine hn_istore_n hF dX8_copy_73 (q := 74) rfl (i := 3) rfl (by decide) (L' := [(3, .int 0), (0, .ref (hn_base B + 72)), (1, .int l1), (2, .int l2)]) rfl ?_
  refine hn_sub [1, 2, 3, 0] (L' := [(0, .ref (hn_base B + 72)), (1, .int l1), (2, .int l2), (3, .int 0)]) rfl ?_
  exact gX8_copy_74 hF hQ hV F l1 l2 0 μ e
set_option maxHeartbeats 1000000 in
theorem gX8_copy_38 {Z : hn_Z} {B : hn_B} {F : Nat} {R : hn_M} (hF : hn_F Z B (0, 0) cX8_copy 4 RX8 none 0) (hQ : hn_goal Z B (none, R)) (hV : hn_V B hn_nA) : ∀ (n : Nat) (l1 : Int32) (l2 : Int32) (l3 : Int32) (μ : hn_M), fX8_copy_38 F n l1 l2 l3 μ = some R → hn_G Z B (0, 0) 4 38 [(0, .ref (hn_base B + 72)), (1, .int l1), (2, .int l2), (3, .int l3)] [] μ := by
  have a77 : hn_isA B 77 false 108 := hV 77 (by decide)
  have o72 : hn_isO B 72 8 hn_k72 := hV 72 (by decide)
  intro n
  induction n with
  | zero => intro l1 l2 l3 μ e; rw [fX8_copy_38] at e; cases e
  | succ n ih =>
    intro l1 l2 l3 μ e
    rw [fX8_copy_38] at e
    refine hn_iload_n hF dX8_copy_38 (q := 39) rfl 3 rfl ?_
    refine hn_bipush hF dX8_copy_39 (q := 41) rfl kb_36 ?_
    refine hn_icmp_ge hF dX8_copy_41 (t := 72) (q := 44) rfl rfl e (fun e => ?_) (fun e => ?_)
    · refine hn_sub [0, 1, 2] (L' := [(0, .ref (hn_base B + 72)), (1, .int l1), (2, .int l2)]) rfl ?_
      exact gX8_copy_72 hF hQ hV e
    · refine hn_aload_n hF dX8_copy_44 (q := 45) rfl 0 rfl ?_
      refine hn_get hF fl_X8_22 o72 rfl rfl dX8_copy_45 (q := 48) rfl ?_
      refine hn_bipush hF dX8_copy_48 (q := 50) rfl kb_36 ?_
      refine hn_iload_n hF dX8_copy_50 (q := 51) rfl 2 rfl ?_
      refine hn_imul hF dX8_copy_51 (q := 52) rfl ?_
      refine hn_iload_n hF dX8_copy_52 (q := 53) rfl 3 rfl ?_
      refine hn_iadd hF dX8_copy_53 (q := 54) rfl ?_
      refine hn_aload_n hF dX8_copy_54 (q := 55) rfl 0 rfl ?_
      refine hn_get hF fl_X8_22 o72 rfl rfl dX8_copy_55 (q := 58) rfl ?_
      refine hn_bipush hF dX8_copy_58 (q := 60) rfl kb_36 ?_
      refine hn_iload_n hF dX8_copy_60 (q := 61) rfl 1 rfl ?_
      refine hn_imul hF dX8_copy_61 (q := 62) rfl ?_
      refine hn_iload_n hF dX8_copy_62 (q := 63) rfl 3 rfl ?_
      refine hn_iadd hF dX8_copy_63 (q := 64) rfl ?_
      refine hn_ald hF a77 dX8_copy_64 (q := 65) rfl e (fun v9 e => ?_)
      refine hn_ast hF a77 dX8_copy_65 (q := 66) rfl e (fun μ10 e => ?_)
      refine hn_iinc (p := 3) hF dX8_copy_66 (q := 69) rfl rfl (kn_1 _) (by decide) (L' := [(3, .int (l3 + 1)), (0, .ref (hn_base B + 72)), (1, .int l1), (2, .int l2)]) rfl ?_
      refine hn_goto hF dX8_copy_69 (q := 38) rfl ?_
      refine hn_sub [1, 2, 3, 0] (L' := [(0, .ref (hn_base B + 72)), (1, .int l1), (2, .int l2), (3, .int (l3 + 1))]) rfl ?_
      exact ih l1 l2 (l3 + 1) μ10 e
set_option maxHeartbeats 1000000 in
theorem gX8_copy {Z : hn_Z} {B : hn_B} {F : Nat} {R : hn_M} (hF : hn_F Z B (0, 0) cX8_copy 4 RX8 none 0) (hQ : hn_goal Z B (none, R)) (hV : hn_V B hn_nA) {l1 : Int32} {l2 : Int32} {μ : hn_M} (e : fX8_copy F l1 l2 μ = some R) : hn_G Z B (0, 0) 4 0 [(0, .ref (hn_base B + 72)), (1, .int l1), (2, .int l2)] [] μ := by
  unfold fX8_copy at e
  have a76 : hn_isA B 76 false 3 := hV 76 (by decide)
  have a78 : hn_isA B 78 false 3 := hV 78 (by decide)
  have a80 : hn_isA B 80 false 3 := hV 80 (by decide)
  have o72 : hn_isO B 72 8 hn_k72 := hV 72 (by decide)
  refine hn_aload_n hF dX8_copy_0 (q := 1) rfl 0 rfl ?_
  refine hn_get hF fl_X8_19 o72 rfl rfl dX8_copy_1 (q := 4) rfl ?_
  refine hn_iload_n hF dX8_copy_4 (q := 5) rfl 2 rfl ?_
  refine hn_aload_n hF dX8_copy_5 (q := 6) rfl 0 rfl ?_
  refine hn_get hF fl_X8_19 o72 rfl rfl dX8_copy_6 (q := 9) rfl ?_
  refine hn_iload_n hF dX8_copy_9 (q := 10) rfl 1 rfl ?_
  refine hn_ald hF a76 dX8_copy_10 (q := 11) rfl e (fun v11 e => ?_)
  refine hn_ast hF a76 dX8_copy_11 (q := 12) rfl e (fun μ12 e => ?_)
  refine hn_aload_n hF dX8_copy_12 (q := 13) rfl 0 rfl ?_
  refine hn_get hF fl_X8_25 o72 rfl rfl dX8_copy_13 (q := 16) rfl ?_
  refine hn_iload_n hF dX8_copy_16 (q := 17) rfl 2 rfl ?_
  refine hn_aload_n hF dX8_copy_17 (q := 18) rfl 0 rfl ?_
  refine hn_get hF fl_X8_25 o72 rfl rfl dX8_copy_18 (q := 21) rfl ?_
  refine hn_iload_n hF dX8_copy_21 (q := 22) rfl 1 rfl ?_
  refine hn_ald hF a78 dX8_copy_22 (q := 23) rfl e (fun v13 e => ?_)
  refine hn_ast hF a78 dX8_copy_23 (q := 24) rfl e (fun μ14 e => ?_)
  refine hn_aload_n hF dX8_copy_24 (q := 25) rfl 0 rfl ?_
  refine hn_get hF fl_X8_31 o72 rfl rfl dX8_copy_25 (q := 28) rfl ?_
  refine hn_iload_n hF dX8_copy_28 (q := 29) rfl 2 rfl ?_
  refine hn_aload_n hF dX8_copy_29 (q := 30) rfl 0 rfl ?_
  refine hn_get hF fl_X8_31 o72 rfl rfl dX8_copy_30 (q := 33) rfl ?_
  refine hn_iload_n hF dX8_copy_33 (q := 34) rfl 1 rfl ?_
  refine hn_ald hF a80 dX8_copy_34 (q := 35) rfl e (fun v15 e => ?_)
  refine hn_ast hF a80 dX8_copy_35 (q := 36) rfl e (fun μ16 e => ?_)
  refine hn_iconst hF dX8_copy_36 (q := 37) rfl ki_0 ?_
  refine hn_istore_n hF dX8_copy_37 (q := 38) rfl (i := 3) rfl (by decide) (L' := [(3, .int 0), (0, .ref (hn_base B + 72)), (1, .int l1), (2, .int l2)]) rfl ?_
  refine hn_sub [1, 2, 3, 0] (L' := [(0, .ref (hn_base B + 72)), (1, .int l1), (2, .int l2), (3, .int 0)]) rfl ?_
  exact gX8_copy_38 hF hQ hV F l1 l2 0 μ16 e
theorem cX8_copy_ {B : hn_B} {F : Nat} {μ : hn_M} {R : hn_M} {l1 : Int32} {l2 : Int32} (hV : hn_V B hn_nA) (e : fX8_copy F l1 l2 μ = some R) : hn_C yX8_copy cX8_copy 4 none 0 B [.ref (hn_base B + 72), .int l1, .int l2] μ (none, R) :=
  hn_C.of RX8 (by decide) rfl (Nat.le_of_ble_eq_true rfl) (fun _ hF hQ => gX8_copy hF hQ hV e)
/-! HandNewsModel.keep()I -/
def fX8_keep (F : Nat) (μ : hn_M) : Option (Int32 × hn_M) := if μ 72 11 = 2 then some ((-3), μ) else (fX8_copy F 0 (1 + (μ 72 11)) μ).bind fun μ1 => hn_pf μ1 72 11 ((μ1 72 11) + 1) fun μ2 => some (μ2 72 11, μ2)
set_option maxHeartbeats 1000000 in
theorem gX8_keep {Z : hn_Z} {B : hn_B} {F : Nat} {R : Int32 × hn_M} (hF : hn_F Z B (0, 0) cX8_keep 1 RX8 (some .int) 1) (hQ : hn_goal Z B (some (.int R.1), R.2)) (hV : hn_V B hn_nA) {μ : hn_M} (e : fX8_keep F μ = some R) : hn_G Z B (0, 0) 1 0 [(0, .ref (hn_base B + 72))] [] μ := by
  unfold fX8_keep at e
  have o72 : hn_isO B 72 8 hn_k72 := hV 72 (by decide)
  refine hn_aload_n hF dX8_keep_0 (q := 1) rfl 0 rfl ?_
  refine hn_get hF fl_X8_231 o72 rfl rfl dX8_keep_1 (q := 4) rfl ?_
  refine hn_iconst hF dX8_keep_4 (q := 5) rfl ki_2 ?_
  refine hn_icmp_ne hF dX8_keep_5 (t := 11) (q := 8) rfl rfl e (fun e => ?_) (fun e => ?_)
  · refine hn_aload_n hF dX8_keep_11 (q := 12) rfl 0 rfl ?_
    refine hn_iconst hF dX8_keep_12 (q := 13) rfl ki_0 ?_
    refine hn_iconst hF dX8_keep_13 (q := 14) rfl ki_1 ?_
    refine hn_aload_n hF dX8_keep_14 (q := 15) rfl 0 rfl ?_
    refine hn_get hF fl_X8_231 o72 rfl rfl dX8_keep_15 (q := 18) rfl ?_
    refine hn_iadd hF dX8_keep_18 (q := 19) rfl ?_
    refine hn_callVv (rest := []) hF ms_X8_copy mv_X8_copy lk_X8_234 o72 rfl (by decide) [.int 0, .int (1 + (μ 72 11))] rfl (Nat.le_of_ble_eq_true rfl) dX8_keep_19 (q := 22) rfl rfl e (fun v hv => cX8_copy_ hV hv) (fun μ1 e => ?_)
    refine hn_aload_n hF dX8_keep_22 (q := 23) rfl 0 rfl ?_
    refine hn_dup hF dX8_keep_23 (q := 24) rfl rfl ?_
    refine hn_get hF fl_X8_231 o72 rfl rfl dX8_keep_24 (q := 27) rfl ?_
    refine hn_iconst hF dX8_keep_27 (q := 28) rfl ki_1 ?_
    refine hn_iadd hF dX8_keep_28 (q := 29) rfl ?_
    refine hn_put hF fl_X8_231 fp_X8_11 o72 rfl rfl rfl rfl dX8_keep_29 (q := 32) rfl e (fun μ2 e => ?_)
    refine hn_aload_n hF dX8_keep_32 (q := 33) rfl 0 rfl ?_
    refine hn_get hF fl_X8_231 o72 rfl rfl dX8_keep_33 (q := 36) rfl ?_
    exact hn_iretM hF hQ dX8_keep_36 e
  · refine hn_bipush hF dX8_keep_8 (q := 10) rfl kb_m3 ?_
    exact hn_iretM hF hQ dX8_keep_10 e
theorem cX8_keep_ {B : hn_B} {F : Nat} {μ : hn_M} {R : Int32 × hn_M} (hV : hn_V B hn_nA) (e : fX8_keep F μ = some R) : hn_C yX8_keep cX8_keep 1 (some .int) 1 B [.ref (hn_base B + 72)] μ (some (.int R.1), R.2) :=
  hn_C.of RX8 (by decide) rfl (Nat.le_of_ble_eq_true rfl) (fun _ hF hQ => gX8_keep hF hQ hV e)
/-! HandNewsModel.back()I -/
def fX8_back (F : Nat) (μ : hn_M) : Option (Int32 × hn_M) := if μ 72 11 = 0 then some ((-2), μ) else hn_pf μ 72 11 ((μ 72 11) - 1) fun μ1 => (fX8_copy F (1 + (μ1 72 11)) 0 μ1).bind fun μ2 => some (μ2 72 11, μ2)
set_option maxHeartbeats 1000000 in
theorem gX8_back {Z : hn_Z} {B : hn_B} {F : Nat} {R : Int32 × hn_M} (hF : hn_F Z B (0, 0) cX8_back 1 RX8 (some .int) 1) (hQ : hn_goal Z B (some (.int R.1), R.2)) (hV : hn_V B hn_nA) {μ : hn_M} (e : fX8_back F μ = some R) : hn_G Z B (0, 0) 1 0 [(0, .ref (hn_base B + 72))] [] μ := by
  unfold fX8_back at e
  have o72 : hn_isO B 72 8 hn_k72 := hV 72 (by decide)
  refine hn_aload_n hF dX8_back_0 (q := 1) rfl 0 rfl ?_
  refine hn_get hF fl_X8_231 o72 rfl rfl dX8_back_1 (q := 4) rfl ?_
  refine hn_if_ne hF dX8_back_4 (t := 10) (q := 7) rfl rfl e (fun e => ?_) (fun e => ?_)
  · refine hn_aload_n hF dX8_back_10 (q := 11) rfl 0 rfl ?_
    refine hn_dup hF dX8_back_11 (q := 12) rfl rfl ?_
    refine hn_get hF fl_X8_231 o72 rfl rfl dX8_back_12 (q := 15) rfl ?_
    refine hn_iconst hF dX8_back_15 (q := 16) rfl ki_1 ?_
    refine hn_isub hF dX8_back_16 (q := 17) rfl ?_
    refine hn_put hF fl_X8_231 fp_X8_11 o72 rfl rfl rfl rfl dX8_back_17 (q := 20) rfl e (fun μ1 e => ?_)
    refine hn_aload_n hF dX8_back_20 (q := 21) rfl 0 rfl ?_
    refine hn_iconst hF dX8_back_21 (q := 22) rfl ki_1 ?_
    refine hn_aload_n hF dX8_back_22 (q := 23) rfl 0 rfl ?_
    refine hn_get hF fl_X8_231 o72 rfl rfl dX8_back_23 (q := 26) rfl ?_
    refine hn_iadd hF dX8_back_26 (q := 27) rfl ?_
    refine hn_iconst hF dX8_back_27 (q := 28) rfl ki_0 ?_
    refine hn_callVv (rest := []) hF ms_X8_copy mv_X8_copy lk_X8_234 o72 rfl (by decide) [.int (1 + (μ1 72 11)), .int 0] rfl (Nat.le_of_ble_eq_true rfl) dX8_back_28 (q := 31) rfl rfl e (fun v hv => cX8_copy_ hV hv) (fun μ2 e => ?_)
    refine hn_aload_n hF dX8_back_31 (q := 32) rfl 0 rfl ?_
    refine hn_get hF fl_X8_231 o72 rfl rfl dX8_back_32 (q := 35) rfl ?_
    exact hn_iretM hF hQ dX8_back_35 e
  · refine hn_bipush hF dX8_back_7 (q := 9) rfl kb_m2 ?_
    exact hn_iretM hF hQ dX8_back_9 e
theorem cX8_back_ {B : hn_B} {F : Nat} {μ : hn_M} {R : Int32 × hn_M} (hV : hn_V B hn_nA) (e : fX8_back F μ = some R) : hn_C yX8_back cX8_back 1 (some .int) 1 B [.ref (hn_base B + 72)] μ (some (.int R.1), R.2) :=
  hn_C.of RX8 (by decide) rfl (Nat.le_of_ble_eq_true rfl) (fun _ hF hQ => gX8_back hF hQ hV e)
/-! HandNewsModel.count(I)I -/
def fX8_count_91 (F : Nat) (μ : hn_M) (k68 : Int32 → Int32 → Option Int32) (l3 : Int32) (s0 : Int32) (s1 : Int32) : Option Int32 := k68 (s1 + s0) (l3 + 1)
def fX8_count_68 (F : Nat) (μ : hn_M) : Nat → Int32 → Int32 → Option Int32
  | 0, _, _ => none
  | n + 1, l2, l3 => if 10 ≤ l3 then some l2 else hn_rd μ 82 60 (2 * l3) fun v1 => if v1 < 0 then fX8_count_91 F μ (fX8_count_68 F μ n) l3 0 l2 else fX8_count_91 F μ (fX8_count_68 F μ n) l3 1 l2
def fX8_count_131 (F : Nat) (μ : hn_M) (k110 : Int32 → Int32 → Option Int32) (l3 : Int32) (s0 : Int32) (s1 : Int32) : Option Int32 := k110 (s1 + s0) (l3 + 1)
def fX8_count_110 (F : Nat) (μ : hn_M) : Nat → Int32 → Int32 → Option Int32
  | 0, _, _ => none
  | n + 1, l2, l3 => if 10 ≤ l3 then some l2 else hn_rd μ 83 30 l3 fun v2 => if v2 < 0 then fX8_count_131 F μ (fX8_count_110 F μ n) l3 0 l2 else fX8_count_131 F μ (fX8_count_110 F μ n) l3 1 l2
def fX8_count_181 (F : Nat) (μ : hn_M) (k160 : Int32 → Int32 → Option Int32) (l3 : Int32) (s0 : Int32) (s1 : Int32) : Option Int32 := k160 (s1 + s0) (l3 + 1)
def fX8_count_160 (F : Nat) (μ : hn_M) : Nat → Int32 → Int32 → Option Int32
  | 0, _, _ => none
  | n + 1, l2, l3 => if 36 ≤ l3 then some l2 else hn_rd μ 73 36 l3 fun v3 => if v3 ≤ 0 then fX8_count_181 F μ (fX8_count_160 F μ n) l3 0 l2 else fX8_count_181 F μ (fX8_count_160 F μ n) l3 1 l2
def fX8_count (F : Nat) (μ : hn_M) (l1 : Int32) : Option Int32 := if l1 = 0 then hn_rd μ 76 3 0 fun v4 => some v4 else if l1 = 1 then hn_rd μ 78 3 0 fun v5 => some v5 else if l1 = 2 then fX8_count_68 F μ F 0 0 else if l1 = 3 then hn_rd μ 80 3 0 fun v6 => some v6 else if l1 = 4 then fX8_count_110 F μ F 0 0 else if l1 = 5 then some (μ 72 14) else if l1 = 6 then hn_rd μ 85 2 1 fun v7 => some v7 else if l1 = 7 then some (μ 72 11) else if l1 = 8 then fX8_count_160 F μ F 0 0 else some (-1)
set_option maxHeartbeats 1000000 in
theorem gX8_count_91 {Z : hn_Z} {B : hn_B} {F : Nat} {μ : hn_M} {R : Int32} (hF : hn_F Z B (0, 0) cX8_count 4 RX8 (some .int) 0) (hQ : hn_goal Z B (some (.int R), μ)) (hV : hn_V B hn_nA) {k68 : Int32 → Int32 → Option Int32} (H68 : ∀ (l2 : Int32) (l3 : Int32), k68 l2 l3 = some R → hn_G Z B (0, 0) 4 68 [(0, .ref (hn_base B + 72)), (2, .int l2), (3, .int l3)] [] μ) {l3 : Int32} {s0 : Int32} {s1 : Int32} (e : fX8_count_91 F μ k68 l3 s0 s1 = some R) : hn_G Z B (0, 0) 4 91 [(0, .ref (hn_base B + 72)), (3, .int l3)] [.int s0, .int s1] μ := by
  unfold fX8_count_91 at e
  refine hn_iadd hF dX8_count_91 (q := 92) rfl ?_
  refine hn_istore_n hF dX8_count_92 (q := 93) rfl (i := 2) rfl (by decide) (L' := [(2, .int (s1 + s0)), (0, .ref (hn_base B + 72)), (3, .int l3)]) rfl ?_
  refine hn_iinc (p := 2) hF dX8_count_93 (q := 96) rfl rfl (kn_1 _) (by decide) (L' := [(3, .int (l3 + 1)), (2, .int (s1 + s0)), (0, .ref (hn_base B + 72))]) rfl ?_
  refine hn_goto hF dX8_count_96 (q := 68) rfl ?_
  refine hn_sub [2, 1, 0] (L' := [(0, .ref (hn_base B + 72)), (2, .int (s1 + s0)), (3, .int (l3 + 1))]) rfl ?_
  exact H68 (s1 + s0) (l3 + 1) e
set_option maxHeartbeats 1000000 in
theorem gX8_count_68 {Z : hn_Z} {B : hn_B} {F : Nat} {μ : hn_M} {R : Int32} (hF : hn_F Z B (0, 0) cX8_count 4 RX8 (some .int) 0) (hQ : hn_goal Z B (some (.int R), μ)) (hV : hn_V B hn_nA) : ∀ (n : Nat) (l2 : Int32) (l3 : Int32), fX8_count_68 F μ n l2 l3 = some R → hn_G Z B (0, 0) 4 68 [(0, .ref (hn_base B + 72)), (2, .int l2), (3, .int l3)] [] μ := by
  have a82 : hn_isA B 82 false 60 := hV 82 (by decide)
  have o72 : hn_isO B 72 8 hn_k72 := hV 72 (by decide)
  intro n
  induction n with
  | zero => intro l2 l3 e; rw [fX8_count_68] at e; cases e
  | succ n ih =>
    intro l2 l3 e
    rw [fX8_count_68] at e
    refine hn_iload_n hF dX8_count_68 (q := 69) rfl 2 rfl ?_
    refine hn_bipush hF dX8_count_69 (q := 71) rfl kb_10 ?_
    refine hn_icmp_ge hF dX8_count_71 (t := 99) (q := 74) rfl rfl e (fun e => ?_) (fun e => ?_)
    · refine hn_iload_n hF dX8_count_99 (q := 100) rfl 1 rfl ?_
      exact hn_iretP hF hQ dX8_count_100 e
    · refine hn_iload_n hF dX8_count_74 (q := 75) rfl 1 rfl ?_
      refine hn_aload_n hF dX8_count_75 (q := 76) rfl 0 rfl ?_
      refine hn_get hF fl_X8_37 o72 rfl rfl dX8_count_76 (q := 79) rfl ?_
      refine hn_iconst hF dX8_count_79 (q := 80) rfl ki_2 ?_
      refine hn_iload_n hF dX8_count_80 (q := 81) rfl 2 rfl ?_
      refine hn_imul hF dX8_count_81 (q := 82) rfl ?_
      refine hn_ald hF a82 dX8_count_82 (q := 83) rfl e (fun v1 e => ?_)
      refine hn_if_lt hF dX8_count_83 (t := 90) (q := 86) rfl rfl e (fun e => ?_) (fun e => ?_)
      · refine hn_iconst hF dX8_count_90 (q := 91) rfl ki_0 ?_
        refine hn_sub [0, 2] (L' := [(0, .ref (hn_base B + 72)), (3, .int l3)]) rfl ?_
        exact gX8_count_91 hF hQ hV ih e
      · refine hn_iconst hF dX8_count_86 (q := 87) rfl ki_1 ?_
        refine hn_goto hF dX8_count_87 (q := 91) rfl ?_
        refine hn_sub [0, 2] (L' := [(0, .ref (hn_base B + 72)), (3, .int l3)]) rfl ?_
        exact gX8_count_91 hF hQ hV ih e
set_option maxHeartbeats 1000000 in
theorem gX8_count_131 {Z : hn_Z} {B : hn_B} {F : Nat} {μ : hn_M} {R : Int32} (hF : hn_F Z B (0, 0) cX8_count 4 RX8 (some .int) 0) (hQ : hn_goal Z B (some (.int R), μ)) (hV : hn_V B hn_nA) {k110 : Int32 → Int32 → Option Int32} (H110 : ∀ (l2 : Int32) (l3 : Int32), k110 l2 l3 = some R → hn_G Z B (0, 0) 4 110 [(0, .ref (hn_base B + 72)), (2, .int l2), (3, .int l3)] [] μ) {l3 : Int32} {s0 : Int32} {s1 : Int32} (e : fX8_count_131 F μ k110 l3 s0 s1 = some R) : hn_G Z B (0, 0) 4 131 [(0, .ref (hn_base B + 72)), (3, .int l3)] [.int s0, .int s1] μ := by
  unfold fX8_count_131 at e
  refine hn_iadd hF dX8_count_131 (q := 132) rfl ?_
  refine hn_istore_n hF dX8_count_132 (q := 133) rfl (i := 2) rfl (by decide) (L' := [(2, .int (s1 + s0)), (0, .ref (hn_base B + 72)), (3, .int l3)]) rfl ?_
  refine hn_iinc (p := 2) hF dX8_count_133 (q := 136) rfl rfl (kn_1 _) (by decide) (L' := [(3, .int (l3 + 1)), (2, .int (s1 + s0)), (0, .ref (hn_base B + 72))]) rfl ?_
  refine hn_goto hF dX8_count_136 (q := 110) rfl ?_
  refine hn_sub [2, 1, 0] (L' := [(0, .ref (hn_base B + 72)), (2, .int (s1 + s0)), (3, .int (l3 + 1))]) rfl ?_
  exact H110 (s1 + s0) (l3 + 1) e
set_option maxHeartbeats 1000000 in
theorem gX8_count_110 {Z : hn_Z} {B : hn_B} {F : Nat} {μ : hn_M} {R : Int32} (hF : hn_F Z B (0, 0) cX8_count 4 RX8 (some .int) 0) (hQ : hn_goal Z B (some (.int R), μ)) (hV : hn_V B hn_nA) : ∀ (n : Nat) (l2 : Int32) (l3 : Int32), fX8_count_110 F μ n l2 l3 = some R → hn_G Z B (0, 0) 4 110 [(0, .ref (hn_base B + 72)), (2, .int l2), (3, .int l3)] [] μ := by
  have a83 : hn_isA B 83 false 30 := hV 83 (by decide)
  have o72 : hn_isO B 72 8 hn_k72 := hV 72 (by decide)
  intro n
  induction n with
  | zero => intro l2 l3 e; rw [fX8_count_110] at e; cases e
  | succ n ih =>
    intro l2 l3 e
    rw [fX8_count_110] at e
    refine hn_iload_n hF dX8_count_110 (q := 111) rfl 2 rfl ?_
    refine hn_bipush hF dX8_count_111 (q := 113) rfl kb_10 ?_
    refine hn_icmp_ge hF dX8_count_113 (t := 139) (q := 116) rfl rfl e (fun e => ?_) (fun e => ?_)
    · refine hn_iload_n hF dX8_count_139 (q := 140) rfl 1 rfl ?_
      exact hn_iretP hF hQ dX8_count_140 e
    · refine hn_iload_n hF dX8_count_116 (q := 117) rfl 1 rfl ?_
      refine hn_aload_n hF dX8_count_117 (q := 118) rfl 0 rfl ?_
      refine hn_get hF fl_X8_40 o72 rfl rfl dX8_count_118 (q := 121) rfl ?_
      refine hn_iload_n hF dX8_count_121 (q := 122) rfl 2 rfl ?_
      refine hn_ald hF a83 dX8_count_122 (q := 123) rfl e (fun v2 e => ?_)
      refine hn_if_lt hF dX8_count_123 (t := 130) (q := 126) rfl rfl e (fun e => ?_) (fun e => ?_)
      · refine hn_iconst hF dX8_count_130 (q := 131) rfl ki_0 ?_
        refine hn_sub [0, 2] (L' := [(0, .ref (hn_base B + 72)), (3, .int l3)]) rfl ?_
        exact gX8_count_131 hF hQ hV ih e
      · refine hn_iconst hF dX8_count_126 (q := 127) rfl ki_1 ?_
        refine hn_goto hF dX8_count_127 (q := 131) rfl ?_
        refine hn_sub [0, 2] (L' := [(0, .ref (hn_base B + 72)), (3, .int l3)]) rfl ?_
        exact gX8_count_131 hF hQ hV ih e
set_option maxHeartbeats 1000000 in
theorem gX8_count_181 {Z : hn_Z} {B : hn_B} {F : Nat} {μ : hn_M} {R : Int32} (hF : hn_F Z B (0, 0) cX8_count 4 RX8 (some .int) 0) (hQ : hn_goal Z B (some (.int R), μ)) (hV : hn_V B hn_nA) {k160 : Int32 → Int32 → Option Int32} (H160 : ∀ (l2 : Int32) (l3 : Int32), k160 l2 l3 = some R → hn_G Z B (0, 0) 4 160 [(0, .ref (hn_base B + 72)), (2, .int l2), (3, .int l3)] [] μ) {l3 : Int32} {s0 : Int32} {s1 : Int32} (e : fX8_count_181 F μ k160 l3 s0 s1 = some R) : hn_G Z B (0, 0) 4 181 [(0, .ref (hn_base B + 72)), (3, .int l3)] [.int s0, .int s1] μ := by
  unfold fX8_count_181 at e
  refine hn_iadd hF dX8_count_181 (q := 182) rfl ?_
  refine hn_istore_n hF dX8_count_182 (q := 183) rfl (i := 2) rfl (by decide) (L' := [(2, .int (s1 + s0)), (0, .ref (hn_base B + 72)), (3, .int l3)]) rfl ?_
  refine hn_iinc (p := 2) hF dX8_count_183 (q := 186) rfl rfl (kn_1 _) (by decide) (L' := [(3, .int (l3 + 1)), (2, .int (s1 + s0)), (0, .ref (hn_base B + 72))]) rfl ?_
  refine hn_goto hF dX8_count_186 (q := 160) rfl ?_
  refine hn_sub [2, 1, 0] (L' := [(0, .ref (hn_base B + 72)), (2, .int (s1 + s0)), (3, .int (l3 + 1))]) rfl ?_
  exact H160 (s1 + s0) (l3 + 1) e
set_option maxHeartbeats 1000000 in
theorem gX8_count_160 {Z : hn_Z} {B : hn_B} {F : Nat} {μ : hn_M} {R : Int32} (hF : hn_F Z B (0, 0) cX8_count 4 RX8 (some .int) 0) (hQ : hn_goal Z B (some (.int R), μ)) (hV : hn_V B hn_nA) : ∀ (n : Nat) (l2 : Int32) (l3 : Int32), fX8_count_160 F μ n l2 l3 = some R → hn_G Z B (0, 0) 4 160 [(0, .ref (hn_base B + 72)), (2, .int l2), (3, .int l3)] [] μ := by
  have a73 : hn_isA B 73 false 36 := hV 73 (by decide)
  have o72 : hn_isO B 72 8 hn_k72 := hV 72 (by decide)
  intro n
  induction n with
  | zero => intro l2 l3 e; rw [fX8_count_160] at e; cases e
  | succ n ih =>
    intro l2 l3 e
    rw [fX8_count_160] at e
    refine hn_iload_n hF dX8_count_160 (q := 161) rfl 2 rfl ?_
    refine hn_bipush hF dX8_count_161 (q := 163) rfl kb_36 ?_
    refine hn_icmp_ge hF dX8_count_163 (t := 189) (q := 166) rfl rfl e (fun e => ?_) (fun e => ?_)
    · refine hn_iload_n hF dX8_count_189 (q := 190) rfl 1 rfl ?_
      exact hn_iretP hF hQ dX8_count_190 e
    · refine hn_iload_n hF dX8_count_166 (q := 167) rfl 1 rfl ?_
      refine hn_aload_n hF dX8_count_167 (q := 168) rfl 0 rfl ?_
      refine hn_get hF fl_X8_7 o72 rfl rfl dX8_count_168 (q := 171) rfl ?_
      refine hn_iload_n hF dX8_count_171 (q := 172) rfl 2 rfl ?_
      refine hn_ald hF a73 dX8_count_172 (q := 173) rfl e (fun v3 e => ?_)
      refine hn_if_le hF dX8_count_173 (t := 180) (q := 176) rfl rfl e (fun e => ?_) (fun e => ?_)
      · refine hn_iconst hF dX8_count_180 (q := 181) rfl ki_0 ?_
        refine hn_sub [0, 2] (L' := [(0, .ref (hn_base B + 72)), (3, .int l3)]) rfl ?_
        exact gX8_count_181 hF hQ hV ih e
      · refine hn_iconst hF dX8_count_176 (q := 177) rfl ki_1 ?_
        refine hn_goto hF dX8_count_177 (q := 181) rfl ?_
        refine hn_sub [0, 2] (L' := [(0, .ref (hn_base B + 72)), (3, .int l3)]) rfl ?_
        exact gX8_count_181 hF hQ hV ih e
set_option maxHeartbeats 1000000 in
theorem gX8_count {Z : hn_Z} {B : hn_B} {F : Nat} {μ : hn_M} {R : Int32} (hF : hn_F Z B (0, 0) cX8_count 4 RX8 (some .int) 0) (hQ : hn_goal Z B (some (.int R), μ)) (hV : hn_V B hn_nA) {l1 : Int32} (e : fX8_count F μ l1 = some R) : hn_G Z B (0, 0) 4 0 [(0, .ref (hn_base B + 72)), (1, .int l1)] [] μ := by
  unfold fX8_count at e
  have a76 : hn_isA B 76 false 3 := hV 76 (by decide)
  have a78 : hn_isA B 78 false 3 := hV 78 (by decide)
  have a80 : hn_isA B 80 false 3 := hV 80 (by decide)
  have a85 : hn_isA B 85 false 2 := hV 85 (by decide)
  have o72 : hn_isO B 72 8 hn_k72 := hV 72 (by decide)
  refine hn_iconst hF dX8_count_0 (q := 1) rfl ki_0 ?_
  refine hn_istore_n hF dX8_count_1 (q := 2) rfl (i := 2) rfl (by decide) (L' := [(2, .int 0), (0, .ref (hn_base B + 72)), (1, .int l1)]) rfl ?_
  refine hn_iload_n hF dX8_count_2 (q := 3) rfl 2 rfl ?_
  by_cases hx0 : l1 = 0
  · rw [if_pos hx0] at e
    refine hn_tabIn hF hx0 dX8_count_3 (t := 52) (by decide) ?_
    refine hn_aload_n hF dX8_count_52 (q := 53) rfl 1 rfl ?_
    refine hn_get hF fl_X8_19 o72 rfl rfl dX8_count_53 (q := 56) rfl ?_
    refine hn_iconst hF dX8_count_56 (q := 57) rfl ki_0 ?_
    refine hn_ald hF a76 dX8_count_57 (q := 58) rfl e (fun v4 e => ?_)
    exact hn_iretP hF hQ dX8_count_58 e
  rw [if_neg hx0] at e
  by_cases hx1 : l1 = 1
  · rw [if_pos hx1] at e
    refine hn_tabIn hF hx1 dX8_count_3 (t := 59) (by decide) ?_
    refine hn_aload_n hF dX8_count_59 (q := 60) rfl 1 rfl ?_
    refine hn_get hF fl_X8_25 o72 rfl rfl dX8_count_60 (q := 63) rfl ?_
    refine hn_iconst hF dX8_count_63 (q := 64) rfl ki_0 ?_
    refine hn_ald hF a78 dX8_count_64 (q := 65) rfl e (fun v5 e => ?_)
    exact hn_iretP hF hQ dX8_count_65 e
  rw [if_neg hx1] at e
  by_cases hx2 : l1 = 2
  · rw [if_pos hx2] at e
    refine hn_tabIn hF hx2 dX8_count_3 (t := 66) (by decide) ?_
    refine hn_iconst hF dX8_count_66 (q := 67) rfl ki_0 ?_
    refine hn_istore_n hF dX8_count_67 (q := 68) rfl (i := 3) rfl (by decide) (L' := [(3, .int 0), (2, .int 0), (0, .ref (hn_base B + 72)), (1, .int l1)]) rfl ?_
    refine hn_sub [2, 1, 0] (L' := [(0, .ref (hn_base B + 72)), (2, .int 0), (3, .int 0)]) rfl ?_
    exact gX8_count_68 hF hQ hV F 0 0 e
  rw [if_neg hx2] at e
  by_cases hx3 : l1 = 3
  · rw [if_pos hx3] at e
    refine hn_tabIn hF hx3 dX8_count_3 (t := 101) (by decide) ?_
    refine hn_aload_n hF dX8_count_101 (q := 102) rfl 1 rfl ?_
    refine hn_get hF fl_X8_31 o72 rfl rfl dX8_count_102 (q := 105) rfl ?_
    refine hn_iconst hF dX8_count_105 (q := 106) rfl ki_0 ?_
    refine hn_ald hF a80 dX8_count_106 (q := 107) rfl e (fun v6 e => ?_)
    exact hn_iretP hF hQ dX8_count_107 e
  rw [if_neg hx3] at e
  by_cases hx4 : l1 = 4
  · rw [if_pos hx4] at e
    refine hn_tabIn hF hx4 dX8_count_3 (t := 108) (by decide) ?_
    refine hn_iconst hF dX8_count_108 (q := 109) rfl ki_0 ?_
    refine hn_istore_n hF dX8_count_109 (q := 110) rfl (i := 3) rfl (by decide) (L' := [(3, .int 0), (2, .int 0), (0, .ref (hn_base B + 72)), (1, .int l1)]) rfl ?_
    refine hn_sub [2, 1, 0] (L' := [(0, .ref (hn_base B + 72)), (2, .int 0), (3, .int 0)]) rfl ?_
    exact gX8_count_110 hF hQ hV F 0 0 e
  rw [if_neg hx4] at e
  by_cases hx5 : l1 = 5
  · rw [if_pos hx5] at e
    refine hn_tabIn hF hx5 dX8_count_3 (t := 141) (by decide) ?_
    refine hn_aload_n hF dX8_count_141 (q := 142) rfl 1 rfl ?_
    refine hn_get hF fl_X8_165 o72 rfl rfl dX8_count_142 (q := 145) rfl ?_
    exact hn_iretP hF hQ dX8_count_145 e
  rw [if_neg hx5] at e
  by_cases hx6 : l1 = 6
  · rw [if_pos hx6] at e
    refine hn_tabIn hF hx6 dX8_count_3 (t := 146) (by decide) ?_
    refine hn_aload_n hF dX8_count_146 (q := 147) rfl 1 rfl ?_
    refine hn_get hF fl_X8_50 o72 rfl rfl dX8_count_147 (q := 150) rfl ?_
    refine hn_iconst hF dX8_count_150 (q := 151) rfl ki_1 ?_
    refine hn_ald hF a85 dX8_count_151 (q := 152) rfl e (fun v7 e => ?_)
    exact hn_iretP hF hQ dX8_count_152 e
  rw [if_neg hx6] at e
  by_cases hx7 : l1 = 7
  · rw [if_pos hx7] at e
    refine hn_tabIn hF hx7 dX8_count_3 (t := 153) (by decide) ?_
    refine hn_aload_n hF dX8_count_153 (q := 154) rfl 1 rfl ?_
    refine hn_get hF fl_X8_231 o72 rfl rfl dX8_count_154 (q := 157) rfl ?_
    exact hn_iretP hF hQ dX8_count_157 e
  rw [if_neg hx7] at e
  by_cases hx8 : l1 = 8
  · rw [if_pos hx8] at e
    refine hn_tabIn hF hx8 dX8_count_3 (t := 158) (by decide) ?_
    refine hn_iconst hF dX8_count_158 (q := 159) rfl ki_0 ?_
    refine hn_istore_n hF dX8_count_159 (q := 160) rfl (i := 3) rfl (by decide) (L' := [(3, .int 0), (2, .int 0), (0, .ref (hn_base B + 72)), (1, .int l1)]) rfl ?_
    refine hn_sub [2, 1, 0] (L' := [(0, .ref (hn_base B + 72)), (2, .int 0), (3, .int 0)]) rfl ?_
    exact gX8_count_160 hF hQ hV F 0 0 e
  rw [if_neg hx8] at e
  refine hn_tabOut hF dX8_count_3 (t := 191) (hn_miss9 hx0 hx1 hx2 hx3 hx4 hx5 hx6 hx7 hx8) rfl ?_
  refine hn_iconst hF dX8_count_191 (q := 192) rfl ki_m1 ?_
  exact hn_iretP hF hQ dX8_count_192 e
theorem cX8_count_ {B : hn_B} {F : Nat} {μ : hn_M} {R : Int32} {l1 : Int32} (hV : hn_V B hn_nA) (e : fX8_count F μ l1 = some R) : hn_C yX8_count cX8_count 4 (some .int) 0 B [.ref (hn_base B + 72), .int l1] μ (some (.int R), μ) :=
  hn_C.of RX8 (by decide) rfl (Nat.le_of_ble_eq_true rfl) (fun _ hF hQ => gX8_count hF hQ hV e)
