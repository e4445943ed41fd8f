/-! of whom each saying has it: the class's tree and the model's -/
theorem hn_b01_eq {x y : Bool} : (hn_b01 x = hn_b01 y) ↔ x = y := by cases x <;> cases y <;> decide
theorem hn_b01_bo {α : Type} {b : Bool} {K : Option α} : hn_bo (hn_b01 b) K = K := by cases b <;> rfl
theorem hn_b01_0 {b : Bool} : (hn_b01 b = 0) ↔ b = false := by cases b <;> decide
theorem hn_b01_1 {b : Bool} : (hn_b01 b = 1) ↔ b = true := by cases b <;> decide
abbrev tc (V : hn_Vw) (D : Nat → Nat → Int) (m M : Nat → Int) (a b : Nat) : Prop :=
  (vY V a).1 ≠ (vY V b).1 ∧ (vY V a).2.1 = (vY V b).2.1 ∧ (vY V a).2.2.2.2.2 = (vY V b).2.2.2.2.2 ∧ D (vS V (vY V b).1).1 (vS V (vY V a).1).1 < 1000000 ∧ m (vY V b).1 + D (vS V (vY V b).1).1 (vS V (vY V a).1).1 ≤ M (vY V a).1 ∧
  (m (vY V b).1 < m (vY V a).1 ∨ (m (vY V b).1 = m (vY V a).1 ∧ (vY V b).1 < (vY V a).1))
def te1 : Option Nat → Int32
  | none => -1
  | some b => nI b
def te4 : Option Nat → Int32
  | none => -4
  | some b => nI b
/-- the best of the sayings before b, and how unlike it is -/
def tn (V : hn_Vw) (D : Nat → Nat → Int) (m M : Nat → Int) (o a : Nat) : Nat → Option Nat × Nat
  | 0 => (none, o + 1)
  | b + 1 => if tc V D m M a b ∧ un V a b < (tn V D m M o a b).2 then (some b, un V a b) else tn V D m M o a b
def ts (V : hn_Vw) (D : Nat → Nat → Int) (m M : Nat → Int) (o a : Nat) : Option Nat := if (vY V a).2.2.2.2.1 = true then none else (tn V D m M o a (vK V)).1
theorem tn_2 (V : hn_Vw) (D : Nat → Nat → Int) (m M : Nat → Int) (o a b : Nat) : (tn V D m M o a b).2 ≤ o + 1 := by
  induction b with
  | zero => exact Nat.le_refl _
  | succ b ih =>
    simp only [tn]
    by_cases h : tc V D m M a b ∧ un V a b < (tn V D m M o a b).2
    · rw [if_pos h]; show un V a b ≤ o + 1; omega
    · rw [if_neg h]; exact ih
theorem tn_1 (V : hn_Vw) (D : Nat → Nat → Int) (m M : Nat → Int) (o a b : Nat) : ∀ c, (tn V D m M o a b).1 = some c → c < b ∧ tc V D m M a c := by
  induction b with
  | zero => intro c h; cases h
  | succ b ih =>
    intro c
    simp only [tn]
    by_cases h : tc V D m M a b ∧ un V a b < (tn V D m M o a b).2
    · rw [if_pos h]
      intro hc
      cases hc
      exact ⟨by omega, h.1⟩
    · rw [if_neg h]
      intro hc
      have := ih c hc
      exact ⟨by omega, this.2⟩
theorem ts_1 {V : hn_Vw} {D : Nat → Nat → Int} {m M : Nat → Int} {o a c : Nat} (h : ts V D m M o a = some c) : c < vK V ∧ tc V D m M a c := by
  unfold ts at h
  by_cases hs : (vY V a).2.2.2.2.1 = true
  · rw [if_pos hs] at h; cases h
  · rw [if_neg hs] at h; exact tn_1 _ _ _ _ _ _ _ c h
/-- only days of sheets that are there count -/
theorem tc_cong {V : hn_Vw} {D : Nat → Nat → Int} {m M m' M' : Nat → Int} {a b : Nat} (hm : ∀ s, s < vN V → m' s = m s ∧ M' s = M s) (ha : (vY V a).1 < vN V) (hb : (vY V b).1 < vN V) : tc V D m' M' a b ↔ tc V D m M a b := by
  unfold tc
  rw [(hm _ ha).1, (hm _ ha).2, (hm _ hb).1]
theorem tn_cong {V : hn_Vw} {D : Nat → Nat → Int} {m M m' M' : Nat → Int} {o a : Nat} (hV : okV V D) (hm : ∀ s, s < vN V → m' s = m s ∧ M' s = M s) (ha : a < vK V) : ∀ b, b ≤ vK V → tn V D m' M' o a b = tn V D m M o a b := by
  intro b
  induction b with
  | zero => intro _; rfl
  | succ b ih =>
    intro hb
    simp only [tn]
    have h1 := tc_cong (D := D) hm (hV.2.2.2.1 a ha).1 (hV.2.2.2.1 b (by omega)).1
    rw [ih (by omega)]
    by_cases h : tc V D m M a b ∧ un V a b < (tn V D m M o a b).2
    · rw [if_pos h, if_pos ⟨h1.mpr h.1, h.2⟩]
    · rw [if_neg h, if_neg (fun z => h ⟨h1.mp z.1, z.2⟩)]
theorem ts_cong {V : hn_Vw} {D : Nat → Nat → Int} {m M m' M' : Nat → Int} {o a : Nat} (hV : okV V D) (hm : ∀ s, s < vN V → m' s = m s ∧ M' s = M s) (ha : a < vK V) : ts V D m' M' o a = ts V D m M o a := by
  unfold ts; rw [tn_cong hV hm ha _ (Nat.le_refl _)]
section tr
variable {V : hn_Vw} {D : Nat → Nat → Int} {μ O : hn_M} {F o : Nat} {m M : Nat → Int}
theorem hn_leads (hDO : ∀ a b, a < 6 → b < 6 → pD μ a b = D a b) {x y : Nat} (hx : x < 6) (hy : y < 6) : fX2_leads μ (nI x) (nI y) = some (if D x y < 1000000 then 1 else 0) := by
  unfold fX2_leads
  have h : (μ 4 (6 * x + y)).toInt = D x y := hDO x y hx hy
  rw [hn_ix6r, nI_add, hn_rd_at (by omega) (by decide)]
  by_cases hc : D x y < 1000000
  · rw [if_pos hc, if_neg (by rw [hn_le, h]; show ¬ (1000000 : Int) ≤ _; omega)]
  · rw [if_neg hc, if_pos (by rw [hn_le, h]; show (1000000 : Int) ≤ _; omega)]
theorem hn_days {x y : Nat} (hx : x < 6) (hy : y < 6) : fX2_days μ (nI x) (nI y) = some (μ 4 (6 * x + y)) := by
  unfold fX2_days
  rw [hn_ix6r, nI_add, hn_rd_at (by omega) (by decide)]
theorem hn_den (hC : repC μ 6 V) {a : Nat} (ha : a < vK V) : fX1_isDenied μ (nI a) = some (hn_b01 (vY V a).2.2.2.2.2) := by
  have := (hC.2.2.2.1 a ha).2.2.2.2.2
  unfold fX1_isDenied
  rw [this, Option.bind_some, hn_b01_bo]
theorem hn_seen (hC : repC μ 6 V) {a : Nat} (ha : a < vK V) : fX1_isSeen μ (nI a) = some (hn_b01 (vY V a).2.2.2.2.1) := by
  have := (hC.2.2.2.1 a ha).2.2.2.2.1
  unfold fX1_isSeen
  rw [this, Option.bind_some, hn_b01_bo]
theorem tc_class (hV : okV V D) (hD : okD D) (hC : repC μ 6 V) (hDO : ∀ a b, a < 6 → b < 6 → pD μ a b = D a b) (h47 : ∀ s, s < vN V → (μ 47 s).toInt = m s ∧ (μ 48 s).toInt = M s) (hb0 : ∀ s, s < vN V → 0 ≤ m s ∧ m s ≤ 999) {a b : Nat} (ha : a < vK V) (hb : b < vK V) : fX5_couldCopy μ (nI a) (nI b) = some (if tc V D m M a b then 1 else 0) := by
  have hn := hV.1
  have da := hn_den hC ha
  have db := hn_den hC hb
  obtain ⟨⟨c0, c4, c7⟩, cS, cQ, cY, cE, cT⟩ := hC
  have ya := cY a ha
  have yb := cY b hb
  have oa := hV.2.2.2.1 a ha
  have ob := hV.2.2.2.1 b hb
  have sa := cS _ oa.1
  have sb := cS _ ob.1
  have ta := hV.2.1 _ oa.1
  have tb := hV.2.1 _ ob.1
  have w := hDO _ _ tb.1 ta.1
  have dd := hD _ _ tb.1 ta.1
  have fa := h47 _ oa.1
  have fb := h47 _ ob.1
  have ba := hb0 _ oa.1
  have bb := hb0 _ ob.1
  have ld := hn_leads hDO tb.1 ta.1
  have dy := hn_days (μ := μ) tb.1 ta.1
  unfold fX5_couldCopy
  rw [hn_rd_at (by omega) (by decide), hn_rd_at (by omega) (by decide), show μ 12 a = nI (vY V a).1 from ya.1, show μ 12 b = nI (vY V b).1 from yb.1]
  by_cases h1 : (vY V a).1 = (vY V b).1
  · rw [if_pos (by rw [h1]), if_neg (fun z : tc V D m M a b => z.1 h1)]
  rw [if_neg (by rw [nI_eq (by omega) (by omega)]; exact h1), hn_rd_at (by omega) (by decide), hn_rd_at (by omega) (by decide), show μ 13 a = nI (vY V a).2.1 from ya.2.1, show μ 13 b = nI (vY V b).2.1 from yb.2.1]
  by_cases h2 : (vY V a).2.1 = (vY V b).2.1
  rotate_left 1
  · rw [if_neg (by rw [nI_eq (by omega) (by omega)]; exact h2), if_neg (fun z : tc V D m M a b => h2 z.2.1)]
  rw [if_pos (by rw [h2]), da, Option.bind_some, db, Option.bind_some]
  by_cases h3 : (vY V a).2.2.2.2.2 = (vY V b).2.2.2.2.2
  rotate_left 1
  · rw [if_neg (by rw [hn_b01_eq]; exact h3), if_neg (fun z : tc V D m M a b => h3 z.2.2.1)]
  rw [if_pos (by rw [h3]), hn_rd_at (by omega) (by decide), hn_rd_at (by omega) (by decide), show μ 7 (vY V b).1 = _ from sb.1, show μ 7 (vY V a).1 = _ from sa.1, ld, Option.bind_some]
  by_cases h4 : D (vS V (vY V b).1).1 (vS V (vY V a).1).1 < 1000000
  rotate_left 1
  · rw [if_neg h4, if_pos rfl, if_neg (fun z : tc V D m M a b => h4 z.2.2.2.1)]
  rw [if_pos h4, if_neg (by decide), hn_rd_at (by omega) (by decide), hn_rd_at (by omega) (by decide), dy, Option.bind_some]
  have sm : (μ 47 (vY V b).1 + μ 4 (6 * (vS V (vY V b).1).1 + (vS V (vY V a).1).1)).toInt = m (vY V b).1 + D (vS V (vY V b).1).1 (vS V (vY V a).1).1 := by
    have w : (μ 4 (6 * (vS V (vY V b).1).1 + (vS V (vY V a).1).1)).toInt = _ := w
    rw [hn_addI (by omega) (by omega), w, fb.1]
  by_cases h5 : m (vY V b).1 + D (vS V (vY V b).1).1 (vS V (vY V a).1).1 ≤ M (vY V a).1
  rotate_left 1
  · rw [if_neg (by rw [hn_le, sm, fa.2]; exact h5), if_neg (fun z : tc V D m M a b => h5 z.2.2.2.2.1)]
  rw [if_pos (by rw [hn_le, sm, fa.2]; exact h5), hn_rd_at (by omega) (by decide), hn_rd_at (by omega) (by decide)]
  by_cases h6 : m (vY V b).1 < m (vY V a).1
  · rw [if_pos (by rw [hn_lt, fa.1, fb.1]; exact h6), if_pos (show tc V D m M a b from ⟨h1, h2, h3, h4, h5, Or.inl h6⟩)]
  rw [if_neg (by rw [hn_lt, fa.1, fb.1]; exact h6), hn_rd_at (by omega) (by decide), hn_rd_at (by omega) (by decide)]
  by_cases h7 : m (vY V b).1 = m (vY V a).1
  rotate_left 1
  · rw [if_neg (by rw [hn_eq_i, fa.1, fb.1]; exact h7), if_neg (fun z : tc V D m M a b => z.2.2.2.2.2.elim h6 (fun y => h7 y.1))]
  rw [if_pos (by rw [hn_eq_i, fa.1, fb.1]; exact h7)]
  by_cases h8 : (vY V b).1 < (vY V a).1
  · rw [if_neg (by rw [hn_leN (by omega) (by omega)]; omega), if_pos (show tc V D m M a b from ⟨h1, h2, h3, h4, h5, Or.inr ⟨h7, h8⟩⟩)]
  · rw [if_pos (by rw [hn_leN (by omega) (by omega)]; omega), if_neg (fun z : tc V D m M a b => z.2.2.2.2.2.elim h6 (fun y => h8 y.2))]
theorem tc_model (hV : okV V D) (hD : okD D) (hM : repM μ 0 V) (hW : hn_W μ D) (h89 : ∀ s, s < vN V → (μ 89 s).toInt = m s ∧ (μ 90 s).toInt = M s) (hb0 : ∀ s, s < vN V → 0 ≤ m s ∧ m s ≤ 999) {a b : Nat} (ha : a < vK V) (hb : b < vK V) : fX8_couldCopy μ (nI a) (nI b) = some (if (vY V a).2.2.2.2.1 = false ∧ tc V D m M a b then 1 else 0) := by
  have hn := hV.1
  have ya := rm_y hM ha
  have yb := rm_y hM hb
  have oa := hV.2.2.2.1 a ha
  have ob := hV.2.2.2.1 b hb
  have ta := hV.2.1 _ oa.1
  have tb := hV.2.1 _ ob.1
  have w := hW _ _ tb.1 ta.1
  have dd := hD _ _ tb.1 ta.1
  have fa := h89 _ oa.1
  have fb := h89 _ ob.1
  have ba := hb0 _ oa.1
  have bb := hb0 _ ob.1
  have dy := ld_way hV hM ob.1 oa.1
  unfold fX8_couldCopy
  rw [hn_ix6m a, hn_ix6m b, hn_p4 (6 * a), hn_p1 (6 * a), hn_p1 (6 * b), hn_p5 (6 * a), hn_p5 (6 * b), hn_rd_at (by omega) (by decide), hn_rd_at (by omega) (by decide), ya.1, yb.1]
  by_cases h1 : (vY V a).1 = (vY V b).1
  · rw [if_pos (by rw [h1]), if_neg (fun z => z.2.1 h1)]
  rw [if_neg (by rw [nI_eq (by omega) (by omega)]; exact h1), hn_rd_at (by omega) (by decide), ya.2.2.2.2.1]
  by_cases h0 : (vY V a).2.2.2.2.1 = true
  · rw [if_pos (hn_b01_1.mpr h0), if_neg (fun z => by rw [z.1] at h0; cases h0)]
  rw [if_neg (fun z => h0 (hn_b01_1.mp z)), hn_rd_at (by omega) (by decide), hn_rd_at (by omega) (by decide), ya.2.1, yb.2.1]
  have h0 : (vY V a).2.2.2.2.1 = false := by cases h : (vY V a).2.2.2.2.1 with | false => rfl | true => exact absurd h h0
  by_cases h2 : (vY V a).2.1 = (vY V b).2.1
  rotate_left 1
  · rw [if_neg (by rw [nI_eq (by omega) (by omega)]; exact h2), if_neg (fun z => h2 z.2.2.1)]
  rw [if_pos (by rw [h2]), hn_rd_at (by omega) (by decide), hn_rd_at (by omega) (by decide), ya.2.2.2.2.2, yb.2.2.2.2.2]
  by_cases h3 : (vY V a).2.2.2.2.2 = (vY V b).2.2.2.2.2
  rotate_left 1
  · rw [if_neg (by rw [hn_b01_eq]; exact h3), if_neg (fun z => h3 z.2.2.2.1)]
  rw [if_pos (by rw [h3]), dy, Option.bind_some]
  unfold fw_enc at w
  by_cases h4 : D (vS V (vY V b).1).1 (vS V (vY V a).1).1 < 1000000
  rotate_left 1
  · rw [if_neg h4] at w
    rw [if_pos (by rw [hn_lt, w]; decide), if_neg (fun z => h4 z.2.2.2.2.1)]
  rw [if_pos h4] at w
  rw [if_neg (by rw [hn_lt, w]; show ¬ _ < (0 : Int); omega), hn_rd_at (by omega) (by decide), hn_rd_at (by omega) (by decide)]
  have sm : (μ 89 (vY V b).1 + μ 75 (6 * (vS V (vY V b).1).1 + (vS V (vY V a).1).1)).toInt = m (vY V b).1 + D (vS V (vY V b).1).1 (vS V (vY V a).1).1 := by
    rw [hn_addI (by omega) (by omega), w, fb.1]
  by_cases h5 : m (vY V b).1 + D (vS V (vY V b).1).1 (vS V (vY V a).1).1 ≤ M (vY V a).1
  rotate_left 1
  · rw [if_pos (by rw [hn_lt, sm, fa.2]; omega), if_neg (fun z => h5 z.2.2.2.2.2.1)]
  rw [if_neg (by rw [hn_lt, sm, fa.2]; omega), hn_rd_at (by omega) (by decide), hn_rd_at (by omega) (by decide)]
  by_cases h6 : m (vY V b).1 < m (vY V a).1
  · rw [if_pos (by rw [hn_lt, fa.1, fb.1]; exact h6), if_pos ⟨h0, h1, h2, h3, h4, h5, Or.inl h6⟩]
  rw [if_neg (by rw [hn_lt, fa.1, fb.1]; exact h6), hn_rd_at (by omega) (by decide), hn_rd_at (by omega) (by decide)]
  by_cases h7 : m (vY V b).1 = m (vY V a).1
  rotate_left 1
  · rw [if_neg (by rw [hn_eq_i, fa.1, fb.1]; exact h7), if_neg (fun z => z.2.2.2.2.2.2.elim h6 (fun y => h7 y.1))]
  rw [if_pos (by rw [hn_eq_i, fa.1, fb.1]; exact h7)]
  by_cases h8 : (vY V b).1 < (vY V a).1
  · rw [if_neg (by rw [hn_leN (by omega) (by omega)]; omega), if_pos ⟨h0, h1, h2, h3, h4, h5, Or.inr ⟨h7, h8⟩⟩]
  · rw [if_pos (by rw [hn_leN (by omega) (by omega)]; omega), if_neg (fun z => z.2.2.2.2.2.2.elim h6 (fun y => h8 y.2))]
/-- nearest, as the class finds it -/
theorem tn_class (hV : okV V D) (hD : okD D) (hC : repC μ 6 V) (hDO : ∀ a b, a < 6 → b < 6 → pD μ a b = D a b) (h47 : ∀ s, s < vN V → (μ 47 s).toInt = m s ∧ (μ 48 s).toInt = M s) (hb0 : ∀ s, s < vN V → 0 ≤ m s ∧ m s ≤ 999) (ho : o ≤ 40) (hF : 31 ≤ F) {a : Nat} (ha : a < vK V) : fX5_nearest F μ (nI a) (nI o) = some (te1 (tn V D m M o a (vK V)).1) := by
  have hn := hV.1
  have c7 := hC.1.2.2
  obtain ⟨s, h1, h2⟩ := hn_loopE (fun n j (s : Int32 × Int32) => fX5_nearest_12 F μ n (nI a) s.1 s.2 (nI j)) (vK V) (fun s => some s.1) (fun j s => s.1 = te1 (tn V D m M o a j).1 ∧ s.2 = nI (tn V D m M o a j).2)
    (fun n s hi => by
      show fX5_nearest_12 F μ (n + 1) (nI a) s.1 s.2 (nI (vK V)) = _
      rw [fX5_nearest_12, c7, if_pos (by rw [hn_leN (by omega) (by omega)]; exact Nat.le_refl _)])
    (fun n j s hj hi => by
      show ∃ s' : Int32 × Int32, fX5_nearest_12 F μ (n + 1) (nI a) s.1 s.2 (nI j) = fX5_nearest_12 F μ n (nI a) s'.1 s'.2 (nI (j + 1)) ∧ _
      have t2 := tn_2 V D m M o a j
      have u2 := un_le V a j
      rw [fX5_nearest_12, c7, if_neg (by rw [hn_leN (by omega) (by omega)]; omega), tc_class hV hD hC hDO h47 hb0 ha hj, Option.bind_some]
      unfold fX5_nearest_60
      rw [nI_1]
      simp only [tn]
      by_cases hc : tc V D m M a j
      · rw [if_pos hc, if_neg (by decide), un_class hV hC hF ha hj, Option.bind_some, hi.2]
        by_cases hl : un V a j < (tn V D m M o a j).2
        · rw [if_neg (by rw [hn_leN (by omega) (by omega)]; omega), if_pos ⟨hc, hl⟩]
          exact ⟨(nI j, nI (un V a j)), rfl, rfl, rfl⟩
        · rw [if_pos (by rw [hn_leN (by omega) (by omega)]; omega), if_neg (fun z => hl z.2)]
          exact ⟨(s.1, nI (tn V D m M o a j).2), rfl, hi.1, rfl⟩
      · rw [if_neg hc, if_pos rfl, if_neg (fun z => hc z.1)]
        exact ⟨s, rfl, hi⟩)
    (vK V) 0 F ((-1 : Int32), nI (o + 1)) (by omega) (by omega) ⟨rfl, rfl⟩
  have h1 : fX5_nearest_12 F μ F (nI a) (-1) (nI (o + 1)) 0 = some s.1 := h1
  unfold fX5_nearest
  rw [nI_1, h1, h2.1]
end tr
