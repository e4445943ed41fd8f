/-! what papers say, as a value; how the class's cells (from c on) and the model's rows (block m) hold it -/
abbrev hn_Vw : Type := (Nat × Nat × Nat) × (Nat → Nat × Nat × Int) × (Nat → Nat × Nat) × (Nat → Nat × Nat × Nat × Nat × Bool × Bool) × (Nat → Option (Nat × Nat)) × (Nat → Int)
/-- how many sheets, pairs, sayings; a sheet: town, writer, day; a pair: later, earlier; a saying: sheet, thing, number, words, seen, denied; a thing: town, day; a truth -/
abbrev vN (V : hn_Vw) : Nat := V.1.1
abbrev vP (V : hn_Vw) : Nat := V.1.2.1
abbrev vK (V : hn_Vw) : Nat := V.1.2.2
abbrev vS (V : hn_Vw) (s : Nat) : Nat × Nat × Int := V.2.1 s
abbrev vQ (V : hn_Vw) (q : Nat) : Nat × Nat := V.2.2.1 q
abbrev vY (V : hn_Vw) (j : Nat) : Nat × Nat × Nat × Nat × Bool × Bool := V.2.2.2.1 j
abbrev vE (V : hn_Vw) (t : Nat) : Option (Nat × Nat) := V.2.2.2.2.1 t
abbrev vT (V : hn_Vw) (t : Nat) : Int := V.2.2.2.2.2 t
def hn_b01 (b : Bool) : Int32 := if b = true then 1 else 0
def repC (μ : hn_M) (c : Nat) (V : hn_Vw) : Prop :=
  (μ c 0 = nI (vN V) ∧ μ c 4 = nI (vP V) ∧ μ c 7 = nI (vK V)) ∧
  (∀ s, s < vN V → μ (c + 1) s = nI (vS V s).1 ∧ μ (c + 2) s = nI (vS V s).2.1 ∧ (μ (c + 3) s).toInt = (vS V s).2.2) ∧
  (∀ q, q < vP V → μ (c + 4) q = nI (vQ V q).1 ∧ μ (c + 5) q = nI (vQ V q).2) ∧
  (∀ j, j < vK V → μ (c + 6) j = nI (vY V j).1 ∧ μ (c + 7) j = nI (vY V j).2.1 ∧ μ (c + 8) j = nI (vY V j).2.2.1 ∧ μ (c + 9) j = nI (vY V j).2.2.2.1 ∧ fX7_isIn (μ c 12) (nI j) = some (hn_b01 (vY V j).2.2.2.2.1) ∧ fX7_isIn (μ c 13) (nI j) = some (hn_b01 (vY V j).2.2.2.2.2)) ∧
  (∀ t, t < 10 → (vE V t = none ∧ μ (c + 11) t = -1) ∨ ∃ a d, vE V t = some (a, d) ∧ μ (c + 10) t = nI a ∧ μ (c + 11) t = nI d) ∧
  (∀ t, t < 10 → (μ (c + 12) t).toInt = vT V t)
def repM (μ : hn_M) (m : Nat) (V : hn_Vw) : Prop :=
  (μ 76 m = nI (vN V) ∧ μ 78 m = nI (vP V) ∧ μ 80 m = nI (vK V)) ∧
  (∀ s, s < vN V → μ 77 (36 * m + 3 * s) = nI (vS V s).1 ∧ μ 77 (36 * m + 3 * s + 1) = nI (vS V s).2.1 ∧ (μ 77 (36 * m + 3 * s + 2)).toInt = (vS V s).2.2) ∧
  (∀ q, q < vP V → μ 79 (40 * m + 2 * q) = nI (vQ V q).1 ∧ μ 79 (40 * m + 2 * q + 1) = nI (vQ V q).2) ∧
  (∀ j, j < vK V → μ 81 (180 * m + 6 * j) = nI (vY V j).1 ∧ μ 81 (180 * m + 6 * j + 1) = nI (vY V j).2.1 ∧ μ 81 (180 * m + 6 * j + 2) = nI (vY V j).2.2.1 ∧ μ 81 (180 * m + 6 * j + 3) = nI (vY V j).2.2.2.1 ∧ μ 81 (180 * m + 6 * j + 4) = hn_b01 (vY V j).2.2.2.2.1 ∧ μ 81 (180 * m + 6 * j + 5) = hn_b01 (vY V j).2.2.2.2.2) ∧
  (∀ t, t < 10 → (vE V t = none ∧ μ 82 (20 * m + 2 * t) = -1) ∨ ∃ a d, vE V t = some (a, d) ∧ μ 82 (20 * m + 2 * t) = nI a ∧ μ 82 (20 * m + 2 * t + 1) = nI d) ∧
  (∀ t, t < 10 → (μ 83 (10 * m + t)).toInt = vT V t)
/-- ranges, and the ways that must be there -/
def okV (V : hn_Vw) (D : Nat → Nat → Int) : Prop :=
  (vN V ≤ 12 ∧ vP V ≤ 20 ∧ vK V ≤ 30) ∧
  (∀ s, s < vN V → (vS V s).1 < 6 ∧ (vS V s).2.1 < 8 ∧ -1 ≤ (vS V s).2.2 ∧ (vS V s).2.2 ≤ 999) ∧
  (∀ q, q < vP V → (vQ V q).1 < vN V ∧ (vQ V q).2 < vN V ∧ (vQ V q).1 ≠ (vQ V q).2 ∧ D (vS V (vQ V q).2).1 (vS V (vQ V q).1).1 < 1000000) ∧
  (∀ j, j < vK V → (vY V j).1 < vN V ∧ (vY V j).2.1 < 10 ∧ (vY V j).2.2.1 < 10000 ∧ (vY V j).2.2.2.1 < 256 ∧ ∀ a d, vE V (vY V j).2.1 = some (a, d) → D a (vS V (vY V j).1).1 < 1000000) ∧
  (∀ t, t < 10 → ∀ a d, vE V t = some (a, d) → a < 6 ∧ d < 1000) ∧
  (∀ t, t < 10 → -1 ≤ vT V t ∧ vT V t ≤ 9999)
/-- days between towns: bounds -/
def okD (D : Nat → Nat → Int) : Prop := ∀ a b, a < 6 → b < 6 → 0 ≤ D a b ∧ (D a b ≤ 3840 ∨ D a b = 1000000)
def sp_hi (V : hn_Vw) (s : Nat) : Int := if (vS V s).2.2 = -1 then 999 else (vS V s).2.2
def sp_ev (V : hn_Vw) (D : Nat → Nat → Int) (j : Nat) : Option Int := (vE V (vY V j).2.1).map fun a => (a.2 : Int) + D a.1 (vS V (vY V j).1).1
def sp_m (x z : Int) : Int := if x < z then z else x
def sp_lo (V : hn_Vw) (D : Nat → Nat → Int) : Nat → Nat → Int
  | 0 => fun s => if (vS V s).2.2 < 0 then 0 else (vS V s).2.2
  | j + 1 => match sp_ev V D j with
    | none => sp_lo V D j
    | some z => dy_up (sp_lo V D j) (vY V j).1 (sp_m (sp_lo V D j (vY V j).1) z)
def sp_e (V : hn_Vw) (D : Nat → Nat → Int) (q : Nat) : Nat × Nat × Int := ((vQ V q).1, (vQ V q).2, D (vS V (vQ V q).2).1 (vS V (vQ V q).1).1)
def sp_E (V : hn_Vw) (D : Nat → Nat → Int) : List (Nat × Nat × Int) := (List.range (vP V)).map (sp_e V D)
def dy_rq (e : Nat → Nat × Nat × Int) : Nat → (Nat → Int) → Nat → Int
  | 0, x => x
  | q + 1, x => dy_r1 (dy_rq e q x) (e q)
theorem dy_rq_rd (e : Nat → Nat × Nat × Int) (p : Nat) (x : Nat → Int) : dy_rd ((List.range p).map e) x = dy_rq e p x := by
  induction p with
  | zero => rfl
  | succ p ih =>
    unfold dy_rd at ih ⊢
    rw [List.range_succ, List.map_append, List.foldl_append, ih]
    rfl
theorem sp_in {V : hn_Vw} {D : Nat → Nat → Int} (h : okV V D) : dy_in (vN V) (sp_E V D) := by
  intro q hq
  obtain ⟨i, hi, rfl⟩ := List.mem_map.mp hq
  have := h.2.2.1 i (List.mem_range.mp hi)
  exact ⟨this.1, this.2.1⟩
theorem sp_ev_b {V : hn_Vw} {D : Nat → Nat → Int} (h : okV V D) (hD : okD D) {j : Nat} (hj : j < vK V) {z : Int} (hz : sp_ev V D j = some z) : ∃ a d, vE V (vY V j).2.1 = some (a, d) ∧ a < 6 ∧ d < 1000 ∧ z = (d : Int) + D a (vS V (vY V j).1).1 ∧ 0 ≤ D a (vS V (vY V j).1).1 ∧ D a (vS V (vY V j).1).1 ≤ 3840 := by
  unfold sp_ev at hz
  obtain ⟨⟨a, d⟩, h1, h2⟩ := Option.map_eq_some_iff.mp hz
  have g := h.2.2.2.1 j hj
  have g2 := h.2.2.2.2.1 _ g.2.1 a d h1
  have g3 := h.2.1 _ g.1
  have g4 := hD a _ g2.1 g3.1
  have g5 := g.2.2.2.2 a d h1
  exact ⟨a, d, h1, g2.1, g2.2, h2.symm, by omega, by omega⟩
theorem sp_lo_b {V : hn_Vw} {D : Nat → Nat → Int} (h : okV V D) (hD : okD D) : ∀ j, j ≤ vK V → ∀ s, s < vN V → 0 ≤ sp_lo V D j s ∧ sp_lo V D j s ≤ 4840 := by
  intro j
  induction j with
  | zero =>
    intro _ s hs
    have := h.2.1 s hs
    show 0 ≤ (if (vS V s).2.2 < 0 then 0 else (vS V s).2.2) ∧ (if (vS V s).2.2 < 0 then 0 else (vS V s).2.2) ≤ 4840
    by_cases h1 : (vS V s).2.2 < 0
    · rw [if_pos h1]; omega
    · rw [if_neg h1]; omega
  | succ j ih =>
    intro hj s hs
    have ih := ih (by omega)
    unfold sp_lo
    cases hz : sp_ev V D j with
    | none => exact ih s hs
    | some z =>
      obtain ⟨a, d, h1, h2, h3, h4, h5, h6⟩ := sp_ev_b h hD (by omega) hz
      have ih2 := ih _ (h.2.2.2.1 j (by omega)).1
      have ih1 := ih s hs
      simp only
      unfold dy_up sp_m
      by_cases c1 : s = (vY V j).1
      · rw [if_pos c1]
        by_cases c2 : sp_lo V D j (vY V j).1 < z
        · rw [if_pos c2]; omega
        · rw [if_neg c2]; omega
      · rw [if_neg c1]; exact ih1
theorem hn_leN {a b : Nat} (ha : a < 2 ^ 31) (hb : b < 2 ^ 31) : (nI a ≤ nI b) = (a ≤ b) := propext (nI_leI ha hb)
/-- the class's floors in the row d -/
theorem sp_floors {V : hn_Vw} {D : Nat → Nat → Int} {O : hn_M} {d F : Nat} (hV : okV V D) (hD : okD D) (hC : repC O 6 V) (hDO : ∀ a b, a < 6 → b < 6 → pD O a b = D a b) (hd : d = 47 ∨ d = 49) (hF : 31 ≤ F) : ∃ μ', fX3_layFloors F d O = some μ' ∧ (∀ k, k ≠ d → μ' k = O k) ∧ ∀ s, s < vN V → (μ' d s).toInt = sp_lo V D (vK V) s := by
  obtain ⟨⟨c0, c4, c7⟩, cS, cQ, cY, cE, cT⟩ := hC
  have hn := hV.1
  obtain ⟨μ1, h1, h2⟩ := hn_loopE (fun n j μ' => fX3_layFloors_3 F d n (nI j) μ') (vN V) (fun μ' => fX3_layFloors_33 F d μ') (fun j μ' => (∀ k, k ≠ d → μ' k = O k) ∧ ∀ s, s < j → (μ' d s).toInt = sp_lo V D 0 s)
    (fun n s hi => by
      show fX3_layFloors_3 F d (n + 1) (nI (vN V)) s = _
      have e6 : s 6 = O 6 := hi.1 6 (by omega)
      rw [fX3_layFloors_3, e6, c0, if_pos (by rw [hn_leN (by omega) (by omega)]; exact Nat.le_refl _)])
    (fun n j s hj hi => by
      have e6 : s 6 = O 6 := hi.1 6 (by omega)
      have e9 : s 9 = O 9 := hi.1 9 (by omega)
      have cs := cS j hj
      refine ⟨hn_up s d j (if O 9 j < 0 then 0 else O 9 j), ?_, fun k hk => by rw [hn_up_ne hk]; exact hi.1 k hk, fun s2 hs2 => ?_⟩
      · show fX3_layFloors_3 F d (n + 1) (nI j) s = _
        rw [fX3_layFloors_3, e6, c0, if_neg (by rw [hn_leN (by omega) (by omega)]; omega), hn_rd_at (by omega) (by decide), e9, hn_wr_at (by omega) (by decide), nI_1]
      · rw [hn_upk]
        by_cases hsj : s2 = j
        · subst hsj
          rw [if_pos rfl]
          show _ = (if (vS V s2).2.2 < 0 then 0 else (vS V s2).2.2)
          have z : (O 9 s2 < 0) = ((vS V s2).2.2 < 0) := by rw [hn_lt, cs.2.2]; rfl
          by_cases hz : (vS V s2).2.2 < 0
          · rw [if_pos (by rw [z]; exact hz), if_pos hz]; rfl
          · rw [if_neg (by rw [z]; exact hz), if_neg hz]; exact cs.2.2
        · rw [if_neg hsj]; exact hi.2 s2 (by omega))
    (vN V) 0 F O (by omega) (by omega) ⟨fun k _ => rfl, fun s hs => by omega⟩
  obtain ⟨μ2, h3, h4⟩ := hn_loopE (fun n j μ' => fX3_layFloors_36 F d n (nI j) μ') (vK V) some (fun j μ' => (∀ k, k ≠ d → μ' k = O k) ∧ ∀ s, s < vN V → (μ' d s).toInt = sp_lo V D j s)
    (fun n s hi => by
      show fX3_layFloors_36 F d (n + 1) (nI (vK V)) s = _
      have e6 : s 6 = O 6 := hi.1 6 (by omega)
      rw [fX3_layFloors_36, e6, c7, if_pos (by rw [hn_leN (by omega) (by omega)]; exact Nat.le_refl _)])
    (fun n j s hj hi => by
      have e6 : s 6 = O 6 := hi.1 6 (by omega)
      have e7 : s 7 = O 7 := hi.1 7 (by omega)
      have e4 : s 4 = O 4 := hi.1 4 (by omega)
      have e12 : s 12 = O 12 := hi.1 12 (by omega)
      have e13 : s 13 = O 13 := hi.1 13 (by omega)
      have e16 : s 16 = O 16 := hi.1 16 (by omega)
      have e17 : s 17 = O 17 := hi.1 17 (by omega)
      have cy := cY j hj
      have oy := hV.2.2.2.1 j hj
      have cs := cS _ oy.1
      have os := hV.2.1 _ oy.1
      show ∃ s', fX3_layFloors_36 F d (n + 1) (nI j) s = _ ∧ _
      rw [fX3_layFloors_36, e6, c7, if_neg (by rw [hn_leN (by omega) (by omega)]; omega), hn_rd_at (by omega) (by decide), hn_rd_at (by omega) (by decide), e12, e13, cy.1, cy.2.1]
      unfold fX1_hasHappened
      rw [hn_rd_at oy.2.1 (by decide), e17]
      rcases cE _ oy.2.1 with ⟨g1, g2⟩ | ⟨a, dd, g1, g2, g3⟩
      · rw [g2, if_pos rfl, Option.bind_some, if_pos rfl]
        refine ⟨s, ?_, hi.1, fun s2 hs2 => ?_⟩
        · unfold fX3_layFloors_113
          rw [nI_1]
        · have ez : sp_ev V D j = none := by unfold sp_ev; rw [g1]; rfl
          show _ = sp_lo V D (j + 1) s2
          unfold sp_lo
          rw [ez]
          exact hi.2 s2 hs2
      · have ez : sp_ev V D j = some ((dd : Int) + D a (vS V (vY V j).1).1) := by unfold sp_ev; rw [g1]; rfl
        obtain ⟨a', d', q1, q2, q3, q4, q5, q6⟩ := sp_ev_b hV hD hj ez
        cases g1.symm.trans q1
        have hlo := sp_lo_b hV hD j (by omega) _ oy.1
        rw [g3, if_neg (by rw [hn_eq_i, nI_toInt (by omega)]; show ¬ (dd : Int) = -1; omega), Option.bind_some, if_neg (by decide), hn_rd_at oy.2.1 (by decide), hn_rd_at oy.2.1 (by decide), e16, e17, g2, g3, hn_rd_at (by omega) (by decide), e7, cs.1]
        unfold fX2_days
        rw [show nI a * 6 + nI (vS V (vY V j).1).1 = nI (6 * a + (vS V (vY V j).1).1) by rw [show (6 : Int32) = nI 6 from rfl, pk_mul, nI_add, Nat.mul_comm], hn_rd_at (by omega) (by decide), e4, Option.bind_some, hn_rd_at (by omega) (by decide), hn_wr_at (by omega) (by decide)]
        have hpd : (O 4 (6 * a + (vS V (vY V j).1).1)).toInt = D a (vS V (vY V j).1).1 := hDO a _ q2 os.1
        have sm : (nI dd + O 4 (6 * a + (vS V (vY V j).1).1)).toInt = (dd : Int) + D a (vS V (vY V j).1).1 := by
          rw [hn_addI (by rw [nI_toInt (by omega)]; omega) (by rw [nI_toInt (by omega)]; omega), nI_toInt (by omega), hpd]
        refine ⟨hn_up s d (vY V j).1 (if s d (vY V j).1 < nI dd + O 4 (6 * a + (vS V (vY V j).1).1) then nI dd + O 4 (6 * a + (vS V (vY V j).1).1) else s d (vY V j).1), ?_, fun k hk => by rw [hn_up_ne hk]; exact hi.1 k hk, fun s2 hs2 => ?_⟩
        · unfold fX3_layFloors_113
          rw [nI_1]
        · show _ = sp_lo V D (j + 1) s2
          unfold sp_lo
          rw [ez, hn_upk]
          simp only
          unfold dy_up sp_m
          have hx := hi.2 _ oy.1
          by_cases hs3 : s2 = (vY V j).1
          · rw [if_pos hs3, if_pos hs3]
            by_cases hlt : sp_lo V D j (vY V j).1 < (dd : Int) + D a (vS V (vY V j).1).1
            · rw [if_pos hlt, if_pos (by rw [hn_lt, sm, hx]; exact hlt)]; exact sm
            · rw [if_neg hlt, if_neg (by rw [hn_lt, sm, hx]; exact hlt)]; exact hx
          · rw [if_neg hs3, if_neg hs3]; exact hi.2 s2 hs2)
    (vK V) 0 F μ1 (by omega) (by omega) h2
  refine ⟨μ2, ?_, h4⟩
  refine Eq.trans h1 ?_
  unfold fX3_layFloors_33
  exact h3
