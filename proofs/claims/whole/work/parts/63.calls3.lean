/-! calls: sheet, dated, behind -/
def vSheet (V : hn_Vw) (e : Nat × Nat × Int) : hn_Vw := ((vN V + 1, vP V, vK V), (fun s => if s = vN V then e else vS V s), V.2.2)
def vDate (V : hn_Vw) (s0 : Nat) (d : Int) : hn_Vw := (V.1, (fun s => if s = s0 then ((vS V s).1, (vS V s).2.1, d) else vS V s), V.2.2)
def vPair (V : hn_Vw) (p : Nat × Nat) : hn_Vw := ((vN V, vP V + 1, vK V), V.2.1, (fun q => if q = vP V then p else vQ V q), V.2.2.2)
def vSay (V : hn_Vw) (y : Nat × Nat × Nat × Nat × Bool × Bool) : hn_Vw := ((vN V, vP V, vK V + 1), V.2.1, V.2.2.1, (fun j => if j = vK V then y else vY V j), V.2.2.2.2)
def vHap (V : hn_Vw) (t : Nat) (e : Nat × Nat) : hn_Vw := (V.1, V.2.1, V.2.2.1, V.2.2.2.1, (fun u => if u = t then some e else vE V u), V.2.2.2.2.2)
def vTru (V : hn_Vw) (t : Nat) (n : Int) : hn_Vw := (V.1, V.2.1, V.2.2.1, V.2.2.2.1, V.2.2.2.2.1, (fun u => if u = t then n else vT V u))
section c3
variable {μ ν : hn_M} {V : hn_Vw} {D S : Nat → Nat → Int} {o F : Nat}
theorem rm_mk (h : (μ 76 0 = nI (vN V) ∧ μ 78 0 = nI (vP V) ∧ μ 80 0 = nI (vK V)) ∧
    (∀ s, s < vN V → μ 77 (3 * s) = nI (vS V s).1 ∧ μ 77 (3 * s + 1) = nI (vS V s).2.1 ∧ (μ 77 (3 * s + 2)).toInt = (vS V s).2.2) ∧
    (∀ q, q < vP V → μ 79 (2 * q) = nI (vQ V q).1 ∧ μ 79 (2 * q + 1) = nI (vQ V q).2) ∧
    (∀ j, j < vK V → μ 81 (6 * j) = nI (vY V j).1 ∧ μ 81 (6 * j + 1) = nI (vY V j).2.1 ∧ μ 81 (6 * j + 2) = nI (vY V j).2.2.1 ∧ μ 81 (6 * j + 3) = nI (vY V j).2.2.2.1 ∧ μ 81 (6 * j + 4) = hn_b01 (vY V j).2.2.2.2.1 ∧ μ 81 (6 * j + 5) = hn_b01 (vY V j).2.2.2.2.2) ∧
    (∀ t, t < 10 → (vE V t = none ∧ μ 82 (2 * t) = -1) ∨ ∃ a d, vE V t = some (a, d) ∧ μ 82 (2 * t) = nI a ∧ μ 82 (2 * t + 1) = nI d) ∧
    (∀ t, t < 10 → (μ 83 t).toInt = vT V t)) : repM μ 0 V := by
  unfold repM
  simpa only [Nat.mul_zero, Nat.zero_add] using h
theorem c_sheet (x y d : Int32) : hn_cM (fun μ => fX7_sheet x y d μ) (fun μ => fX8_sheet x y d μ) := by
  intro μ ⟨V, D, S, o, hB, hS⟩
  have hI : hn_Inv μ := ⟨V, D, S, o, hB, hS⟩
  obtain ⟨i1, i2, i3, i4, i5, i6, i7⟩ := id hB
  have hn := i2.2.2.1
  show ∃ r μ1 μ2, fX7_sheet x y d μ = some (r, μ1) ∧ fX8_sheet x y d μ1 = some (r, μ2) ∧ _
  by_cases hg : (0 ≤ x.toInt ∧ x.toInt ≤ 5) ∧ (0 ≤ y.toInt ∧ y.toInt ≤ 7) ∧ (-1 ≤ d.toInt ∧ d.toInt ≤ 999)
  rotate_left 1
  · refine ⟨-1, μ, μ, ?_, ?_, hI⟩
    · unfold fX7_sheet
      rw [hn_town7, hn_writer7, hn_dayn7]
      by_cases h1 : 0 ≤ x.toInt ∧ x.toInt ≤ 5
      rotate_left 1
      · rw [hn_ckf h1]
      by_cases h2 : 0 ≤ y.toInt ∧ y.toInt ≤ 7
      rotate_left 1
      · rw [hn_ckt h1, hn_ckf h2]
      rw [hn_ckt h1, hn_ckt h2, hn_ckf (fun z => hg ⟨h1, h2, z⟩)]
    · unfold fX8_sheet
      rw [hn_town8, hn_in8 y (a := 0) (b := 7) rfl rfl, hn_in8 d (a := -1) (b := 999) rfl rfl]
      by_cases h1 : 0 ≤ x.toInt ∧ x.toInt ≤ 5
      rotate_left 1
      · rw [hn_ckf h1]
      by_cases h2 : 0 ≤ y.toInt ∧ y.toInt ≤ 7
      rotate_left 1
      · rw [hn_ckt h1, hn_ckf h2]
      rw [hn_ckt h1, hn_ckt h2, hn_ckf (fun z => hg ⟨h1, h2, z⟩)]
  obtain ⟨h1, h2, h3⟩ := hg
  have cN : μ 6 0 = nI (vN V) := i2.1.1.1
  have mN := rm_n i2.2.1
  by_cases h0 : vN V = 12
  · refine ⟨-3, μ, μ, ?_, ?_, hI⟩
    · unfold fX7_sheet
      rw [hn_town7, hn_writer7, hn_dayn7, hn_ckt h1, hn_ckt h2, hn_ckt h3, cN, h0, if_neg (by decide)]
    · unfold fX8_sheet
      rw [hn_town8, hn_in8 y (a := 0) (b := 7) rfl rfl, hn_in8 d (a := -1) (b := 999) rfl rfl, hn_ckt h1, hn_ckt h2, hn_ckt h3, hn_rd_0 (by decide) (by decide), mN, h0, if_pos (by decide)]
  obtain ⟨a, ha, rfl⟩ := hn_ix' 6 (by decide) h1
  obtain ⟨w, hw, rfl⟩ := hn_ix' 8 (by decide) h2
  have hN : vN V < 12 := by omega
  refine ⟨nI (vN V), hn_up (hn_up (hn_up (hn_up (hn_up μ 0 12 0) 7 (vN V) (nI a)) 8 (vN V) (nI w)) 9 (vN V) d) 6 0 (nI (vN V + 1)), hn_up (hn_up (hn_up (hn_up (hn_up (hn_up (hn_up (hn_up (hn_up μ 0 12 0) 7 (vN V) (nI a)) 8 (vN V) (nI w)) 9 (vN V) d) 6 0 (nI (vN V + 1))) 77 (3 * vN V) (nI a)) 77 (3 * vN V + 1) (nI w)) 77 (3 * vN V + 2) d) 76 0 (nI (vN V + 1)), ?_, ?_, ?_⟩
  · unfold fX7_sheet
    rw [hn_town7, hn_writer7, hn_dayn7, hn_ckt h1, hn_ckt h2, hn_ckt h3, cN, if_pos (show nI (vN V) < 12 from nI_lt (b := 12) hN (by decide))]
    unfold hn_pf fX1_addSheet hn_pf
    simp (disch := omega) only [hn_up_ne, cN, hn_wr_at, hn_p1, Option.bind_some]
  · unfold fX8_sheet
    rw [hn_town8, hn_in8 (nI w) (a := 0) (b := 7) rfl rfl, hn_in8 d (a := -1) (b := 999) rfl rfl, hn_ckt h1, hn_ckt h2, hn_ckt h3]
    simp (disch := omega) only [hn_rd_0, hn_wr_0, hn_up_ne, hn_up_at, mN, hn_wr_at, hn_ix3, hn_p1, hn_p2, nI_pred]
    rw [if_neg (by rw [show (12 : Int32) = nI 12 from rfl, nI_eq (by omega) (by decide)]; exact h0)]
  · generalize hν : hn_up (hn_up (hn_up (hn_up (hn_up (hn_up (hn_up (hn_up (hn_up μ 0 12 0) 7 (vN V) (nI a)) 8 (vN V) (nI w)) 9 (vN V) d) 6 0 (nI (vN V + 1))) 77 (3 * vN V) (nI a)) 77 (3 * vN V + 1) (nI w)) 77 (3 * vN V + 2) d) 76 0 (nI (vN V + 1)) = ν
    have fk : ∀ k, k ≠ 0 → k ≠ 6 → k ≠ 7 → k ≠ 8 → k ≠ 9 → k ≠ 76 → k ≠ 77 → ν k = μ k := fun k k0 k1 k2 k3 k4 k5 k6 => by rw [← hν, hn_up_ne k5, hn_up_ne k6, hn_up_ne k6, hn_up_ne k6, hn_up_ne k1, hn_up_ne k4, hn_up_ne k3, hn_up_ne k2, hn_up_ne k0]
    have f0 : ∀ i, i ≠ 12 → ν 0 i = μ 0 i := fun i hi => by rw [← hν]; simp (disch := omega) only [hn_up_ne, hn_up_off hi]
    have f12 : ν 0 12 = 0 := by rw [← hν]; simp (disch := omega) only [hn_up_ne, hn_up_at]
    have n60 : ν 6 0 = nI (vN V + 1) := by rw [← hν]; simp (disch := omega) only [hn_up_ne, hn_up_at]
    have n6 : ∀ i, i ≠ 0 → ν 6 i = μ 6 i := fun i hi => by rw [← hν]; simp (disch := omega) only [hn_up_ne, hn_up_off hi]
    have n7 : ∀ s, ν 7 s = if s = vN V then nI a else μ 7 s := fun s => by rw [← hν]; simp (disch := omega) only [hn_up_ne, hn_upk]
    have n8 : ∀ s, ν 8 s = if s = vN V then nI w else μ 8 s := fun s => by rw [← hν]; simp (disch := omega) only [hn_up_ne, hn_upk]
    have n9 : ∀ s, ν 9 s = if s = vN V then d else μ 9 s := fun s => by rw [← hν]; simp (disch := omega) only [hn_up_ne, hn_upk]
    have m76 : ν 76 0 = nI (vN V + 1) := by rw [← hν]; exact hn_up_at
    have m76' : ∀ i, 1 ≤ i → ν 76 i = μ 76 i := fun i hi => by rw [← hν, hn_up_off (by omega)]; simp (disch := omega) only [hn_up_ne]
    have m77 : ∀ i, ν 77 i = if i = 3 * vN V + 2 then d else if i = 3 * vN V + 1 then nI w else if i = 3 * vN V then nI a else μ 77 i := fun i => by rw [← hν]; simp (disch := omega) only [hn_up_ne, hn_upk]
    refine ⟨vSheet V (a, w, d.toInt), D, S, o, hn_Ba_p (μ := μ) (V := V) ⟨fun k k0 k1 k2 => fk k k0 (by omega) (by omega) (by omega) (by omega) (by omega) (by omega), f0⟩ ⟨⟨⟨n60, ?_, ?_⟩, ?_, ?_, ?_, ?_, ?_⟩, rm_mk ⟨⟨m76, ?_, ?_⟩, ?_, ?_, ?_, ?_, ?_⟩, ?_⟩ ?_ hB, Or.inl f12⟩
    · rw [n6 4 (by decide)]; exact i2.1.1.2.1
    · rw [n6 7 (by decide)]; exact i2.1.1.2.2
    · intro s hs
      have hs : s < vN V + 1 := hs
      show ν 7 s = nI (if s = vN V then (a, w, d.toInt) else vS V s).1 ∧ ν 8 s = nI (if s = vN V then (a, w, d.toInt) else vS V s).2.1 ∧ (ν 9 s).toInt = (if s = vN V then (a, w, d.toInt) else vS V s).2.2
      rw [n7, n8, n9]
      by_cases hc : s = vN V
      · simp only [if_pos hc]; exact ⟨trivial, trivial, trivial⟩
      · simp only [if_neg hc]; exact i2.1.2.1 s (by omega)
    · intro q hq
      show ν 10 q = _ ∧ ν 11 q = _
      rw [fk 10 (by decide) (by decide) (by decide) (by decide) (by decide) (by decide) (by decide), fk 11 (by decide) (by decide) (by decide) (by decide) (by decide) (by decide) (by decide)]
      exact i2.1.2.2.1 q hq
    · intro j hj
      show ν 12 j = _ ∧ ν 13 j = _ ∧ ν 14 j = _ ∧ ν 15 j = _ ∧ fX7_isIn (ν 6 12) (nI j) = _ ∧ fX7_isIn (ν 6 13) (nI j) = _
      rw [fk 12 (by decide) (by decide) (by decide) (by decide) (by decide) (by decide) (by decide), fk 13 (by decide) (by decide) (by decide) (by decide) (by decide) (by decide) (by decide), fk 14 (by decide) (by decide) (by decide) (by decide) (by decide) (by decide) (by decide), fk 15 (by decide) (by decide) (by decide) (by decide) (by decide) (by decide) (by decide), n6 12 (by decide), n6 13 (by decide)]
      exact i2.1.2.2.2.1 j hj
    · intro t ht
      rw [fk (6 + 10) (by decide) (by decide) (by decide) (by decide) (by decide) (by decide) (by decide), fk (6 + 11) (by decide) (by decide) (by decide) (by decide) (by decide) (by decide) (by decide)]
      exact i2.1.2.2.2.2.1 t ht
    · intro t ht
      rw [fk (6 + 12) (by decide) (by decide) (by decide) (by decide) (by decide) (by decide) (by decide)]
      exact i2.1.2.2.2.2.2 t ht
    · rw [fk 78 (by decide) (by decide) (by decide) (by decide) (by decide) (by decide) (by decide)]; exact (show μ 78 0 = nI (vP V) from rm_p i2.2.1)
    · rw [fk 80 (by decide) (by decide) (by decide) (by decide) (by decide) (by decide) (by decide)]; exact (show μ 80 0 = nI (vK V) from rm_k i2.2.1)
    · intro s hs
      have hs : s < vN V + 1 := hs
      show _ = nI (if s = vN V then (a, w, d.toInt) else vS V s).1 ∧ _ = nI (if s = vN V then (a, w, d.toInt) else vS V s).2.1 ∧ _ = (if s = vN V then (a, w, d.toInt) else vS V s).2.2
      rw [m77, m77, m77]
      by_cases hc : s = vN V
      · subst hc
        rw [if_neg (show ¬ 3 * vN V = 3 * vN V + 2 by omega), if_neg (show ¬ 3 * vN V = 3 * vN V + 1 by omega), if_pos (show 3 * vN V = 3 * vN V from rfl), if_neg (show ¬ 3 * vN V + 1 = 3 * vN V + 2 by omega), if_pos (show 3 * vN V + 1 = 3 * vN V + 1 from rfl), if_pos (show 3 * vN V + 2 = 3 * vN V + 2 from rfl), if_pos (show vN V = vN V from rfl)]
        exact ⟨rfl, rfl, rfl⟩
      · rw [if_neg hc, if_neg (by omega), if_neg (by omega), if_neg (by omega), if_neg (by omega), if_neg (by omega), if_neg (by omega), if_neg (by omega), if_neg (by omega), if_neg (by omega)]
        exact rm_s i2.2.1 (by omega)
    · intro q hq
      rw [fk 79 (by decide) (by decide) (by decide) (by decide) (by decide) (by decide) (by decide)]
      exact rm_q i2.2.1 hq
    · intro j hj
      rw [fk 81 (by decide) (by decide) (by decide) (by decide) (by decide) (by decide) (by decide)]
      exact rm_y i2.2.1 hj
    · intro t ht
      rw [fk 82 (by decide) (by decide) (by decide) (by decide) (by decide) (by decide) (by decide)]
      exact rm_e i2.2.1 ht
    · intro t ht
      rw [fk 83 (by decide) (by decide) (by decide) (by decide) (by decide) (by decide) (by decide)]
      exact rm_t i2.2.1 ht
    · obtain ⟨o1, o2, o3, o4, o5, o6⟩ := i2.2.2
      have eS : ∀ s, s < vN V → vS (vSheet V (a, w, d.toInt)) s = vS V s := fun s hs => if_neg (by omega)
      refine ⟨⟨show vN V + 1 ≤ 12 by omega, o1.2⟩, fun s hs => ?_, fun q hq => ?_, fun j hj => ?_, o5, o6⟩
      · have hs : s < vN V + 1 := hs
        by_cases hc : s = vN V
        · have : vS (vSheet V (a, w, d.toInt)) s = (a, w, d.toInt) := if_pos hc
          rw [this]
          exact ⟨ha, hw, h3.1, h3.2⟩
        · rw [eS s (by omega)]; exact o2 s (by omega)
      · have := o3 q hq
        show (vQ V q).1 < vN V + 1 ∧ (vQ V q).2 < vN V + 1 ∧ _ ∧ D (vS (vSheet V (a, w, d.toInt)) (vQ V q).2).1 (vS (vSheet V (a, w, d.toInt)) (vQ V q).1).1 < 1000000
        rw [eS _ this.1, eS _ this.2.1]
        exact ⟨by omega, by omega, this.2.2.1, this.2.2.2⟩
      · have := o4 j hj
        show (vY V j).1 < vN V + 1 ∧ _ ∧ _ ∧ _ ∧ ∀ a' d', vE V (vY V j).2.1 = some (a', d') → D a' (vS (vSheet V (a, w, d.toInt)) (vY V j).1).1 < 1000000
        rw [eS _ this.1]
        exact ⟨by omega, this.2⟩
    · exact iK_b (μ := μ) (V := V) (by show vN V ≤ vN V + 1; omega) (f0 9 (by decide)) (by rw [fk 72 (by decide) (by decide) (by decide) (by decide) (by decide) (by decide) (by decide)]) (fun k a b => fk k (by omega) (by omega) (by omega) (by omega) (by omega) (by omega) (by omega))
        (fun k hk i hi => by
          rcases hk with rfl | rfl | rfl
          · exact m76' i hi
          · rw [fk 78 (by decide) (by decide) (by decide) (by decide) (by decide) (by decide) (by decide)]
          · rw [fk 80 (by decide) (by decide) (by decide) (by decide) (by decide) (by decide) (by decide)])
        (fun i hi => by rw [m77, if_neg (by omega), if_neg (by omega), if_neg (by omega)]) (fun i _ => by rw [fk 79 (by decide) (by decide) (by decide) (by decide) (by decide) (by decide) (by decide)]) (fun i _ => by rw [fk 81 (by decide) (by decide) (by decide) (by decide) (by decide) (by decide) (by decide)]) (fun i _ => by rw [fk 82 (by decide) (by decide) (by decide) (by decide) (by decide) (by decide) (by decide)]) (fun i _ => by rw [fk 83 (by decide) (by decide) (by decide) (by decide) (by decide) (by decide) (by decide)]) i3
end c3
