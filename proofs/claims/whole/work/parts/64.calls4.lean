/-! calls: dated, behind -/
section c4
variable {μ ν : hn_M} {V : hn_Vw} {D S : Nat → Nat → Int} {o F : Nat}
theorem c_dated (x d : Int32) : hn_cM (fun μ => fX7_dated x d μ) (fun μ => fX8_dated x d μ) := by
  intro μ ⟨V, D, S, o, hB, hS⟩
  have hI : hn_Inv μ := ⟨V, D, S, o, hB, hS⟩
  obtain ⟨i1, i2, i3, i4, i5, i6, i7⟩ := id hB
  have hn := i2.2.2.1
  have cN : μ 6 0 = nI (vN V) := i2.1.1.1
  have mN := rm_n i2.2.1
  show ∃ r μ1 μ2, fX7_dated x d μ = some (r, μ1) ∧ fX8_dated x d μ1 = some (r, μ2) ∧ _
  by_cases hg : (0 ≤ x.toInt ∧ x.toInt ≤ (vN V : Int) - 1) ∧ (-1 ≤ d.toInt ∧ d.toInt ≤ 999)
  rotate_left 1
  · refine ⟨-100, μ, μ, ?_, ?_, hI⟩
    · unfold fX7_dated
      rw [hn_sheet7 cN hn.1, hn_dayn7]
      by_cases h1 : 0 ≤ x.toInt ∧ x.toInt ≤ (vN V : Int) - 1
      rotate_left 1
      · rw [hn_ckf h1]
      rw [hn_ckt h1, hn_ckf (fun z => hg ⟨h1, z⟩)]
    · unfold fX8_dated
      rw [hn_sheet8 mN hn.1, hn_in8 d (a := -1) (b := 999) rfl rfl]
      by_cases h1 : 0 ≤ x.toInt ∧ x.toInt ≤ (vN V : Int) - 1
      rotate_left 1
      · rw [hn_ckf h1]
      rw [hn_ckt h1, hn_ckf (fun z => hg ⟨h1, z⟩)]
  obtain ⟨h1, h3⟩ := hg
  obtain ⟨s0, hs0, rfl⟩ := hn_ix h1
  have e77 : μ 77 (3 * s0 + 2) = μ 9 s0 := hn_eq_i.mpr (by rw [(rm_s i2.2.1 hs0).2.2]; exact (i2.1.2.1 s0 hs0).2.2.symm)
  refine ⟨μ 9 s0, hn_up (hn_up μ 9 s0 d) 0 12 0, hn_up (hn_up (hn_up μ 9 s0 d) 0 12 0) 77 (3 * s0 + 2) d, ?_, ?_, ?_⟩
  · unfold fX7_dated
    rw [hn_sheet7 cN hn.1, hn_dayn7, hn_ckt h1, hn_ckt h3, hn_rd_at (by omega) (by decide), hn_wr_at (by omega) (by decide)]
    rfl
  · unfold fX8_dated
    rw [hn_sheet8 (V := V) (by rw [hn_up_ne (by decide), hn_up_ne (by decide)]; exact mN) hn.1, hn_in8 d (a := -1) (b := 999) rfl rfl, hn_ckt h1, hn_ckt h3, hn_ix3, hn_p2, hn_rd_at (by omega) (by decide), hn_wr_at (by omega) (by decide), hn_up_ne (show (77 : Nat) ≠ 0 by decide), hn_up_ne (show (77 : Nat) ≠ 9 by decide), e77]
  · generalize hν : hn_up (hn_up (hn_up μ 9 s0 d) 0 12 0) 77 (3 * s0 + 2) d = ν
    have fk : ∀ k, k ≠ 0 → k ≠ 9 → k ≠ 77 → ν k = μ k := fun k k0 k1 k2 => by rw [← hν, hn_up_ne k2, hn_up_ne k0, hn_up_ne k1]
    have f0 : ∀ i, i ≠ 12 → ν 0 i = μ 0 i := fun i hi => by rw [← hν]; simp (disch := omega) only [hn_up_ne, hn_up_off hi]
    have f12 : ν 0 12 = 0 := by rw [← hν]; simp (disch := omega) only [hn_up_ne, hn_up_at]
    have n9 : ∀ s, ν 9 s = if s = s0 then d else μ 9 s := fun s => by rw [← hν]; simp (disch := omega) only [hn_up_ne, hn_upk]
    have m77 : ∀ i, ν 77 i = if i = 3 * s0 + 2 then d else μ 77 i := fun i => by rw [← hν]; simp (disch := omega) only [hn_up_ne, hn_upk]
    have eS : ∀ s, vS (vDate V s0 d.toInt) s = if s = s0 then ((vS V s).1, (vS V s).2.1, d.toInt) else vS V s := fun s => rfl
    have eS1 : ∀ s, (vS (vDate V s0 d.toInt) s).1 = (vS V s).1 := fun s => by
      rw [eS]
      by_cases hc : s = s0
      · rw [if_pos hc]
      · rw [if_neg hc]
    refine ⟨vDate V s0 d.toInt, D, S, o, hn_Ba_p (μ := μ) (V := V) ⟨fun k k0 k1 k2 => fk k k0 (by omega) (by omega), f0⟩ ⟨⟨?_, ?_, ?_, ?_, ?_, ?_⟩, rm_mk ⟨?_, ?_, ?_, ?_, ?_, ?_⟩, ?_⟩ ?_ hB, Or.inl f12⟩
    · rw [fk 6 (by decide) (by decide) (by decide)]; exact i2.1.1
    · intro s hs
      show ν 7 s = _ ∧ ν 8 s = _ ∧ (ν 9 s).toInt = _
      rw [eS, fk 7 (by decide) (by decide) (by decide), fk 8 (by decide) (by decide) (by decide), n9]
      have := i2.1.2.1 s hs
      by_cases hc : s = s0
      · rw [if_pos hc, if_pos hc]; exact ⟨this.1, this.2.1, rfl⟩
      · rw [if_neg hc, if_neg hc]; exact this
    · intro q hq
      rw [fk (6 + 4) (by decide) (by decide) (by decide), fk (6 + 5) (by decide) (by decide) (by decide)]
      exact i2.1.2.2.1 q hq
    · intro j hj
      rw [fk (6 + 6) (by decide) (by decide) (by decide), fk (6 + 7) (by decide) (by decide) (by decide), fk (6 + 8) (by decide) (by decide) (by decide), fk (6 + 9) (by decide) (by decide) (by decide), fk 6 (by decide) (by decide) (by decide)]
      exact i2.1.2.2.2.1 j hj
    · intro t ht
      rw [fk (6 + 10) (by decide) (by decide) (by decide), fk (6 + 11) (by decide) (by decide) (by decide)]
      exact i2.1.2.2.2.2.1 t ht
    · intro t ht
      rw [fk (6 + 12) (by decide) (by decide) (by decide)]
      exact i2.1.2.2.2.2.2 t ht
    · rw [fk 76 (by decide) (by decide) (by decide), fk 78 (by decide) (by decide) (by decide), fk 80 (by decide) (by decide) (by decide)]
      exact i2.2.1.1
    · intro s hs
      rw [eS, m77, m77, m77]
      have := rm_s i2.2.1 hs
      by_cases hc : s = s0
      · subst hc
        rw [if_neg (show ¬ 3 * s = 3 * s + 2 by omega), if_neg (show ¬ 3 * s + 1 = 3 * s + 2 by omega), if_pos (show 3 * s + 2 = 3 * s + 2 from rfl), if_pos (show s = s from rfl)]
        exact ⟨this.1, this.2.1, rfl⟩
      · rw [if_neg hc, if_neg (by omega), if_neg (by omega), if_neg (by omega)]; exact this
    · intro q hq
      rw [fk 79 (by decide) (by decide) (by decide)]
      exact rm_q i2.2.1 hq
    · intro j hj
      rw [fk 81 (by decide) (by decide) (by decide)]
      exact rm_y i2.2.1 hj
    · intro t ht
      rw [fk 82 (by decide) (by decide) (by decide)]
      exact rm_e i2.2.1 ht
    · intro t ht
      rw [fk 83 (by decide) (by decide) (by decide)]
      exact rm_t i2.2.1 ht
    · obtain ⟨o1, o2, o3, o4, o5, o6⟩ := i2.2.2
      refine ⟨o1, fun s hs => ?_, fun q hq => ?_, fun j hj => ?_, o5, o6⟩
      · rw [eS]
        have := o2 s hs
        by_cases hc : s = s0
        · rw [if_pos hc]; exact ⟨this.1, this.2.1, h3.1, h3.2⟩
        · rw [if_neg hc]; exact this
      · rw [eS1, eS1]; exact o3 q hq
      · rw [eS1]; exact o4 j hj
    · exact iK_b (μ := μ) (V := V) (Nat.le_refl _) (f0 9 (by decide)) (by rw [fk 72 (by decide) (by decide) (by decide)]) (fun k a b => fk k (by omega) (by omega) (by omega))
        (fun k hk i hi => by rw [fk k (by omega) (by omega) (by omega)])
        (fun i hi => by rw [m77, if_neg (by omega)]) (fun i _ => by rw [fk 79 (by decide) (by decide) (by decide)]) (fun i _ => by rw [fk 81 (by decide) (by decide) (by decide)]) (fun i _ => by rw [fk 82 (by decide) (by decide) (by decide)]) (fun i _ => by rw [fk 83 (by decide) (by decide) (by decide)]) i3
theorem c_behind (x y : Int32) : hn_cM (fun μ => fX7_behind x y μ) (fun μ => fX8_behind x y μ) := by
  intro μ ⟨V, D, S, o, hB, hS⟩
  have hI : hn_Inv μ := ⟨V, D, S, o, hB, hS⟩
  obtain ⟨i1, i2, i3, i4, i5, i6, i7⟩ := id hB
  have hn := i2.2.2.1
  have cN : μ 6 0 = nI (vN V) := i2.1.1.1
  have cP : μ 6 4 = nI (vP V) := i2.1.1.2.1
  have mN := rm_n i2.2.1
  have mP := rm_p i2.2.1
  show ∃ r μ1 μ2, fX7_behind x y μ = some (r, μ1) ∧ fX8_behind x y μ1 = some (r, μ2) ∧ _
  by_cases hg : (0 ≤ x.toInt ∧ x.toInt ≤ (vN V : Int) - 1) ∧ (0 ≤ y.toInt ∧ y.toInt ≤ (vN V : Int) - 1) ∧ ¬ x = y
  rotate_left 1
  · refine ⟨-1, μ, μ, ?_, ?_, hI⟩
    · unfold fX7_behind
      rw [hn_sheet7 cN hn.1, hn_sheet7 cN hn.1]
      by_cases h1 : 0 ≤ x.toInt ∧ x.toInt ≤ (vN V : Int) - 1
      rotate_left 1
      · rw [hn_ckf h1]
      by_cases h2 : 0 ≤ y.toInt ∧ y.toInt ≤ (vN V : Int) - 1
      rotate_left 1
      · rw [hn_ckt h1, hn_ckf h2]
      rw [hn_ckt h1, hn_ckt h2, if_pos (Classical.byContradiction fun z => hg ⟨h1, h2, z⟩)]
    · unfold fX8_behind
      rw [hn_sheet8 mN hn.1, hn_sheet8 mN hn.1]
      by_cases h1 : 0 ≤ x.toInt ∧ x.toInt ≤ (vN V : Int) - 1
      rotate_left 1
      · rw [hn_ckf h1]
      by_cases h2 : 0 ≤ y.toInt ∧ y.toInt ≤ (vN V : Int) - 1
      rotate_left 1
      · rw [hn_ckt h1, hn_ckf h2]
      rw [hn_ckt h1, hn_ckt h2, if_pos (Classical.byContradiction fun z => hg ⟨h1, h2, z⟩)]
  obtain ⟨h1, h2, h3⟩ := hg
  obtain ⟨s, hs, rfl⟩ := hn_ix h1
  obtain ⟨u, hu, rfl⟩ := hn_ix h2
  have ts := i2.2.2.2.1 s hs
  have tu := i2.2.2.2.1 u hu
  have c7 : fX7_behind (nI s) (nI u) μ = if D (vS V u).1 (vS V s).1 < 1000000 then (if μ 6 4 < 20 then hn_pf μ 0 12 0 fun μ6 => (fX1_addPair (nI s) (nI u) μ6).bind fun w7 => some (w7.1, w7.2) else some ((-3), μ)) else some ((-2), μ) := by
    unfold fX7_behind
    rw [hn_sheet7 cN hn.1, hn_sheet7 cN hn.1, hn_ckt h1, hn_ckt h2, if_neg h3, hn_rd_at (by omega) (by decide), hn_rd_at (by omega) (by decide), show μ 7 u = _ from (i2.1.2.1 u hu).1, show μ 7 s = _ from (i2.1.2.1 s hs).1, hn_leads (iP_O i1) tu.1 ts.1, Option.bind_some]
    by_cases hc : D (vS V u).1 (vS V s).1 < 1000000
    · rw [if_pos hc, if_pos hc, if_neg (by decide)]
    · rw [if_neg hc, if_neg hc, if_pos rfl]
  have hw := hn_wayI i1 tu.1 ts.1
  by_cases hc : D (vS V u).1 (vS V s).1 < 1000000
  rotate_left 1
  · refine ⟨-2, μ, μ, by rw [c7, if_neg hc], ?_, hI⟩
    unfold fX8_behind
    rw [hn_sheet8 mN hn.1, hn_sheet8 mN hn.1, hn_ckt h1, hn_ckt h2, if_neg h3, ld_way i2.2.2 i2.2.1 hu hs, Option.bind_some]
    rcases hw with ⟨hw, _⟩ | ⟨_, hw⟩
    · exact absurd hw hc
    · rw [hw, if_neg (by decide)]
  have hw0 : 0 ≤ μ 75 (6 * (vS V u).1 + (vS V s).1) := by
    rw [hn_le]
    have := i1.2.2.2.1 _ _ tu.1 ts.1
    unfold fw_enc at this
    rw [if_pos hc] at this
    rw [this]
    exact (iP_D i1 _ _ tu.1 ts.1).1
  by_cases h0 : vP V = 20
  · refine ⟨-3, μ, μ, by rw [c7, if_pos hc, cP, h0, if_neg (by decide)], ?_, hI⟩
    unfold fX8_behind
    rw [hn_sheet8 mN hn.1, hn_sheet8 mN hn.1, hn_ckt h1, hn_ckt h2, if_neg h3, ld_way i2.2.2 i2.2.1 hu hs, Option.bind_some, if_pos hw0, hn_rd_0 (by decide) (by decide), mP, h0, if_pos (by decide)]
  have hP : vP V < 20 := by omega
  refine ⟨nI (vP V + 1), hn_up (hn_up (hn_up (hn_up μ 0 12 0) 10 (vP V) (nI s)) 11 (vP V) (nI u)) 6 4 (nI (vP V + 1)), hn_up (hn_up (hn_up (hn_up (hn_up (hn_up (hn_up μ 0 12 0) 10 (vP V) (nI s)) 11 (vP V) (nI u)) 6 4 (nI (vP V + 1))) 79 (2 * vP V) (nI s)) 79 (2 * vP V + 1) (nI u)) 78 0 (nI (vP V + 1)), ?_, ?_, ?_⟩
  · rw [c7, if_pos hc, cP, if_pos (show nI (vP V) < 20 from nI_lt (b := 20) hP (by decide))]
    unfold hn_pf fX1_addPair hn_pf
    simp (disch := omega) only [hn_up_ne, hn_up_at, cP, hn_wr_at, hn_p1, Option.bind_some]
  · generalize hχ : hn_up (hn_up (hn_up (hn_up μ 0 12 0) 10 (vP V) (nI s)) 11 (vP V) (nI u)) 6 4 (nI (vP V + 1)) = χ
    have fk : ∀ k, k ≠ 0 → k ≠ 6 → k ≠ 10 → k ≠ 11 → χ k = μ k := fun k k0 k1 k2 k3 => by rw [← hχ, hn_up_ne k1, hn_up_ne k3, hn_up_ne k2, hn_up_ne k0]
    have hMχ : repM χ 0 V := rm_cong (fun k a b => fk k (by omega) (by omega) (by omega) (by omega)) i2.2.1
    unfold fX8_behind
    rw [hn_sheet8 (rm_n hMχ) hn.1, hn_sheet8 (rm_n hMχ) hn.1, hn_ckt h1, hn_ckt h2, if_neg h3, ld_way i2.2.2 hMχ hu hs, Option.bind_some, fk 75 (by decide) (by decide) (by decide) (by decide), if_pos hw0]
    simp (disch := omega) only [hn_rd_0, hn_wr_0, hn_up_ne, hn_up_at, rm_p hMχ, hn_wr_at, hn_ix2, hn_p1]
    rw [if_neg (by rw [show (20 : Int32) = nI 20 from rfl, nI_eq (by omega) (by decide)]; exact h0)]
  · generalize hν : hn_up (hn_up (hn_up (hn_up (hn_up (hn_up (hn_up μ 0 12 0) 10 (vP V) (nI s)) 11 (vP V) (nI u)) 6 4 (nI (vP V + 1))) 79 (2 * vP V) (nI s)) 79 (2 * vP V + 1) (nI u)) 78 0 (nI (vP V + 1)) = ν
    have fk : ∀ k, k ≠ 0 → k ≠ 6 → k ≠ 10 → k ≠ 11 → k ≠ 78 → k ≠ 79 → ν k = μ k := fun k k0 k1 k2 k3 k4 k5 => by rw [← hν, hn_up_ne k4, hn_up_ne k5, hn_up_ne k5, hn_up_ne k1, hn_up_ne k3, hn_up_ne k2, hn_up_ne k0]
    have f0 : ∀ i, i ≠ 12 → ν 0 i = μ 0 i := fun i hi => by rw [← hν]; simp (disch := omega) only [hn_up_ne, hn_up_off hi]
    have f12 : ν 0 12 = 0 := by rw [← hν]; simp (disch := omega) only [hn_up_ne, hn_up_at]
    have n64 : ν 6 4 = nI (vP V + 1) := by rw [← hν]; simp (disch := omega) only [hn_up_ne, hn_up_at]
    have n6 : ∀ i, i ≠ 4 → ν 6 i = μ 6 i := fun i hi => by rw [← hν]; simp (disch := omega) only [hn_up_ne, hn_up_off hi]
    have n10 : ∀ q, ν 10 q = if q = vP V then nI s else μ 10 q := fun q => by rw [← hν]; simp (disch := omega) only [hn_up_ne, hn_upk]
    have n11 : ∀ q, ν 11 q = if q = vP V then nI u else μ 11 q := fun q => by rw [← hν]; simp (disch := omega) only [hn_up_ne, hn_upk]
    have m78 : ν 78 0 = nI (vP V + 1) := by rw [← hν]; exact hn_up_at
    have m78' : ∀ i, 1 ≤ i → ν 78 i = μ 78 i := fun i hi => by rw [← hν, hn_up_off (by omega)]; simp (disch := omega) only [hn_up_ne]
    have m79 : ∀ i, ν 79 i = if i = 2 * vP V + 1 then nI u else if i = 2 * vP V then nI s else μ 79 i := fun i => by rw [← hν]; simp (disch := omega) only [hn_up_ne, hn_upk]
    have eQ : ∀ q, vQ (vPair V (s, u)) q = if q = vP V then (s, u) else vQ V q := fun q => rfl
    refine ⟨vPair V (s, u), D, S, o, hn_Ba_p (μ := μ) (V := V) ⟨fun k k0 k1 k2 => fk k k0 (by omega) (by omega) (by omega) (by omega) (by omega), f0⟩ ⟨⟨⟨?_, n64, ?_⟩, ?_, ?_, ?_, ?_, ?_⟩, rm_mk ⟨⟨?_, m78, ?_⟩, ?_, ?_, ?_, ?_, ?_⟩, ?_⟩ ?_ hB, Or.inl f12⟩
    · rw [n6 0 (by decide)]; exact cN
    · rw [n6 7 (by decide)]; exact i2.1.1.2.2
    · intro s' hs'
      rw [fk (6 + 1) (by decide) (by decide) (by decide) (by decide) (by decide) (by decide), fk (6 + 2) (by decide) (by decide) (by decide) (by decide) (by decide) (by decide), fk (6 + 3) (by decide) (by decide) (by decide) (by decide) (by decide) (by decide)]
      exact i2.1.2.1 s' hs'
    · intro q hq
      have hq : q < vP V + 1 := hq
      show ν 10 q = _ ∧ ν 11 q = _
      rw [eQ, n10, n11]
      by_cases hc : q = vP V
      · rw [if_pos hc, if_pos hc, if_pos hc]; exact ⟨rfl, rfl⟩
      · rw [if_neg hc, if_neg hc, if_neg hc]; exact i2.1.2.2.1 q (by omega)
    · intro j hj
      rw [fk (6 + 6) (by decide) (by decide) (by decide) (by decide) (by decide) (by decide), fk (6 + 7) (by decide) (by decide) (by decide) (by decide) (by decide) (by decide), fk (6 + 8) (by decide) (by decide) (by decide) (by decide) (by decide) (by decide), fk (6 + 9) (by decide) (by decide) (by decide) (by decide) (by decide) (by decide), n6 12 (by decide), n6 13 (by decide)]
      exact i2.1.2.2.2.1 j hj
    · intro t ht
      rw [fk (6 + 10) (by decide) (by decide) (by decide) (by decide) (by decide) (by decide), fk (6 + 11) (by decide) (by decide) (by decide) (by decide) (by decide) (by decide)]
      exact i2.1.2.2.2.2.1 t ht
    · intro t ht
      rw [fk (6 + 12) (by decide) (by decide) (by decide) (by decide) (by decide) (by decide)]
      exact i2.1.2.2.2.2.2 t ht
    · rw [fk 76 (by decide) (by decide) (by decide) (by decide) (by decide) (by decide)]; exact mN
    · rw [fk 80 (by decide) (by decide) (by decide) (by decide) (by decide) (by decide)]; exact (show μ 80 0 = nI (vK V) from rm_k i2.2.1)
    · intro s' hs'
      rw [fk 77 (by decide) (by decide) (by decide) (by decide) (by decide) (by decide)]
      exact rm_s i2.2.1 hs'
    · intro q hq
      have hq : q < vP V + 1 := hq
      rw [eQ, m79, m79]
      by_cases hc : q = vP V
      · subst hc
        rw [if_neg (show ¬ 2 * vP V = 2 * vP V + 1 by omega), if_pos (show 2 * vP V = 2 * vP V from rfl), if_pos (show 2 * vP V + 1 = 2 * vP V + 1 from rfl), if_pos (show vP V = vP V from rfl)]
        exact ⟨rfl, rfl⟩
      · rw [if_neg hc, if_neg (by omega), if_neg (by omega), if_neg (by omega), if_neg (by omega)]
        exact rm_q i2.2.1 (by omega)
    · intro j hj
      rw [fk 81 (by decide) (by decide) (by decide) (by decide) (by decide) (by decide)]
      exact rm_y i2.2.1 hj
    · intro t ht
      rw [fk 82 (by decide) (by decide) (by decide) (by decide) (by decide) (by decide)]
      exact rm_e i2.2.1 ht
    · intro t ht
      rw [fk 83 (by decide) (by decide) (by decide) (by decide) (by decide) (by decide)]
      exact rm_t i2.2.1 ht
    · obtain ⟨o1, o2, o3, o4, o5, o6⟩ := i2.2.2
      refine ⟨⟨o1.1, show vP V + 1 ≤ 20 by omega, o1.2.2⟩, o2, fun q hq => ?_, o4, o5, o6⟩
      have hq : q < vP V + 1 := hq
      rw [eQ]
      by_cases hc2 : q = vP V
      · rw [if_pos hc2]; exact ⟨hs, hu, fun z => h3 (by rw [show s = u from z]), hc⟩
      · rw [if_neg hc2]; exact o3 q (by omega)
    · exact iK_b (μ := μ) (V := V) (Nat.le_refl _) (f0 9 (by decide)) (by rw [fk 72 (by decide) (by decide) (by decide) (by decide) (by decide) (by decide)]) (fun k a b => fk k (by omega) (by omega) (by omega) (by omega) (by omega) (by omega))
        (fun k hk i hi => by
          rcases hk with rfl | rfl | rfl
          · rw [fk 76 (by decide) (by decide) (by decide) (by decide) (by decide) (by decide)]
          · exact m78' i hi
          · rw [fk 80 (by decide) (by decide) (by decide) (by decide) (by decide) (by decide)])
        (fun i hi => by rw [fk 77 (by decide) (by decide) (by decide) (by decide) (by decide) (by decide)]) (fun i _ => by rw [m79, if_neg (by omega), if_neg (by omega)]) (fun i _ => by rw [fk 81 (by decide) (by decide) (by decide) (by decide) (by decide) (by decide)]) (fun i _ => by rw [fk 82 (by decide) (by decide) (by decide) (by decide) (by decide) (by decide)]) (fun i _ => by rw [fk 83 (by decide) (by decide) (by decide) (by decide) (by decide) (by decide)]) i3
end c4
