/-! calls: say, truth, own, closet -/
section c6
variable {μ ν : hn_M} {V : hn_Vw} {D S : Nat → Nat → Int} {o F : Nat}
theorem c_say (x t n w : Int32) (sb db : Bool) : hn_cM (fun μ => fX7_say x t n w (hn_b01 sb) (hn_b01 db) μ) (fun μ => fX8_say x t n w (hn_b01 sb) (hn_b01 db) μ) := by
  intro μ ⟨V, D, S, o, hB, hS⟩
  have hI : hn_Inv μ := ⟨V, D, S, o, hB, hS⟩
  obtain ⟨i1, i2, i3, i4, i5, i6, i7⟩ := id hB
  have hn := i2.2.2.1
  have cN : μ 6 0 = nI (vN V) := i2.1.1.1
  have cK : μ 6 7 = nI (vK V) := i2.1.1.2.2
  have mN := rm_n i2.2.1
  have mK := rm_k i2.2.1
  have z0 : (0 : Int32).toInt = 0 := rfl
  have z9 : (9999 : Int32).toInt = 9999 := rfl
  have z255 : (255 : Int32).toInt = 255 := rfl
  show ∃ r μ1 μ2, fX7_say x t n w (hn_b01 sb) (hn_b01 db) μ = some (r, μ1) ∧ fX8_say x t n w (hn_b01 sb) (hn_b01 db) μ1 = some (r, μ2) ∧ _
  by_cases hg : (0 ≤ x.toInt ∧ x.toInt ≤ (vN V : Int) - 1) ∧ (0 ≤ t.toInt ∧ t.toInt ≤ 9) ∧ (0 ≤ n.toInt ∧ n.toInt ≤ 9999) ∧ (0 ≤ w.toInt ∧ w.toInt ≤ 255)
  rotate_left 1
  · refine ⟨-1, μ, μ, ?_, ?_, hI⟩
    · unfold fX7_say
      rw [hn_sheet7 cN hn.1, hn_thing7]
      by_cases h1 : 0 ≤ x.toInt ∧ x.toInt ≤ (vN V : Int) - 1
      rotate_left 1
      · rw [hn_ckf h1]
      by_cases h2 : 0 ≤ t.toInt ∧ t.toInt ≤ 9
      rotate_left 1
      · rw [hn_ckt h1, hn_ckf h2]
      rw [hn_ckt h1, hn_ckt h2]
      by_cases h3 : 0 ≤ n.toInt
      rotate_left 1
      · rw [if_pos (by rw [hn_lt, z0]; omega)]
      rw [if_neg (by rw [hn_lt, z0]; omega)]
      by_cases h4 : n.toInt ≤ 9999
      rotate_left 1
      · rw [if_pos (by rw [hn_lt, z9]; omega)]
      rw [if_neg (by rw [hn_lt, z9]; omega)]
      by_cases h5 : 0 ≤ w.toInt
      rotate_left 1
      · rw [if_pos (by rw [hn_lt, z0]; omega)]
      rw [if_neg (by rw [hn_lt, z0]; omega), if_neg (by rw [hn_le, z255]; exact fun z => hg ⟨h1, h2, ⟨h3, h4⟩, h5, z⟩)]
    · unfold fX8_say
      rw [hn_sheet8 mN hn.1, hn_thing8, hn_in8 n (a := 0) (b := 9999) rfl rfl, hn_in8 w (a := 0) (b := 255) rfl rfl]
      by_cases h1 : 0 ≤ x.toInt ∧ x.toInt ≤ (vN V : Int) - 1
      rotate_left 1
      · rw [hn_ckf h1]
      by_cases h2 : 0 ≤ t.toInt ∧ t.toInt ≤ 9
      rotate_left 1
      · rw [hn_ckt h1, hn_ckf h2]
      by_cases h3 : 0 ≤ n.toInt ∧ n.toInt ≤ 9999
      rotate_left 1
      · rw [hn_ckt h1, hn_ckt h2, hn_ckf h3]
      rw [hn_ckt h1, hn_ckt h2, hn_ckt h3, hn_ckf (fun z => hg ⟨h1, h2, h3, z⟩)]
  obtain ⟨h1, h2, h3, h4⟩ := hg
  obtain ⟨s, hs, rfl⟩ := hn_ix h1
  obtain ⟨tt, ht, rfl⟩ := hn_ix' 10 (by decide) h2
  obtain ⟨nn, hnn, rfl⟩ := hn_ix' 10000 (by decide) h3
  obtain ⟨ww, hww, rfl⟩ := hn_ix' 256 (by decide) h4
  have os := i2.2.2.2.1 s hs
  have c7 : fX7_say (nI s) (nI tt) (nI nn) (nI ww) (hn_b01 sb) (hn_b01 db) μ = (fX1_hasHappened μ (nI tt)).bind fun v6 => if v6 = 0 then fX7_say_85 (nI s) (nI tt) (nI nn) (nI ww) (hn_b01 sb) (hn_b01 db) μ else hn_rd μ 16 10 (nI tt) fun v7 => hn_rd μ 7 12 (nI s) fun v8 => (fX2_leads μ v7 v8).bind fun v9 => if v9 = 0 then some ((-2), μ) else fX7_say_85 (nI s) (nI tt) (nI nn) (nI ww) (hn_b01 sb) (hn_b01 db) μ := by
    unfold fX7_say
    rw [hn_sheet7 cN hn.1, hn_thing7, hn_ckt h1, hn_ckt h2, if_neg (by rw [hn_lt, z0]; omega), if_neg (by rw [hn_lt, z9]; omega), if_neg (by rw [hn_lt, z0]; omega), if_pos (by rw [hn_le, z255]; exact h4.2)]
  have c8 : ∀ ξ : hn_M, (∀ k, 73 ≤ k → ξ k = μ k) → fX8_say (nI s) (nI tt) (nI nn) (nI ww) (hn_b01 sb) (hn_b01 db) ξ = hn_rd ξ 82 60 (2 * nI tt) fun v16 => if v16 < 0 then fX8_say_84 (nI s) (nI tt) (nI nn) (nI ww) (hn_b01 sb) (hn_b01 db) ξ else hn_rd ξ 82 60 (2 * nI tt) fun v17 => hn_rd ξ 77 108 (3 * nI s) fun v18 => hn_rd ξ 75 36 ((6 * v17) + v18) fun v19 => if 0 ≤ v19 then fX8_say_84 (nI s) (nI tt) (nI nn) (nI ww) (hn_b01 sb) (hn_b01 db) ξ else some ((-2), ξ) := by
    intro ξ hk
    unfold fX8_say
    rw [hn_sheet8 (V := V) (by rw [hk 76 (by decide)]; exact mN) hn.1, hn_thing8, hn_in8 (nI nn) (a := 0) (b := 9999) rfl rfl, hn_in8 (nI ww) (a := 0) (b := 255) rfl rfl, hn_ckt h1, hn_ckt h2, hn_ckt h3, hn_ckt h4]
  -- may it be said at all?
  have ok : (∃ a d, vE V tt = some (a, d) ∧ ¬ D a (vS V s).1 < 1000000) ∨ (∀ a d, vE V tt = some (a, d) → D a (vS V s).1 < 1000000) := by
    cases he : vE V tt with
    | none => exact Or.inr (fun a d hz => by cases hz)
    | some p =>
      obtain ⟨a, d⟩ := p
      by_cases hc : D a (vS V s).1 < 1000000
      · exact Or.inr (fun a' d' hz => by cases hz; exact hc)
      · exact Or.inl ⟨a, d, rfl, hc⟩
  rcases ok with ⟨a, d, he, hc⟩ | ok
  · have oe := i2.2.2.2.2.2.2.1 tt ht a d he
    refine ⟨-2, μ, μ, ?_, ?_, hI⟩
    · rw [c7, hn_hap i2.1 i2.2.2 ht, Option.bind_some, he, if_neg (show ¬ hn_b01 (Option.isSome (some (a, d))) = 0 from show ¬ hn_b01 true = 0 by decide), hn_rd_at (by omega) (by decide), hn_rd_at (by omega) (by decide), show μ 7 s = _ from (i2.1.2.1 s hs).1]
      rcases i2.1.2.2.2.2.1 tt ht with ⟨e1, _⟩ | ⟨a', d', e1, e2, e3⟩
      · rw [he] at e1; cases e1
      · rw [he] at e1
        cases e1
        rw [show μ 16 tt = _ from e2, hn_leads (iP_O i1) oe.1 os.1, Option.bind_some, if_neg hc, if_pos rfl]
    · rw [c8 μ (fun k _ => rfl), hn_ix2, hn_rd_at (by omega) (by decide), hn_rd_at (by omega) (by decide), hn_ix3, hn_rd_at (by omega) (by decide), (rm_s i2.2.1 hs).1]
      rcases rm_e i2.2.1 ht with ⟨e1, _⟩ | ⟨a', d', e1, e2, e3⟩
      · rw [he] at e1; cases e1
      · rw [he] at e1
        cases e1
        rw [e2, if_neg (nI_pos (by omega)), hn_ix6m, nI_add, hn_rd_at (by omega) (by decide)]
        rcases hn_wayI i1 oe.1 os.1 with ⟨hw, _⟩ | ⟨_, hw⟩
        · exact absurd hw hc
        · rw [hw, if_neg (by decide)]
  have c7' : fX7_say (nI s) (nI tt) (nI nn) (nI ww) (hn_b01 sb) (hn_b01 db) μ = fX7_say_85 (nI s) (nI tt) (nI nn) (nI ww) (hn_b01 sb) (hn_b01 db) μ := by
    rw [c7, hn_hap i2.1 i2.2.2 ht, Option.bind_some, hn_rd_at (by omega) (by decide), hn_rd_at (by omega) (by decide), show μ 7 s = _ from (i2.1.2.1 s hs).1]
    rcases i2.1.2.2.2.2.1 tt ht with ⟨e1, _⟩ | ⟨a', d', e1, e2, e3⟩
    · rw [e1, if_pos (show hn_b01 (Option.isSome (none : Option (Nat × Nat))) = 0 from rfl)]
    · have oe := i2.2.2.2.2.2.2.1 tt ht a' d' e1
      have hc := ok a' d' e1
      rw [e1, if_neg (show ¬ hn_b01 (Option.isSome (some (a', d'))) = 0 from show ¬ hn_b01 true = 0 by decide), show μ 16 tt = _ from e2, hn_leads (iP_O i1) oe.1 os.1, Option.bind_some, if_pos hc, if_neg (show ¬ (1 : Int32) = 0 by decide)]
  have c8' : ∀ ξ : hn_M, (∀ k, 73 ≤ k → ξ k = μ k) → fX8_say (nI s) (nI tt) (nI nn) (nI ww) (hn_b01 sb) (hn_b01 db) ξ = fX8_say_84 (nI s) (nI tt) (nI nn) (nI ww) (hn_b01 sb) (hn_b01 db) ξ := by
    intro ξ hk
    rw [c8 ξ hk, hn_ix2, hn_rd_at (by omega) (by decide), hn_rd_at (by omega) (by decide), hn_ix3, hn_rd_at (by omega) (by decide), hk 77 (by decide), (rm_s i2.2.1 hs).1, hk 82 (by decide)]
    rcases rm_e i2.2.1 ht with ⟨e1, e2⟩ | ⟨a', d', e1, e2, e3⟩
    · rw [e2, if_pos (by decide)]
    · have oe := i2.2.2.2.2.2.2.1 tt ht a' d' e1
      have hc := ok a' d' e1
      rw [e2, if_neg (nI_pos (by omega)), hn_ix6m, nI_add, hn_rd_at (by omega) (by decide), hk 75 (by decide)]
      have w := i1.2.2.2.1 _ _ oe.1 os.1
      unfold fw_enc at w
      rw [if_pos hc] at w
      rw [if_pos (by rw [hn_le, w]; exact (iP_D i1 _ _ oe.1 os.1).1)]
  rw [c7']
  by_cases h0 : vK V = 30
  · refine ⟨-3, μ, μ, ?_, ?_, hI⟩
    · unfold fX7_say_85
      rw [cK, h0, if_neg (by decide)]
    · rw [c8' μ (fun k _ => rfl)]
      unfold fX8_say_84
      rw [hn_rd_0 (by decide) (by decide), mK, h0, if_pos (by decide)]
  have hK : vK V < 30 := by omega
  obtain ⟨b1, w1, w1'⟩ := hn_with (μ 6 12) sb (j := vK V) (by omega)
  obtain ⟨b2, w2, w2'⟩ := hn_with (μ 6 13) db (j := vK V) (by omega)
  refine ⟨nI (vK V), hn_up (hn_up (hn_up (hn_up (hn_up (hn_up (hn_up (hn_up μ 0 12 0) 12 (vK V) (nI s)) 13 (vK V) (nI tt)) 14 (vK V) (nI nn)) 15 (vK V) (nI ww)) 6 7 (nI (vK V + 1))) 6 12 b1) 6 13 b2, hn_up (hn_up (hn_up (hn_up (hn_up (hn_up (hn_up (hn_up (hn_up (hn_up (hn_up (hn_up (hn_up (hn_up (hn_up μ 0 12 0) 12 (vK V) (nI s)) 13 (vK V) (nI tt)) 14 (vK V) (nI nn)) 15 (vK V) (nI ww)) 6 7 (nI (vK V + 1))) 6 12 b1) 6 13 b2) 81 (6 * vK V) (nI s)) 81 (6 * vK V + 1) (nI tt)) 81 (6 * vK V + 2) (nI nn)) 81 (6 * vK V + 3) (nI ww)) 81 (6 * vK V + 4) (hn_b01 sb)) 81 (6 * vK V + 5) (hn_b01 db)) 80 0 (nI (vK V + 1)), ?_, ?_, ?_⟩
  · unfold fX7_say_85
    rw [cK, if_pos (show nI (vK V) < 30 from nI_lt (b := 30) hK (by decide))]
    unfold hn_pf fX1_addSaying hn_pf
    dsimp only
    rw [hn_up_ne (show (6 : Nat) ≠ 0 by decide), cK, hn_wr_at (by omega) (by decide), hn_wr_at (by omega) (by decide), hn_wr_at (by omega) (by decide), hn_wr_at (by omega) (by decide)]
    simp (disch := omega) only [hn_up_ne, cK, hn_p1, Option.bind_some]
    unfold fX1_mark hn_pf
    simp (disch := omega) only [hn_up_ne, hn_up_off, w1, w2, Option.bind_some]
  · generalize hχ : hn_up (hn_up (hn_up (hn_up (hn_up (hn_up (hn_up (hn_up μ 0 12 0) 12 (vK V) (nI s)) 13 (vK V) (nI tt)) 14 (vK V) (nI nn)) 15 (vK V) (nI ww)) 6 7 (nI (vK V + 1))) 6 12 b1) 6 13 b2 = χ
    have fk : ∀ k, 73 ≤ k → χ k = μ k := fun k hk => by rw [← hχ]; simp (disch := omega) only [hn_up_ne]
    rw [c8' χ fk]
    have e80 : χ 80 0 = nI (vK V) := by rw [fk 80 (by decide)]; exact mK
    unfold fX8_say_84
    rw [hn_rd_0 (by decide) (by decide), e80, if_neg (by rw [show (30 : Int32) = nI 30 from rfl, nI_eq (by omega) (by decide)]; exact h0), hn_rd_0 (by decide) (by decide), e80, hn_ix6m, hn_p1, hn_p2, hn_p3, hn_wr_at (by omega) (by decide), hn_wr_at (by omega) (by decide), hn_wr_at (by omega) (by decide), hn_wr_at (by omega) (by decide)]
    have e166 : ∀ (ξ : hn_M), (ξ 80 0 = nI (vK V)) → (if hn_b01 sb = 0 then fX8_say_166 (hn_b01 db) (nI (6 * vK V)) 0 (nI (6 * vK V) + 4) ξ else fX8_say_166 (hn_b01 db) (nI (6 * vK V)) 1 (nI (6 * vK V) + 4) ξ) = some (nI (vK V), hn_up (hn_up (hn_up ξ 81 (6 * vK V + 4) (hn_b01 sb)) 81 (6 * vK V + 5) (hn_b01 db)) 80 0 (nI (vK V + 1))) := by
      intro ξ hξ
      have e1 : ∀ b : Bool, fX8_say_166 (hn_b01 db) (nI (6 * vK V)) (hn_b01 b) (nI (6 * vK V) + 4) ξ = some (nI (vK V), hn_up (hn_up (hn_up ξ 81 (6 * vK V + 4) (hn_b01 b)) 81 (6 * vK V + 5) (hn_b01 db)) 80 0 (nI (vK V + 1))) := by
        intro b
        have e2 : ∀ c : Bool, fX8_say_185 (hn_b01 c) (nI (6 * vK V) + 5) (hn_up ξ 81 (6 * vK V + 4) (hn_b01 b)) = some (nI (vK V), hn_up (hn_up (hn_up ξ 81 (6 * vK V + 4) (hn_b01 b)) 81 (6 * vK V + 5) (hn_b01 c)) 80 0 (nI (vK V + 1))) := by
          intro c
          unfold fX8_say_185
          rw [hn_p5, hn_wr_at (by omega) (by decide), hn_rd_0 (by decide) (by decide), hn_up_ne (show (80 : Nat) ≠ 81 by decide), hn_up_ne (show (80 : Nat) ≠ 81 by decide), hξ, hn_wr_0 (by decide) (by decide), hn_rd_0 (by decide) (by decide), hn_up_at, nI_1, nI_pred]
        unfold fX8_say_166
        rw [hn_p4, hn_wr_at (by omega) (by decide)]
        cases db with
        | false => rw [if_pos (show hn_b01 false = 0 from rfl)]; exact e2 false
        | true => rw [if_neg (show ¬ hn_b01 true = 0 by decide)]; exact e2 true
      cases sb with
      | false => rw [if_pos (show hn_b01 false = 0 from rfl)]; exact e1 false
      | true => rw [if_neg (show ¬ hn_b01 true = 0 by decide)]; exact e1 true
    rw [e166 _ (by simp (disch := omega) only [hn_up_ne, e80])]
  · generalize hν : hn_up (hn_up (hn_up (hn_up (hn_up (hn_up (hn_up (hn_up (hn_up (hn_up (hn_up (hn_up (hn_up (hn_up (hn_up μ 0 12 0) 12 (vK V) (nI s)) 13 (vK V) (nI tt)) 14 (vK V) (nI nn)) 15 (vK V) (nI ww)) 6 7 (nI (vK V + 1))) 6 12 b1) 6 13 b2) 81 (6 * vK V) (nI s)) 81 (6 * vK V + 1) (nI tt)) 81 (6 * vK V + 2) (nI nn)) 81 (6 * vK V + 3) (nI ww)) 81 (6 * vK V + 4) (hn_b01 sb)) 81 (6 * vK V + 5) (hn_b01 db)) 80 0 (nI (vK V + 1)) = ν
    have fk : ∀ k, k ≠ 0 → k ≠ 6 → k ≠ 12 → k ≠ 13 → k ≠ 14 → k ≠ 15 → k ≠ 80 → k ≠ 81 → ν k = μ k := fun k k0 k1 k2 k3 k4 k5 k6 k7 => by rw [← hν]; simp (disch := assumption) only [hn_up_ne]
    have f0 : ∀ i, i ≠ 12 → ν 0 i = μ 0 i := fun i hi => by rw [← hν]; simp (disch := omega) only [hn_up_ne, hn_up_off hi]
    have f12 : ν 0 12 = 0 := by rw [← hν]; simp (disch := omega) only [hn_up_ne, hn_up_at]
    have n67 : ν 6 7 = nI (vK V + 1) := by rw [← hν]; simp (disch := omega) only [hn_up_ne, hn_up_off, hn_up_at]
    have n612 : ν 6 12 = b1 := by rw [← hν]; simp (disch := omega) only [hn_up_ne, hn_up_off, hn_up_at]
    have n613 : ν 6 13 = b2 := by rw [← hν]; simp (disch := omega) only [hn_up_ne, hn_up_off, hn_up_at]
    have n6 : ∀ i, i ≠ 7 → i ≠ 12 → i ≠ 13 → ν 6 i = μ 6 i := fun i a b c => by rw [← hν]; simp (disch := omega) only [hn_up_ne, hn_up_off]
    have n12 : ∀ j, ν 12 j = if j = vK V then nI s else μ 12 j := fun j => by rw [← hν]; simp (disch := omega) only [hn_up_ne, hn_upk]
    have n13 : ∀ j, ν 13 j = if j = vK V then nI tt else μ 13 j := fun j => by rw [← hν]; simp (disch := omega) only [hn_up_ne, hn_upk]
    have n14 : ∀ j, ν 14 j = if j = vK V then nI nn else μ 14 j := fun j => by rw [← hν]; simp (disch := omega) only [hn_up_ne, hn_upk]
    have n15 : ∀ j, ν 15 j = if j = vK V then nI ww else μ 15 j := fun j => by rw [← hν]; simp (disch := omega) only [hn_up_ne, hn_upk]
    have m80 : ν 80 0 = nI (vK V + 1) := by rw [← hν]; exact hn_up_at
    have m80' : ∀ i, 1 ≤ i → ν 80 i = μ 80 i := fun i hi => by rw [← hν, hn_up_off (by omega)]; simp (disch := omega) only [hn_up_ne]
    have m81 : ∀ i, i < 6 * vK V ∨ 6 * vK V + 6 ≤ i → ν 81 i = μ 81 i := fun i hi => by rw [← hν]; simp (disch := omega) only [hn_up_ne, hn_up_off]
    have m81a : ν 81 (6 * vK V) = nI s := by rw [← hν]; simp (disch := omega) only [hn_up_ne, hn_up_off, hn_up_at]
    have m81b : ν 81 (6 * vK V + 1) = nI tt := by rw [← hν]; simp (disch := omega) only [hn_up_ne, hn_up_off, hn_up_at]
    have m81c : ν 81 (6 * vK V + 2) = nI nn := by rw [← hν]; simp (disch := omega) only [hn_up_ne, hn_up_off, hn_up_at]
    have m81d : ν 81 (6 * vK V + 3) = nI ww := by rw [← hν]; simp (disch := omega) only [hn_up_ne, hn_up_off, hn_up_at]
    have m81e : ν 81 (6 * vK V + 4) = hn_b01 sb := by rw [← hν]; simp (disch := omega) only [hn_up_ne, hn_up_off, hn_up_at]
    have m81f : ν 81 (6 * vK V + 5) = hn_b01 db := by rw [← hν]; simp (disch := omega) only [hn_up_ne, hn_up_off, hn_up_at]
    have eY : ∀ j, vY (vSay V (s, tt, nn, ww, sb, db)) j = if j = vK V then (s, tt, nn, ww, sb, db) else vY V j := fun j => rfl
    refine ⟨vSay V (s, tt, nn, ww, sb, db), D, S, o, hn_Ba_p (μ := μ) (V := V) ⟨fun k k0 k1 k2 => fk k k0 (by omega) (by omega) (by omega) (by omega) (by omega) (by omega) (by omega), f0⟩ ⟨⟨⟨?_, ?_, n67⟩, ?_, ?_, ?_, ?_, ?_⟩, rm_mk ⟨⟨?_, ?_, m80⟩, ?_, ?_, ?_, ?_, ?_⟩, ?_⟩ ?_ hB, Or.inl f12⟩
    · rw [n6 0 (by decide) (by decide) (by decide)]; exact cN
    · rw [n6 4 (by decide) (by decide) (by decide)]; exact i2.1.1.2.1
    · intro s' hs'
      rw [fk (6 + 1) (by decide) (by decide) (by decide) (by decide) (by decide) (by decide) (by decide) (by decide), fk (6 + 2) (by decide) (by decide) (by decide) (by decide) (by decide) (by decide) (by decide) (by decide), fk (6 + 3) (by decide) (by decide) (by decide) (by decide) (by decide) (by decide) (by decide) (by decide)]
      exact i2.1.2.1 s' hs'
    · intro q hq
      rw [fk (6 + 4) (by decide) (by decide) (by decide) (by decide) (by decide) (by decide) (by decide) (by decide), fk (6 + 5) (by decide) (by decide) (by decide) (by decide) (by decide) (by decide) (by decide) (by decide)]
      exact i2.1.2.2.1 q hq
    · intro j hj
      have hj : j < vK V + 1 := hj
      show ν 12 j = _ ∧ ν 13 j = _ ∧ ν 14 j = _ ∧ ν 15 j = _ ∧ fX7_isIn (ν 6 12) (nI j) = _ ∧ fX7_isIn (ν 6 13) (nI j) = _
      rw [eY, n12, n13, n14, n15, n612, n613, hn_isIn_bit (by omega), hn_isIn_bit (by omega), w1' j (by omega), w2' j (by omega)]
      by_cases hc : j = vK V
      · rw [if_pos hc, if_pos hc, if_pos hc, if_pos hc, if_pos hc, if_pos hc, if_pos hc]; exact ⟨rfl, rfl, rfl, rfl, rfl, rfl⟩
      · rw [if_neg hc, if_neg hc, if_neg hc, if_neg hc, if_neg hc, if_neg hc, if_neg hc]
        have := i2.1.2.2.2.1 j (by omega)
        rw [hn_isIn_bit (by omega), hn_isIn_bit (by omega)] at this
        exact this
    · intro u hu
      rw [fk (6 + 10) (by decide) (by decide) (by decide) (by decide) (by decide) (by decide) (by decide) (by decide), fk (6 + 11) (by decide) (by decide) (by decide) (by decide) (by decide) (by decide) (by decide) (by decide)]
      exact i2.1.2.2.2.2.1 u hu
    · intro u hu
      rw [fk (6 + 12) (by decide) (by decide) (by decide) (by decide) (by decide) (by decide) (by decide) (by decide)]
      exact i2.1.2.2.2.2.2 u hu
    · rw [fk 76 (by decide) (by decide) (by decide) (by decide) (by decide) (by decide) (by decide) (by decide)]; exact mN
    · rw [fk 78 (by decide) (by decide) (by decide) (by decide) (by decide) (by decide) (by decide) (by decide)]; exact (show μ 78 0 = nI (vP V) from rm_p i2.2.1)
    · intro s' hs'
      rw [fk 77 (by decide) (by decide) (by decide) (by decide) (by decide) (by decide) (by decide) (by decide)]
      exact rm_s i2.2.1 hs'
    · intro q hq
      rw [fk 79 (by decide) (by decide) (by decide) (by decide) (by decide) (by decide) (by decide) (by decide)]
      exact rm_q i2.2.1 hq
    · intro j hj
      have hj : j < vK V + 1 := hj
      rw [eY]
      by_cases hc : j = vK V
      · rw [if_pos hc, hc]; exact ⟨m81a, m81b, m81c, m81d, m81e, m81f⟩
      · rw [if_neg hc, m81 _ (by omega), m81 _ (by omega), m81 _ (by omega), m81 _ (by omega), m81 _ (by omega), m81 _ (by omega)]
        exact rm_y i2.2.1 (by omega)
    · intro u hu
      rw [fk 82 (by decide) (by decide) (by decide) (by decide) (by decide) (by decide) (by decide) (by decide)]
      exact rm_e i2.2.1 hu
    · intro u hu
      rw [fk 83 (by decide) (by decide) (by decide) (by decide) (by decide) (by decide) (by decide) (by decide)]
      exact rm_t i2.2.1 hu
    · obtain ⟨o1, o2, o3, o4, o5, o6⟩ := i2.2.2
      refine ⟨⟨o1.1, o1.2.1, show vK V + 1 ≤ 30 by omega⟩, o2, o3, fun j hj => ?_, o5, o6⟩
      have hj : j < vK V + 1 := hj
      rw [eY]
      by_cases hc : j = vK V
      · rw [if_pos hc]; exact ⟨hs, ht, hnn, hww, ok⟩
      · rw [if_neg hc]; exact o4 j (by omega)
    · exact iK_b (μ := μ) (V := V) (Nat.le_refl _) (f0 9 (by decide)) (by rw [fk 72 (by decide) (by decide) (by decide) (by decide) (by decide) (by decide) (by decide) (by decide)]) (fun k a b => fk k (by omega) (by omega) (by omega) (by omega) (by omega) (by omega) (by omega) (by omega))
        (fun k hk i hi => by
          rcases hk with rfl | rfl | rfl
          · rw [fk 76 (by decide) (by decide) (by decide) (by decide) (by decide) (by decide) (by decide) (by decide)]
          · rw [fk 78 (by decide) (by decide) (by decide) (by decide) (by decide) (by decide) (by decide) (by decide)]
          · exact m80' i hi)
        (fun i hi => by rw [fk 77 (by decide) (by decide) (by decide) (by decide) (by decide) (by decide) (by decide) (by decide)]) (fun i _ => by rw [fk 79 (by decide) (by decide) (by decide) (by decide) (by decide) (by decide) (by decide) (by decide)]) (fun i _ => m81 i (by omega)) (fun i _ => by rw [fk 82 (by decide) (by decide) (by decide) (by decide) (by decide) (by decide) (by decide) (by decide)]) (fun i _ => by rw [fk 83 (by decide) (by decide) (by decide) (by decide) (by decide) (by decide) (by decide) (by decide)]) i3
/-- truths touch neither days nor tree -/
theorem vT_lo (t : Nat) (n : Int) (j : Nat) : sp_lo (vTru V t n) D j = sp_lo V D j := by
  induction j with
  | zero => rfl
  | succ j ih =>
    unfold sp_lo
    rw [ih]
    rfl
theorem vT_tn (t : Nat) (n : Int) (m M : Nat → Int) (a j : Nat) : tn (vTru V t n) D m M o a j = tn V D m M o a j := by
  induction j with
  | zero => rfl
  | succ j ih =>
    unfold tn
    rw [ih]
    rfl
theorem vT_ts (t : Nat) (n : Int) (m M : Nat → Int) : ts (vTru V t n) D m M o = ts V D m M o := by
  funext a
  unfold ts
  rw [vT_tn]
  rfl
theorem vT_sol (t : Nat) (n : Int) (E : List (Nat × Nat × Int)) : sp_sol (vTru V t n) D E = sp_sol V D E := by
  funext m
  show dy_sol (vN V) (sp_lo (vTru V t n) D (vK V)) (sp_hi V) E m = _
  rw [vT_lo]
theorem vT_S (t : Nat) (n : Int) (h : iS μ V D o) : iS μ (vTru V t n) D o := by
  refine h.imp id (fun z => ⟨z.1, ?_⟩)
  rcases z.2 with ⟨a, b⟩ | ⟨a, m, M, b, c, d, e⟩
  · exact Or.inl ⟨a, by rw [vT_sol]; exact b⟩
  · refine Or.inr ⟨a, m, M, ?_, ?_, d, ?_⟩
    · unfold sp_first; rw [vT_sol]; exact b
    · unfold sp_last; rw [vT_sol]; exact c
    · rw [vT_ts]; exact e
theorem c_truth (x d : Int32) : hn_cM (fun μ => fX7_truth x d μ) (fun μ => fX8_truth x d μ) := by
  intro μ ⟨V, D, S, o, hB, hS⟩
  have hI : hn_Inv μ := ⟨V, D, S, o, hB, hS⟩
  obtain ⟨i1, i2, i3, i4, i5, i6, i7⟩ := id hB
  have z1 : (-1 : Int32).toInt = -1 := rfl
  have z9 : (9999 : Int32).toInt = 9999 := rfl
  show ∃ r μ1 μ2, fX7_truth x d μ = some (r, μ1) ∧ fX8_truth x d μ1 = some (r, μ2) ∧ _
  by_cases hg : (0 ≤ x.toInt ∧ x.toInt ≤ 9) ∧ (-1 ≤ d.toInt ∧ d.toInt ≤ 9999)
  rotate_left 1
  · refine ⟨-100, μ, μ, ?_, ?_, hI⟩
    · unfold fX7_truth
      rw [hn_thing7]
      by_cases h1 : 0 ≤ x.toInt ∧ x.toInt ≤ 9
      rotate_left 1
      · rw [hn_ckf h1]
      rw [hn_ckt h1]
      by_cases h2 : -1 ≤ d.toInt
      rotate_left 1
      · rw [if_pos (by rw [hn_lt, z1]; omega)]
      rw [if_neg (by rw [hn_lt, z1]; omega), if_neg (by rw [hn_le, z9]; exact fun z => hg ⟨h1, h2, z⟩)]
    · unfold fX8_truth
      rw [hn_thing8, hn_in8 d (a := -1) (b := 9999) rfl rfl]
      by_cases h1 : 0 ≤ x.toInt ∧ x.toInt ≤ 9
      rotate_left 1
      · rw [hn_ckf h1]
      rw [hn_ckt h1, hn_ckf (fun z => hg ⟨h1, z⟩)]
  obtain ⟨h1, h3⟩ := hg
  obtain ⟨t, ht, rfl⟩ := hn_ix' 10 (by decide) h1
  have e83 : μ 83 t = μ 18 t := hn_eq_i.mpr (by rw [rm_t i2.2.1 ht]; exact (i2.1.2.2.2.2.2 t ht).symm)
  refine ⟨μ 18 t, hn_up μ 18 t d, hn_up (hn_up μ 18 t d) 83 t d, ?_, ?_, ?_⟩
  · unfold fX7_truth
    rw [hn_thing7, hn_ckt h1, if_neg (by rw [hn_lt, z1]; omega), if_pos (by rw [hn_le, z9]; omega), hn_rd_at (by omega) (by decide), hn_wr_at (by omega) (by decide)]
  · unfold fX8_truth
    rw [hn_thing8, hn_in8 d (a := -1) (b := 9999) rfl rfl, hn_ckt h1, hn_ckt h3, hn_rd_at (by omega) (by decide), hn_wr_at (by omega) (by decide), hn_up_ne (show (83 : Nat) ≠ 18 by decide), e83]
  · generalize hν : hn_up (hn_up μ 18 t d) 83 t d = ν
    have fk : ∀ k, k ≠ 18 → k ≠ 83 → ν k = μ k := fun k k0 k1 => by rw [← hν, hn_up_ne k1, hn_up_ne k0]
    have n18 : ∀ u, ν 18 u = if u = t then d else μ 18 u := fun u => by rw [← hν]; simp (disch := omega) only [hn_up_ne, hn_upk]
    have m83 : ∀ u, ν 83 u = if u = t then d else μ 83 u := fun u => by rw [← hν]; simp (disch := omega) only [hn_up_ne, hn_upk]
    have eT : ∀ u, vT (vTru V t d.toInt) u = if u = t then d.toInt else vT V u := fun u => rfl
    refine ⟨vTru V t d.toInt, D, S, o, hn_Ba_p (μ := μ) (V := V) ⟨fun k k0 k1 k2 => fk k (by omega) (by omega), fun i _ => by rw [fk 0 (by decide) (by decide)]⟩ ⟨⟨?_, ?_, ?_, ?_, ?_, ?_⟩, rm_mk ⟨?_, ?_, ?_, ?_, ?_, ?_⟩, ?_⟩ ?_ hB, iS_c (by rw [fk 0 (by decide) (by decide)]) ⟨by rw [fk 46 (by decide) (by decide)], fk 47 (by decide) (by decide), fk 48 (by decide) (by decide), fk 51 (by decide) (by decide), fk 52 (by decide) (by decide), fk 53 (by decide) (by decide)⟩ (vT_S t d.toInt hS)⟩
    · rw [fk 6 (by decide) (by decide)]; exact i2.1.1
    · intro s hs
      rw [fk (6 + 1) (by decide) (by decide), fk (6 + 2) (by decide) (by decide), fk (6 + 3) (by decide) (by decide)]
      exact i2.1.2.1 s hs
    · intro q hq
      rw [fk (6 + 4) (by decide) (by decide), fk (6 + 5) (by decide) (by decide)]
      exact i2.1.2.2.1 q hq
    · intro j hj
      rw [fk (6 + 6) (by decide) (by decide), fk (6 + 7) (by decide) (by decide), fk (6 + 8) (by decide) (by decide), fk (6 + 9) (by decide) (by decide), fk 6 (by decide) (by decide)]
      exact i2.1.2.2.2.1 j hj
    · intro u hu
      rw [fk (6 + 10) (by decide) (by decide), fk (6 + 11) (by decide) (by decide)]
      exact i2.1.2.2.2.2.1 u hu
    · intro u hu
      show (ν 18 u).toInt = _
      rw [eT, n18]
      by_cases hc : u = t
      · rw [if_pos hc, if_pos hc]
      · rw [if_neg hc, if_neg hc]; exact i2.1.2.2.2.2.2 u hu
    · rw [fk 76 (by decide) (by decide), fk 78 (by decide) (by decide), fk 80 (by decide) (by decide)]
      exact i2.2.1.1
    · intro s hs
      rw [fk 77 (by decide) (by decide)]
      exact rm_s i2.2.1 hs
    · intro q hq
      rw [fk 79 (by decide) (by decide)]
      exact rm_q i2.2.1 hq
    · intro j hj
      rw [fk 81 (by decide) (by decide)]
      exact rm_y i2.2.1 hj
    · intro u hu
      rw [fk 82 (by decide) (by decide)]
      exact rm_e i2.2.1 hu
    · intro u hu
      rw [eT, m83]
      by_cases hc : u = t
      · rw [if_pos hc, if_pos hc]
      · rw [if_neg hc, if_neg hc]; exact rm_t i2.2.1 hu
    · obtain ⟨o1, o2, o3, o4, o5, o6⟩ := i2.2.2
      refine ⟨o1, o2, o3, o4, o5, fun u hu => ?_⟩
      rw [eT]
      by_cases hc : u = t
      · rw [if_pos hc]; exact h3
      · rw [if_neg hc]; exact o6 u hu
    · exact iK_b (μ := μ) (V := V) (Nat.le_refl _) (by rw [fk 0 (by decide) (by decide)]) (by rw [fk 72 (by decide) (by decide)]) (fun k a b => fk k (by omega) (by omega))
        (fun k hk i hi => by rw [fk k (by omega) (by omega)])
        (fun i hi => by rw [fk 77 (by decide) (by decide)]) (fun i _ => by rw [fk 79 (by decide) (by decide)]) (fun i _ => by rw [fk 81 (by decide) (by decide)]) (fun i _ => by rw [fk 82 (by decide) (by decide)]) (fun i _ => by rw [m83, if_neg (by omega)]) i3
theorem hn_Ba_f {o' : Nat} (h : ∀ k, k ≠ 0 → k ≠ 72 → ν k = μ k) (h0 : ∀ i, i ≠ 10 → i ≠ 11 → i ≠ 12 → ν 0 i = μ 0 i) (h1 : ∀ i, i ≠ 12 → i ≠ 13 → ν 72 i = μ 72 i) (hf : iF ν o') (i : hn_Ba μ V D S o) : hn_Ba ν V D S o' := by
  obtain ⟨i1, i2, i3, i4, i5, i6, i7⟩ := i
  exact ⟨iP_c (fun k hk => h k (by omega) (by omega)) i1, iV_c (fun k hk => h k (by omega) (by omega)) i2, iK_c (h0 9 (by decide) (by decide) (by decide)) (h1 11 (by decide) (by decide)) (fun k hk => h k (by omega) (by omega)) i3, hf,
    iT_c ⟨h 54 (by decide) (by decide), h 55 (by decide) (by decide), h 84 (by decide) (by decide)⟩ (h1 14 (by decide) (by decide)) i5, iI_c ⟨h0 7 (by decide) (by decide) (by decide), h0 8 (by decide) (by decide) (by decide)⟩ (fun k hk => h k (by omega) (by omega)) i6, iW_c ⟨h 57 (by decide) (by decide), h 87 (by decide) (by decide)⟩ i7⟩
theorem c_own (x : Int32) : hn_cM (fun μ => fX7_own x μ) (fun μ => fX8_own x μ) := by
  intro μ ⟨V, D, S, o, hB, hS⟩
  have hI : hn_Inv μ := ⟨V, D, S, o, hB, hS⟩
  have i4 := hB.2.2.2.1
  have z0 : (0 : Int32).toInt = 0 := rfl
  have z40 : (40 : Int32).toInt = 40 := rfl
  show ∃ r μ1 μ2, fX7_own x μ = some (r, μ1) ∧ fX8_own x μ1 = some (r, μ2) ∧ _
  by_cases hg : 0 ≤ x.toInt ∧ x.toInt ≤ 40
  rotate_left 1
  · refine ⟨-1, μ, μ, ?_, ?_, hI⟩
    · unfold fX7_own
      by_cases h2 : 0 ≤ x.toInt
      rotate_left 1
      · rw [if_pos (by rw [hn_lt, z0]; omega)]
      rw [if_neg (by rw [hn_lt, z0]; omega), if_neg (by rw [hn_le, z40]; exact fun z => hg ⟨h2, z⟩)]
    · unfold fX8_own
      rw [hn_in8 x (a := 0) (b := 40) rfl rfl, hn_ckf hg]
  obtain ⟨v, hv, rfl⟩ := hn_ix' 41 (by decide) hg
  refine ⟨nI o, hn_up (hn_up μ 0 10 (nI v)) 0 12 0, hn_up (hn_up (hn_up μ 0 10 (nI v)) 0 12 0) 72 12 (nI v), ?_, ?_, ?_⟩
  · unfold fX7_own
    rw [if_neg (by rw [hn_lt, z0]; omega), if_pos (by rw [hn_le, z40]; exact hg.2), i4.2.1]
    rfl
  · unfold fX8_own
    rw [hn_in8 (nI v) (a := 0) (b := 40) rfl rfl, hn_ckt hg, hn_up_ne (show (72 : Nat) ≠ 0 by decide), hn_up_ne (show (72 : Nat) ≠ 0 by decide), i4.2.2.1]
    rfl
  · obtain ⟨j1, j2, j3, c, j4, j5, j6⟩ := i4
    refine ⟨V, D, S, v, hn_Ba_f (μ := μ) (o := o) (fun k k0 k1 => by rw [hn_up_ne k1, hn_up_ne k0, hn_up_ne k0]) (fun i a b c => by rw [hn_up_ne (by decide), hn_up_off c, hn_up_off a]) (fun i a b => by rw [hn_up_off a, hn_up_ne (by decide), hn_up_ne (by decide)]) ⟨by omega, ?_, hn_up_at, c, j4, ?_, ?_⟩ hB, Or.inl ?_⟩
    · simp (disch := omega) only [hn_up_ne, hn_up_off, hn_up_at]
    · simp (disch := omega) only [hn_up_ne, hn_up_off, j5]
    · simp (disch := omega) only [hn_up_ne, hn_up_off, j6]
    · simp (disch := omega) only [hn_up_ne, hn_up_at]
theorem c_closet (x : Int32) : hn_cM (fun μ => fX7_closet x μ) (fun μ => fX8_closet x μ) := by
  intro μ ⟨V, D, S, o, hB, hS⟩
  have hI : hn_Inv μ := ⟨V, D, S, o, hB, hS⟩
  have i4 := hB.2.2.2.1
  show ∃ r μ1 μ2, fX7_closet x μ = some (r, μ1) ∧ fX8_closet x μ1 = some (r, μ2) ∧ _
  unfold fX7_closet fX8_closet
  rw [hn_town7, hn_town8]
  by_cases hg : 0 ≤ x.toInt ∧ x.toInt ≤ 5
  rotate_left 1
  · exact ⟨-1, μ, μ, by rw [hn_ckf hg], by rw [hn_ckf hg], hI⟩
  obtain ⟨v, hv, rfl⟩ := hn_ix' 6 (by decide) hg
  obtain ⟨j1, j2, j3, c, j4, j5, j6⟩ := i4
  refine ⟨nI c, hn_up μ 0 11 (nI v), hn_up (hn_up μ 0 11 (nI v)) 72 13 (nI v), ?_, ?_, ?_⟩
  · rw [hn_ckt hg, j5]; rfl
  · rw [hn_ckt hg, hn_up_ne (show (72 : Nat) ≠ 0 by decide), j6]; rfl
  · refine ⟨V, D, S, o, hn_Ba_f (μ := μ) (o := o) (fun k k0 k1 => by rw [hn_up_ne k1, hn_up_ne k0]) (fun i a b c => by rw [hn_up_ne (by decide), hn_up_off b]) (fun i a b => by rw [hn_up_off b, hn_up_ne (by decide)]) ⟨j1, ?_, ?_, v, hv, ?_, hn_up_at⟩ hB, iS_c ?_ ⟨?_, ?_, ?_, ?_, ?_, ?_⟩ hS⟩
    · simp (disch := omega) only [hn_up_ne, hn_up_off, j2]
    · simp (disch := omega) only [hn_up_ne, hn_up_off, j3]
    all_goals simp (disch := omega) only [hn_up_ne, hn_up_off, hn_up_at]
end c6
