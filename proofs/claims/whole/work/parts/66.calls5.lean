/-! calls: happened, say, truth, own, closet -/
section c5
variable {μ ν : hn_M} {V : hn_Vw} {D S : Nat → Nat → Int} {o F : Nat}
theorem hn_hap (hC : repC μ 6 V) (hV : okV V D) {t : Nat} (ht : t < 10) : fX1_hasHappened μ (nI t) = some (hn_b01 (vE V t).isSome) := by
  unfold fX1_hasHappened
  rw [hn_rd_at (by omega) (by decide)]
  rcases hC.2.2.2.2.1 t ht with ⟨e1, e2⟩ | ⟨a, d, e1, _, e2⟩
  · rw [e1, show μ 17 t = -1 from e2, if_pos rfl]; rfl
  · have := hV.2.2.2.2.1 t ht a d e1
    rw [e1, show μ 17 t = nI d from e2, if_neg (by rw [hn_eq_i, nI_toInt (by omega)]; show ¬ (d : Int) = -1; omega)]; rfl
/-- a town from which news can come to all that say a thing -/
def hn_ra (V : hn_Vw) (D : Nat → Nat → Int) (t a k : Nat) : Prop := ∀ j, j < k → (vY V j).2.1 = t → D a (vS V (vY V j).1).1 < 1000000
theorem hn_town (hC : repC μ 6 V) (hV : okV V D) {j : Nat} (hj : j < vK V) : fX1_townOf μ (nI j) = some (nI (vS V (vY V j).1).1) := by
  have hn := hV.1
  have oy := hV.2.2.2.1 j hj
  unfold fX1_townOf
  rw [hn_rd_at (by omega) (by decide), show μ 12 j = _ from (hC.2.2.2.1 j hj).1, hn_rd_at (by omega) (by decide), show μ 7 _ = _ from (hC.2.1 _ oy.1).1]
theorem hn_wri (hC : repC μ 6 V) (hV : okV V D) {j : Nat} (hj : j < vK V) : fX1_writerOf μ (nI j) = some (nI (vS V (vY V j).1).2.1) := by
  have hn := hV.1
  have oy := hV.2.2.2.1 j hj
  unfold fX1_writerOf
  rw [hn_rd_at (by omega) (by decide), show μ 12 j = _ from (hC.2.2.2.1 j hj).1, hn_rd_at (by omega) (by decide), show μ 8 _ = _ from (hC.2.1 _ oy.1).2.1]
theorem ra_class (i1 : iP μ D S) (hC : repC μ 6 V) (hV : okV V D) {t a : Nat} (ht : t < 10) (ha : a < 6) : ∀ (r j n : Nat), j + r = vK V → r < n → hn_ra V D t a j → ∃ v, fX7_reachesAllThatSay_2 F μ n (nI t) (nI a) (nI j) = some v ∧ ((v = 1 ∧ hn_ra V D t a (vK V)) ∨ (v = 0 ∧ ¬ hn_ra V D t a (vK V))) := by
  have hn := hV.1
  intro r
  induction r with
  | zero =>
    intro j n hj hr h
    obtain ⟨n, rfl⟩ : ∃ n', n = n' + 1 := ⟨n - 1, by omega⟩
    have : j = vK V := by omega
    subst this
    refine ⟨1, ?_, Or.inl ⟨rfl, h⟩⟩
    rw [fX7_reachesAllThatSay_2, show μ 6 7 = _ from hC.1.2.2, if_pos (by rw [hn_leN (by omega) (by omega)]; exact Nat.le_refl _)]
  | succ r ih =>
    intro j n hj hr h
    obtain ⟨n, rfl⟩ : ∃ n', n = n' + 1 := ⟨n - 1, by omega⟩
    have hjK : j < vK V := by omega
    have oy := hV.2.2.2.1 j hjK
    have os := hV.2.1 _ oy.1
    rw [fX7_reachesAllThatSay_2, show μ 6 7 = _ from hC.1.2.2, if_neg (by rw [hn_leN (by omega) (by omega)]; omega), hn_rd_at (by omega) (by decide), show μ 13 j = _ from (hC.2.2.2.1 j hjK).2.1, hn_town hC hV hjK, Option.bind_some, hn_leads (iP_O i1) ha os.1, Option.bind_some]
    unfold fX7_reachesAllThatSay_47
    rw [nI_1]
    by_cases h1 : (vY V j).2.1 = t
    · rw [if_pos (by rw [h1])]
      by_cases h2 : D a (vS V (vY V j).1).1 < 1000000
      · rw [if_pos h2, if_neg (by decide)]
        refine ih (j + 1) n (by omega) (by omega) (fun i hi => ?_)
        by_cases hij : i = j
        · subst hij; intro _; exact h2
        · exact h i (by omega)
      · rw [if_neg h2, if_pos rfl]
        exact ⟨0, rfl, Or.inr ⟨rfl, fun z => h2 (z j hjK h1)⟩⟩
    · rw [if_neg (by rw [nI_eq (by omega) (by omega)]; exact h1)]
      refine ih (j + 1) n (by omega) (by omega) (fun i hi => ?_)
      by_cases hij : i = j
      · subst hij; intro z; exact absurd z h1
      · exact h i (by omega)
theorem ra_model (i1 : iP μ D S) (hM : repM μ 0 V) (hV : okV V D) (hF : 31 ≤ F) {t a : Nat} (ht : t < 10) (ha : a < 6) (l3 : Int32) (w : Int32) (hw : w = 0 ∨ w = 1) : ∃ v, fX8_happened_44 F F (nI t) (nI a) l3 w 0 μ = fX8_happened_119 F (nI t) (nI a) l3 v μ ∧ ((v = 1 ∧ w = 1 ∧ hn_ra V D t a (vK V)) ∨ (v = 0 ∧ (w = 0 ∨ ¬ hn_ra V D t a (vK V)))) := by
  have hn := hV.1
  obtain ⟨v, h1, h2⟩ := hn_loopE (fun n j s => fX8_happened_44 F n (nI t) (nI a) l3 s (nI j) μ) (vK V) (fun s => fX8_happened_119 F (nI t) (nI a) l3 s μ) (fun j s => (s = 1 ∧ w = 1 ∧ hn_ra V D t a j) ∨ (s = 0 ∧ (w = 0 ∨ ¬ hn_ra V D t a (vK V))))
    (fun n s hi => by
      show fX8_happened_44 F (n + 1) (nI t) (nI a) l3 s (nI (vK V)) μ = _
      rw [fX8_happened_44, hn_rd_0 (by decide) (by decide), rm_k hM, if_pos (by rw [hn_leN (by omega) (by omega)]; exact Nat.le_refl _)])
    (fun n j s hj hi => by
      show ∃ s', fX8_happened_44 F (n + 1) (nI t) (nI a) l3 s (nI j) μ = _ ∧ _
      have ry := rm_y hM hj
      have oy := hV.2.2.2.1 j hj
      have os := hV.2.1 _ oy.1
      rw [fX8_happened_44, hn_rd_0 (by decide) (by decide), rm_k hM, if_neg (by rw [hn_leN (by omega) (by omega)]; omega)]
      unfold fX8_happened_110 fX8_happened_106 fX8_happened_111
      rw [nI_1]
      rcases hi with ⟨rfl, hw1, hi⟩ | ⟨rfl, hi⟩
      · rw [if_neg (by decide), hn_ix6m, hn_p1, hn_rd_at (by omega) (by decide), ry.2.1, hn_rd_at (by omega) (by decide), ry.1, hn_ix3, hn_rd_at (by omega) (by decide), (rm_s hM oy.1).1, hn_ix6m, nI_add, hn_rd_at (by omega) (by decide)]
        by_cases h1 : (vY V j).2.1 = t
        · rw [if_pos (by rw [h1])]
          by_cases h2 : D a (vS V (vY V j).1).1 < 1000000
          · have w := i1.2.2.2.1 _ _ ha os.1
            unfold fw_enc at w
            rw [if_pos h2] at w
            have := (iP_D i1 _ _ ha os.1).1
            rw [if_neg (by rw [hn_lt, w]; show ¬ _ < (0 : Int); omega)]
            refine ⟨1, rfl, Or.inl ⟨rfl, hw1, fun i hi2 => ?_⟩⟩
            by_cases hij : i = j
            · subst hij; intro _; exact h2
            · exact hi i (by omega)
          · have w := i1.2.2.2.1 _ _ ha os.1
            unfold fw_enc at w
            rw [if_neg h2] at w
            rw [if_pos (by rw [hn_lt, w]; decide)]
            exact ⟨0, rfl, Or.inr ⟨rfl, Or.inr (fun z => h2 (z j hj h1))⟩⟩
        · rw [if_neg (by rw [nI_eq (by omega) (by omega)]; exact h1)]
          refine ⟨1, rfl, Or.inl ⟨rfl, hw1, fun i hi2 => ?_⟩⟩
          by_cases hij : i = j
          · subst hij; intro z; exact absurd z h1
          · exact hi i (by omega)
      · rw [if_pos rfl]
        exact ⟨0, rfl, Or.inr ⟨rfl, hi⟩⟩)
    (vK V) 0 F w (by omega) (by omega) (by
      rcases hw with rfl | rfl
      · exact Or.inr ⟨rfl, Or.inl rfl⟩
      · exact Or.inl ⟨rfl, rfl, fun i hi => by omega⟩)
  exact ⟨v, h1, h2⟩
theorem c_happened (hF : 12000 ≤ F) (x y d : Int32) : hn_cM (fun μ => fX7_happened F x y d μ) (fun μ => fX8_happened F x y d μ) := by
  intro μ ⟨V, D, S, o, hB, hS⟩
  have hI : hn_Inv μ := ⟨V, D, S, o, hB, hS⟩
  obtain ⟨i1, i2, i3, i4, i5, i6, i7⟩ := id hB
  have hn := i2.2.2.1
  show ∃ r μ1 μ2, fX7_happened F x y d μ = some (r, μ1) ∧ fX8_happened F x y d μ1 = some (r, μ2) ∧ _
  by_cases hg : (0 ≤ x.toInt ∧ x.toInt ≤ 9) ∧ (0 ≤ y.toInt ∧ y.toInt ≤ 5) ∧ (0 ≤ d.toInt ∧ d.toInt ≤ 999)
  rotate_left 1
  · refine ⟨-1, μ, μ, ?_, ?_, hI⟩
    · unfold fX7_happened
      rw [hn_thing7, hn_town7, hn_day7]
      by_cases h1 : 0 ≤ x.toInt ∧ x.toInt ≤ 9
      rotate_left 1
      · rw [hn_ckf h1]
      by_cases h2 : 0 ≤ y.toInt ∧ y.toInt ≤ 5
      rotate_left 1
      · rw [hn_ckt h1, hn_ckf h2]
      rw [hn_ckt h1, hn_ckt h2, hn_ckf (fun z => hg ⟨h1, h2, z⟩)]
    · unfold fX8_happened
      rw [hn_thing8, hn_town8, hn_day8]
      by_cases h1 : 0 ≤ x.toInt ∧ x.toInt ≤ 9
      rotate_left 1
      · rw [hn_ckf h1]
      by_cases h2 : 0 ≤ y.toInt ∧ y.toInt ≤ 5
      rotate_left 1
      · rw [hn_ckt h1, hn_ckf h2]
      rw [hn_ckt h1, hn_ckt h2, hn_ckf (fun z => hg ⟨h1, h2, z⟩)]
  obtain ⟨h1, h2, h3⟩ := hg
  obtain ⟨t, ht, rfl⟩ := hn_ix' 10 (by decide) h1
  obtain ⟨a, ha, rfl⟩ := hn_ix' 6 (by decide) h2
  obtain ⟨dd, hd, rfl⟩ := hn_ix' 1000 (by decide) h3
  have c8 : ∀ ξ, fX8_happened F (nI t) (nI a) (nI dd) ξ = hn_rd ξ 82 60 (2 * nI t) fun v11 => if 0 ≤ v11 then fX8_happened_39 F (nI t) (nI a) (nI dd) 0 ξ else fX8_happened_39 F (nI t) (nI a) (nI dd) 1 ξ := by
    intro ξ
    unfold fX8_happened
    rw [hn_thing8, hn_town8, hn_day8, hn_ckt h1, hn_ckt h2, hn_ckt h3]
  have c7 : fX7_happened F (nI t) (nI a) (nI dd) μ = (fX1_hasHappened μ (nI t)).bind fun v4 => if v4 = 0 then (fX7_reachesAllThatSay F μ (nI t) (nI a)).bind fun v5 => if v5 = 0 then some ((-2), μ) else hn_wr μ 16 10 (nI t) (nI a) fun μ6 => hn_wr μ6 17 10 (nI t) (nI dd) fun μ7 => hn_pf μ7 0 12 0 fun μ8 => some (0, μ8) else some ((-2), μ) := by
    unfold fX7_happened
    rw [hn_thing7, hn_town7, hn_day7, hn_ckt h1, hn_ckt h2, hn_ckt h3]
  rw [c7, hn_hap i2.1 i2.2.2 ht, Option.bind_some]
  -- the model's first look, over any memory with the same papers
  have m0 : ∀ ξ : hn_M, (∀ k, 73 ≤ k → ξ k = μ k) → fX8_happened F (nI t) (nI a) (nI dd) ξ = fX8_happened_44 F F (nI t) (nI a) (nI dd) (if (vE V t).isSome = true then 0 else 1) 0 ξ := by
    intro ξ hk
    rw [c8, hn_ix2, hn_rd_at (by omega) (by decide), hk 82 (by decide)]
    unfold fX8_happened_39
    rcases rm_e i2.2.1 ht with ⟨e1, e2⟩ | ⟨a', d', e1, e2, e3⟩
    · rw [e2, e1, if_neg (by decide), if_neg (by decide)]
    · have := i2.2.2.2.2.2.2.1 t ht a' d' e1
      rw [e2, e1, if_pos (nI_pos' (by omega))]
      rfl
  have f44 : ∀ ξ : hn_M, (∀ k, 73 ≤ k → ξ k = μ k) → iP ξ D S → ∀ w : Int32, (w = 0 ∨ w = 1) → ∃ v, fX8_happened_44 F F (nI t) (nI a) (nI dd) w 0 ξ = fX8_happened_119 F (nI t) (nI a) (nI dd) v ξ ∧ ((v = 1 ∧ w = 1 ∧ hn_ra V D t a (vK V)) ∨ (v = 0 ∧ (w = 0 ∨ ¬ hn_ra V D t a (vK V)))) := fun ξ hk hp w hw => ra_model hp (rm_cong (fun k a b => hk k (by omega)) i2.2.1) i2.2.2 (by omega) ht ha (nI dd) w hw
  have hno : ((vE V t).isSome = true ∨ ¬ hn_ra V D t a (vK V)) → fX8_happened F (nI t) (nI a) (nI dd) μ = some (-2, μ) := by
    intro hh
    rw [m0 μ (fun k _ => rfl)]
    obtain ⟨v, e1, e2⟩ := f44 μ (fun k _ => rfl) i1 (if (vE V t).isSome = true then 0 else 1) ((Classical.em ((vE V t).isSome = true)).imp (fun z => if_pos z) (fun z => if_neg z))
    rw [e1]
    unfold fX8_happened_119
    rcases e2 with ⟨_, b2, b3⟩ | ⟨b1, _⟩
    · rcases hh with hh | hh
      · rw [if_pos hh] at b2; exact absurd b2 (by decide)
      · exact absurd b3 hh
    · rw [if_pos b1]
  by_cases he : (vE V t).isSome = true
  · rw [he, if_neg (by decide)]
    exact ⟨-2, μ, μ, rfl, hno (Or.inl he), hI⟩
  rw [if_pos (hn_b01_0.mpr (by cases h : (vE V t).isSome with | false => rfl | true => exact absurd h he))]
  obtain ⟨v, r1, r2⟩ := ra_class (F := F) i1 i2.1 i2.2.2 ht ha (vK V) 0 F (by omega) (by omega) (fun i hi => by omega)
  have r1 : fX7_reachesAllThatSay F μ (nI t) (nI a) = some v := r1
  rw [r1, Option.bind_some]
  rcases r2 with ⟨rfl, r2⟩ | ⟨rfl, r2⟩
  rotate_left 1
  · rw [if_pos rfl]
    exact ⟨-2, μ, μ, rfl, hno (Or.inr r2), hI⟩
  rw [if_neg (by decide), hn_wr_at (by omega) (by decide), hn_wr_at (by omega) (by decide)]
  refine ⟨0, hn_up (hn_up (hn_up μ 16 t (nI a)) 17 t (nI dd)) 0 12 0, hn_up (hn_up (hn_up (hn_up (hn_up μ 16 t (nI a)) 17 t (nI dd)) 0 12 0) 82 (2 * t) (nI a)) 82 (2 * t + 1) (nI dd), rfl, ?_, ?_⟩
  · have hk : ∀ k, 73 ≤ k → hn_up (hn_up (hn_up μ 16 t (nI a)) 17 t (nI dd)) 0 12 0 k = μ k := fun k hk => by rw [hn_up_ne (by omega), hn_up_ne (by omega), hn_up_ne (by omega)]
    have hk2 : ∀ k, (1 ≤ k ∧ k ≤ 5) ∨ (73 ≤ k ∧ k ≤ 75) → hn_up (hn_up (hn_up μ 16 t (nI a)) 17 t (nI dd)) 0 12 0 k = μ k := fun k hk => by rw [hn_up_ne (by omega), hn_up_ne (by omega), hn_up_ne (by omega)]
    rw [m0 _ hk]
    obtain ⟨v, e1, e2⟩ := f44 _ hk (iP_c hk2 i1) (if (vE V t).isSome = true then 0 else 1) (Or.inr (if_neg he))
    rw [e1]
    unfold fX8_happened_119
    rcases e2 with ⟨rfl, _, _⟩ | ⟨_, e3 | e3⟩
    · rw [if_neg (by decide), hn_ix2, hn_p1, hn_wr_at (by omega) (by decide), hn_wr_at (by omega) (by decide)]
    · rw [if_neg he] at e3; exact absurd e3 (by decide)
    · exact absurd r2 e3
  · generalize hν : hn_up (hn_up (hn_up (hn_up (hn_up μ 16 t (nI a)) 17 t (nI dd)) 0 12 0) 82 (2 * t) (nI a)) 82 (2 * t + 1) (nI dd) = ν
    have fk : ∀ k, k ≠ 0 → k ≠ 16 → k ≠ 17 → k ≠ 82 → ν k = μ k := fun k k0 k1 k2 k3 => by rw [← hν, hn_up_ne k3, hn_up_ne k3, hn_up_ne k0, hn_up_ne k2, hn_up_ne k1]
    have f0 : ∀ i, i ≠ 12 → ν 0 i = μ 0 i := fun i hi => by rw [← hν]; simp (disch := omega) only [hn_up_ne, hn_up_off hi]
    have f12 : ν 0 12 = 0 := by rw [← hν]; simp (disch := omega) only [hn_up_ne, hn_up_at]
    have n16 : ∀ u, ν 16 u = if u = t then nI a else μ 16 u := fun u => by rw [← hν]; simp (disch := omega) only [hn_up_ne, hn_upk]
    have n17 : ∀ u, ν 17 u = if u = t then nI dd else μ 17 u := fun u => by rw [← hν]; simp (disch := omega) only [hn_up_ne, hn_upk]
    have m82 : ∀ i, ν 82 i = if i = 2 * t + 1 then nI dd else if i = 2 * t then nI a else μ 82 i := fun i => by rw [← hν]; simp (disch := omega) only [hn_upk, hn_up_ne]
    have eE : ∀ u, vE (vHap V t (a, dd)) u = if u = t then some (a, dd) else vE V u := fun u => rfl
    refine ⟨vHap V t (a, dd), D, S, o, hn_Ba_p (μ := μ) (V := V) ⟨fun k k0 k1 k2 => fk k k0 (by omega) (by omega) (by omega), f0⟩ ⟨⟨?_, ?_, ?_, ?_, ?_, ?_⟩, rm_mk ⟨?_, ?_, ?_, ?_, ?_, ?_⟩, ?_⟩ ?_ hB, Or.inl f12⟩
    · rw [fk 6 (by decide) (by decide) (by decide) (by decide)]; exact i2.1.1
    · intro s hs
      rw [fk (6 + 1) (by decide) (by decide) (by decide) (by decide), fk (6 + 2) (by decide) (by decide) (by decide) (by decide), fk (6 + 3) (by decide) (by decide) (by decide) (by decide)]
      exact i2.1.2.1 s hs
    · intro q hq
      rw [fk (6 + 4) (by decide) (by decide) (by decide) (by decide), fk (6 + 5) (by decide) (by decide) (by decide) (by decide)]
      exact i2.1.2.2.1 q hq
    · intro j hj
      rw [fk (6 + 6) (by decide) (by decide) (by decide) (by decide), fk (6 + 7) (by decide) (by decide) (by decide) (by decide), fk (6 + 8) (by decide) (by decide) (by decide) (by decide), fk (6 + 9) (by decide) (by decide) (by decide) (by decide), fk 6 (by decide) (by decide) (by decide) (by decide)]
      exact i2.1.2.2.2.1 j hj
    · intro u hu
      show (_ ∧ ν 17 u = -1) ∨ ∃ a' d', _ ∧ ν 16 u = nI a' ∧ ν 17 u = nI d'
      rw [eE, n16, n17]
      by_cases hc : u = t
      · rw [if_pos hc, if_pos hc, if_pos hc]
        exact Or.inr ⟨a, dd, rfl, rfl, rfl⟩
      · rw [if_neg hc, if_neg hc, if_neg hc]
        exact i2.1.2.2.2.2.1 u hu
    · intro u hu
      rw [fk (6 + 12) (by decide) (by decide) (by decide) (by decide)]
      exact i2.1.2.2.2.2.2 u hu
    · rw [fk 76 (by decide) (by decide) (by decide) (by decide), fk 78 (by decide) (by decide) (by decide) (by decide), fk 80 (by decide) (by decide) (by decide) (by decide)]
      exact i2.2.1.1
    · intro s hs
      rw [fk 77 (by decide) (by decide) (by decide) (by decide)]
      exact rm_s i2.2.1 hs
    · intro q hq
      rw [fk 79 (by decide) (by decide) (by decide) (by decide)]
      exact rm_q i2.2.1 hq
    · intro j hj
      rw [fk 81 (by decide) (by decide) (by decide) (by decide)]
      exact rm_y i2.2.1 hj
    · intro u hu
      rw [eE, m82, m82]
      by_cases hc : u = t
      · subst hc
        rw [if_neg (show ¬ 2 * u = 2 * u + 1 by omega), if_pos (show 2 * u = 2 * u from rfl), if_pos (show 2 * u + 1 = 2 * u + 1 from rfl), if_pos (show u = u from rfl)]
        exact Or.inr ⟨a, dd, rfl, rfl, rfl⟩
      · rw [if_neg hc, if_neg (by omega), if_neg (by omega), if_neg (by omega), if_neg (by omega)]
        exact rm_e i2.2.1 hu
    · intro u hu
      rw [fk 83 (by decide) (by decide) (by decide) (by decide)]
      exact rm_t i2.2.1 hu
    · obtain ⟨o1, o2, o3, o4, o5, o6⟩ := i2.2.2
      refine ⟨o1, o2, o3, fun j hj => ?_, fun u hu a' d' => ?_, o6⟩
      · have := o4 j hj
        refine ⟨this.1, this.2.1, this.2.2.1, this.2.2.2.1, fun a' d' => ?_⟩
        show vE (vHap V t (a, dd)) (vY V j).2.1 = some (a', d') → D a' (vS V (vY V j).1).1 < 1000000
        rw [eE]
        by_cases hc : (vY V j).2.1 = t
        · rw [if_pos hc]
          intro hz
          cases hz
          exact r2 j hj hc
        · rw [if_neg hc]; exact this.2.2.2.2 a' d'
      · rw [eE]
        by_cases hc : u = t
        · rw [if_pos hc]
          intro hz
          cases hz
          exact ⟨ha, hd⟩
        · rw [if_neg hc]; exact o5 u hu a' d'
    · exact iK_b (μ := μ) (V := V) (Nat.le_refl _) (f0 9 (by decide)) (by rw [fk 72 (by decide) (by decide) (by decide) (by decide)]) (fun k a b => fk k (by omega) (by omega) (by omega) (by omega))
        (fun k hk i hi => by rw [fk k (by omega) (by omega) (by omega) (by omega)])
        (fun i hi => by rw [fk 77 (by decide) (by decide) (by decide) (by decide)]) (fun i _ => by rw [fk 79 (by decide) (by decide) (by decide) (by decide)]) (fun i _ => by rw [fk 81 (by decide) (by decide) (by decide) (by decide)]) (fun i _ => by rw [m82, if_neg (by omega), if_neg (by omega)]) (fun i _ => by rw [fk 83 (by decide) (by decide) (by decide) (by decide)]) i3
end c5
