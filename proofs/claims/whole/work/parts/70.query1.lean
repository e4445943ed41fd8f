/-! calls that ask: span, ahead, change, from, voice -/
theorem hn_fold {σ ρ : Type} (f : Nat → Nat → σ → ρ) (N : Nat) (g : Nat → σ → σ) (fin : σ → ρ) (hend : ∀ n s, f (n + 1) N s = fin s) (hstep : ∀ n j s, j < N → f (n + 1) j s = f n (j + 1) (g j s)) (n : Nat) (s : σ) (hn : N < n) : f n 0 s = fin (hn_it_ g N 0 s) :=
  (hn_loop f N g fin (fun _ _ => True) (fun n s _ => hend n s) (fun n j s h _ => hstep n j s h) (fun _ _ _ _ => trivial) N 0 n s (by omega) hn trivial).1
section q1
variable {μ ν : hn_M} {V : hn_Vw} {D S : Nat → Nat → Int} {o F : Nat}
theorem hn_cN7 (h : hn_Ba μ V D S o) : μ 6 0 = nI (vN V) := h.2.1.1.1.1
theorem hn_cK7 (h : hn_Ba μ V D S o) : μ 6 7 = nI (vK V) := h.2.1.1.1.2.2
theorem hn_cN8 (h : hn_Ba μ V D S o) : μ 76 0 = nI (vN V) := rm_n h.2.1.2.1
theorem hn_cK8 (h : hn_Ba μ V D S o) : μ 80 0 = nI (vK V) := rm_k h.2.1.2.1
theorem hn_bN (h : hn_Ba μ V D S o) : vN V ≤ 12 ∧ vP V ≤ 20 ∧ vK V ≤ 30 := h.2.1.2.2.1
theorem c_span (hF : 12000 ≤ F) (x y : Int32) : hn_cM (fun μ => fX7_span F x y μ) (fun μ => fX8_span F x y μ) := by
  intro μ ⟨V, D, S, o, hB, hS⟩
  have hI : hn_Inv μ := ⟨V, D, S, o, hB, hS⟩
  have hn := hn_bN hB
  have z0 : (0 : Int32).toInt = 0 := rfl
  have z1 : (1 : Int32).toInt = 1 := rfl
  show ∃ r μ1 μ2, fX7_span F x y μ = some (r, μ1) ∧ fX8_span F x y μ1 = some (r, μ2) ∧ _
  by_cases hg : (0 ≤ x.toInt ∧ x.toInt ≤ (vN V : Int) - 1) ∧ (0 ≤ y.toInt ∧ y.toInt ≤ 1)
  rotate_left 1
  · refine ⟨-1, μ, μ, ?_, ?_, hI⟩
    · unfold fX7_span
      rw [hn_sheet7 (hn_cN7 hB) hn.1]
      by_cases h1 : 0 ≤ x.toInt ∧ x.toInt ≤ (vN V : Int) - 1
      rotate_left 1
      · rw [hn_ckf h1]
      rw [hn_ckt h1]
      by_cases h2 : 0 ≤ y.toInt
      rotate_left 1
      · rw [if_pos (by rw [hn_lt, z0]; omega)]
      rw [if_neg (by rw [hn_lt, z0]; omega), if_neg (by rw [hn_le, z1]; exact fun z => hg ⟨h1, h2, z⟩)]
    · unfold fX8_span
      rw [hn_sheet8 (hn_cN8 hB) hn.1, hn_in8 y (a := 0) (b := 1) rfl rfl]
      by_cases h1 : 0 ≤ x.toInt ∧ x.toInt ≤ (vN V : Int) - 1
      rotate_left 1
      · rw [hn_ckf h1]
      rw [hn_ckt h1, hn_ckf (fun z => hg ⟨h1, z⟩)]
  obtain ⟨h1, h2⟩ := hg
  obtain ⟨s, hs, rfl⟩ := hn_ix h1
  obtain ⟨μ1, μ2, b1, b2, b3, b4, b5, b6⟩ := q_days hB hS hF
  have c7 : fX7_span F (nI s) y μ = (fX7_isQuarrel F μ).bind fun w2 => if w2.1 = 0 then if y = 0 then hn_rd w2.2 47 12 (nI s) fun v4 => some (v4, w2.2) else hn_rd w2.2 48 12 (nI s) fun v3 => some (v3, w2.2) else some ((-2), w2.2) := by
    unfold fX7_span
    rw [hn_sheet7 (hn_cN7 hB) hn.1, hn_ckt h1, if_neg (by rw [hn_lt, z0]; omega), if_pos (by rw [hn_le, z1]; omega)]
  have c8 : fX8_span F (nI s) y μ1 = (fX8_areDays F μ1).bind fun w3 => if w3.1 = 0 then some ((-2), w3.2) else if y = 0 then hn_rd w3.2 89 12 (nI s) fun v5 => some (v5, w3.2) else hn_rd w3.2 90 12 (nI s) fun v4 => some (v4, w3.2) := by
    unfold fX8_span
    rw [hn_sheet8 (hn_cN8 b1) hn.1, hn_in8 y (a := 0) (b := 1) rfl rfl, hn_ckt h1, hn_ckt h2]
  rw [c7]
  have hI2 : hn_Inv μ2 := ⟨V, D, S, o, b2, b3⟩
  rcases b6 with ⟨e1, e2⟩ | ⟨e1, e2, m, M, q1, q2, q3, q4, q5⟩
  · exact ⟨-2, μ1, μ2, by rw [e1]; rfl, by rw [c8, e2]; rfl, hI2⟩
  · have q := q4 s hs
    by_cases hy : y = 0
    · refine ⟨μ1 47 s, μ1, μ2, ?_, ?_, hI2⟩
      · rw [e1, Option.bind_some, if_pos rfl, if_pos hy, hn_rd_at (by omega) (by decide)]
      · rw [c8, e2, Option.bind_some]
        dsimp only
        rw [if_neg (show ¬ (1 : Int32) = 0 by decide), if_pos hy, hn_rd_at (by omega) (by decide), show μ2 89 s = μ1 47 s from hn_eq_i.mpr (by rw [q.1, q.2.2.1])]
    · refine ⟨μ1 48 s, μ1, μ2, ?_, ?_, hI2⟩
      · rw [e1, Option.bind_some, if_pos rfl, if_neg hy, hn_rd_at (by omega) (by decide)]
      · rw [c8, e2, Option.bind_some]
        dsimp only
        rw [if_neg (show ¬ (1 : Int32) = 0 by decide), if_neg hy, hn_rd_at (by omega) (by decide), show μ2 90 s = μ1 48 s from hn_eq_i.mpr (by rw [q.2.1, q.2.2.2])]
theorem c_ahead (hF : 12000 ≤ F) (x y : Int32) : hn_cM (fun μ => fX7_ahead F x y μ) (fun μ => fX8_ahead F x y μ) := by
  intro μ ⟨V, D, S, o, hB, hS⟩
  have hI : hn_Inv μ := ⟨V, D, S, o, hB, hS⟩
  have hn := hn_bN hB
  show ∃ r μ1 μ2, fX7_ahead F x y μ = some (r, μ1) ∧ fX8_ahead F x y μ1 = some (r, μ2) ∧ _
  by_cases hg : (0 ≤ x.toInt ∧ x.toInt ≤ (vN V : Int) - 1) ∧ (0 ≤ y.toInt ∧ y.toInt ≤ (vN V : Int) - 1)
  rotate_left 1
  · refine ⟨-1, μ, μ, ?_, ?_, hI⟩
    · unfold fX7_ahead
      rw [hn_sheet7 (hn_cN7 hB) hn.1, hn_sheet7 (hn_cN7 hB) hn.1]
      by_cases h1 : 0 ≤ x.toInt ∧ x.toInt ≤ (vN V : Int) - 1
      rotate_left 1
      · rw [hn_ckf h1]
      rw [hn_ckt h1, hn_ckf (fun z => hg ⟨h1, z⟩)]
    · unfold fX8_ahead
      rw [hn_sheet8 (hn_cN8 hB) hn.1, hn_sheet8 (hn_cN8 hB) hn.1]
      by_cases h1 : 0 ≤ x.toInt ∧ x.toInt ≤ (vN V : Int) - 1
      rotate_left 1
      · rw [hn_ckf h1]
      rw [hn_ckt h1, hn_ckf (fun z => hg ⟨h1, z⟩)]
  obtain ⟨h1, h2⟩ := hg
  obtain ⟨s, hs, rfl⟩ := hn_ix h1
  obtain ⟨u, hu, rfl⟩ := hn_ix h2
  have c7 : fX7_ahead F (nI s) (nI u) μ = (fX7_isQuarrel F μ).bind fun w3 => if w3.1 = 0 then (fX3_canBeNoEarlier F (nI s) (nI u) w3.2).bind fun w4 => if w4.1 = 0 then some (1, w4.2) else some (0, w4.2) else some ((-2), w3.2) := by
    unfold fX7_ahead
    rw [hn_sheet7 (hn_cN7 hB) hn.1, hn_sheet7 (hn_cN7 hB) hn.1, hn_ckt h1, hn_ckt h2]
  have c8 : ∀ ξ, hn_Ba ξ V D S o → fX8_ahead F (nI s) (nI u) ξ = (fX8_areDays F ξ).bind fun w3 => if w3.1 = 0 then some ((-2), w3.2) else if nI s = nI u then some (0, w3.2) else (fX8_layDays F (nI s) (nI u) w3.2).bind fun w4 => if w4.1 = 0 then some (1, w4.2) else some (0, w4.2) := by
    intro ξ hξ
    unfold fX8_ahead
    rw [hn_sheet8 (hn_cN8 hξ) hn.1, hn_sheet8 (hn_cN8 hξ) hn.1, hn_ckt h1, hn_ckt h2]
  rw [c7]
  obtain ⟨v, μ1, q1, q2, q3, q4, q5⟩ := q_settle hB hS (F := F) (by omega)
  have hB1 := hn_Ba_q q2 hB
  obtain ⟨i1, i2, i3, i4, i5, i6, i7⟩ := id hB1
  rw [q1, Option.bind_some]
  rcases q5 with ⟨a0, a1⟩ | ⟨a0, m, M, a1, a2, a3, a4⟩
  · -- quarrel
    rw [a0] at q4
    subst q4
    rw [if_neg (show ¬ (1 : Int32) = 0 by decide)]
    obtain ⟨v', μ2, d1, d2, d3⟩ := ld_are (F := F) i2.2.2 (iP_D i1) i2.2.1 i1.2.2.2.1 hF
    have fr : ∀ k, k < 72 → μ2 k = μ1 k := fun k hk => d2.1 k (by omega) (by omega) (by omega)
    refine ⟨-2, μ1, μ2, rfl, ?_, V, D, S, o, hn_Ba_q (ld_fr_q d2) hB1, Or.inr ⟨by rw [fr 0 (by decide)]; exact q3, Or.inl ⟨by rw [fr 46 (by decide)]; exact a0, a1⟩⟩⟩
    rw [c8 μ1 hB1, d1, Option.bind_some]
    rcases d3 with ⟨_, m, M, b1, _⟩ | ⟨b1, _⟩
    · exact absurd ⟨m, b1.1⟩ a1
    · rw [if_pos b1]
  · rw [a0] at q4
    subst q4
    rw [if_pos (show (0 : Int32) = 0 from rfl)]
    obtain ⟨w, μ2, k1, k2, k3⟩ := sp_canBe (F := F) i2.2.2 (iP_D i1) i2.1 (iP_O i1) (by omega) hs hu
    rw [k1, Option.bind_some]
    have fq : qfr μ1 μ2 := ⟨fun k a b c d => k2 k (by omega), fun i _ => by rw [k2 0 (by decide)], fun i _ _ => by rw [k2 72 (by decide)]⟩
    have hB2 := hn_Ba_q fq hB1
    have hS2 : sS μ2 V D o := sS_c ⟨by rw [k2 46 (by decide)], k2 47 (by decide), k2 48 (by decide), k2 51 (by decide), k2 52 (by decide), k2 53 (by decide)⟩ (Or.inr ⟨a0, m, M, a1, a2, a3, a4⟩)
    have q32 : μ2 0 12 = 1 := by rw [k2 0 (by decide)]; exact q3
    obtain ⟨j1, j2, j3, j4, j5, j6, j7⟩ := id hB2
    obtain ⟨v', μ3, d1, d2, d3⟩ := ld_are (F := F) j2.2.2 (iP_D j1) j2.2.1 j1.2.2.2.1 hF
    have fr : ∀ k, k < 72 → μ3 k = μ2 k := fun k hk => d2.1 k (by omega) (by omega) (by omega)
    have hB3 := hn_Ba_q (ld_fr_q d2) hB2
    have hS3 : iS μ3 V D o := Or.inr ⟨by rw [fr 0 (by decide)]; exact q32, sS_c ⟨by rw [fr 46 (by decide)], fr 47 (by decide), fr 48 (by decide), fr 51 (by decide), fr 52 (by decide), fr 53 (by decide)⟩ hS2⟩
    have v1 : v' = 1 := by
      rcases d3 with ⟨b0, _⟩ | ⟨_, b1⟩
      · exact b0
      · exact absurd ⟨m, a1.1⟩ b1
    -- the class's answer
    have e7 : (if w = 0 then some ((1 : Int32), μ2) else some (0, μ2)) = some ((if w = 0 then 1 else 0), μ2) := by
      by_cases hw : w = 0
      · rw [if_pos hw, if_pos hw]
      · rw [if_neg hw, if_neg hw]
    by_cases hsu : s = u
    · subst hsu
      refine ⟨(if w = 0 then 1 else 0), μ2, μ3, e7, ?_, V, D, S, o, hB3, hS3⟩
      rw [c8 μ2 hB2, d1, Option.bind_some]
      dsimp only
      rw [if_neg (by rw [v1]; decide), if_pos rfl]
      have hw : ¬ w = 0 := by
        rcases k3 with ⟨b1, _⟩ | ⟨_, b2⟩
        · rw [b1]; decide
        · exfalso
          refine b2 ⟨m, a1.1.1, fun q hq => ?_⟩
          rcases List.mem_append.mp hq with hq | hq
          · exact a1.1.2 q hq
          · rw [List.mem_singleton.mp hq]; show m s + 0 ≤ m s; omega
      rw [if_neg hw]
    · obtain ⟨j1, j2, j3, j4, j5, j6, j7⟩ := id hB3
      obtain ⟨w', μ4, g1, g2, g3⟩ := ld_lay (F := F) (l1 := nI s) (l2 := nI u) (ex := [(s, u, 0)]) j2.2.2 (iP_D j1) j2.2.1 j1.2.2.2.1 (Or.inr ⟨s, u, hs, hu, rfl, rfl, rfl⟩) hF
      have fr4 : ∀ k, k < 72 → μ4 k = μ3 k := fun k hk => g2.1 k (by omega) (by omega) (by omega)
      have ww : w' = w := by
        rcases k3 with ⟨b1, b2⟩ | ⟨b1, b2⟩
        · rcases g3 with ⟨c1, _⟩ | ⟨_, c2⟩
          · rw [b1, c1]
          · exact absurd b2 c2
        · rcases g3 with ⟨_, m', M', c2, _⟩ | ⟨c1, _⟩
          · exact absurd ⟨m', c2.1⟩ b2
          · rw [b1, c1]
      refine ⟨(if w = 0 then 1 else 0), μ2, μ4, e7, ?_, V, D, S, o, hn_Ba_q (ld_fr_q g2) hB3, iS_c (by rw [fr4 0 (by decide)]) ⟨by rw [fr4 46 (by decide)], fr4 47 (by decide), fr4 48 (by decide), fr4 51 (by decide), fr4 52 (by decide), fr4 53 (by decide)⟩ hS3⟩
      rw [c8 μ2 hB2, d1, Option.bind_some]
      dsimp only
      rw [if_neg (by rw [v1]; decide), if_neg (by rw [nI_eq (by omega) (by omega)]; exact hsu), g1, Option.bind_some, ww]
      dsimp only
      by_cases hw : w = 0
      · rw [if_pos hw, if_pos hw]
      · rw [if_neg hw, if_neg hw]
theorem c_change (hF : 12000 ≤ F) (x y : Int32) : hn_cP (fun μ => fX7_change F μ x y) (fun μ => fX8_change F μ x y) := by
  intro μ ⟨V, D, S, o, hB, hS⟩
  have hn := hn_bN hB
  obtain ⟨i1, i2, _⟩ := id hB
  show ∃ r, fX7_change F μ x y = some r ∧ fX8_change F μ x y = some r
  unfold fX7_change fX8_change
  rw [hn_say7 (hn_cK7 hB) hn.2.2, hn_say8 (hn_cK8 hB) hn.2.2, hn_say7 (hn_cK7 hB) hn.2.2, hn_say8 (hn_cK8 hB) hn.2.2]
  by_cases h1 : 0 ≤ x.toInt ∧ x.toInt ≤ (vK V : Int) - 1
  rotate_left 1
  · rw [hn_ckf h1, hn_ckf h1]; exact ⟨-1, rfl, rfl⟩
  by_cases h2 : 0 ≤ y.toInt ∧ y.toInt ≤ (vK V : Int) - 1
  rotate_left 1
  · rw [hn_ckt h1, hn_ckf h2, hn_ckt h1, hn_ckf h2]; exact ⟨-1, rfl, rfl⟩
  rw [hn_ckt h1, hn_ckt h2, hn_ckt h1, hn_ckt h2]
  obtain ⟨a, ha, rfl⟩ := hn_ix h1
  obtain ⟨b, hb, rfl⟩ := hn_ix h2
  rw [hn_rd_at (by omega) (by decide), hn_rd_at (by omega) (by decide), hn_ix6m, hn_p1, hn_rd_at (by omega) (by decide), hn_ix6m, hn_p1, hn_rd_at (by omega) (by decide), (rm_y i2.2.1 ha).2.1, (rm_y i2.2.1 hb).2.1, show μ 13 a = _ from (i2.1.2.2.2.1 a ha).2.1, show μ 13 b = _ from (i2.1.2.2.2.1 b hb).2.1, un_class i2.2.2 i2.1 (by omega) ha hb, un_model i2.2.2 i2.2.1 (by omega) ha hb]
  by_cases hc : nI (vY V a).2.1 = nI (vY V b).2.1
  · rw [if_pos hc]; exact ⟨_, rfl, rfl⟩
  · rw [if_neg hc]; exact ⟨_, rfl, rfl⟩
theorem hn_voice {m M : Nat → Int} (h : ∀ a, a < vK V → μ 51 a = te1 (ts V D m M o a)) (hV : okV V D) {a : Nat} (ha : a < vK V) : fX5_isVoice μ (nI a) = some (hn_b01 (ts V D m M o a).isNone) := by
  have hn := hV.1
  unfold fX5_isVoice
  rw [hn_rd_at (by omega) (by decide), h a ha]
  cases hc : ts V D m M o a with
  | none => rw [if_pos te1_none]; rfl
  | some b => rw [if_neg (te1_ne (by have := (ts_1 hc).1; omega))]; rfl
theorem c_from (hF : 12000 ≤ F) (x : Int32) : hn_cM (fun μ => fX7_from F x μ) (fun μ => fX8_from F x μ) := by
  intro μ ⟨V, D, S, o, hB, hS⟩
  have hI : hn_Inv μ := ⟨V, D, S, o, hB, hS⟩
  have hn := hn_bN hB
  show ∃ r μ1 μ2, fX7_from F x μ = some (r, μ1) ∧ fX8_from F x μ1 = some (r, μ2) ∧ _
  unfold fX7_from fX8_from
  rw [hn_say7 (hn_cK7 hB) hn.2.2]
  by_cases h1 : 0 ≤ x.toInt ∧ x.toInt ≤ (vK V : Int) - 1
  rotate_left 1
  · exact ⟨-1, μ, μ, by rw [hn_ckf h1], by rw [hn_say8 (hn_cK8 hB) hn.2.2, hn_ckf h1], hI⟩
  obtain ⟨a, ha, rfl⟩ := hn_ix h1
  obtain ⟨μ1, μ2, b1, b2, b3, b4⟩ := q_tree hB hS hF
  have hI2 : hn_Inv μ2 := ⟨V, D, S, o, b2, b3⟩
  have hV := hB.2.1.2.2
  rw [hn_ckt h1]
  rcases b4 with ⟨e1, e2⟩ | ⟨e1, e2, m, M, q, q6⟩
  · exact ⟨-2, μ1, μ2, by rw [e1]; rfl, by rw [hn_say8 (hn_cK8 b1) hn.2.2, hn_ckt h1, e2]; rfl, hI2⟩
  · refine ⟨te4 (ts V D m M o a), μ1, μ2, ?_, ?_, hI2⟩
    · rw [e1, Option.bind_some]
      dsimp only
      rw [if_pos (show (0 : Int32) = 0 from rfl), hn_voice (fun a ha => (q.2.2.2.2 a ha).1) hV ha, Option.bind_some, hn_rd_at (by omega) (by decide), (q.2.2.2.2 a ha).1]
      cases hc : ts V D m M o a with
      | none => rfl
      | some b => rfl
    · rw [hn_say8 (hn_cK8 b1) hn.2.2, hn_ckt h1, e2, Option.bind_some]
      dsimp only
      rw [if_neg (show ¬ (1 : Int32) = 0 by decide), hn_rd_at (by omega) (by decide), q6 a ha]
end q1
