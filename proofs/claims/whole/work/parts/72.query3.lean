/-! calls that ask: right, came, known, count -/
section q3
variable {μ ν : hn_M} {V : hn_Vw} {D S : Nat → Nat → Int} {o F : Nat} {m M : Nat → Int}
/-- how far off: what right adds -/
def hn_outc (off y : Int32) : Int32 := if y = 0 then (if off = 0 then 1 else 0) else if y = 1 then 1 else if 0 ≤ off then off else -off
theorem hn_abs0 (off : Int32) : ((if 0 ≤ off then off else 0 - off) = 0) ↔ off = 0 := by
  by_cases h : 0 ≤ off
  · rw [if_pos h]
  · rw [if_neg h]
    constructor
    · intro h2
      have h3 : (0 - off) + off = 0 + off := by rw [h2]
      rw [Int32.sub_add_cancel, Int32.zero_add] at h3
      exact h3.symm
    · intro h2
      rw [h2] at h
      exact absurd (by decide) h
theorem c_right (hF : 12000 ≤ F) (x y : Int32) : hn_cM (fun μ => fX7_right F x y μ) (fun μ => fX8_right F x y μ) := by
  intro μ ⟨V, D, S, o, hB, hS⟩
  have hI : hn_Inv μ := ⟨V, D, S, o, hB, hS⟩
  have hn := hn_bN hB
  have z0 : (0 : Int32).toInt = 0 := rfl
  have z2 : (2 : Int32).toInt = 2 := rfl
  show ∃ r μ1 μ2, fX7_right F x y μ = some (r, μ1) ∧ fX8_right F x y μ1 = some (r, μ2) ∧ _
  unfold fX7_right fX8_right
  rw [hn_writer7, hn_in8 x (a := 0) (b := 7) rfl rfl, hn_in8 y (a := 0) (b := 2) rfl rfl]
  by_cases h1 : 0 ≤ x.toInt ∧ x.toInt ≤ 7
  rotate_left 1
  · exact ⟨-1, μ, μ, by rw [hn_ckf h1], by rw [hn_ckf h1], hI⟩
  by_cases h2 : 0 ≤ y.toInt ∧ y.toInt ≤ 2
  rotate_left 1
  · refine ⟨-1, μ, μ, ?_, by rw [hn_ckt h1, hn_ckf h2], hI⟩
    rw [hn_ckt h1]
    by_cases h3 : 0 ≤ y.toInt
    rotate_left 1
    · rw [if_pos (by rw [hn_lt, z0]; omega)]
    rw [if_neg (by rw [hn_lt, z0]; omega), if_neg (by rw [hn_le, z2]; exact fun z => h2 ⟨h3, z⟩)]
  rw [hn_ckt h1, if_neg (by rw [hn_lt, z0]; omega), if_pos (by rw [hn_le, z2]; omega)]
  obtain ⟨μ1, μ2, b1, b2, b3, b4⟩ := q_tree hB hS hF
  have hI2 : hn_Inv μ2 := ⟨V, D, S, o, b2, b3⟩
  have hV := hB.2.1.2.2
  rcases b4 with ⟨e1, e2⟩ | ⟨e1, e2, m, M, q, q6⟩
  · exact ⟨-2, μ1, μ2, by rw [e1]; rfl, by rw [hn_ckt h1, hn_ckt h2, e2]; rfl, hI2⟩
  · have f7 := hn_fold (fun n j s => fX7_right_33 F n x y s (nI j) μ1) (vK V) (fun j s => if nI (vS V (vY V j).1).2.1 = x ∧ (vY V j).2.2.2.2.2 = false ∧ ts V D m M o j = none ∧ ¬ vT V (vY V j).2.1 = -1 then s + hn_outc (nI (vY V j).2.2.1 - μ1 18 (vY V j).2.1) y else s) (fun s => some (s, μ1))
      (fun n s => by
        show fX7_right_33 F (n + 1) _ _ s (nI (vK V)) μ1 = _
        rw [fX7_right_33, hn_cK7 b1, if_pos (by rw [hn_leN (by omega) (by omega)]; exact Nat.le_refl _)])
      (fun n j s hj => by
        show fX7_right_33 F (n + 1) _ _ s (nI j) μ1 = _
        have cy := b1.2.1.1.2.2.2.1 j hj
        have oy := hV.2.2.2.1 j hj
        have ct := b1.2.1.1.2.2.2.2.2 _ oy.2.1
        have eo : fX7_outcome μ1 (nI j) y = some (hn_outc (nI (vY V j).2.2.1 - μ1 18 (vY V j).2.1) y) := by
          unfold fX7_outcome hn_outc
          rw [hn_rd_at (by omega) (by decide), hn_rd_at (by omega) (by decide), show μ1 14 j = _ from cy.2.2.1, show μ1 13 j = _ from cy.2.1, hn_rd_at (by omega) (by decide)]
          by_cases y0 : y = 0
          · rw [if_pos y0, if_pos y0]
            by_cases ho : nI (vY V j).2.2.1 - μ1 18 (vY V j).2.1 = 0
            · rw [if_pos ((hn_abs0 _).mpr ho), if_pos ho]
            · rw [if_neg (fun z => ho ((hn_abs0 _).mp z)), if_neg ho]
          · rw [if_neg y0, if_neg y0]
            by_cases y1 : y = 1
            · rw [if_pos y1, if_pos y1]
            · rw [if_neg y1, if_neg y1, Int32.zero_sub]
        have et : fX7_isTried μ1 (nI j) = some (if (vY V j).2.2.2.2.2 = false ∧ ts V D m M o j = none ∧ ¬ vT V (vY V j).2.1 = -1 then 1 else 0) := by
          unfold fX7_isTried
          rw [hn_den b1.2.1.1 hj, Option.bind_some, hn_voice (fun a ha => (q.2.2.2.2 a ha).1) hV hj, Option.bind_some, hn_rd_at (by omega) (by decide), show μ1 13 j = _ from cy.2.1, hn_rd_at (by omega) (by decide)]
          cases cd : (vY V j).2.2.2.2.2 with
          | true => rw [if_neg (show ¬ hn_b01 true = 0 by decide), if_neg (fun z => by cases z.1)]
          | false =>
            rw [if_pos (show hn_b01 false = 0 from rfl)]
            cases cs : ts V D m M o j with
            | some b => rw [if_pos (show hn_b01 (Option.isNone (some b)) = 0 from rfl), if_neg (fun z => by cases z.2.1)]
            | none =>
              rw [if_neg (show ¬ hn_b01 (Option.isNone (none : Option Nat)) = 0 from show ¬ hn_b01 true = 0 by decide)]
              by_cases ct2 : vT V (vY V j).2.1 = -1
              · rw [if_pos (show μ1 18 (vY V j).2.1 = -1 from hn_eq_i.mpr (by rw [show (μ1 18 (vY V j).2.1).toInt = _ from ct, ct2]; rfl)), if_neg (fun z => z.2.2 ct2)]
              · rw [if_neg (show ¬ μ1 18 (vY V j).2.1 = -1 from fun z => ct2 (by rw [← show (μ1 18 (vY V j).2.1).toInt = _ from ct, z]; rfl)), if_pos ⟨rfl, rfl, ct2⟩]
        rw [fX7_right_33, hn_cK7 b1, if_neg (by rw [hn_leN (by omega) (by omega)]; omega), hn_wri b1.2.1.1 hV hj, Option.bind_some, et, Option.bind_some, eo, Option.bind_some]
        unfold fX7_right_77
        rw [nI_1]
        by_cases c1 : nI (vS V (vY V j).1).2.1 = x
        rotate_left 1
        · rw [if_neg c1, if_neg (show ¬ (nI (vS V (vY V j).1).2.1 = x ∧ (vY V j).2.2.2.2.2 = false ∧ ts V D m M o j = none ∧ ¬ vT V (vY V j).2.1 = -1) from fun z => c1 z.1)]
        rw [if_pos c1]
        by_cases c2 : (vY V j).2.2.2.2.2 = false ∧ ts V D m M o j = none ∧ ¬ vT V (vY V j).2.1 = -1
        · rw [if_pos c2, if_neg (show ¬ (1 : Int32) = 0 by decide), if_pos (show nI (vS V (vY V j).1).2.1 = x ∧ _ from ⟨c1, c2⟩)]
        · rw [if_neg c2, if_pos (show (0 : Int32) = 0 from rfl), if_neg (show ¬ (nI (vS V (vY V j).1).2.1 = x ∧ (vY V j).2.2.2.2.2 = false ∧ ts V D m M o j = none ∧ ¬ vT V (vY V j).2.1 = -1) from fun z => c2 z.2)]) F 0 (by omega)
    have f8 := hn_fold (fun n j s => fX8_right_41 F n x y s (nI j) μ2) (vK V) (fun j s => if nI (vS V (vY V j).1).2.1 = x ∧ (vY V j).2.2.2.2.2 = false ∧ ts V D m M o j = none ∧ ¬ vT V (vY V j).2.1 = -1 then s + hn_outc (nI (vY V j).2.2.1 - μ1 18 (vY V j).2.1) y else s) (fun s => some (s, μ2))
      (fun n s => by
        show fX8_right_41 F (n + 1) _ _ s (nI (vK V)) μ2 = _
        rw [fX8_right_41, hn_rd_0 (by decide) (by decide), hn_cK8 b2, if_pos (by rw [hn_leN (by omega) (by omega)]; exact Nat.le_refl _)])
      (fun n j s hj => by
        show fX8_right_41 F (n + 1) _ _ s (nI j) μ2 = _
        have ry := rm_y b2.2.1.2.1 hj
        have oy := hV.2.2.2.1 j hj
        have ct := b1.2.1.1.2.2.2.2.2 _ oy.2.1
        have ct : (μ1 18 (vY V j).2.1).toInt = vT V (vY V j).2.1 := ct
        have e83 : μ2 83 (vY V j).2.1 = μ1 18 (vY V j).2.1 := hn_eq_i.mpr (by rw [rm_t b2.2.1.2.1 oy.2.1, ct])
        have ot := hV.2.2.2.2.2 _ oy.2.1
        rw [fX8_right_41, hn_rd_0 (by decide) (by decide), hn_cK8 b2, if_neg (by rw [hn_leN (by omega) (by omega)]; omega), hn_ix6m, hn_p1, hn_p5, hn_p2, hn_rd_at (by omega) (by decide), ry.2.1, hn_rd_at (by omega) (by decide), e83, hn_rd_at (by omega) (by decide), q6 j hj, wr_model b2 hj, Option.bind_some, hn_rd_at (by omega) (by decide), ry.2.2.2.2.2, hn_rd_at (by omega) (by decide), ry.2.2.1]
        unfold fX8_right_168 fX8_right_170
        rw [nI_1]
        generalize hX : (if nI (vS V (vY V j).1).2.1 = x ∧ (vY V j).2.2.2.2.2 = false ∧ ts V D m M o j = none ∧ ¬ vT V (vY V j).2.1 = -1 then s + hn_outc (nI (vY V j).2.2.1 - μ1 18 (vY V j).2.1) y else s) = X
        cases cs : ts V D m M o j with
        | some b =>
          have nC : X = s := by rw [← hX]; exact if_neg (fun z => by rw [cs] at z; cases z.2.2.1)
          rw [if_pos (show 0 ≤ te4 (some b) from nI_pos' (by have := (ts_1 cs).1; omega))]
          rw [nC]
        | none =>
          rw [if_neg (show ¬ 0 ≤ te4 none by decide)]
          by_cases c1 : nI (vS V (vY V j).1).2.1 = x
          rotate_left 1
          · have nC : X = s := by rw [← hX]; exact if_neg (fun z => c1 z.1)
            rw [if_neg c1]
            rw [nC]
          rw [if_pos c1]
          cases cd : (vY V j).2.2.2.2.2 with
          | true =>
            have nC : X = s := by rw [← hX]; exact if_neg (fun z => by rw [cd] at z; cases z.2.1)
            rw [if_neg (show ¬ hn_b01 true = 0 by decide)]
            rw [nC]
          | false =>
            rw [if_pos (show hn_b01 false = 0 from rfl)]
            by_cases ct2 : vT V (vY V j).2.1 = -1
            · have nC : X = s := by rw [← hX]; exact if_neg (fun z => z.2.2.2 ct2)
              rw [if_pos (by rw [hn_lt, ct, ct2]; decide)]
              rw [nC]
            · have pC : X = s + hn_outc (nI (vY V j).2.2.1 - μ1 18 (vY V j).2.1) y := by rw [← hX]; exact if_pos ⟨c1, cd, cs, ct2⟩
              rw [if_neg (by rw [hn_lt, ct]; show ¬ _ < (0 : Int); omega)]
              rw [pC]
              unfold hn_outc
              by_cases y0 : y = 0
              · rw [if_pos y0, if_pos y0]
                by_cases ho : nI (vY V j).2.2.1 - μ1 18 (vY V j).2.1 = 0
                · rw [if_pos ho, if_pos ho]
                · rw [if_neg ho, if_neg ho]
              · rw [if_neg y0, if_neg y0]
                by_cases y1 : y = 1
                · rw [if_pos y1, if_pos y1]
                · rw [if_neg y1, if_neg y1]
                  by_cases ho : 0 ≤ nI (vY V j).2.2.1 - μ1 18 (vY V j).2.1
                  · rw [if_pos ho, if_pos ho]
                  · rw [if_neg ho, if_neg ho]) F 0 (by omega)
    exact ⟨_, μ1, μ2, by rw [e1, Option.bind_some]; exact f7, by rw [hn_ckt h1, hn_ckt h2, e2, Option.bind_some]; exact f8, hI2⟩
/-- the day a saying came to the closet -/
def hn_arv (μ : hn_M) (V : hn_Vw) (D : Nat → Nat → Int) (c a : Nat) : Int32 := if D (vS V (vY V a).1).1 c < 1000000 then μ 47 (vY V a).1 + μ 4 (6 * (vS V (vY V a).1).1 + c) else -4
theorem av_class (hB : hn_Ba μ V D S o) {c : Nat} (hc : c < 6) (h11 : μ 0 11 = nI c) {a : Nat} (ha : a < vK V) : fX7_arrival μ (nI a) = some (hn_arv μ V D c a) := by
  have hV := hB.2.1.2.2
  have hn := hV.1
  have oy := hV.2.2.2.1 a ha
  have os := hV.2.1 _ oy.1
  unfold fX7_arrival hn_arv
  rw [hn_town hB.2.1.1 hV ha, Option.bind_some, h11, hn_leads (iP_O hB.1) os.1 hc, Option.bind_some, hn_rd_at (by omega) (by decide), show μ 12 a = _ from (hB.2.1.1.2.2.2.1 a ha).1, hn_rd_at (by omega) (by decide), hn_days os.1 hc, Option.bind_some]
  by_cases hd : D (vS V (vY V a).1).1 c < 1000000
  · rw [if_pos hd, if_pos hd, if_neg (show ¬ (1 : Int32) = 0 by decide)]
  · rw [if_neg hd, if_neg hd, if_pos (show (0 : Int32) = 0 from rfl)]
theorem av_model (hB : hn_Ba ν V D S o) (hB1 : hn_Ba μ V D S o) (h89 : ∀ s, s < vN V → ν 89 s = μ 47 s) {c : Nat} (hc : c < 6) (h13 : ν 72 13 = nI c) {a : Nat} (ha : a < vK V) : fX8_cameOf ν (nI a) = some (hn_arv μ V D c a) := by
  have hV := hB.2.1.2.2
  have hn := hV.1
  have oy := hV.2.2.2.1 a ha
  have os := hV.2.1 _ oy.1
  unfold fX8_cameOf hn_arv
  rw [hn_ix6m, hn_rd_at (by omega) (by decide), (rm_y hB.2.1.2.1 ha).1, hn_ix3, hn_rd_at (by omega) (by decide), (rm_s hB.2.1.2.1 oy.1).1, h13, hn_ix6m, nI_add, hn_rd_at (by omega) (by decide), hn_rd_at (by omega) (by decide), h89 _ oy.1]
  have e4 : ν 4 (6 * (vS V (vY V a).1).1 + c) = μ 4 (6 * (vS V (vY V a).1).1 + c) := hn_eq_i.mpr (by
    have x1 : (ν 4 (6 * (vS V (vY V a).1).1 + c)).toInt = _ := (hB.1.1 _ _ os.1 hc).1
    have x2 : (μ 4 (6 * (vS V (vY V a).1).1 + c)).toInt = _ := (hB1.1.1 _ _ os.1 hc).1
    rw [x1, x2])
  rcases hn_wayI hB.1 os.1 hc with ⟨hd, e⟩ | ⟨hd, e⟩
  · have x1 : (ν 4 (6 * (vS V (vY V a).1).1 + c)).toInt = _ := (hB.1.1 _ _ os.1 hc).1
    rw [if_pos hd, e, if_pos (by rw [hn_le, x1]; exact (iP_D hB.1 _ _ os.1 hc).1), e4]
  · rw [if_neg hd, e, if_neg (by decide)]
theorem c_came (hF : 12000 ≤ F) (x : Int32) : hn_cM (fun μ => fX7_came F x μ) (fun μ => fX8_came F x μ) := by
  intro μ ⟨V, D, S, o, hB, hS⟩
  have hI : hn_Inv μ := ⟨V, D, S, o, hB, hS⟩
  have hn := hn_bN hB
  show ∃ r μ1 μ2, fX7_came F x μ = some (r, μ1) ∧ fX8_came F x μ1 = some (r, μ2) ∧ _
  unfold fX7_came fX8_came
  rw [hn_say7 (hn_cK7 hB) hn.2.2]
  by_cases h1 : 0 ≤ x.toInt ∧ x.toInt ≤ (vK V : Int) - 1
  rotate_left 1
  · exact ⟨-1, μ, μ, by rw [hn_ckf h1], by rw [hn_say8 (hn_cK8 hB) hn.2.2, hn_ckf h1], hI⟩
  obtain ⟨a, ha, rfl⟩ := hn_ix h1
  obtain ⟨μ1, μ2, b1, b2, b3, b4, b5, b6⟩ := q_days hB hS hF
  have hI2 : hn_Inv μ2 := ⟨V, D, S, o, b2, b3⟩
  rw [hn_ckt h1]
  rcases b6 with ⟨e1, e2⟩ | ⟨e1, e2, m, M, q⟩
  · exact ⟨-2, μ1, μ2, by rw [e1]; rfl, by rw [hn_say8 (hn_cK8 b1) hn.2.2, hn_ckt h1, e2]; rfl, hI2⟩
  · obtain ⟨_, _, _, c, hc, h11, h13⟩ := b1.2.2.2.1
    have h13 : μ2 72 13 = nI c := by rw [b5.2 13 (by decide)]; exact h13
    refine ⟨hn_arv μ1 V D c a, μ1, μ2, ?_, ?_, hI2⟩
    · rw [e1, Option.bind_some]
      dsimp only
      rw [if_pos (show (0 : Int32) = 0 from rfl), av_class b1 hc h11 ha, Option.bind_some]
    · rw [hn_say8 (hn_cK8 b1) hn.2.2, hn_ckt h1, e2, Option.bind_some]
      dsimp only
      rw [if_neg (show ¬ (1 : Int32) = 0 by decide), av_model b2 b1 (fun s hs => hn_eq_i.mpr (by rw [(q.2.2.2.1 s hs).1, (q.2.2.2.1 s hs).2.2.1])) hc h13 ha, Option.bind_some]
end q3
