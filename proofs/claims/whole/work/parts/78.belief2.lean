/-! belief -/
section be2
variable {μ ν μ1 μ2 : hn_M} {V : hn_Vw} {D S : Nat → Nat → Int} {o F t n : Nat} {It : hn_It} {m M : Nat → Int}
theorem arv_b (hB : hn_Ba μ V D S o) (h47 : ∀ s, s < vN V → 0 ≤ (μ 47 s).toInt ∧ (μ 47 s).toInt ≤ 999) {c a : Nat} (hc : c < 6) (ha : a < vK V) : hn_arv μ V D c a = -4 ∨ 0 ≤ (hn_arv μ V D c a).toInt := by
  have hV := hB.2.1.2.2
  have oy := hV.2.2.2.1 a ha
  have os := hV.2.1 _ oy.1
  have x := h47 _ oy.1
  have y := iP_D hB.1 _ _ os.1 hc
  have z : (μ 4 (6 * (vS V (vY V a).1).1 + c)).toInt = _ := (hB.1.1 _ _ os.1 hc).1
  unfold hn_arv
  by_cases hd : D (vS V (vY V a).1).1 c < 1000000
  · rw [if_pos hd]
    right
    rw [hn_addI (by omega) (by omega)]
    omega
  · rw [if_neg hd]; exact Or.inl rfl
/-- a saying is heard by a day -/
abbrev be_h (μ : hn_M) (V : hn_Vw) (D : Nat → Nat → Int) (c dd : Nat) (old : Int32) (j : Nat) : Prop := ¬ hn_arv μ V D c j = -4 ∧ ¬ nI dd < hn_arv μ V D c j ∧ ¬ old < nI dd - μ 47 (vY V j).1
def be_w (It : hn_It) (n : Nat) (V : hn_Vw) (dd j : Nat) : Int32 := if (vY V j).2.2.2.2.2 = true then (-(it_am It n 0 (nI (vS V (vY V j).1).1) dd + it_am It n 1 (nI (vS V (vY V j).1).2.1) dd)) * it_am It n 4 0 dd else it_am It n 0 (nI (vS V (vY V j).1).1) dd + it_am It n 1 (nI (vS V (vY V j).1).2.1) dd
theorem hn_bit0 (v : Nat) : hn_bit 0 v = false := by
  unfold hn_bit
  show (0#32).getLsbD v = false
  exact BitVec.getLsbD_zero
theorem be_set (hF : 12000 ≤ F) (hB : hn_Ba μ V D S o) (hr : repI μ t n It) (ok : okI n It) (t0 : t = 58 ∨ t = 65) (h7 : μ 0 7 = nI t) {c : Nat} (hc : c < 6) (h11 : μ 0 11 = nI c) (h52 : ∀ a, a < vK V → μ 52 a = nI (tk (ts V D m M o) 11 a).1) {th dd : Nat} (hth : th < 10) (hd : dd < 1000) : ∃ hs, fX7_voicesHeard F μ (nI th) (nI dd) = some hs ∧ ∀ v, v < 32 → (hn_bit hs v = true ↔ ∃ i, i < vK V ∧ (vY V i).2.1 = th ∧ be_h μ V D c dd (it_am It n 2 0 dd) i ∧ (tk (ts V D m M o) 11 i).1 = v) := by
  have hV := hB.2.1.2.2
  have hn := hV.1
  have a2 : fX0_amountOn F t μ 2 0 (nI dd) = some (it_am It n 2 0 dd) := it_amC (what := 2) hr ok hF (by omega) hd 0
  obtain ⟨hs, e1, e2⟩ := hn_loopE (fun fu j s => fX7_voicesHeard_17 F μ fu (nI th) (nI dd) s (it_am It n 2 0 dd) (nI j)) (vK V) some (fun j s => ∀ v, v < 32 → (hn_bit s v = true ↔ ∃ i, i < j ∧ (vY V i).2.1 = th ∧ be_h μ V D c dd (it_am It n 2 0 dd) i ∧ (tk (ts V D m M o) 11 i).1 = v))
    (fun fu s _ => by
      show fX7_voicesHeard_17 F μ (fu + 1) _ _ s _ (nI (vK V)) = _
      rw [fX7_voicesHeard_17, hn_cK7 hB, if_pos (by rw [hn_leN (by omega) (by omega)]; exact Nat.le_refl _)])
    (fun fu j s hj hi => by
      show ∃ s', fX7_voicesHeard_17 F μ (fu + 1) _ _ s _ (nI j) = fX7_voicesHeard_17 F μ fu _ _ s' _ (nI (j + 1)) ∧ _
      have cy := hB.2.1.1.2.2.2.1 j hj
      have oy := hV.2.2.2.1 j hj
      have rin := tk_in (tr_ok (m := m) (M := M) (o := o) hV) 11 j hj (tr_rk_le hV hj)
      have keep : ¬ ((vY V j).2.1 = th ∧ be_h μ V D c dd (it_am It n 2 0 dd) j) → ∀ v, v < 32 → (hn_bit s v = true ↔ ∃ i, i < j + 1 ∧ (vY V i).2.1 = th ∧ be_h μ V D c dd (it_am It n 2 0 dd) i ∧ (tk (ts V D m M o) 11 i).1 = v) := by
        intro hz v hv
        rw [hi v hv]
        constructor
        · rintro ⟨i, i1, i2⟩; exact ⟨i, by omega, i2⟩
        · rintro ⟨i, i1, i2, i3, i4⟩
          by_cases hij : i = j
          · subst hij; exact absurd ⟨i2, i3⟩ hz
          · exact ⟨i, by omega, i2, i3, i4⟩
      rw [fX7_voicesHeard_17, hn_cK7 hB, if_neg (by rw [hn_leN (by omega) (by omega)]; omega), hn_rd_at (by omega) (by decide), show μ 13 j = _ from cy.2.1, av_class hB hc h11 hj, Option.bind_some, hn_rd_at (by omega) (by decide), show μ 12 j = _ from cy.1, hn_rd_at (by omega) (by decide), hn_rd_at (by omega) (by decide), h52 j hj]
      unfold fX7_voicesHeard_111
      rw [nI_1]
      by_cases c1 : (vY V j).2.1 = th
      rotate_left 1
      · rw [if_neg (by rw [nI_eq (by omega) (by omega)]; exact c1)]
        exact ⟨s, rfl, keep (fun z => c1 z.1)⟩
      rw [if_pos (by rw [c1])]
      by_cases c2 : hn_arv μ V D c j = -4
      · rw [if_pos c2]
        exact ⟨s, rfl, keep (fun z => z.2.1 c2)⟩
      rw [if_neg c2]
      by_cases c3 : nI dd < hn_arv μ V D c j
      · rw [if_pos c3]
        exact ⟨s, rfl, keep (fun z => z.2.2.1 c3)⟩
      rw [if_neg c3]
      by_cases c4 : it_am It n 2 0 dd < nI dd - μ 47 (vY V j).1
      · rw [if_pos c4]
        exact ⟨s, rfl, keep (fun z => z.2.2.2 c4)⟩
      rw [if_neg c4]
      refine ⟨_, rfl, fun v hv => ?_⟩
      rw [hn_or_bit s hv (show (tk (ts V D m M o) 11 j).1 < 32 by omega)]
      constructor
      · intro h
        rcases (Bool.or_eq_true _ _).mp h with h | h
        · obtain ⟨i, i1, i2⟩ := (hi v hv).mp h
          exact ⟨i, by omega, i2⟩
        · exact ⟨j, by omega, c1, ⟨c2, c3, c4⟩, (of_decide_eq_true h).symm⟩
      · rintro ⟨i, i1, i2, i3, i4⟩
        apply (Bool.or_eq_true _ _).mpr
        by_cases hij : i = j
        · subst hij; exact Or.inr (decide_eq_true i4.symm)
        · exact Or.inl ((hi v hv).mpr ⟨i, by omega, i2, i3, i4⟩))
    (vK V) 0 F 0 (by omega) (by omega) (fun v hv => by
      rw [hn_bit0]
      exact ⟨(fun z => by cases z), (fun ⟨i, hi, _⟩ => by omega)⟩)
  refine ⟨hs, ?_, e2⟩
  unfold fX7_voicesHeard
  rw [h7, hn_itk t0, a2, Option.bind_some]
  exact e1
theorem be_w7 (hF : 12000 ≤ F) (hB : hn_Ba μ V D S o) (hr : repI μ t n It) (ok : okI n It) (t0 : t = 58 ∨ t = 65) (h7 : μ 0 7 = nI t) {dd j : Nat} (hd : dd < 1000) (hj : j < vK V) : fX7_weightOfVoice F μ (nI j) (nI dd) = some (be_w It n V dd j) := by
  have hV := hB.2.1.2.2
  have a0 : ∀ l2, fX0_amountOn F t μ 0 l2 (nI dd) = some (it_am It n 0 l2 dd) := fun l2 => it_amC (what := 0) hr ok hF (by omega) hd l2
  have a1 : ∀ l2, fX0_amountOn F t μ 1 l2 (nI dd) = some (it_am It n 1 l2 dd) := fun l2 => it_amC (what := 1) hr ok hF (by omega) hd l2
  have a4 : ∀ l2, fX0_amountOn F t μ 4 l2 (nI dd) = some (it_am It n 4 l2 dd) := fun l2 => it_amC (what := 4) hr ok hF (by omega) hd l2
  unfold fX7_weightOfVoice be_w
  rw [h7, hn_itk t0, hn_town hB.2.1.1 hV hj, Option.bind_some, a0, Option.bind_some, hn_itk t0, hn_wri hB.2.1.1 hV hj, Option.bind_some, a1, Option.bind_some, hn_den hB.2.1.1 hj, Option.bind_some, hn_itk t0, a4, Option.bind_some]
  cases (vY V j).2.2.2.2.2 with
  | false => rfl
  | true => rfl
theorem be_h8 (hF : 12000 ≤ F) (hB1 : hn_Ba μ1 V D S o) (hB2 : hn_Ba μ2 V D S o) (h89 : ∀ s, s < vN V → μ2 89 s = μ1 47 s) (hr : repJ μ2 1 n It) (ok : okI n It) {c : Nat} (hc : c < 6) (h13 : μ2 72 13 = nI c) (h91 : ∀ a, a < vK V → μ2 91 a = te4 (ts V D m M o a)) (hab : ∀ a, a < vK V → hn_arv μ1 V D c a = -4 ∨ 0 ≤ (hn_arv μ1 V D c a).toInt) {k dd : Nat} (hd : dd < 1000) (hk : k < vK V) : ∃ v, fX8_isHeard F μ2 (nI k) (nI dd) = some v ∧ ((v = 1 ∧ ∃ i, i < vK V ∧ be_h μ1 V D c dd (it_am It n 2 0 dd) i ∧ (tk (ts V D m M o) 11 i).1 = k) ∨ (v = 0 ∧ ¬ ∃ i, i < vK V ∧ be_h μ1 V D c dd (it_am It n 2 0 dd) i ∧ (tk (ts V D m M o) 11 i).1 = k)) := by
  have hV := hB2.2.1.2.2
  have hn := hV.1
  have a2 : fX8_ruleOf F μ2 2 0 (nI dd) = some (it_am It n 2 0 dd) := it_amM (what := 2) hr ok hF (by omega) hd 0
  obtain ⟨v, e1, e2⟩ := hn_loopE (fun fu j s => fX8_isHeard_14 F μ2 fu (nI k) (nI dd) (it_am It n 2 0 dd) s (nI j)) (vK V) (fun s => hn_bo s (some s)) (fun j s => (s = 1 ∧ ∃ i, i < vK V ∧ be_h μ1 V D c dd (it_am It n 2 0 dd) i ∧ (tk (ts V D m M o) 11 i).1 = k) ∨ (s = 0 ∧ ∀ i, i < j → ¬ (be_h μ1 V D c dd (it_am It n 2 0 dd) i ∧ (tk (ts V D m M o) 11 i).1 = k)))
    (fun fu s _ => by
      show fX8_isHeard_14 F μ2 (fu + 1) _ _ _ s (nI (vK V)) = _
      rw [fX8_isHeard_14, hn_rd_0 (by decide) (by decide), hn_cK8 hB2, if_pos (by rw [hn_leN (by omega) (by omega)]; exact Nat.le_refl _)])
    (fun fu j s hj hi => by
      show ∃ s', fX8_isHeard_14 F μ2 (fu + 1) _ _ _ s (nI j) = fX8_isHeard_14 F μ2 fu _ _ _ s' (nI (j + 1)) ∧ _
      have ry := rm_y hB2.2.1.2.1 hj
      have oy := hV.2.2.2.1 j hj
      have rin := tk_in (tr_ok (m := m) (M := M) (o := o) hV) 11 j hj (tr_rk_le hV hj)
      rw [fX8_isHeard_14, hn_rd_0 (by decide) (by decide), hn_cK8 hB2, if_neg (by rw [hn_leN (by omega) (by omega)]; omega), av_model hB2 hB1 h89 hc h13 hj, Option.bind_some, q_root hF hV h91 hj, Option.bind_some, hn_ix6m, hn_rd_at (by omega) (by decide), ry.1, hn_rd_at (by omega) (by decide), h89 _ oy.1]
      unfold fX8_isHeard_80 fX8_isHeard_84 fX8_isHeard_85
      rw [nI_1]
      rcases hi with ⟨rfl, hi⟩ | ⟨rfl, hi⟩
      · rw [if_neg (show ¬ (1 : Int32) = 0 by decide)]
        exact ⟨1, rfl, Or.inl ⟨rfl, hi⟩⟩
      rw [if_pos (show (0 : Int32) = 0 from rfl)]
      have keep : ¬ (be_h μ1 V D c dd (it_am It n 2 0 dd) j ∧ (tk (ts V D m M o) 11 j).1 = k) → ∃ s', fX8_isHeard_14 F μ2 fu (nI k) (nI dd) (it_am It n 2 0 dd) 0 (nI (j + 1)) = fX8_isHeard_14 F μ2 fu (nI k) (nI dd) (it_am It n 2 0 dd) s' (nI (j + 1)) ∧ ((s' = 1 ∧ ∃ i, i < vK V ∧ be_h μ1 V D c dd (it_am It n 2 0 dd) i ∧ (tk (ts V D m M o) 11 i).1 = k) ∨ (s' = 0 ∧ ∀ i, i < j + 1 → ¬ (be_h μ1 V D c dd (it_am It n 2 0 dd) i ∧ (tk (ts V D m M o) 11 i).1 = k))) := fun hz => ⟨0, rfl, Or.inr ⟨rfl, fun i hi2 => by
        by_cases hij : i = j
        · rw [hij]; exact hz
        · exact hi i (by omega)⟩⟩
      by_cases c1 : (tk (ts V D m M o) 11 j).1 = k
      rotate_left 1
      · rw [if_neg (by rw [nI_eq (by omega) (by omega)]; exact c1)]
        exact keep (fun z => c1 z.2)
      rw [if_pos (by rw [c1])]
      have an : hn_arv μ1 V D c j < 0 ↔ hn_arv μ1 V D c j = -4 := by
        rcases hab j hj with h | h
        · rw [h]; exact ⟨fun _ => rfl, fun _ => by decide⟩
        · constructor
          · intro z; rw [hn_lt] at z; have z : _ < (0 : Int) := z; omega
          · intro z; rw [z] at h; exact absurd h (by decide)
      by_cases c2 : hn_arv μ1 V D c j = -4
      · rw [if_pos (an.mpr c2)]
        exact keep (fun z => z.1.1 c2)
      rw [if_neg (fun z => c2 (an.mp z))]
      by_cases c3 : nI dd < hn_arv μ1 V D c j
      · rw [if_pos c3]
        exact keep (fun z => z.1.2.1 c3)
      rw [if_neg c3]
      by_cases c4 : it_am It n 2 0 dd < nI dd - μ1 47 (vY V j).1
      · rw [if_pos c4]
        exact keep (fun z => z.1.2.2 c4)
      rw [if_neg c4]
      exact ⟨1, rfl, Or.inl ⟨rfl, j, hj, ⟨c2, c3, c4⟩, c1⟩⟩)
    (vK V) 0 F 0 (by omega) (by omega) (Or.inr ⟨rfl, fun i hi => by omega⟩)
  refine ⟨v, ?_, e2.imp id (fun z => ⟨z.1, fun ⟨i, hi, hb⟩ => z.2 i hi hb⟩)⟩
  unfold fX8_isHeard
  rw [a2, Option.bind_some]
  have e1 : fX8_isHeard_14 F μ2 F (nI k) (nI dd) (it_am It n 2 0 dd) 0 0 = hn_bo v (some v) := e1
  rw [e1]
  unfold hn_bo
  rw [if_pos (e2.elim (fun z => Or.inr z.1) (fun z => Or.inl z.1))]
theorem c_belief (hF : 12000 ≤ F) (x y w : Int32) : hn_cM (fun μ => fX7_belief F x y w μ) (fun μ => fX8_belief F x y w μ) := by
  intro μ ⟨V, D, S, o, hB, hS⟩
  have hI : hn_Inv μ := ⟨V, D, S, o, hB, hS⟩
  have hn := hn_bN hB
  have z0 : (0 : Int32).toInt = 0 := rfl
  have z1 : (1 : Int32).toInt = 1 := rfl
  show ∃ r μ1 μ2, fX7_belief F x y w μ = some (r, μ1) ∧ fX8_belief F x y w μ1 = some (r, μ2) ∧ _
  by_cases hg : (0 ≤ x.toInt ∧ x.toInt ≤ 9) ∧ (0 ≤ y.toInt ∧ y.toInt ≤ 999) ∧ (0 ≤ w.toInt ∧ w.toInt ≤ 1)
  rotate_left 1
  · refine ⟨-1000000, μ, μ, ?_, ?_, hI⟩
    · unfold fX7_belief
      rw [hn_thing7, hn_day7]
      by_cases h1 : 0 ≤ x.toInt ∧ x.toInt ≤ 9
      rotate_left 1
      · rw [hn_ckf h1]
      by_cases h2 : 0 ≤ y.toInt ∧ y.toInt ≤ 999
      rotate_left 1
      · rw [hn_ckt h1, hn_ckf h2]
      rw [hn_ckt h1, hn_ckt h2]
      by_cases h3 : 0 ≤ w.toInt
      rotate_left 1
      · rw [if_pos (by rw [hn_lt, z0]; omega)]
      rw [if_neg (by rw [hn_lt, z0]; omega), if_neg (by rw [hn_le, z1]; exact fun z => hg ⟨h1, h2, h3, z⟩)]
    · unfold fX8_belief
      rw [hn_thing8, hn_day8, hn_in8 w (a := 0) (b := 1) rfl rfl]
      by_cases h1 : 0 ≤ x.toInt ∧ x.toInt ≤ 9
      rotate_left 1
      · rw [hn_ckf h1]
      by_cases h2 : 0 ≤ y.toInt ∧ y.toInt ≤ 999
      rotate_left 1
      · rw [hn_ckt h1, hn_ckf h2]
      rw [hn_ckt h1, hn_ckt h2, hn_ckf (fun z => hg ⟨h1, h2, z⟩)]
  obtain ⟨h1, h2, h3⟩ := hg
  obtain ⟨th, hth, rfl⟩ := hn_ix' 10 (by decide) h1
  obtain ⟨dd, hd, rfl⟩ := hn_ix' 1000 (by decide) h2
  obtain ⟨μ1, μ2, fq, b1, b2, b3, b4⟩ := q_treeF hB hS hF
  have hI2 : hn_Inv μ2 := ⟨V, D, S, o, b2, b3⟩
  have hV := hB.2.1.2.2
  have c7 : fX7_belief F (nI th) (nI dd) w μ = (fX7_isQuarrel F μ).bind fun w3 => if w3.1 = 0 then (fX7_weightOf F w3.2 (nI th) (nI dd)).bind fun v4 => if w = 0 then some (v4, w3.2) else hn_it (w3.2 0 7) fun t5 => (fX0_amountOn F t5 w3.2 3 0 (nI dd)).bind fun v6 => if v4 < v6 then some (0, w3.2) else some (1, w3.2) else some ((-1000002), w3.2) := by
    unfold fX7_belief
    rw [hn_thing7, hn_day7, hn_ckt h1, hn_ckt h2, if_neg (by rw [hn_lt, z0]; omega), if_pos (by rw [hn_le, z1]; omega)]
  have c8 : fX8_belief F (nI th) (nI dd) w μ1 = (fX8_layTree F μ1).bind fun w16 => if w16.1 = 0 then some ((-1000002), w16.2) else fX8_belief_43 F F (nI th) (nI dd) w 0 0 w16.2 := by
    unfold fX8_belief
    rw [hn_thing8, hn_day8, hn_in8 w (a := 0) (b := 1) rfl rfl, hn_ckt h1, hn_ckt h2, hn_ckt h3]
  rw [c7]
  rcases b4 with ⟨e1, e2⟩ | ⟨e1, e2, m, M, q, q6⟩
  · exact ⟨-1000002, μ1, μ2, by rw [e1]; rfl, by rw [c8, e2]; rfl, hI2⟩
  rw [e1, Option.bind_some]
  dsimp only
  rw [if_pos (show (0 : Int32) = 0 from rfl)]
  obtain ⟨_, _, _, c, hc, h11, h13⟩ := b1.2.2.2.1
  have h13 : μ2 72 13 = nI c := by rw [fq.2.2 13 (by decide) (by decide)]; exact h13
  obtain ⟨t, u, n, It, t0, t1, t2, t3, t4, t5⟩ := b1.2.2.2.2.2.1
  have t0 : t = 58 ∨ t = 65 := t0.imp (fun z => z.1) (fun z => z.1)
  have t4 : repJ μ2 1 n It := by
    unfold repJ
    rw [fq.1 85 (by decide) (by decide) (by decide) (by decide), fq.1 86 (by decide) (by decide) (by decide) (by decide)]
    exact t4
  have h89 : ∀ s, s < vN V → μ2 89 s = μ1 47 s := fun s hs => hn_eq_i.mpr (by rw [(q.2.2.2.1 s hs).1, (q.2.2.2.1 s hs).2.2.1])
  have h47 : ∀ s, s < vN V → 0 ≤ (μ1 47 s).toInt ∧ (μ1 47 s).toInt ≤ 999 := fun s hs => by rw [(q.2.2.2.1 s hs).1]; exact ⟨(q.2.2.1 s hs).1, (q.2.2.1 s hs).2.1⟩
  obtain ⟨hs, s1, s2⟩ := be_set (m := m) (M := M) hF b1 t3 t5 t0 t1 hc h11 (fun a ha => (q.2.2.2.2 a ha).2.1) hth hd
  -- a voice is heard here as there
  have rok := tr_ok (m := m) (M := M) (o := o) hV
  have f7 := hn_fold (fun fu j s => fX7_weightOf_13 F μ1 fu (nI dd) hs s (nI j)) (vK V) (fun j s => if hn_bit hs j = true then s + be_w It n V dd j else s) some
    (fun fu s => by
      show fX7_weightOf_13 F μ1 (fu + 1) _ _ s (nI (vK V)) = _
      rw [fX7_weightOf_13, hn_cK7 b1, if_pos (by rw [hn_leN (by omega) (by omega)]; exact Nat.le_refl _)])
    (fun fu j s hj => by
      show fX7_weightOf_13 F μ1 (fu + 1) _ _ s (nI j) = _
      rw [fX7_weightOf_13, hn_cK7 b1, if_neg (by rw [hn_leN (by omega) (by omega)]; omega), hn_isIn hs (by omega), Option.bind_some, be_w7 hF b1 t3 t5 t0 t1 hd hj, Option.bind_some]
      unfold fX7_weightOf_46
      rw [nI_1]
      cases hb : hn_bit hs j with
      | false => rfl
      | true => rfl) F 0 (by omega)
  have f8 := hn_fold (fun fu j s => fX8_belief_43 F fu (nI th) (nI dd) w s (nI j) μ2) (vK V) (fun j s => if hn_bit hs j = true then s + be_w It n V dd j else s) (fun s => fX8_belief_171 F (nI dd) w s μ2)
    (fun fu s => by
      show fX8_belief_43 F (fu + 1) _ _ _ s (nI (vK V)) μ2 = _
      rw [fX8_belief_43, hn_rd_0 (by decide) (by decide), hn_cK8 b2, if_pos (by rw [hn_leN (by omega) (by omega)]; exact Nat.le_refl _)])
    (fun fu j s hj => by
      show fX8_belief_43 F (fu + 1) _ _ _ s (nI j) μ2 = _
      have ry := rm_y b2.2.1.2.1 hj
      have oy := hV.2.2.2.1 j hj
      have rs := rm_s b2.2.1.2.1 oy.1
      have bit := s2 j (by omega)
      have a0 : ∀ l2, fX8_ruleOf F μ2 0 l2 (nI dd) = some (it_am It n 0 l2 dd) := fun l2 => it_amM (what := 0) t4 t5 hF (by omega) hd l2
      have a1 : ∀ l2, fX8_ruleOf F μ2 1 l2 (nI dd) = some (it_am It n 1 l2 dd) := fun l2 => it_amM (what := 1) t4 t5 hF (by omega) hd l2
      have a4 : ∀ l2, fX8_ruleOf F μ2 4 l2 (nI dd) = some (it_am It n 4 l2 dd) := fun l2 => it_amM (what := 4) t4 t5 hF (by omega) hd l2
      obtain ⟨v, v1, v2⟩ := be_h8 (m := m) (M := M) hF b1 b2 h89 t4 t5 hc h13 q6 (fun a ha => arv_b b1 h47 hc ha) hd hj
      rw [fX8_belief_43, hn_rd_0 (by decide) (by decide), hn_cK8 b2, if_neg (by rw [hn_leN (by omega) (by omega)]; omega), hn_rd_at (by omega) (by decide), q6 j hj, hn_ix6m, hn_p1, hn_p5, hn_rd_at (by omega) (by decide), ry.2.1, v1, Option.bind_some, hn_rd_at (by omega) (by decide), ry.1, hn_ix3, hn_rd_at (by omega) (by decide), rs.1, a0, Option.bind_some, wr_model b2 hj, Option.bind_some, a1, Option.bind_some, hn_rd_at (by omega) (by decide), ry.2.2.2.2.2, a4, Option.bind_some]
      unfold fX8_belief_162 fX8_belief_165
      rw [nI_1]
      generalize hX : (if hn_bit hs j = true then s + be_w It n V dd j else s) = X
      have skip : ¬ (∃ i, i < vK V ∧ (vY V i).2.1 = th ∧ be_h μ1 V D c dd (it_am It n 2 0 dd) i ∧ (tk (ts V D m M o) 11 i).1 = j) → X = s := fun hz => by rw [← hX]; exact if_neg (fun z => hz (bit.mp z))
      cases c1 : ts V D m M o j with
      | some b =>
        rw [if_pos (show 0 ≤ te4 (some b) from nI_pos' (by have := (ts_1 c1).1; omega)), skip (by
          rintro ⟨i, i1, i2, i3, i4⟩
          have := (tk_in rok 11 i i1 (tr_rk_le hV i1)).2.1
          rw [i4, c1] at this
          cases this)]
      | none =>
        rw [if_neg (show ¬ 0 ≤ te4 none by decide)]
        have thing : ∀ i, i < vK V → (vY V (tk (ts V D m M o) 11 i).1).2.1 = (vY V i).2.1 := fun i hi => tk_inv rok (fun a => (vY V a).2.1) (fun a ha b hb => (ts_1 hb).2.2.1.symm) 11 i hi
        by_cases c2 : (vY V j).2.1 = th
        rotate_left 1
        · rw [if_neg (by rw [nI_eq (by omega) (by omega)]; exact c2), skip (by
            rintro ⟨i, i1, i2, i3, i4⟩
            have := thing i i1
            rw [i4, i2] at this
            exact c2 this)]
        rw [if_pos (by rw [c2])]
        rcases v2 with ⟨rfl, i, i1, i3, i4⟩ | ⟨rfl, v3⟩
        · rw [if_neg (show ¬ (1 : Int32) = 0 by decide)]
          have hb : hn_bit hs j = true := bit.mpr ⟨i, i1, by
            have := thing i i1
            rw [i4, c2] at this
            exact this.symm, i3, i4⟩
          have eX : X = s + be_w It n V dd j := by rw [← hX]; exact if_pos hb
          rw [eX]
          unfold be_w
          cases cd : (vY V j).2.2.2.2.2 with
          | false => rfl
          | true => rfl
        · rw [if_pos (show (0 : Int32) = 0 from rfl), skip (by
            rintro ⟨i, i1, i2, i3, i4⟩
            exact v3 ⟨i, i1, i3, i4⟩)]) F 0 (by omega)
  have f7 : fX7_weightOf F μ1 (nI th) (nI dd) = some (hn_it_ (fun j s => if hn_bit hs j = true then s + be_w It n V dd j else s) (vK V) 0 0) := by
    unfold fX7_weightOf
    rw [s1, Option.bind_some]
    exact f7
  have f8 : fX8_belief_43 F F (nI th) (nI dd) w 0 0 μ2 = fX8_belief_171 F (nI dd) w (hn_it_ (fun j s => if hn_bit hs j = true then s + be_w It n V dd j else s) (vK V) 0 0) μ2 := f8
  generalize hn_it_ (fun j s => if hn_bit hs j = true then s + be_w It n V dd j else s) (vK V) 0 0 = W at f7 f8
  rw [f7, Option.bind_some]
  have a3 : fX0_amountOn F t μ1 3 0 (nI dd) = some (it_am It n 3 0 dd) := it_amC (what := 3) t3 t5 hF (by omega) hd 0
  have a3' : fX8_ruleOf F μ2 3 0 (nI dd) = some (it_am It n 3 0 dd) := it_amM (what := 3) t4 t5 hF (by omega) hd 0
  have e8 : fX8_belief F (nI th) (nI dd) w μ1 = fX8_belief_171 F (nI dd) w W μ2 := by
    rw [c8, e2, Option.bind_some]
    dsimp only
    rw [if_neg (show ¬ (1 : Int32) = 0 by decide), f8]
  unfold fX8_belief_171 at e8
  rw [t1, hn_itk t0, a3, Option.bind_some]
  rw [a3', Option.bind_some] at e8
  by_cases w0 : w = 0
  · rw [if_pos w0]
    rw [if_pos w0] at e8
    exact ⟨W, μ1, μ2, rfl, e8, hI2⟩
  rw [if_neg w0]
  rw [if_neg w0] at e8
  by_cases hlt : W < it_am It n 3 0 dd
  · rw [if_pos hlt]
    rw [if_pos hlt] at e8
    exact ⟨0, μ1, μ2, rfl, e8, hI2⟩
  · rw [if_neg hlt]
    rw [if_neg hlt] at e8
    exact ⟨1, μ1, μ2, rfl, e8, hI2⟩
end be2
