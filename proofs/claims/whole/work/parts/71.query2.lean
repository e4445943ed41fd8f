/-! calls that ask: voice, voices, grew, habit, came, right -/
theorem hn_it_congr {σ : Type} {g g' : Nat → σ → σ} (N : Nat) (h : ∀ j s, j < N → g j s = g' j s) : ∀ d j s, j + d = N → hn_it_ g d j s = hn_it_ g' d j s := by
  intro d
  induction d with
  | zero => intro j s _; rfl
  | succ d ih =>
    intro j s hj
    show hn_it_ g d (j + 1) (g j s) = hn_it_ g' d (j + 1) (g' j s)
    rw [h j s (by omega), ih (j + 1) _ (by omega)]
section q2
variable {μ ν : hn_M} {V : hn_Vw} {D S : Nat → Nat → Int} {o F : Nat} {m M : Nat → Int}
theorem hn_a0 (x : Int32) : x + 0 = x := Int32.add_zero x
theorem q_root (hF : 12000 ≤ F) (hV : okV V D) (h91 : ∀ a, a < vK V → μ 91 a = te4 (ts V D m M o a)) {a : Nat} (ha : a < vK V) : fX8_rootOf F μ (nI a) = some (nI (tk (ts V D m M o) 11 a).1) :=
  tr_root (tr_ok hV) hV.1.2.2 h91 11 a F ha (tr_rk_le hV ha) (by omega)
theorem q_steps (hV : okV V D) (h91 : ∀ a, a < vK V → μ 91 a = te4 (ts V D m M o a)) : ∀ (k a c n : Nat), a < vK V → tr_rk V m a ≤ k → k < n → fX8_voice_98 F n (nI c) (nI a) μ = some (nI (c + (tk (ts V D m M o) k a).2), μ) := by
  have hs : tk_ok (ts V D m M o) (tr_rk V m) (vK V) := tr_ok hV
  have hK := hV.1.2.2
  intro k
  induction k with
  | zero =>
    intro a c n ha hk hn
    obtain ⟨n, rfl⟩ : ∃ n', n = n' + 1 := ⟨n - 1, by omega⟩
    have h : ts V D m M o a = none := by
      cases h : ts V D m M o a with
      | none => rfl
      | some b => have := hs a ha b h; omega
    rw [fX8_voice_98, hn_rd_at (by omega) (by decide), h91 a ha, h, if_pos te4_neg]
    rfl
  | succ k ih =>
    intro a c n ha hk hn
    obtain ⟨n, rfl⟩ : ∃ n', n = n' + 1 := ⟨n - 1, by omega⟩
    rw [fX8_voice_98, hn_rd_at (by omega) (by decide), hn_rd_at (by omega) (by decide), h91 a ha]
    cases h : ts V D m M o a with
    | none => rw [if_pos te4_neg, tk_none h]; rfl
    | some b =>
      have h1 := hs a ha b h
      rw [if_neg (te4_pos (by omega)), tk_some h, nI_1]
      show fX8_voice_98 F n (nI (c + 1)) (nI b) μ = _
      rw [ih b (c + 1) n h1.1 (by omega) (by omega), show c + 1 + (tk (ts V D m M o) k b).2 = c + ((tk (ts V D m M o) k b).2 + 1) by omega]
theorem c_voice (hF : 12000 ≤ F) (x y : Int32) : hn_cM (fun μ => fX7_voice F x y μ) (fun μ => fX8_voice F x y μ) := by
  intro μ ⟨V, D, S, o, hB, hS⟩
  have hI : hn_Inv μ := ⟨V, D, S, o, hB, hS⟩
  have hn := hn_bN hB
  have z0 : (0 : Int32).toInt = 0 := rfl
  have z2 : (2 : Int32).toInt = 2 := rfl
  show ∃ r μ1 μ2, fX7_voice F x y μ = some (r, μ1) ∧ fX8_voice F x y μ1 = some (r, μ2) ∧ _
  by_cases hg : (0 ≤ x.toInt ∧ x.toInt ≤ (vK V : Int) - 1) ∧ (0 ≤ y.toInt ∧ y.toInt ≤ 2)
  rotate_left 1
  · refine ⟨-1, μ, μ, ?_, ?_, hI⟩
    · unfold fX7_voice
      rw [hn_say7 (hn_cK7 hB) hn.2.2]
      by_cases h1 : 0 ≤ x.toInt ∧ x.toInt ≤ (vK V : Int) - 1
      rotate_left 1
      · rw [hn_ckf h1]
      rw [hn_ckt h1]
      by_cases h2 : 0 ≤ y.toInt
      rotate_left 1
      · rw [if_pos (by rw [hn_lt, z0]; omega)]
      rw [if_neg (by rw [hn_lt, z0]; omega), if_neg (by rw [hn_le, z2]; exact fun z => hg ⟨h1, h2, z⟩)]
    · unfold fX8_voice
      rw [hn_say8 (hn_cK8 hB) hn.2.2, hn_in8 y (a := 0) (b := 2) rfl rfl]
      by_cases h1 : 0 ≤ x.toInt ∧ x.toInt ≤ (vK V : Int) - 1
      rotate_left 1
      · rw [hn_ckf h1]
      rw [hn_ckt h1, hn_ckf (fun z => hg ⟨h1, z⟩)]
  obtain ⟨h1, h2⟩ := hg
  obtain ⟨a, ha, rfl⟩ := hn_ix h1
  obtain ⟨μ1, μ2, b1, b2, b3, b4⟩ := q_tree hB hS hF
  have hI2 : hn_Inv μ2 := ⟨V, D, S, o, b2, b3⟩
  have hV := hB.2.1.2.2
  have c7 : fX7_voice F (nI a) y μ = (fX7_isQuarrel F μ).bind fun w2 => if w2.1 = 0 then if y = 0 then hn_rd w2.2 52 30 (nI a) fun v6 => some (v6, w2.2) else if y = 1 then hn_rd w2.2 52 30 (nI a) fun v4 => (fX7_followers F w2.2 v4).bind fun v5 => some (v5, w2.2) else hn_rd w2.2 53 30 (nI a) fun v3 => some (v3, w2.2) else some ((-2), w2.2) := by
    unfold fX7_voice
    rw [hn_say7 (hn_cK7 hB) hn.2.2, hn_ckt h1, if_neg (by rw [hn_lt, z0]; omega), if_pos (by rw [hn_le, z2]; omega)]
  have c8 : fX8_voice F (nI a) y μ1 = (fX8_layTree F μ1).bind fun w7 => if w7.1 = 0 then some ((-2), w7.2) else (fX8_rootOf F w7.2 (nI a)).bind fun v8 => if y = 0 then some (v8, w7.2) else if y = 1 then fX8_voice_55 F F v8 0 0 w7.2 else fX8_voice_98 F F 0 (nI a) w7.2 := by
    unfold fX8_voice
    rw [hn_say8 (hn_cK8 b1) hn.2.2, hn_in8 y (a := 0) (b := 2) rfl rfl, hn_ckt h1, hn_ckt h2]
  rw [c7]
  rcases b4 with ⟨e1, e2⟩ | ⟨e1, e2, m, M, q, q6⟩
  · exact ⟨-2, μ1, μ2, by rw [e1]; rfl, by rw [c8, e2]; rfl, hI2⟩
  · rw [e1, Option.bind_some]
    dsimp only
    have e8 : fX8_voice F (nI a) y μ1 = if y = 0 then some (nI (tk (ts V D m M o) 11 a).1, μ2) else if y = 1 then fX8_voice_55 F F (nI (tk (ts V D m M o) 11 a).1) 0 0 μ2 else fX8_voice_98 F F 0 (nI a) μ2 := by
      rw [c8, e2, Option.bind_some]
      dsimp only
      rw [if_neg (show ¬ (1 : Int32) = 0 by decide), q_root hF hV q6 ha, Option.bind_some]
    rw [if_pos (show (0 : Int32) = 0 from rfl)]
    have qa := q.2.2.2.2 a ha
    by_cases hy0 : y = 0
    · refine ⟨nI (tk (ts V D m M o) 11 a).1, μ1, μ2, ?_, ?_, hI2⟩
      · rw [if_pos hy0, hn_rd_at (by omega) (by decide), qa.2.1]
      · rw [e8, if_pos hy0]
    · by_cases hy1 : y = 1
      · rw [if_neg hy0, if_pos hy1, hn_rd_at (by omega) (by decide), qa.2.1]
        -- followers
        have f7 := hn_fold (fun n j s => fX7_followers_4 F μ1 n (nI (tk (ts V D m M o) 11 a).1) s (nI j)) (vK V) (fun j s => if nI (tk (ts V D m M o) 11 j).1 = nI (tk (ts V D m M o) 11 a).1 then s + 1 else s) some
          (fun n s => by
            show fX7_followers_4 F μ1 (n + 1) _ s (nI (vK V)) = _
            rw [fX7_followers_4, hn_cK7 b1, if_pos (by rw [hn_leN (by omega) (by omega)]; exact Nat.le_refl _)])
          (fun n j s hj => by
            show fX7_followers_4 F μ1 (n + 1) _ s (nI j) = _
            rw [fX7_followers_4, hn_cK7 b1, if_neg (by rw [hn_leN (by omega) (by omega)]; omega), hn_rd_at (by omega) (by decide), (q.2.2.2.2 j hj).2.1]
            unfold fX7_followers_31
            rw [nI_1]
            by_cases hc : nI (tk (ts V D m M o) 11 j).1 = nI (tk (ts V D m M o) 11 a).1
            · simp only [if_pos hc]
            · simp only [if_neg hc]) F 0 (by omega)
        have f8 := hn_fold (fun n j s => fX8_voice_55 F n (nI (tk (ts V D m M o) 11 a).1) s (nI j) μ2) (vK V) (fun j s => if nI (tk (ts V D m M o) 11 j).1 = nI (tk (ts V D m M o) 11 a).1 then s + 1 else s) (fun s => some (s, μ2))
          (fun n s => by
            show fX8_voice_55 F (n + 1) _ s (nI (vK V)) μ2 = _
            rw [fX8_voice_55, hn_rd_0 (by decide) (by decide), hn_cK8 b2, if_pos (by rw [hn_leN (by omega) (by omega)]; exact Nat.le_refl _)])
          (fun n j s hj => by
            show fX8_voice_55 F (n + 1) _ s (nI j) μ2 = _
            rw [fX8_voice_55, hn_rd_0 (by decide) (by decide), hn_cK8 b2, if_neg (by rw [hn_leN (by omega) (by omega)]; omega), q_root hF hV q6 hj, Option.bind_some]
            unfold fX8_voice_83
            rw [nI_1]
            by_cases hc : nI (tk (ts V D m M o) 11 j).1 = nI (tk (ts V D m M o) 11 a).1
            · simp only [if_pos hc]
            · simp only [if_neg hc, hn_a0]) F 0 (by omega)
        have f7 : fX7_followers F μ1 (nI (tk (ts V D m M o) 11 a).1) = _ := f7
        have f8 : fX8_voice_55 F F (nI (tk (ts V D m M o) 11 a).1) 0 0 μ2 = _ := f8
        exact ⟨_, μ1, μ2, by rw [f7]; rfl, by rw [e8, if_neg hy0, if_pos hy1]; exact f8, hI2⟩
      · have st := q_steps (F := F) (μ := μ2) hV q6 11 a 0 F ha (tr_rk_le hV ha) (by omega)
        have st : fX8_voice_98 F F 0 (nI a) μ2 = _ := st
        refine ⟨nI (tk (ts V D m M o) 11 a).2, μ1, μ2, ?_, ?_, hI2⟩
        · rw [if_neg hy0, if_neg hy1, hn_rd_at (by omega) (by decide), qa.2.2]
        · rw [e8, if_neg hy0, if_neg hy1, st, Nat.zero_add]
theorem c_voices (hF : 12000 ≤ F) (x : Int32) (db : Bool) : hn_cM (fun μ => fX7_voices F x (hn_b01 db) μ) (fun μ => fX8_voices F x (hn_b01 db) μ) := by
  intro μ ⟨V, D, S, o, hB, hS⟩
  have hI : hn_Inv μ := ⟨V, D, S, o, hB, hS⟩
  have hn := hn_bN hB
  show ∃ r μ1 μ2, fX7_voices F x (hn_b01 db) μ = some (r, μ1) ∧ fX8_voices F x (hn_b01 db) μ1 = some (r, μ2) ∧ _
  unfold fX7_voices fX8_voices
  rw [hn_thing7, hn_thing8]
  by_cases h1 : 0 ≤ x.toInt ∧ x.toInt ≤ 9
  rotate_left 1
  · exact ⟨-1, μ, μ, by rw [hn_ckf h1], by rw [hn_ckf h1], hI⟩
  rw [hn_ckt h1]
  obtain ⟨μ1, μ2, b1, b2, b3, b4⟩ := q_tree hB hS hF
  have hI2 : hn_Inv μ2 := ⟨V, D, S, o, b2, b3⟩
  have hV := hB.2.1.2.2
  rcases b4 with ⟨e1, e2⟩ | ⟨e1, e2, m, M, q, q6⟩
  · exact ⟨-2, μ1, μ2, by rw [e1]; rfl, by rw [hn_ckt h1, e2]; rfl, hI2⟩
  · have f7 := hn_fold (fun n j s => fX7_voices_24 F n x (hn_b01 db) s (nI j) μ1) (vK V) (fun j s => if nI (vY V j).2.1 = x ∧ (vY V j).2.2.2.2.2 = db ∧ (ts V D m M o j).isNone = true then s + 1 else s) (fun s => some (s, μ1))
      (fun n s => by
        show fX7_voices_24 F (n + 1) _ _ s (nI (vK V)) μ1 = _
        rw [fX7_voices_24, hn_cK7 b1, if_pos (by rw [hn_leN (by omega) (by omega)]; exact Nat.le_refl _)])
      (fun n j s hj => by
        show fX7_voices_24 F (n + 1) _ _ s (nI j) μ1 = _
        rw [fX7_voices_24, hn_cK7 b1, if_neg (by rw [hn_leN (by omega) (by omega)]; omega), hn_rd_at (by omega) (by decide), show μ1 13 j = _ from (b1.2.1.1.2.2.2.1 j hj).2.1, hn_den b1.2.1.1 hj, Option.bind_some, hn_voice (fun a ha => (q.2.2.2.2 a ha).1) hV hj, Option.bind_some]
        unfold fX7_voices_78
        rw [nI_1]
        by_cases c1 : nI (vY V j).2.1 = x
        rotate_left 1
        · rw [if_neg c1, if_neg (show ¬ (nI (vY V j).2.1 = x ∧ (vY V j).2.2.2.2.2 = db ∧ (ts V D m M o j).isNone = true) from fun z => c1 z.1)]
        by_cases c2 : (vY V j).2.2.2.2.2 = db
        rotate_left 1
        · rw [if_pos c1, if_neg (fun z => c2 (hn_b01_eq.mp z)), if_neg (show ¬ (nI (vY V j).2.1 = x ∧ (vY V j).2.2.2.2.2 = db ∧ (ts V D m M o j).isNone = true) from fun z => c2 z.2.1)]
        rw [if_pos c1, if_pos (hn_b01_eq.mpr c2)]
        by_cases c3 : (ts V D m M o j).isNone = true
        · rw [if_neg (by rw [c3]; decide), if_pos (show nI (vY V j).2.1 = x ∧ (vY V j).2.2.2.2.2 = db ∧ (ts V D m M o j).isNone = true from ⟨c1, c2, c3⟩)]
        · rw [if_pos (hn_b01_0.mpr (by cases h : (ts V D m M o j).isNone with | false => rfl | true => exact absurd h c3)), if_neg (show ¬ (nI (vY V j).2.1 = x ∧ (vY V j).2.2.2.2.2 = db ∧ (ts V D m M o j).isNone = true) from fun z => c3 z.2.2)]) F 0 (by omega)
    have f8 := hn_fold (fun n j s => fX8_voices_24 F n x (hn_b01 db) s (nI j) μ2) (vK V) (fun j s => if nI (vY V j).2.1 = x ∧ (vY V j).2.2.2.2.2 = db ∧ (ts V D m M o j).isNone = true then s + 1 else s) (fun s => some (s, μ2))
      (fun n s => by
        show fX8_voices_24 F (n + 1) _ _ s (nI (vK V)) μ2 = _
        rw [fX8_voices_24, hn_rd_0 (by decide) (by decide), hn_cK8 b2, if_pos (by rw [hn_leN (by omega) (by omega)]; exact Nat.le_refl _)])
      (fun n j s hj => by
        show fX8_voices_24 F (n + 1) _ _ s (nI j) μ2 = _
        have ry := rm_y b2.2.1.2.1 hj
        rw [fX8_voices_24, hn_rd_0 (by decide) (by decide), hn_cK8 b2, if_neg (by rw [hn_leN (by omega) (by omega)]; omega), hn_rd_at (by omega) (by decide), q6 j hj, hn_ix6m, hn_p1, hn_p5, hn_rd_at (by omega) (by decide), hn_rd_at (by omega) (by decide), ry.2.1, ry.2.2.2.2.2]
        unfold fX8_voices_83 fX8_voices_90 fX8_voices_91
        rw [nI_1, hn_a0]
        have e83 : ∀ (e : Bool) (A B : Option (Int32 × hn_M)), (if hn_b01 db = 0 then (if hn_b01 e = 0 then A else B) else (if hn_b01 e = 1 then A else B)) = if e = db then A else B := by
          intro e A B
          cases e <;> cases db <;> rfl
        rw [e83]
        by_cases c3 : (ts V D m M o j).isNone = true
        · have h0 : ts V D m M o j = none := Option.isNone_iff_eq_none.mp c3
          rw [if_neg (show ¬ 0 ≤ te4 (ts V D m M o j) by rw [h0]; decide)]
          by_cases c1 : nI (vY V j).2.1 = x
          rotate_left 1
          · rw [if_neg c1, if_neg (show ¬ (nI (vY V j).2.1 = x ∧ (vY V j).2.2.2.2.2 = db ∧ (ts V D m M o j).isNone = true) from fun z => c1 z.1)]
          rw [if_pos c1]
          by_cases c2 : (vY V j).2.2.2.2.2 = db
          · rw [if_pos c2, if_pos (show nI (vY V j).2.1 = x ∧ (vY V j).2.2.2.2.2 = db ∧ (ts V D m M o j).isNone = true from ⟨c1, c2, c3⟩)]
          · rw [if_neg c2, if_neg (show ¬ (nI (vY V j).2.1 = x ∧ (vY V j).2.2.2.2.2 = db ∧ (ts V D m M o j).isNone = true) from fun z => c2 z.2.1)]
        · have h0 : ∃ b, ts V D m M o j = some b := by
            cases h : ts V D m M o j with
            | none => rw [h] at c3; exact absurd rfl c3
            | some b => exact ⟨b, rfl⟩
          obtain ⟨b, h0⟩ := h0
          rw [if_pos (show 0 ≤ te4 (ts V D m M o j) by rw [h0]; exact nI_pos' (by have := (ts_1 h0).1; omega)), if_neg (show ¬ (nI (vY V j).2.1 = x ∧ (vY V j).2.2.2.2.2 = db ∧ (ts V D m M o j).isNone = true) from fun z => c3 z.2.2)]) F 0 (by omega)
    exact ⟨_, μ1, μ2, by rw [e1, Option.bind_some]; exact f7, by rw [hn_ckt h1, e2, Option.bind_some]; exact f8, hI2⟩
def hn_gr (V : hn_Vw) (src : Nat → Option Nat) (a : Nat) : Int32 := match src a with
  | none => 0
  | some b => nI (vY V a).2.2.1 - nI (vY V b).2.2.1
theorem gr_class (hB : hn_Ba μ V D S o) (h51 : ∀ a, a < vK V → μ 51 a = te1 (ts V D m M o a)) {a : Nat} (ha : a < vK V) : fX7_growth μ (nI a) = some (hn_gr V (ts V D m M o) a) := by
  have hV := hB.2.1.2.2
  have hn := hV.1
  unfold fX7_growth hn_gr
  rw [hn_voice h51 hV ha, Option.bind_some, hn_rd_at (by omega) (by decide), hn_rd_at (by omega) (by decide), h51 a ha, show μ 14 a = _ from (hB.2.1.1.2.2.2.1 a ha).2.2.1]
  cases hc : ts V D m M o a with
  | none => rfl
  | some b =>
    have hb := (ts_1 hc).1
    show (if hn_b01 false = 0 then hn_rd μ 14 30 (nI b) _ else _) = _
    rw [if_pos (show hn_b01 false = 0 from rfl), hn_rd_at (by omega) (by decide), show μ 14 b = _ from (hB.2.1.1.2.2.2.1 b hb).2.2.1]
theorem gr_model (hB : hn_Ba μ V D S o) (h91 : ∀ a, a < vK V → μ 91 a = te4 (ts V D m M o a)) {a : Nat} (ha : a < vK V) : fX8_grewOf μ (nI a) = some (hn_gr V (ts V D m M o) a) := by
  have hV := hB.2.1.2.2
  have hn := hV.1
  unfold fX8_grewOf hn_gr
  rw [hn_rd_at (by omega) (by decide), hn_ix6m, hn_p2, hn_rd_at (by omega) (by decide), hn_rd_at (by omega) (by decide), h91 a ha, (rm_y hB.2.1.2.1 ha).2.2.1]
  cases hc : ts V D m M o a with
  | none => rfl
  | some b =>
    have hb := (ts_1 hc).1
    show (if 0 ≤ nI b then hn_rd μ 81 540 (6 * nI b + 2) _ else _) = _
    rw [if_pos (nI_pos' (by omega)), hn_ix6m, hn_p2, hn_rd_at (by omega) (by decide), (rm_y hB.2.1.2.1 hb).2.2.1]
theorem c_grew (hF : 12000 ≤ F) (x : Int32) : hn_cM (fun μ => fX7_grew F x μ) (fun μ => fX8_grew F x μ) := by
  intro μ ⟨V, D, S, o, hB, hS⟩
  have hI : hn_Inv μ := ⟨V, D, S, o, hB, hS⟩
  have hn := hn_bN hB
  show ∃ r μ1 μ2, fX7_grew F x μ = some (r, μ1) ∧ fX8_grew F x μ1 = some (r, μ2) ∧ _
  unfold fX7_grew fX8_grew
  rw [hn_say7 (hn_cK7 hB) hn.2.2]
  by_cases h1 : 0 ≤ x.toInt ∧ x.toInt ≤ (vK V : Int) - 1
  rotate_left 1
  · exact ⟨-100000, μ, μ, by rw [hn_ckf h1], by rw [hn_say8 (hn_cK8 hB) hn.2.2, hn_ckf h1], hI⟩
  obtain ⟨a, ha, rfl⟩ := hn_ix h1
  obtain ⟨μ1, μ2, b1, b2, b3, b4⟩ := q_tree hB hS hF
  have hI2 : hn_Inv μ2 := ⟨V, D, S, o, b2, b3⟩
  rw [hn_ckt h1]
  rcases b4 with ⟨e1, e2⟩ | ⟨e1, e2, m, M, q, q6⟩
  · exact ⟨-100002, μ1, μ2, by rw [e1]; rfl, by rw [hn_say8 (hn_cK8 b1) hn.2.2, hn_ckt h1, e2]; rfl, hI2⟩
  · refine ⟨hn_gr V (ts V D m M o) a, μ1, μ2, ?_, ?_, hI2⟩
    · rw [e1, Option.bind_some]
      dsimp only
      rw [if_pos (show (0 : Int32) = 0 from rfl), gr_class b1 (fun a ha => (q.2.2.2.2 a ha).1) ha, Option.bind_some]
    · rw [hn_say8 (hn_cK8 b1) hn.2.2, hn_ckt h1, e2, Option.bind_some]
      dsimp only
      rw [if_neg (show ¬ (1 : Int32) = 0 by decide), gr_model b2 q6 ha, Option.bind_some]
theorem wr_model (hB : hn_Ba μ V D S o) {a : Nat} (ha : a < vK V) : fX8_writerOf μ (nI a) = some (nI (vS V (vY V a).1).2.1) := by
  have hV := hB.2.1.2.2
  have hn := hV.1
  have oy := hV.2.2.2.1 a ha
  unfold fX8_writerOf
  rw [hn_ix6m, hn_rd_at (by omega) (by decide), (rm_y hB.2.1.2.1 ha).1, hn_ix3, hn_p1, hn_rd_at (by omega) (by decide), (rm_s hB.2.1.2.1 oy.1).2.1]
theorem c_habit (hF : 12000 ≤ F) (x : Int32) : hn_cM (fun μ => fX7_habit F x μ) (fun μ => fX8_habit F x μ) := by
  intro μ ⟨V, D, S, o, hB, hS⟩
  have hI : hn_Inv μ := ⟨V, D, S, o, hB, hS⟩
  have hn := hn_bN hB
  show ∃ r μ1 μ2, fX7_habit F x μ = some (r, μ1) ∧ fX8_habit F x μ1 = some (r, μ2) ∧ _
  unfold fX7_habit fX8_habit
  rw [hn_writer7, hn_in8 x (a := 0) (b := 7) rfl rfl]
  by_cases h1 : 0 ≤ x.toInt ∧ x.toInt ≤ 7
  rotate_left 1
  · exact ⟨-1000000, μ, μ, by rw [hn_ckf h1], by rw [hn_ckf h1], hI⟩
  rw [hn_ckt h1]
  obtain ⟨μ1, μ2, b1, b2, b3, b4⟩ := q_tree hB hS hF
  have hI2 : hn_Inv μ2 := ⟨V, D, S, o, b2, b3⟩
  have hV := hB.2.1.2.2
  rcases b4 with ⟨e1, e2⟩ | ⟨e1, e2, m, M, q, q6⟩
  · exact ⟨-1000002, μ1, μ2, by rw [e1]; rfl, by rw [hn_ckt h1, e2]; rfl, hI2⟩
  · have f7 := hn_fold (fun n j s => fX7_habit_24 F n x s (nI j) μ1) (vK V) (fun j s => if nI (vS V (vY V j).1).2.1 = x then s + hn_gr V (ts V D m M o) j else s) (fun s => some (s, μ1))
      (fun n s => by
        show fX7_habit_24 F (n + 1) _ s (nI (vK V)) μ1 = _
        rw [fX7_habit_24, hn_cK7 b1, if_pos (by rw [hn_leN (by omega) (by omega)]; exact Nat.le_refl _)])
      (fun n j s hj => by
        show fX7_habit_24 F (n + 1) _ s (nI j) μ1 = _
        rw [fX7_habit_24, hn_cK7 b1, if_neg (by rw [hn_leN (by omega) (by omega)]; omega), hn_wri b1.2.1.1 hV hj, Option.bind_some, gr_class b1 (fun a ha => (q.2.2.2.2 a ha).1) hj, Option.bind_some]
        unfold fX7_habit_55
        rw [nI_1]
        by_cases c1 : nI (vS V (vY V j).1).2.1 = x
        · simp only [if_pos c1]
        · simp only [if_neg c1]) F 0 (by omega)
    have f8 := hn_fold (fun n j s => fX8_habit_29 F n x s (nI j) μ2) (vK V) (fun j s => if nI (vS V (vY V j).1).2.1 = x then s + hn_gr V (ts V D m M o) j else s) (fun s => some (s, μ2))
      (fun n s => by
        show fX8_habit_29 F (n + 1) _ s (nI (vK V)) μ2 = _
        rw [fX8_habit_29, hn_rd_0 (by decide) (by decide), hn_cK8 b2, if_pos (by rw [hn_leN (by omega) (by omega)]; exact Nat.le_refl _)])
      (fun n j s hj => by
        show fX8_habit_29 F (n + 1) _ s (nI j) μ2 = _
        rw [fX8_habit_29, hn_rd_0 (by decide) (by decide), hn_cK8 b2, if_neg (by rw [hn_leN (by omega) (by omega)]; omega), wr_model b2 hj, Option.bind_some, gr_model b2 q6 hj, Option.bind_some]
        unfold fX8_habit_58
        rw [nI_1]
        by_cases c1 : nI (vS V (vY V j).1).2.1 = x
        · simp only [if_pos c1]
        · simp only [if_neg c1, hn_a0]) F 0 (by omega)
    exact ⟨_, μ1, μ2, by rw [e1, Option.bind_some]; exact f7, by rw [hn_ckt h1, e2, Option.bind_some]; exact f8, hI2⟩
end q2
