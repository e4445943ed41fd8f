/-! chains of copies -/
def tk (src : Nat → Option Nat) : Nat → Nat → Nat × Nat
  | 0, a => (a, 0)
  | k + 1, a => match src a with
    | none => (a, 0)
    | some b => ((tk src k b).1, (tk src k b).2 + 1)
theorem tk_none {src : Nat → Option Nat} {a : Nat} (h : src a = none) (k : Nat) : tk src k a = (a, 0) := by
  cases k with
  | zero => rfl
  | succ k => simp only [tk, h]
theorem tk_some {src : Nat → Option Nat} {a b : Nat} (h : src a = some b) (k : Nat) : tk src (k + 1) a = ((tk src k b).1, (tk src k b).2 + 1) := by
  simp only [tk, h]
abbrev tk_ok (src : Nat → Option Nat) (rk : Nat → Nat) (K : Nat) : Prop := ∀ a, a < K → ∀ b, src a = some b → b < K ∧ rk b < rk a
theorem tk_in {src : Nat → Option Nat} {rk : Nat → Nat} {K : Nat} (hs : tk_ok src rk K) : ∀ k a, a < K → rk a ≤ k → (tk src k a).1 < K ∧ src (tk src k a).1 = none ∧ (tk src k a).2 ≤ k := by
  intro k
  induction k with
  | zero =>
    intro a ha hk
    cases h : src a with
    | none => rw [tk_none h]; exact ⟨ha, h, Nat.le_refl _⟩
    | some b => have := hs a ha b h; omega
  | succ k ih =>
    intro a ha hk
    cases h : src a with
    | none => rw [tk_none h]; exact ⟨ha, h, Nat.zero_le _⟩
    | some b =>
      have h1 := hs a ha b h
      have h2 := ih b h1.1 (by omega)
      rw [tk_some h]
      exact ⟨h2.1, h2.2.1, by show (tk src k b).2 + 1 ≤ k + 1; omega⟩
theorem tk_eq {src : Nat → Option Nat} {rk : Nat → Nat} {K : Nat} (hs : tk_ok src rk K) : ∀ k a, a < K → rk a ≤ k → ∀ j, rk a ≤ j → tk src j a = tk src k a := by
  intro k
  induction k with
  | zero =>
    intro a ha hk j _
    cases h : src a with
    | none => rw [tk_none h, tk_none h]
    | some b => have := hs a ha b h; omega
  | succ k ih =>
    intro a ha hk j hj
    cases h : src a with
    | none => rw [tk_none h, tk_none h]
    | some b =>
      have h1 := hs a ha b h
      obtain ⟨j, rfl⟩ : ∃ j', j = j' + 1 := ⟨j - 1, by omega⟩
      rw [tk_some h, tk_some h, ih b h1.1 (by omega) j (by omega)]
theorem tk_inv {src : Nat → Option Nat} {rk : Nat → Nat} {K : Nat} (hs : tk_ok src rk K) {α : Type} (g : Nat → α) (hg : ∀ a, a < K → ∀ b, src a = some b → g b = g a) : ∀ k a, a < K → g (tk src k a).1 = g a := by
  intro k
  induction k with
  | zero => intro a _; rfl
  | succ k ih =>
    intro a ha
    cases h : src a with
    | none => rw [tk_none h]
    | some b => rw [tk_some h]; show g (tk src k b).1 = _; rw [ih b (hs a ha b h).1, hg a ha b h]
def tr_rk (V : hn_Vw) (m : Nat → Int) (a : Nat) : Nat := dy_cnt (fun t => m t < m (vY V a).1 ∨ (m t = m (vY V a).1 ∧ t < (vY V a).1)) (vN V)
section tr2
variable {V : hn_Vw} {D : Nat → Nat → Int} {μ O : hn_M} {F o : Nat} {m M : Nat → Int} {l1 : Int32}
theorem tr_rk_le (hV : okV V D) {a : Nat} (ha : a < vK V) : tr_rk V m a ≤ 11 := by
  have hn := hV.1
  have h1 := (hV.2.2.2.1 a ha).1
  have h2 := dy_cnt_lt (fun t => m t < m (vY V a).1 ∨ (m t = m (vY V a).1 ∧ t < (vY V a).1)) (fun _ => True) (vN V) (fun _ _ _ => trivial) (vY V a).1 h1 (by omega) trivial
  have h3 := dy_cnt_le (fun _ => True) (vN V)
  unfold tr_rk
  omega
theorem tr_rk_lt (hV : okV V D) {a b : Nat} (hb : b < vK V) (h : tc V D m M a b) : tr_rk V m b < tr_rk V m a := by
  have h1 := (hV.2.2.2.1 b hb).1
  have h2 := h.2.2.2.2.2
  unfold tr_rk
  refine dy_cnt_lt _ _ (vN V) (fun t _ ht => ?_) (vY V b).1 h1 (by omega) h2
  rcases h2 with h2 | h2 <;> rcases ht with ht | ht <;> omega
theorem tr_ok (hV : okV V D) : tk_ok (ts V D m M o) (tr_rk V m) (vK V) := fun a _ b h => ⟨(ts_1 h).1, tr_rk_lt hV (ts_1 h).1 (ts_1 h).2⟩
theorem te1_none : te1 none = -1 := rfl
theorem te1_ne {b : Nat} (hb : b < 2 ^ 31) : ¬ te1 (some b) = -1 := by
  show ¬ nI b = -1
  rw [hn_eq_i, nI_toInt hb]
  show ¬ (b : Int) = -1
  omega
theorem cl_climb {src : Nat → Option Nat} {rk : Nat → Nat} {K : Nat} (hs : tk_ok src rk K) (hK : K ≤ 30) (h51 : ∀ a, a < K → μ 51 a = te1 (src a)) : ∀ (k at' st n : Nat), at' < K → rk at' ≤ k → st + k ≤ 11 → k < n → fX5_climb_4 F n l1 (nI at') (nI st) μ = fX5_climb_33 F l1 (nI (tk src k at').1) (nI (st + (tk src k at').2)) μ := by
  intro k
  induction k with
  | zero =>
    intro a st n ha hk hst hn
    obtain ⟨n, rfl⟩ : ∃ n', n = n' + 1 := ⟨n - 1, by omega⟩
    have h : src a = none := by
      cases h : src a with
      | none => rfl
      | some b => have := hs a ha b h; omega
    rw [fX5_climb_4, if_neg (show ¬ (12 : Int32) ≤ nI st from hn_ge (b := 12) (by omega) (by decide)), hn_rd_at (by omega) (by decide), h51 a ha, h, if_pos te1_none]
    rfl
  | succ k ih =>
    intro a st n ha hk hst hn
    obtain ⟨n, rfl⟩ : ∃ n', n = n' + 1 := ⟨n - 1, by omega⟩
    rw [fX5_climb_4, if_neg (show ¬ (12 : Int32) ≤ nI st from hn_ge (b := 12) (by omega) (by decide)), hn_rd_at (by omega) (by decide), hn_rd_at (by omega) (by decide), h51 a ha]
    cases h : src a with
    | none => rw [if_pos te1_none, tk_none h]; rfl
    | some b =>
      have h1 := hs a ha b h
      rw [if_neg (te1_ne (by omega)), tk_some h, nI_1]
      show fX5_climb_4 F n l1 (nI b) (nI (st + 1)) μ = _
      rw [ih b (st + 1) n h1.1 (by omega) (by omega) (by omega), show st + 1 + (tk src k b).2 = st + ((tk src k b).2 + 1) by omega]
theorem tr_grow (hV : okV V D) (hD : okD D) (hC : repC O 6 V) (hDO : ∀ a b, a < 6 → b < 6 → pD O a b = D a b) (h47 : ∀ s, s < vN V → (O 47 s).toInt = m s ∧ (O 48 s).toInt = M s) (hb0 : ∀ s, s < vN V → 0 ≤ m s ∧ m s ≤ 999) (ho : o ≤ 40) (hF : 31 ≤ F) : ∃ μ', fX5_grow F (nI o) O = some μ' ∧ (∀ k, k ≠ 51 → k ≠ 52 → k ≠ 53 → μ' k = O k) ∧ ∀ a, a < vK V → μ' 51 a = te1 (ts V D m M o a) ∧ μ' 52 a = nI (tk (ts V D m M o) 11 a).1 ∧ μ' 53 a = nI (tk (ts V D m M o) 11 a).2 := by
  have hn := hV.1
  obtain ⟨μ1, h1, h2, h3⟩ := hn_loopE (fun n j s => fX5_grow_3 F n (nI o) (nI j) s) (vK V) (fun s => fX5_grow_48 F s) (fun j s => (∀ k, k ≠ 51 → s k = O k) ∧ ∀ a, a < j → s 51 a = te1 (ts V D m M o a))
    (fun n s hi => by
      show fX5_grow_3 F (n + 1) (nI o) (nI (vK V)) s = _
      rw [fX5_grow_3, hi.1 6 (by decide), hC.1.2.2, if_pos (by rw [hn_leN (by omega) (by omega)]; exact Nat.le_refl _)])
    (fun n j s hj hi => by
      obtain ⟨i1, i2⟩ := hi
      have hCs : repC s 6 V := rc_cong (fun k a b => i1 k (by omega)) hC
      have e4 : ∀ a b, a < 6 → b < 6 → pD s a b = D a b := fun a b ha hb => by unfold pD; rw [i1 4 (by decide)]; exact hDO a b ha hb
      have e47 : ∀ t, t < vN V → (s 47 t).toInt = m t ∧ (s 48 t).toInt = M t := fun t ht => by rw [i1 47 (by decide), i1 48 (by decide)]; exact h47 t ht
      refine ⟨hn_up s 51 j (te1 (ts V D m M o j)), ?_, fun k hk => by rw [hn_up_ne hk]; exact i1 k hk, fun a ha => ?_⟩
      · show fX5_grow_3 F (n + 1) (nI o) (nI j) s = _
        rw [fX5_grow_3, i1 6 (by decide), hC.1.2.2, if_neg (by rw [hn_leN (by omega) (by omega)]; omega), hn_seen hCs hj, Option.bind_some]
        unfold fX5_grow_41 ts
        by_cases hc : (vY V j).2.2.2.2.1 = true
        · rw [if_neg (by rw [hc]; decide), if_pos hc, hn_wr_at (by omega) (by decide), nI_1]
          rfl
        · rw [if_pos (hn_b01_0.mpr (by cases h : (vY V j).2.2.2.2.1 with | false => rfl | true => exact absurd h hc)), if_neg hc, tn_class hV hD hCs e4 e47 hb0 ho hF hj, Option.bind_some, hn_wr_at (by omega) (by decide), nI_1]
      · rw [hn_upk]
        by_cases haj : a = j
        · rw [if_pos haj, haj]
        · rw [if_neg haj]; exact i2 a (by omega))
    (vK V) 0 F O (by omega) (by omega) ⟨fun k _ => rfl, fun a ha => by omega⟩
  have h1 : fX5_grow F (nI o) O = fX5_grow_48 F μ1 := h1
  rw [h1]
  obtain ⟨μ2, g1, g2, g3⟩ := hn_loopE (fun n j s => fX5_grow_51 F n (nI j) s) (vK V) some (fun j s => (∀ k, k ≠ 52 → k ≠ 53 → s k = μ1 k) ∧ ∀ a, a < j → s 52 a = nI (tk (ts V D m M o) 11 a).1 ∧ s 53 a = nI (tk (ts V D m M o) 11 a).2)
    (fun n s hi => by
      show fX5_grow_51 F (n + 1) (nI (vK V)) s = _
      rw [fX5_grow_51, hi.1 6 (by decide) (by decide), h2 6 (by decide), hC.1.2.2, if_pos (by rw [hn_leN (by omega) (by omega)]; exact Nat.le_refl _)])
    (fun n j s hj hi => by
      obtain ⟨i1, i2⟩ := hi
      have rk := tr_rk_le (m := m) hV hj
      have cl := cl_climb (F := F) (μ := s) (l1 := nI j) (tr_ok (m := m) (M := M) (o := o) hV) hn.2.2 (fun a ha => by rw [i1 51 (by decide) (by decide)]; exact h3 a ha) 11 j 0 F hj rk (by omega) (by omega)
      refine ⟨hn_up (hn_up s 52 j (nI (tk (ts V D m M o) 11 j).1)) 53 j (nI (tk (ts V D m M o) 11 j).2), ?_, fun k k1 k2 => by rw [hn_up_ne k2, hn_up_ne k1]; exact i1 k k1 k2, fun a ha => ?_⟩
      · show fX5_grow_51 F (n + 1) (nI j) s = _
        rw [fX5_grow_51, i1 6 (by decide) (by decide), h2 6 (by decide), hC.1.2.2, if_neg (by rw [hn_leN (by omega) (by omega)]; omega)]
        unfold fX5_climb
        have cl : fX5_climb_4 F F (nI j) (nI j) 0 s = _ := cl
        rw [cl, Nat.zero_add]
        unfold fX5_climb_33
        rw [hn_wr_at (by omega) (by decide), hn_wr_at (by omega) (by decide), Option.bind_some, nI_1]
      · rw [hn_upk, hn_up_ne (show (52 : Nat) ≠ 53 by decide), hn_upk]
        by_cases haj : a = j
        · rw [if_pos haj, if_pos haj, haj]; exact ⟨rfl, rfl⟩
        · rw [if_neg haj, if_neg haj, hn_up_ne (show (53 : Nat) ≠ 52 by decide)]; exact i2 a (by omega))
    (vK V) 0 F μ1 (by omega) (by omega) ⟨fun k _ _ => rfl, fun a ha => by omega⟩
  have g1 : fX5_grow_48 F μ1 = some μ2 := g1
  exact ⟨μ2, g1, fun k k1 k2 k3 => by rw [g2 k k2 k3]; exact h2 k k1, fun a ha => ⟨by rw [g2 51 (by decide) (by decide)]; exact h3 a ha, g3 a ha⟩⟩
def tm (V : hn_Vw) (D : Nat → Nat → Int) (m M : Nat → Int) (o a j : Nat) : Option Nat × Nat := if (vY V a).2.2.2.2.1 = true then (none, o + 1) else tn V D m M o a j
theorem tm_row (hV : okV V D) (hD : okD D) (hM : repM O 0 V) (hW : hn_W O D) (h89 : ∀ s, s < vN V → (O 89 s).toInt = m s ∧ (O 90 s).toInt = M s) (hb0 : ∀ s, s < vN V → 0 ≤ m s ∧ m s ≤ 999) (ho : o ≤ 40) (hF : 31 ≤ F) (hk : ∀ k, k ≠ 91 → μ k = O k) {a : Nat} (ha : a < vK V) (h0 : μ 91 a = -4) (k11 : Int32 → hn_M → Option (Int32 × hn_M)) : ∃ μ', fX8_layTree_38 F k11 F (nI a) (nI (o + 1)) 0 μ = k11 (nI (a + 1)) μ' ∧ (∀ k, k ≠ 91 → μ' k = O k) ∧ (∀ t, t ≠ a → μ' 91 t = μ 91 t) ∧ μ' 91 a = te4 (ts V D m M o a) := by
  have hn := hV.1
  obtain ⟨s, h1, h2, h3, h4, h5⟩ := hn_loopE (fun n j (s : Int32 × hn_M) => fX8_layTree_38 F k11 n (nI a) s.1 (nI j) s.2) (vK V) (fun s => fX8_layTree_87 F k11 (nI a) s.2)
    (fun j s => (∀ k, k ≠ 91 → s.2 k = O k) ∧ (∀ t, t ≠ a → s.2 91 t = μ 91 t) ∧ s.2 91 a = te4 (tm V D m M o a j).1 ∧ s.1 = nI (tm V D m M o a j).2)
    (fun n s hi => by
      show fX8_layTree_38 F k11 (n + 1) (nI a) s.1 (nI (vK V)) s.2 = _
      have e80 : s.2 80 0 = nI (vK V) := by rw [hi.1 80 (by decide)]; exact rm_k hM
      rw [fX8_layTree_38, hn_rd_0 (by decide) (by decide), e80, if_pos (by rw [hn_leN (by omega) (by omega)]; exact Nat.le_refl _)])
    (fun n j s hj hi => by
      obtain ⟨l2, s⟩ := s
      obtain ⟨i1, i2, i3, i4⟩ := hi
      have i1 : ∀ k, k ≠ 91 → s k = O k := i1
      have hMs : repM s 0 V := rm_cong (fun k a b => i1 k (by omega)) hM
      have hWs : hn_W s D := fun a b x y => by rw [i1 75 (by decide)]; exact hW a b x y
      have e89 : ∀ t, t < vN V → (s 89 t).toInt = m t ∧ (s 90 t).toInt = M t := fun t ht => by rw [i1 89 (by decide), i1 90 (by decide)]; exact h89 t ht
      have t2 := tn_2 V D m M o a j
      have u2 := un_le V a j
      show ∃ s' : Int32 × hn_M, fX8_layTree_38 F k11 (n + 1) (nI a) l2 (nI j) s = fX8_layTree_38 F k11 n (nI a) s'.1 (nI (j + 1)) s'.2 ∧ _
      rw [fX8_layTree_38, hn_rd_0 (by decide) (by decide), rm_k hMs, if_neg (by rw [hn_leN (by omega) (by omega)]; omega), tc_model hV hD hMs hWs e89 hb0 ha hj, Option.bind_some]
      unfold fX8_layTree_81
      rw [nI_1]
      have i4 : l2 = nI (tm V D m M o a j).2 := i4
      unfold tm at i3 i4 ⊢
      by_cases hs : (vY V a).2.2.2.2.1 = true
      · rw [show (if (vY V a).2.2.2.2.1 = false ∧ tc V D m M a j then (1 : Int32) else 0) = 0 from if_neg (fun z => by rw [z.1] at hs; cases hs), if_pos rfl]
        rw [if_pos hs] at i3 i4 ⊢
        exact ⟨(l2, s), rfl, i1, i2, i3, i4⟩
      · rw [if_neg hs] at i3 i4 ⊢
        have hs2 : (vY V a).2.2.2.2.1 = false := by cases h : (vY V a).2.2.2.2.1 with | false => rfl | true => exact absurd h hs
        simp only [tn]
        by_cases hc : tc V D m M a j
        · rw [show (if (vY V a).2.2.2.2.1 = false ∧ tc V D m M a j then (1 : Int32) else 0) = 1 from if_pos ⟨hs2, hc⟩, if_neg (show ¬ (1 : Int32) = 0 by decide), un_model hV hMs hF ha hj, Option.bind_some, Option.bind_some, i4]
          by_cases hl : un V a j < (tn V D m M o a j).2
          · rw [if_neg (by rw [hn_leN (by omega) (by omega)]; omega), if_pos ⟨hc, hl⟩, hn_wr_at (by omega) (by decide)]
            exact ⟨(nI (un V a j), hn_up s 91 a (nI j)), rfl, fun k hk => by show hn_up s 91 a (nI j) k = _; rw [hn_up_ne hk]; exact i1 k hk, fun t ht => by show hn_up s 91 a (nI j) 91 t = _; rw [hn_up_off ht]; exact i2 t ht, (show hn_up s 91 a (nI j) 91 a = nI j from hn_up_at), rfl⟩
          · rw [if_pos (by rw [hn_leN (by omega) (by omega)]; omega), if_neg (fun z => hl z.2)]
            exact ⟨(nI (tn V D m M o a j).2, s), rfl, i1, i2, i3, rfl⟩
        · rw [show (if (vY V a).2.2.2.2.1 = false ∧ tc V D m M a j then (1 : Int32) else 0) = 0 from if_neg (fun z => hc z.2), if_pos rfl, if_neg (fun z => hc z.1)]
          exact ⟨(l2, s), rfl, i1, i2, i3, i4⟩)
    (vK V) 0 F (nI (o + 1), μ) (by omega) (by omega) ⟨hk, fun t _ => rfl, by
      show μ 91 a = _
      unfold tm
      by_cases hs : (vY V a).2.2.2.2.1 = true
      · rw [if_pos hs, h0]; rfl
      · rw [if_neg hs, h0]; rfl, by
      unfold tm
      by_cases hs : (vY V a).2.2.2.2.1 = true
      · rw [if_pos hs]
      · rw [if_neg hs]; rfl⟩
  refine ⟨s.2, ?_, h2, h3, ?_⟩
  · have h1 : fX8_layTree_38 F k11 F (nI a) (nI (o + 1)) 0 μ = fX8_layTree_87 F k11 (nI a) s.2 := h1
    rw [h1]
    unfold fX8_layTree_87
    rw [nI_1]
  · rw [h4]
    unfold tm ts
    by_cases hs : (vY V a).2.2.2.2.1 = true
    · rw [if_pos hs, if_pos hs]
    · rw [if_neg hs, if_neg hs]
theorem tr_lay (hV : okV V D) (hD : okD D) (hM : repM O 0 V) (hW : hn_W O D) (h89 : ∀ s, s < vN V → (O 89 s).toInt = m s ∧ (O 90 s).toInt = M s) (hb0 : ∀ s, s < vN V → 0 ≤ m s ∧ m s ≤ 999) (ho : o ≤ 40) (hO : O 72 12 = nI o) (hF : 31 ≤ F) : ∃ μ', fX8_layTree_11 F F 0 O = some (1, μ') ∧ (∀ k, k ≠ 91 → μ' k = O k) ∧ ∀ a, a < vK V → μ' 91 a = te4 (ts V D m M o a) := by
  have hn := hV.1
  obtain ⟨μ1, h1, h2, h3⟩ := hn_loopE (fun n j s => fX8_layTree_11 F n (nI j) s) (vK V) (fun s => some ((1 : Int32), s)) (fun j s => (∀ k, k ≠ 91 → s k = O k) ∧ ∀ a, a < j → s 91 a = te4 (ts V D m M o a))
    (fun n s hi => by
      show fX8_layTree_11 F (n + 1) (nI (vK V)) s = _
      have e80 : s 80 0 = nI (vK V) := by rw [hi.1 80 (by decide)]; exact rm_k hM
      rw [fX8_layTree_11, hn_rd_0 (by decide) (by decide), e80, if_pos (by rw [hn_leN (by omega) (by omega)]; exact Nat.le_refl _)])
    (fun n j s hj hi => by
      obtain ⟨i1, i2⟩ := hi
      have e80 : s 80 0 = nI (vK V) := by rw [i1 80 (by decide)]; exact rm_k hM
      obtain ⟨μ', r1, r2, r3, r4⟩ := tm_row (F := F) (μ := hn_up s 91 j (-4)) hV hD hM hW h89 hb0 ho hF (fun k hk => by rw [hn_up_ne hk]; exact i1 k hk) hj hn_up_at (fX8_layTree_11 F n)
      refine ⟨μ', ?_, r2, fun a ha => ?_⟩
      · show fX8_layTree_11 F (n + 1) (nI j) s = _
        rw [fX8_layTree_11, hn_rd_0 (by decide) (by decide), e80, if_neg (by rw [hn_leN (by omega) (by omega)]; omega), hn_wr_at (by omega) (by decide), hn_up_ne (show (72 : Nat) ≠ 91 by decide), i1 72 (by decide), hO, nI_1, r1]
      · by_cases haj : a = j
        · rw [haj]; exact r4
        · rw [r3 a haj, hn_up_off haj]; exact i2 a (by omega))
    (vK V) 0 F O (by omega) (by omega) ⟨fun k _ => rfl, fun a ha => by omega⟩
  exact ⟨μ1, h1, h2, h3⟩
theorem te4_neg : te4 none < 0 := by decide
theorem te4_pos {b : Nat} (hb : b < 2 ^ 31) : ¬ te4 (some b) < 0 := nI_pos hb
theorem tr_root {src : Nat → Option Nat} {rk : Nat → Nat} {K : Nat} (hs : tk_ok src rk K) (hK : K ≤ 30) (h91 : ∀ a, a < K → μ 91 a = te4 (src a)) : ∀ (k at' n : Nat), at' < K → rk at' ≤ k → k < n → fX8_rootOf_2 F μ n (nI at') = some (nI (tk src k at').1) := by
  intro k
  induction k with
  | zero =>
    intro a n ha hk hn
    obtain ⟨n, rfl⟩ : ∃ n', n = n' + 1 := ⟨n - 1, by omega⟩
    have h : src a = none := by
      cases h : src a with
      | none => rfl
      | some b => have := hs a ha b h; omega
    rw [fX8_rootOf_2, hn_rd_at (by omega) (by decide), h91 a ha, h, if_pos te4_neg]
    rfl
  | succ k ih =>
    intro a n ha hk hn
    obtain ⟨n, rfl⟩ : ∃ n', n = n' + 1 := ⟨n - 1, by omega⟩
    rw [fX8_rootOf_2, hn_rd_at (by omega) (by decide), hn_rd_at (by omega) (by decide), h91 a ha]
    cases h : src a with
    | none => rw [if_pos te4_neg, tk_none h]
    | some b =>
      have h1 := hs a ha b h
      rw [if_neg (te4_pos (by omega)), tk_some h]
      exact ih b n h1.1 (by omega) (by omega)
end tr2
