/-! the law over the mirrors -/
section lw
variable {μ : hn_M} {xs : Nat → Int32} {N F : Nat}
theorem lw_cM {c : Option (Int32 × hn_M)} {m : hn_M → Option (Int32 × hn_M)} {K : hn_M → Option Int32} (h : ∃ r μ1 μ2, c = some (r, μ1) ∧ m μ1 = some (r, μ2) ∧ hn_Inv μ2) (hK : ∀ μ2, hn_Inv μ2 → K μ2 = some 1) : (c.bind fun w => (m w.2).bind fun w' => if w.1 = w'.1 then K w'.2 else some 0) = some 1 := by
  obtain ⟨r, μ1, μ2, h1, h2, h3⟩ := h
  rw [h1, Option.bind_some]
  show ((m μ1).bind fun w' => if r = w'.1 then K w'.2 else some 0) = some 1
  rw [h2, Option.bind_some]
  show (if r = r then K μ2 else some 0) = some 1
  rw [if_pos rfl]
  exact hK μ2 h3
theorem lw_cN {c : Option Int32} {m : Option (Int32 × hn_M)} {K : hn_M → Option Int32} (h : ∃ r μ2, c = some r ∧ m = some (r, μ2) ∧ hn_Inv μ2) (hK : ∀ μ2, hn_Inv μ2 → K μ2 = some 1) : (c.bind fun v => m.bind fun w' => if v = w'.1 then K w'.2 else some 0) = some 1 := by
  obtain ⟨r, μ2, h1, h2, h3⟩ := h
  rw [h1, Option.bind_some, h2, Option.bind_some]
  show (if r = r then K μ2 else some 0) = some 1
  rw [if_pos rfl]
  exact hK μ2 h3
theorem lw_cP {c m : Option Int32} {K : Option Int32} (h : ∃ r, c = some r ∧ m = some r) (hK : K = some 1) : (c.bind fun v => m.bind fun v' => if v = v' then K else some 0) = some 1 := by
  obtain ⟨r, h1, h2⟩ := h
  rw [h1, Option.bind_some, h2, Option.bind_some, if_pos rfl]
  exact hK
theorem lw_cL {c m : Option Int64} {K : Option Int32} (h : ∃ r, c = some r ∧ m = some r) (hK : K = some 1) : (c.bind fun v => m.bind fun v' => if lg_cmp v v' = 0 then K else some 0) = some 1 := by
  obtain ⟨r, h1, h2⟩ := h
  have e : lg_cmp r r = 0 := by
    unfold lg_cmp
    rw [if_neg (fun z => by have := Int64.lt_iff_toInt_lt.mp z; omega), if_pos rfl]
  rw [h1, Option.bind_some, h2, Option.bind_some, if_pos e]
  exact hK
set_option maxHeartbeats 8000000 in
set_option maxRecDepth 100000 in
theorem lw_step (hF : 12000 ≤ F) (hN : N ≤ 3584) {i n : Nat} (hi : i + 7 ≤ N) (hI : hn_Inv μ) (ih : ∀ ν, hn_Inv ν → fL_law_18 xs N F n (nI (i + 7)) ν = some 1) : fL_law_18 xs N F (n + 1) (nI i) μ = some 1 := by
  have hK : ∀ ν, hn_Inv ν → fL_law_1448 xs N F (fL_law_18 xs N F n) (nI i) ν = some 1 := by
    intro ν hν
    unfold fL_law_1448
    rw [show nI i + 7 = nI (i + 7) from nI_add i 7]
    exact ih ν hν
  have r1 : ∀ K : Int32 → Option Int32, hn_rs xs N (nI i + 1) K = K (xs (i + 1)) := fun K => by rw [show nI i + 1 = nI (i + 1) from nI_add i 1, hn_rs_at (by omega) (by omega)]
  have r2 : ∀ K : Int32 → Option Int32, hn_rs xs N (nI i + 2) K = K (xs (i + 2)) := fun K => by rw [show nI i + 2 = nI (i + 2) from nI_add i 2, hn_rs_at (by omega) (by omega)]
  have r3 : ∀ K : Int32 → Option Int32, hn_rs xs N (nI i + 3) K = K (xs (i + 3)) := fun K => by rw [show nI i + 3 = nI (i + 3) from nI_add i 3, hn_rs_at (by omega) (by omega)]
  have r4 : ∀ K : Int32 → Option Int32, hn_rs xs N (nI i + 4) K = K (xs (i + 4)) := fun K => by rw [show nI i + 4 = nI (i + 4) from nI_add i 4, hn_rs_at (by omega) (by omega)]
  have r5 : ∀ K : Int32 → Option Int32, hn_rs xs N (nI i + 5) K = K (xs (i + 5)) := fun K => by rw [show nI i + 5 = nI (i + 5) from nI_add i 5, hn_rs_at (by omega) (by omega)]
  have r6 : ∀ K : Int32 → Option Int32, hn_rs xs N (nI i + 6) K = K (xs (i + 6)) := fun K => by rw [show nI i + 6 = nI (i + 6) from nI_add i 6, hn_rs_at (by omega) (by omega)]
  have e7 : ¬ (Int32.ofNat N) - 7 < nI i := by
    show ¬ nI N - 7 < nI i
    rw [show (7 : Int32) = nI 7 from rfl, pk_sub (by omega)]
    exact nI_nlt (by omega) (by omega)
  rw [fL_law_18, if_neg e7, hn_rs_at (by omega) (by omega)]
  generalize fL_law_18 xs N F n = k18 at hK ⊢
  generalize hv : xs i &&& 63 = v
  by_cases h0 : v = 0
  · rw [if_pos h0]
    simp only [r1, r2, r3, r4]
    exact lw_cM (c_post hF _ _ _ _ μ hI) hK
  rw [if_neg h0]
  by_cases h1 : v = 1
  · rw [if_pos h1]
    simp only [r1, r2]
    exact lw_cP (c_way _ _ μ hI) (hK μ hI)
  rw [if_neg h1]
  by_cases h2 : v = 2
  · rw [if_pos h2]
    simp only [r1, r2]
    exact lw_cN (c_slow hF _ _ μ hI) hK
  rw [if_neg h2]
  by_cases h3 : v = 3
  · rw [if_pos h3]
    simp only [r1, r2, r3]
    exact lw_cM (c_sheet _ _ _ μ hI) hK
  rw [if_neg h3]
  by_cases h4 : v = 4
  · rw [if_pos h4]
    simp only [r1, r2]
    exact lw_cM (c_dated _ _ μ hI) hK
  rw [if_neg h4]
  by_cases h5 : v = 5
  · rw [if_pos h5]
    simp only [r1, r2]
    exact lw_cM (c_behind _ _ μ hI) hK
  rw [if_neg h5]
  by_cases h6 : v = 6
  · rw [if_pos h6]
    simp only [r1, r2, r3]
    exact lw_cM (c_happened hF _ _ _ μ hI) hK
  rw [if_neg h6]
  by_cases h7 : v = 7
  · rw [if_pos h7]
    simp only [r1, r2]
    exact lw_cM (c_span hF _ _ μ hI) hK
  rw [if_neg h7]
  by_cases h8 : v = 8
  · rw [if_pos h8]
    simp only [r1, r2]
    exact lw_cM (c_ahead hF _ _ μ hI) hK
  rw [if_neg h8]
  by_cases h9 : v = 9
  · rw [if_pos h9]
    unfold fL_law_567 fL_law_581 fL_law_618 fL_law_632
    by_cases q5 : xs (i + 5) = 0
    · by_cases q6 : xs (i + 6) = 0
      · simp only [r1, r2, r3, r4, r5, r6, if_pos q5, if_pos q6]
        exact lw_cM (c_say _ _ _ _ false false μ hI) hK
      · simp only [r1, r2, r3, r4, r5, r6, if_pos q5, if_neg q6]
        exact lw_cM (c_say _ _ _ _ false true μ hI) hK
    · by_cases q6 : xs (i + 6) = 0
      · simp only [r1, r2, r3, r4, r5, r6, if_neg q5, if_pos q6]
        exact lw_cM (c_say _ _ _ _ true false μ hI) hK
      · simp only [r1, r2, r3, r4, r5, r6, if_neg q5, if_neg q6]
        exact lw_cM (c_say _ _ _ _ true true μ hI) hK
  rw [if_neg h9]
  by_cases h10 : v = 10
  · rw [if_pos h10]
    simp only [r1, r2]
    exact lw_cP (c_change hF _ _ μ hI) (hK μ hI)
  rw [if_neg h10]
  by_cases h11 : v = 11
  · rw [if_pos h11]
    simp only [r1]
    exact lw_cM (c_own _ μ hI) hK
  rw [if_neg h11]
  by_cases h12 : v = 12
  · rw [if_pos h12]
    simp only [r1]
    exact lw_cM (c_from hF _ μ hI) hK
  rw [if_neg h12]
  by_cases h13 : v = 13
  · rw [if_pos h13]
    simp only [r1, r2]
    exact lw_cM (c_voice hF _ _ μ hI) hK
  rw [if_neg h13]
  by_cases h14 : v = 14
  · rw [if_pos h14]
    unfold fL_law_771 fL_law_793
    by_cases q2 : xs (i + 2) = 0
    · simp only [r1, r2, if_pos q2]
      exact lw_cM (c_voices hF _ false μ hI) hK
    · simp only [r1, r2, if_neg q2]
      exact lw_cM (c_voices hF _ true μ hI) hK
  rw [if_neg h14]
  by_cases h15 : v = 15
  · rw [if_pos h15]
    simp only [r1]
    exact lw_cM (c_grew hF _ μ hI) hK
  rw [if_neg h15]
  by_cases h16 : v = 16
  · rw [if_pos h16]
    simp only [r1]
    exact lw_cM (c_habit hF _ μ hI) hK
  rw [if_neg h16]
  by_cases h17 : v = 17
  · rw [if_pos h17]
    simp only [r1, r2, r3]
    exact lw_cM (c_write hF _ _ μ hI) hK
  rw [if_neg h17]
  by_cases h18 : v = 18
  · rw [if_pos h18]
    exact lw_cM (c_wipe μ hI) hK
  rw [if_neg h18]
  by_cases h19 : v = 19
  · rw [if_pos h19]
    exact lw_cM (c_fault hF μ hI) hK
  rw [if_neg h19]
  by_cases h20 : v = 20
  · rw [if_pos h20]
    exact lw_cM (c_force hF μ hI) hK
  rw [if_neg h20]
  by_cases h21 : v = 21
  · rw [if_pos h21]
    simp only [r1, r2, r3]
    exact lw_cP (c_rule hF _ _ _ μ hI) (hK μ hI)
  rw [if_neg h21]
  by_cases h22 : v = 22
  · rw [if_pos h22]
    simp only [r1, r2, r3]
    exact lw_cP (c_why hF _ _ _ μ hI) (hK μ hI)
  rw [if_neg h22]
  by_cases h23 : v = 23
  · rw [if_pos h23]
    exact lw_cP (c_quarrel hF μ hI) (hK μ hI)
  rw [if_neg h23]
  by_cases h24 : v = 24
  · rw [if_pos h24]
    simp only [r1]
    exact lw_cM (c_closet _ μ hI) hK
  rw [if_neg h24]
  by_cases h25 : v = 25
  · rw [if_pos h25]
    simp only [r1]
    exact lw_cM (c_came hF _ μ hI) hK
  rw [if_neg h25]
  by_cases h26 : v = 26
  · rw [if_pos h26]
    simp only [r1, r2, r3]
    exact lw_cM (c_belief hF _ _ _ μ hI) hK
  rw [if_neg h26]
  by_cases h27 : v = 27
  · rw [if_pos h27]
    simp only [r1]
    exact lw_cM (c_banned hF _ μ hI) hK
  rw [if_neg h27]
  by_cases h28 : v = 28
  · rw [if_pos h28]
    simp only [r1, r2]
    exact lw_cM (c_truth _ _ μ hI) hK
  rw [if_neg h28]
  by_cases h29 : v = 29
  · rw [if_pos h29]
    simp only [r1, r2]
    exact lw_cM (c_right hF _ _ μ hI) hK
  rw [if_neg h29]
  by_cases h30 : v = 30
  · rw [if_pos h30]
    simp only [r1, r2, r3]
    exact lw_cL (c_beyond hF _ _ _) (hK μ hI)
  rw [if_neg h30]
  by_cases h31 : v = 31
  · rw [if_pos h31]
    simp only [r1, r2, r3]
    exact lw_cP (c_known hF _ _ _ μ hI) (hK μ hI)
  rw [if_neg h31]
  by_cases h32 : v = 32
  · rw [if_pos h32]
    simp only [r1, r2, r3]
    exact lw_cM (c_worth _ _ _ μ hI) hK
  rw [if_neg h32]
  by_cases h33 : v = 33
  · rw [if_pos h33]
    simp only [r1, r2, r3]
    exact lw_cP (c_buy hF _ _ _ μ hI) (hK μ hI)
  rw [if_neg h33]
  by_cases h34 : v = 34
  · rw [if_pos h34]
    exact lw_cM (c_keep hF μ hI) hK
  rw [if_neg h34]
  by_cases h35 : v = 35
  · rw [if_pos h35]
    exact lw_cM (c_back hF μ hI) hK
  rw [if_neg h35]
  by_cases h36 : v = 36
  · rw [if_pos h36]
    simp only [r1]
    exact lw_cP (c_count hF _ μ hI) (hK μ hI)
  rw [if_neg h36]
  exact hK μ hI
theorem lw_all (hF : 12000 ≤ F) (hN : N ≤ 3584) : ∀ (n i : Nat) (μ : hn_M), N + 7 < i + 7 * n → i ≤ N + 7 → hn_Inv μ → fL_law_18 xs N F n (nI i) μ = some 1 := by
  intro n
  induction n with
  | zero => intro i μ h1 h2; omega
  | succ n ih =>
    intro i μ h1 h2 hI
    by_cases hi : i + 7 ≤ N
    · exact lw_step hF hN hi hI (fun ν hν => ih (i + 7) ν (by omega) (by omega) hν)
    · have e7 : (Int32.ofNat N) - 7 < nI i := by
        show nI N - 7 < nI i
        have tN := nI_toInt (n := N) (by omega)
        have ti := nI_toInt (n := i) (by omega)
        have t7 : (7 : Int32).toInt = 7 := rfl
        rw [hn_lt, hn_subI (by omega) (by omega), tN, ti, t7]
        omega
      rw [fL_law_18, if_pos e7]
/-- the pure claim -/
theorem hn_pure : hn_claim := by
  intro xs N hN
  obtain ⟨μ1, μ2, h1, h2, h3⟩ := in_all (F := 12000) (Nat.le_refl _)
  have g := lw_all (xs := xs) (F := 12000) (Nat.le_refl _) hN 12000 0 μ2 (by omega) (by omega) h3
  rw [show nI 0 = (0 : Int32) from rfl] at g
  exact ⟨12000, μ1, μ2, h1, h2, g⟩
end lw
