/-! calls: fault, force -/
section fo
variable {μ ν : hn_M} {V : hn_Vw} {D S : Nat → Nat → Int} {o F : Nat}
theorem hn_Ba_i (h : ∀ k, k ≠ 0 → ¬ (58 ≤ k ∧ k ≤ 71) → k ≠ 72 → k ≠ 85 → k ≠ 86 → k ≠ 92 → ν k = μ k) (h0 : ∀ i, i ≠ 7 → i ≠ 8 → ν 0 i = μ 0 i) (h72 : ∀ i, i ≠ 24 → ν 72 i = μ 72 i) (hi : iI ν) (i : hn_Ba μ V D S o) (hS : iS μ V D o) : hn_Inv ν := by
  obtain ⟨i1, i2, i3, i4, i5, i6, i7⟩ := i
  have fk : ∀ k, ((1 ≤ k ∧ k ≤ 57) ∨ (73 ≤ k ∧ k ≤ 84) ∨ k = 87) → ν k = μ k := fun k hk => h k (by omega) (by omega) (by omega) (by omega) (by omega) (by omega)
  exact ⟨V, D, S, o, ⟨iP_c (fun k hk => fk k (by omega)) i1, iV_c (fun k hk => fk k (by omega)) i2, iK_c (h0 9 (by decide) (by decide)) (h72 11 (by decide)) (fun k hk => fk k (by omega)) i3,
    iF_c ⟨h0 10 (by decide) (by decide), h0 11 (by decide) (by decide)⟩ ⟨h72 12 (by decide), h72 13 (by decide)⟩ i4, iT_c ⟨fk 54 (by omega), fk 55 (by omega), fk 84 (by omega)⟩ (h72 14 (by decide)) i5, hi, iW_c ⟨fk 57 (by omega), fk 87 (by omega)⟩ i7⟩,
    iS_c (h0 12 (by decide) (by decide)) ⟨by rw [fk 46 (by omega)], fk 47 (by omega), fk 48 (by omega), fk 51 (by omega), fk 52 (by omega), fk 53 (by omega)⟩ hS⟩
theorem c_fault (hF : 12000 ≤ F) : hn_cM (fun μ => fX7_fault F μ) (fun μ => fX8_fault F μ) := by
  intro μ ⟨V, D, S, o, hB, hS⟩
  obtain ⟨T, N, ok, hC, hM⟩ := tx_of hB.2.2.2.2.1
  obtain ⟨t, u, n, It, i1, i2, i3, i4, i5, i6⟩ := hB.2.2.2.2.2.1
  have hu : u = 58 ∨ u = 65 := by omega
  obtain ⟨μ1, a1, a2, a3⟩ := rd_7a (F := F) hu ok hF hC It
  obtain ⟨μ2, b1, b2, b3⟩ := rd_8a (F := F) (μ := μ1) ok hF ⟨by rw [a2 72 (by omega)]; exact hM.1, by rw [a2 84 (by omega)]; exact hM.2⟩ It
  refine ⟨te4 (tx_all T N (N + 1) 0 0 It).1, μ1, μ2, ?_, ?_, ?_⟩
  · show fX7_fault F μ = _
    unfold fX7_fault
    rw [i3, hn_itk hu, a1, Option.bind_some]
  · show fX8_fault F μ1 = _
    unfold fX8_fault
    rw [b1, Option.bind_some]
  · refine hn_Ba_i (fun k k0 k1 k2 k3 k4 k5 => by rw [b2.1 k k2 k3 k4 k5, a2 k (by omega)]) (fun i _ _ => by rw [b2.1 0 (by decide) (by decide) (by decide) (by decide), a2 0 (by omega)]) (fun i hi => by rw [b2.2.1 i hi, a2 72 (by omega)]) ⟨t, u, n, It, i1, ?_, ?_, ?_, ?_, i6⟩ hB hS
    · rw [b2.1 0 (by decide) (by decide) (by decide) (by decide), a2 0 (by omega)]; exact i2
    · rw [b2.1 0 (by decide) (by decide) (by decide) (by decide), a2 0 (by omega)]; exact i3
    · have e : ∀ k, t ≤ k → k ≤ t + 6 → μ2 k = μ k := fun k h1 h2 => by rw [b2.1 k (by omega) (by omega) (by omega) (by omega), a2 k (by omega)]
      unfold repI
      rw [e t (by omega) (by omega), e (t + 1) (by omega) (by omega), e (t + 2) (by omega) (by omega), e (t + 3) (by omega) (by omega), e (t + 4) (by omega) (by omega), e (t + 5) (by omega) (by omega)]
      exact i4
    · have e : ∀ i, 200 ≤ i → μ2 86 i = μ 86 i := fun i hi => by rw [b2.2.2.2 i hi, a2 86 (by omega)]
      refine ⟨?_, fun i hi => ?_⟩
      · rw [b2.2.2.1 1 (by decide), a2 85 (by omega)]; exact i5.1
      · rw [e _ (by omega), e _ (by omega), e _ (by omega), e _ (by omega), e _ (by omega)]; exact i5.2 i hi
theorem fo_26 (hF : 12000 ≤ F) (μ : hn_M) : ∃ μ', fX8_force_26 F F 0 μ = some (μ' 85 1, μ') ∧ (∀ k, k ≠ 86 → μ' k = μ k) ∧ ∀ i, i < 200 → μ' 86 (200 + i) = μ 86 i := by
  obtain ⟨μ', h1, h2⟩ := hn_loopE (fun n j s => fX8_force_26 F n (nI j) s) 200 (fun s => fX8_force_55 F s) (fun j s => (∀ k, k ≠ 86 → s k = μ k) ∧ (∀ i, i < 200 → s 86 i = μ 86 i) ∧ ∀ i, i < j → s 86 (200 + i) = μ 86 i)
    (fun n s _ => by
      show fX8_force_26 F (n + 1) (nI 200) s = _
      rw [fX8_force_26, if_pos (by decide)])
    (fun n j s hj hi => by
      refine ⟨hn_up s 86 (200 + j) (s 86 j), ?_, fun k hk => by rw [hn_up_ne hk]; exact hi.1 k hk, fun i hi2 => by rw [hn_up_off (by omega)]; exact hi.2.1 i hi2, fun i hi2 => ?_⟩
      · show fX8_force_26 F (n + 1) (nI j) s = _
        rw [fX8_force_26, if_neg (show ¬ (200 : Int32) ≤ nI j from hn_ge (b := 200) hj (by decide)), hn_rd_at (by omega) (by decide), show (200 : Int32) + nI j = nI (200 + j) from nI_add 200 j, hn_wr_at (by omega) (by decide), nI_1]
      · rw [hn_upk]
        by_cases hij : i = j
        · rw [if_pos (by omega), hij]; exact hi.2.1 j hj
        · rw [if_neg (by omega)]; exact hi.2.2 i (by omega))
    200 0 F μ (by omega) (by omega) ⟨fun k _ => rfl, fun i _ => rfl, fun i hi => by omega⟩
  refine ⟨μ', ?_, h2.1, h2.2.2⟩
  refine Eq.trans h1 ?_
  unfold fX8_force_55
  rw [hn_rd_1 (by decide) (by decide)]
theorem c_force (hF : 12000 ≤ F) : hn_cM (fun μ => fX7_force F μ) (fun μ => fX8_force F μ) := by
  intro μ ⟨V, D, S, o, hB, hS⟩
  obtain ⟨T, N, ok, hC, hM⟩ := tx_of hB.2.2.2.2.1
  obtain ⟨t, u, n, It, i1, i2, i3, i4, i5, i6⟩ := hB.2.2.2.2.2.1
  have on := ok.1
  have hu : u = 58 ∨ u = 65 := by omega
  have ht : t = 58 ∨ t = 65 := by omega
  obtain ⟨μ1, a1, a2, a3⟩ := rd_7a (F := F) hu ok hF hC It
  have m7 : μ1 0 7 = nI t := by rw [a2 0 (by omega)]; exact i2
  have m8 : μ1 0 8 = nI u := by rw [a2 0 (by omega)]; exact i3
  have em := te4_m4 (x := (tx_all T N (N + 1) 0 0 It).1) (fun b hb => by have := tx_all_b _ _ _ _ _ hb; omega)
  have okn := tx_all_ok ok (N + 1) 0 0 It (Nat.zero_le _) (Nat.le_refl _) (fun i hi => by omega)
  cases hr : (tx_all T N (N + 1) 0 0 It).1 with
  | some b =>
    have nm : ¬ te4 (tx_all T N (N + 1) 0 0 It).1 = -4 := fun z => by rw [em.mp z] at hr; cases hr
    obtain ⟨μ2, b1, b2, b3⟩ := rd_8a (F := F) (μ := μ1) ok hF ⟨by rw [a2 72 (by omega)]; exact hM.1, by rw [a2 84 (by omega)]; exact hM.2⟩ It
    refine ⟨-2, μ1, μ2, ?_, ?_, ?_⟩
    · show fX7_force F μ = _
      unfold fX7_force
      rw [i3, hn_itk hu, a1, Option.bind_some]
      dsimp only
      rw [if_neg nm]
    · show fX8_force F μ1 = _
      unfold fX8_force
      rw [b1, Option.bind_some]
      dsimp only
      rw [if_neg nm]
    · refine hn_Ba_i (fun k k0 k1 k2 k3 k4 k5 => by rw [b2.1 k k2 k3 k4 k5, a2 k (by omega)]) (fun i _ _ => by rw [b2.1 0 (by decide) (by decide) (by decide) (by decide), a2 0 (by omega)]) (fun i hi => by rw [b2.2.1 i hi, a2 72 (by omega)]) ⟨t, u, n, It, i1, ?_, ?_, ?_, ?_, i6⟩ hB hS
      · rw [b2.1 0 (by decide) (by decide) (by decide) (by decide)]; exact m7
      · rw [b2.1 0 (by decide) (by decide) (by decide) (by decide)]; exact m8
      · have e : ∀ k, t ≤ k → k ≤ t + 6 → μ2 k = μ k := fun k h1 h2 => by rw [b2.1 k (by omega) (by omega) (by omega) (by omega), a2 k (by omega)]
        unfold repI
        rw [e t (by omega) (by omega), e (t + 1) (by omega) (by omega), e (t + 2) (by omega) (by omega), e (t + 3) (by omega) (by omega), e (t + 4) (by omega) (by omega), e (t + 5) (by omega) (by omega)]
        exact i4
      · have e : ∀ i, 200 ≤ i → μ2 86 i = μ 86 i := fun i hi => by rw [b2.2.2.2 i hi, a2 86 (by omega)]
        refine ⟨?_, fun i hi => ?_⟩
        · rw [b2.2.2.1 1 (by decide), a2 85 (by omega)]; exact i5.1
        · rw [e _ (by omega), e _ (by omega), e _ (by omega), e _ (by omega), e _ (by omega)]; exact i5.2 i hi
  | none =>
    have nm : te4 (tx_all T N (N + 1) 0 0 It).1 = -4 := em.mpr hr
    have r7 := a3 hr
    generalize hm : (tx_all T N (N + 1) 0 0 It).2.1 = m at r7 okn
    generalize hJ : (tx_all T N (N + 1) 0 0 It).2.2 = Jt at r7 okn
    -- the class's swap
    have c7 : fX7_force F μ = some (nI m, hn_up (hn_up μ1 0 7 (nI u)) 0 8 (nI t)) := by
      unfold fX7_force
      rw [i3, hn_itk hu, a1, Option.bind_some]
      dsimp only
      rw [if_pos nm, m7, hn_itk ht, m8, hn_itk hu]
      unfold hn_pf
      dsimp only
      rw [show hn_up (hn_up μ1 0 7 (Int32.ofNat u)) 0 8 (Int32.ofNat t) 0 7 = nI u from (by rw [hn_up_off (by decide), hn_up_at]; first | done | rfl), hn_itk hu, hn_up_ne (show u ≠ 0 by omega), hn_up_ne (show u ≠ 0 by omega), r7.1]
      first | done | rfl
    generalize hμ2 : hn_up (hn_up μ1 0 7 (nI u)) 0 8 (nI t) = μ2 at c7
    have f2 : ∀ k, k ≠ 0 → μ2 k = μ1 k := fun k hk => by rw [← hμ2, hn_up_ne hk, hn_up_ne hk]
    obtain ⟨μ3, b1, b2, b3⟩ := rd_8a (F := F) (μ := μ2) ok hF ⟨by rw [f2 72 (by decide), a2 72 (by omega)]; exact hM.1, by rw [f2 84 (by decide), a2 84 (by omega)]; exact hM.2⟩ It
    have r8 := b3 hr
    rw [hm, hJ] at r8
    obtain ⟨μ4, d1, d2, d3⟩ := fo_26 (F := F) hF (hn_up μ3 85 1 (nI m))
    have h85 : μ4 85 1 = nI m := by rw [d2 85 (by decide), hn_up_at]
    have f0 : μ4 0 = μ2 0 := by rw [d2 0 (by decide), hn_up_ne (by decide), b2.1 0 (by decide) (by decide) (by decide) (by decide)]
    have fk : ∀ k, k ≠ 0 → k ≠ 72 → k ≠ 85 → k ≠ 86 → k ≠ 92 → μ4 k = μ1 k := fun k k0 k1 k2 k3 k4 => by rw [d2 k k3, hn_up_ne k2, b2.1 k k1 k2 k3 k4, f2 k k0]
    refine ⟨nI m, μ2, μ4, c7, ?_, ?_⟩
    · show fX8_force F μ2 = _
      unfold fX8_force
      rw [b1, Option.bind_some]
      dsimp only
      rw [if_pos nm, hn_rd_0 (by decide) (by decide), r8.1, show (1 : Int32) = nI 1 from rfl, hn_wr_at (by decide) (by decide), d1, h85]
    · refine hn_Ba_i (fun k k0 k1 k2 k3 k4 k5 => by rw [fk k k0 k2 k3 k4 k5, a2 k (by omega)]) (fun i h7 h8 => ?_) (fun i hi => ?_) ⟨u, t, m, Jt, by omega, ?_, ?_, ?_, ?_, okn⟩ hB hS
      · rw [f0, ← hμ2, hn_up_off h8, hn_up_off h7, a2 0 (by omega)]
      · rw [d2 72 (by decide), hn_up_ne (by decide), b2.2.1 i hi, f2 72 (by decide), a2 72 (by omega)]
      · rw [f0, ← hμ2, hn_up_off (by decide), hn_up_at]
      · rw [f0, ← hμ2, hn_up_at]
      · unfold repI
        rw [fk u (by omega) (by omega) (by omega) (by omega) (by omega), fk (u + 1) (by omega) (by omega) (by omega) (by omega) (by omega), fk (u + 2) (by omega) (by omega) (by omega) (by omega) (by omega), fk (u + 3) (by omega) (by omega) (by omega) (by omega) (by omega), fk (u + 4) (by omega) (by omega) (by omega) (by omega) (by omega), fk (u + 5) (by omega) (by omega) (by omega) (by omega) (by omega)]
        exact r7
      · refine ⟨h85, fun i hi => ?_⟩
        have on2 := okn.1
        have e : ∀ j, j < 200 → μ4 86 (200 + j) = μ3 86 j := fun j hj => by rw [d3 j hj, hn_up_ne (by decide)]
        have g := r8.2 i hi
        rw [show 200 * 0 + 5 * i = 5 * i by omega] at g
        rw [show 200 * 1 + 5 * i = 200 + 5 * i by omega, show 200 + 5 * i + 1 = 200 + (5 * i + 1) by omega, show 200 + 5 * i + 2 = 200 + (5 * i + 2) by omega, show 200 + 5 * i + 3 = 200 + (5 * i + 3) by omega, show 200 + 5 * i + 4 = 200 + (5 * i + 4) by omega, e _ (by omega), e _ (by omega), e _ (by omega), e _ (by omega), e _ (by omega)]
        exact g
end fo
