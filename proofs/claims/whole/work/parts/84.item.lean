/-! one item, by the class and by the model -/
section im
variable {μ O : hn_M} {T : Nat → Nat} {N F t : Nat}
theorem ps_none {p : Nat} (h : tx_kd (T p) = none) : tx_ps T N p = none := by unfold tx_ps; rw [h]
theorem ps_no {p L : Nat} (h : tx_kd (T p) = some L) (h2 : tx_pr T N L (if L = 5 then 3 else 2) 4 0 (p + 1) tx_z = none) : tx_ps T N p = none := by unfold tx_ps; rw [h]; dsimp only; rw [h2]
theorem ps_some {p L p' : Nat} {a : Nat → Nat} (h : tx_kd (T p) = some L) (h2 : tx_pr T N L (if L = 5 then 3 else 2) 4 0 (p + 1) tx_z = some (a, p')) : tx_ps T N p = if (L = 3 ∧ a 1 < 1) ∨ (L = 5 ∧ a 3 < a 2) then none else some ((L, a 0, a 1, a 2, a 3), p') := by unfold tx_ps; rw [h]; dsimp only; rw [h2]
theorem it_sxl : ∀ (b : Fin 256) (i : Fin 6), (hn_letter i.val = hn_sx b.val) ↔ b.val = hn_lett i.val := by decide +kernel
theorem it_kind (hF : 12000 ≤ F) {b : Nat} (hb : b < 256) : fX0_kindOf F (hn_sx b) = some (te1 (tx_kd b)) := by
  have st : ∀ (n i : Nat), i < 6 → fX0_kindOf_2 F (n + 1) (hn_sx b) (nI i) = if b = hn_lett i then some (nI i) else fX0_kindOf_2 F n (hn_sx b) (nI (i + 1)) := by
    intro n i hi
    rw [fX0_kindOf_2, if_neg (show ¬ (6 : Int32) ≤ nI i from hn_ge (b := 6) hi (by decide))]
    unfold hn_chr
    rw [hn_rs_at (by omega) (by decide), nI_1]
    by_cases h : b = hn_lett i
    · rw [if_pos h, if_pos ((it_sxl ⟨b, hb⟩ ⟨i, hi⟩).mpr h)]
    · rw [if_neg h, if_neg (fun z => h ((it_sxl ⟨b, hb⟩ ⟨i, hi⟩).mp z))]
  have en : ∀ n, fX0_kindOf_2 F (n + 1) (hn_sx b) (nI 6) = some (-1) := by
    intro n
    rw [fX0_kindOf_2, if_pos (by decide)]
  obtain ⟨F', hF'⟩ : ∃ F', F = F' + 7 := ⟨F - 7, by omega⟩
  have e : fX0_kindOf F (hn_sx b) = fX0_kindOf_2 F (F' + 7) (hn_sx b) (nI 0) := by unfold fX0_kindOf; rw [← hF']; rfl
  rw [e, st (F' + 6) 0 (by omega), st (F' + 5) 1 (by omega), st (F' + 4) 2 (by omega), st (F' + 3) 3 (by omega), st (F' + 2) 4 (by omega), st (F' + 1) 5 (by omega), en F']
  unfold tx_kd
  by_cases h0 : b = 119
  · rw [if_pos (show b = hn_lett 0 from h0), if_pos h0]; rfl
  rw [if_neg (show ¬ b = hn_lett 0 from h0), if_neg h0]
  by_cases h1 : b = 118
  · rw [if_pos (show b = hn_lett 1 from h1), if_pos h1]; rfl
  rw [if_neg (show ¬ b = hn_lett 1 from h1), if_neg h1]
  by_cases h2 : b = 111
  · rw [if_pos (show b = hn_lett 2 from h2), if_pos h2]; rfl
  rw [if_neg (show ¬ b = hn_lett 2 from h2), if_neg h2]
  by_cases h3 : b = 98
  · rw [if_pos (show b = hn_lett 3 from h3), if_pos h3]; rfl
  rw [if_neg (show ¬ b = hn_lett 3 from h3), if_neg h3]
  by_cases h4 : b = 120
  · rw [if_pos (show b = hn_lett 4 from h4), if_pos h4]; rfl
  rw [if_neg (show ¬ b = hn_lett 4 from h4), if_neg h4]
  by_cases h5 : b = 110
  · rw [if_pos (show b = hn_lett 5 from h5), if_pos h5]; rfl
  rw [if_neg (show ¬ b = hn_lett 5 from h5), if_neg h5]; rfl
theorem hn_rd_1 {α : Type} {μ : hn_M} {k n : Nat} {K : Int32 → Option α} (h : 1 < n) (hn : n < 2 ^ 31) : hn_rd μ k n 1 K = K (μ k 1) := by rw [show (1 : Int32) = nI 1 from rfl]; exact hn_rd_at h hn
theorem hn_rd_2 {α : Type} {μ : hn_M} {k n : Nat} {K : Int32 → Option α} (h : 2 < n) (hn : n < 2 ^ 31) : hn_rd μ k n 2 K = K (μ k 2) := by rw [show (2 : Int32) = nI 2 from rfl]; exact hn_rd_at h hn
theorem hn_rd_3 {α : Type} {μ : hn_M} {k n : Nat} {K : Int32 → Option α} (h : 3 < n) (hn : n < 2 ^ 31) : hn_rd μ k n 3 K = K (μ k 3) := by rw [show (3 : Int32) = nI 3 from rfl]; exact hn_rd_at h hn
/-- an item is laid in the class's rows -/
theorem it_77 {L z : Nat} {a : Nat → Nat} (h6 : μ t 6 = nI z) (hz : z < 40) (ha : ∀ j, j < 4 → μ (t + 6) j = nI (a j)) : ∃ ν, fX0_readItem_77 F t (nI L) μ = some (1, ν) ∧ (∀ k, k < t + 1 ∨ t + 5 < k → ν k = μ k) ∧ (∀ k i, i ≠ z → ν k i = μ k i) ∧ ν (t + 1) z = nI L ∧ ν (t + 2) z = nI (a 0) ∧ ν (t + 3) z = nI (a 1) ∧ ν (t + 4) z = nI (a 2) ∧ ν (t + 5) z = nI (a 3) := by
  refine ⟨hn_up (hn_up (hn_up (hn_up (hn_up μ (t + 1) z (nI L)) (t + 2) z (nI (a 0))) (t + 3) z (nI (a 1))) (t + 4) z (nI (a 2))) (t + 5) z (nI (a 3)), ?_, fun k hk => ?_, fun k i hi => ?_, ?_, ?_, ?_, ?_, ?_⟩
  · unfold fX0_readItem_77
    have u : ∀ (ξ : hn_M) (j : Nat) (x : Int32), 1 ≤ j → j ≤ 5 → hn_up ξ (t + j) z x t = ξ t := fun ξ j x h1 h2 => hn_up_ne (by omega)
    have w : ∀ (ξ : hn_M) (j : Nat) (x : Int32), 1 ≤ j → j ≤ 5 → hn_up ξ (t + j) z x (t + 6) = ξ (t + 6) := fun ξ j x h1 h2 => hn_up_ne (by omega)
    rw [h6, hn_wr_at hz (by decide), hn_rd_0 (by decide) (by decide), w _ 1 _ (by omega) (by omega), ha 0 (by omega), u _ 1 _ (by omega) (by omega), h6, hn_wr_at hz (by decide), hn_rd_1 (by decide) (by decide), w _ 2 _ (by omega) (by omega), w _ 1 _ (by omega) (by omega), ha 1 (by omega), u _ 2 _ (by omega) (by omega), u _ 1 _ (by omega) (by omega), h6, hn_wr_at hz (by decide), hn_rd_2 (by decide) (by decide), w _ 3 _ (by omega) (by omega), w _ 2 _ (by omega) (by omega), w _ 1 _ (by omega) (by omega), ha 2 (by omega), u _ 3 _ (by omega) (by omega), u _ 2 _ (by omega) (by omega), u _ 1 _ (by omega) (by omega), h6, hn_wr_at hz (by decide), hn_rd_3 (by decide) (by decide), w _ 4 _ (by omega) (by omega), w _ 3 _ (by omega) (by omega), w _ 2 _ (by omega) (by omega), w _ 1 _ (by omega) (by omega), ha 3 (by omega), u _ 4 _ (by omega) (by omega), u _ 3 _ (by omega) (by omega), u _ 2 _ (by omega) (by omega), u _ 1 _ (by omega) (by omega), h6, hn_wr_at hz (by decide)]
  · rw [hn_up_ne (by omega), hn_up_ne (by omega), hn_up_ne (by omega), hn_up_ne (by omega), hn_up_ne (by omega)]
  · have u : ∀ (ξ : hn_M) (j : Nat) (x : Int32), hn_up ξ j z x k i = ξ k i := fun ξ j x => by
      by_cases hkj : k = j
      · rw [hkj, hn_up_off hi]
      · rw [hn_up_ne hkj]
    rw [u, u, u, u, u]
  · rw [hn_up_ne (by omega), hn_up_ne (by omega), hn_up_ne (by omega), hn_up_ne (by omega), hn_up_at]
  · rw [hn_up_ne (by omega), hn_up_ne (by omega), hn_up_ne (by omega), hn_up_at]
  · rw [hn_up_ne (by omega), hn_up_ne (by omega), hn_up_at]
  · rw [hn_up_ne (by omega), hn_up_at]
  · rw [hn_up_at]
theorem it_7 (ht : t = 58 ∨ t = 65) (ok : tx_ok T N) (hF : 12000 ≤ F) (hC : tx_C μ T N) {p z : Nat} (h7 : μ t 7 = nI p) (hp : p < N) (h6 : μ t 6 = nI z) (hz : z < 40) : ∃ w μ', fX0_readItem F t μ = some (w, μ') ∧ (∀ k, k < t ∨ t + 6 < k → μ' k = μ k) ∧
    ((w = 0 ∧ tx_ps T N p = none) ∨ (w = 1 ∧ ∃ e p', tx_ps T N p = some (e, p') ∧ μ' t 7 = nI p' ∧ p' ≤ N ∧ μ' t 6 = nI z ∧ (∀ k i, t + 1 ≤ k → k ≤ t + 5 → i ≠ z → μ' k i = μ k i) ∧ μ' (t + 1) z = nI e.1 ∧ μ' (t + 2) z = nI e.2.1 ∧ μ' (t + 3) z = nI e.2.2.1 ∧ μ' (t + 4) z = nI e.2.2.2.1 ∧ μ' (t + 5) z = nI e.2.2.2.2)) := by
  have on := ok.1
  unfold fX0_readItem
  rw [h7, tx_byte hC ok (by omega), Option.bind_some, if_pos hp, it_kind hF (ok.2 p hp), Option.bind_some]
  cases hk : tx_kd (T p) with
  | none =>
    rw [if_pos te1_none]
    exact ⟨0, μ, rfl, fun k _ => rfl, Or.inl ⟨rfl, ps_none hk⟩⟩
  | some L =>
    have hL := (tx_kd_b hk).1
    rw [if_neg (te1_ne (by omega))]
    show ∃ w μ', ((fX0_readParts F t (nI L) (hn_up μ t 7 (nI p + 1))).bind fun w15 => if w15.1 = 0 then some (0, w15.2) else if nI L = 3 then hn_rd w15.2 (t + 6) 4 1 fun v16 => if v16 < 1 then some (0, w15.2) else fX0_readItem_55 F t (nI L) w15.2 else fX0_readItem_55 F t (nI L) w15.2) = some (w, μ') ∧ _
    obtain ⟨w, μ1, r1, r2, r3⟩ := tx_pr7 (O := μ) (F := F) ht ok hF hL (last := if L = 5 then 3 else 2) (by split <;> omega) 4 0 (p + 1) F tx_z (hn_up μ t 7 (nI (p + 1))) (by omega) (by omega) ⟨by rw [hn_up_ne (by omega)]; exact hC.1, by rw [hn_up_ne (by omega)]; exact hC.2⟩ hn_up_at (by omega) ⟨fun k k1 _ => hn_up_ne k1, fun i hi => hn_up_off hi⟩ (fun j hj => by omega)
    have rp : fX0_readParts F t (nI L) (hn_up μ t 7 (nI p + 1)) = some (w, μ1) := by
      unfold fX0_readParts fX0_readParts_10
      rw [nI_1]
      by_cases h5 : L = 5
      · rw [if_pos h5] at r1
        rw [if_pos (by rw [h5]; rfl)]
        exact r1
      · rw [if_neg h5] at r1
        rw [if_neg (by rw [show (5 : Int32) = nI 5 from rfl, nI_eq (by omega) (by decide)]; exact h5)]
        exact r1
    rw [rp, Option.bind_some]
    dsimp only
    have fr : ∀ k, k < t ∨ t + 6 < k → μ1 k = μ k := fun k hk => r2.1 k (by omega) (by omega)
    rcases r3 with ⟨rfl, r3⟩ | ⟨rfl, a, p', r3, r4, r5, r6⟩
    · rw [if_pos (show (0 : Int32) = 0 from rfl)]
      exact ⟨0, μ1, rfl, fr, Or.inl ⟨rfl, ps_no hk r3⟩⟩
    rw [if_neg (show ¬ (1 : Int32) = 0 by decide)]
    have ps := ps_some hk r3
    have ab : L = 3 → a 1 < 1000 := by
      intro h3
      subst h3
      rcases mo_2 (T := T) (N := N) 3 999 rfl rfl rfl rfl (p + 1) with ⟨_, z2⟩ | ⟨a', p2, _, _, _, z3, ⟨_, b, z4, _, z5, _⟩ | ⟨_, z4⟩⟩
      · rw [show tx_pr T N 3 (if 3 = 5 then 3 else 2) 4 0 (p + 1) tx_z = tx_pr T N 3 2 4 0 (p + 1) tx_z from rfl] at r3; rw [z2] at r3; cases r3
      · rw [show tx_pr T N 3 (if 3 = 5 then 3 else 2) 4 0 (p + 1) tx_z = tx_pr T N 3 2 4 0 (p + 1) tx_z from rfl] at r3; rw [z4] at r3; cases r3
        rw [z5]; exact z3 0 (by omega)
      · rw [show tx_pr T N 3 (if 3 = 5 then 3 else 2) 4 0 (p + 1) tx_z = tx_pr T N 3 2 4 0 (p + 1) tx_z from rfl] at r3; rw [z4] at r3; cases r3
    have ab5 : L = 5 → a 2 < 1000 ∧ a 3 < 1000 := by
      intro h5
      subst h5
      rcases mo_4 (T := T) (N := N) (p + 1) with ⟨_, z2⟩ | ⟨a', p2, _, _, z3, ⟨_, _, b, z4, _, _, z5, z6⟩ | ⟨_, z4⟩⟩
      · rw [show tx_pr T N 5 (if 5 = 5 then 3 else 2) 4 0 (p + 1) tx_z = tx_pr T N 5 3 4 0 (p + 1) tx_z from rfl] at r3; rw [z2] at r3; cases r3
      · rw [show tx_pr T N 5 (if 5 = 5 then 3 else 2) 4 0 (p + 1) tx_z = tx_pr T N 5 3 4 0 (p + 1) tx_z from rfl] at r3; rw [z4] at r3; cases r3
        rw [z5, z6]; exact ⟨z3 2 (by omega), z3 3 (by omega)⟩
      · rw [show tx_pr T N 5 (if 5 = 5 then 3 else 2) 4 0 (p + 1) tx_z = tx_pr T N 5 3 4 0 (p + 1) tx_z from rfl] at r3; rw [z4] at r3; cases r3
    have h61 : μ1 t 6 = nI z := by rw [r2.2 6 (by decide)]; exact h6
    obtain ⟨ν, s1, s2, s3, s4, s5, s6, s7, s8⟩ := it_77 (F := F) (L := L) h61 hz r6
    -- the end, where nothing is amiss
    have good : ¬ ((L = 3 ∧ a 1 < 1) ∨ (L = 5 ∧ a 3 < a 2)) → (∀ k, k < t ∨ t + 6 < k → ν k = μ k) ∧ (∃ e q, tx_ps T N p = some (e, q) ∧ ν t 7 = nI q ∧ q ≤ N ∧ ν t 6 = nI z ∧ (∀ k i, t + 1 ≤ k → k ≤ t + 5 → i ≠ z → ν k i = μ k i) ∧ ν (t + 1) z = nI e.1 ∧ ν (t + 2) z = nI e.2.1 ∧ ν (t + 3) z = nI e.2.2.1 ∧ ν (t + 4) z = nI e.2.2.2.1 ∧ ν (t + 5) z = nI e.2.2.2.2) := by
      intro hz2
      rw [if_neg hz2] at ps
      refine ⟨fun k hk => by rw [s2 k (by omega)]; exact fr k hk, (L, a 0, a 1, a 2, a 3), p', ps, by rw [s2 t (by omega)]; exact r4, r5, by rw [s2 t (by omega)]; exact h61, fun k i k1 k2 hi => by rw [s3 k i hi, r2.1 k (by omega) (by omega)], s4, s5, s6, s7, s8⟩
    by_cases h3 : L = 3
    · rw [if_pos (by rw [h3]; rfl), hn_rd_1 (by decide) (by decide), r6 1 (by omega)]
      have := ab h3
      by_cases c : a 1 < 1
      · rw [if_pos (show nI (a 1) < 1 from nI_lt (b := 1) c (by decide)), if_pos (Or.inl ⟨h3, c⟩)] at *
        exact ⟨0, μ1, rfl, fr, Or.inl ⟨rfl, ps⟩⟩
      · rw [if_neg (show ¬ nI (a 1) < 1 from by rw [show (1 : Int32) = nI 1 from rfl]; exact nI_nlt (by omega) (by omega))]
        unfold fX0_readItem_55
        rw [if_neg (by rw [h3]; decide), s1]
        obtain ⟨g1, g2⟩ := good (by omega)
        exact ⟨1, ν, rfl, g1, Or.inr ⟨rfl, g2⟩⟩
    · rw [if_neg (by rw [show (3 : Int32) = nI 3 from rfl, nI_eq (by omega) (by decide)]; exact h3)]
      unfold fX0_readItem_55
      by_cases h5 : L = 5
      · have := ab5 h5
        rw [if_pos (by rw [h5]; rfl), hn_rd_2 (by decide) (by decide), hn_rd_3 (by decide) (by decide), r6 2 (by omega), r6 3 (by omega)]
        by_cases c : a 2 ≤ a 3
        · rw [if_pos (by rw [hn_leN (by omega) (by omega)]; exact c), s1]
          obtain ⟨g1, g2⟩ := good (by omega)
          exact ⟨1, ν, rfl, g1, Or.inr ⟨rfl, g2⟩⟩
        · rw [if_neg (by rw [hn_leN (by omega) (by omega)]; exact c)]
          rw [if_pos (Or.inr ⟨h5, by omega⟩)] at ps
          exact ⟨0, μ1, rfl, fr, Or.inl ⟨rfl, ps⟩⟩
      · rw [if_neg (by rw [show (5 : Int32) = nI 5 from rfl, nI_eq (by omega) (by decide)]; exact h5), s1]
        obtain ⟨g1, g2⟩ := good (by omega)
        exact ⟨1, ν, rfl, g1, Or.inr ⟨rfl, g2⟩⟩
/-- numbers, from the beginning -/
theorem it_nu (ok : tx_ok T N) (hF : 12000 ≤ F) {many : Nat} (hm : 1 ≤ many ∧ many ≤ 4) {p : Nat} (hM : tx_M μ T N) (h24 : μ 72 24 = nI p) (hp : p ≤ N) (hfr : tx_frM O μ) : ∃ w μ', fX8_numbers F (nI many) μ = some (w, μ') ∧ tx_frM O μ' ∧ ((w = 0 ∧ tx_nu T N many many 0 p tx_z = none) ∨ (w = 1 ∧ ∃ a' p', tx_nu T N many many 0 p tx_z = some (a', p') ∧ μ' 72 24 = nI p' ∧ p' ≤ N ∧ ∀ j, j < 4 → μ' 92 j = nI (a' j))) := by
  obtain ⟨μ1, h1, h2⟩ := hn_loopE (fun n j s => fX8_numbers_2 F n (nI many) (nI j) s) 4 (fun s => fX8_numbers_20 F (nI many) s) (fun j s => (∀ k, k ≠ 92 → s k = μ k) ∧ ∀ i, i < j → s 92 i = 0)
    (fun n s _ => by
      show fX8_numbers_2 F (n + 1) (nI many) (nI 4) s = _
      rw [fX8_numbers_2, if_pos (by decide)])
    (fun n j s hj hi => by
      refine ⟨hn_up s 92 j 0, ?_, fun k hk => by rw [hn_up_ne hk]; exact hi.1 k hk, fun i hi2 => ?_⟩
      · show fX8_numbers_2 F (n + 1) (nI many) (nI j) s = _
        rw [fX8_numbers_2, if_neg (show ¬ (4 : Int32) ≤ nI j from hn_ge (b := 4) hj (by decide)), hn_wr_at hj (by decide), nI_1]
      · rw [hn_upk]
        by_cases hij : i = j
        · rw [if_pos hij]
        · rw [if_neg hij]; exact hi.2 i (by omega))
    4 0 F μ (by omega) (by omega) ⟨fun k _ => rfl, fun i hi => by omega⟩
  have h1 : fX8_numbers F (nI many) μ = fX8_numbers_20 F (nI many) μ1 := h1
  rw [h1]
  exact tx_nu8 ok hF hm many 0 p F tx_z μ1 (by omega) (by omega) ⟨by rw [h2.1 72 (by decide)]; exact hM.1, by rw [h2.1 84 (by decide)]; exact hM.2⟩ (by rw [h2.1 72 (by decide)]; exact h24) hp ⟨fun k k1 k2 => by rw [h2.1 k k2]; exact hfr.1 k k1 k2, fun i hi => by rw [h2.1 72 (by decide)]; exact hfr.2 i hi⟩ (fun j hj => by rw [h2.2 j hj]; rfl)
end im
