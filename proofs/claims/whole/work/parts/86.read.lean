/-! all items of a text, by the class and by the model -/
def tx_all (T : Nat → Nat) (N : Nat) : Nat → Nat → Nat → hn_It → Option Nat × Nat × hn_It
  | 0, _, z, It => (none, z, It)
  | c + 1, p, z, It => if N ≤ p then (none, z, It) else match tx_ps T N p with
    | none => (some p, z, It)
    | some (e, p') => tx_all T N c p' (z + 1) (fun i => if i = z then e else It i)
section rd
variable {μ O ν : hn_M} {T : Nat → Nat} {N F t : Nat}
theorem ta_e {c p z : Nat} {It : hn_It} (h : N ≤ p) : tx_all T N (c + 1) p z It = (none, z, It) := by
  simp only [tx_all]
  exact if_pos h
theorem ta_n {c p z : Nat} {It : hn_It} (h : ¬ N ≤ p) (h2 : tx_ps T N p = none) : tx_all T N (c + 1) p z It = (some p, z, It) := by
  simp only [tx_all]
  rw [if_neg h, h2]
theorem ta_s {c p z p' : Nat} {It : hn_It} {e : Nat × Nat × Nat × Nat × Nat} (h : ¬ N ≤ p) (h2 : tx_ps T N p = some (e, p')) : tx_all T N (c + 1) p z It = tx_all T N c p' (z + 1) (fun i => if i = z then e else It i) := by
  simp only [tx_all]
  rw [if_neg h, h2]
theorem tx_ps_ok (ok : tx_ok T N) {p : Nat} (hp : p < N) {e : Nat × Nat × Nat × Nat × Nat} {p' : Nat} (h : tx_ps T N p = some (e, p')) : p + 5 ≤ p' ∧ p' ≤ N ∧ tx_io e ∧ T p = hn_lett e.1 := by
  obtain ⟨w, μ', _, _, g⟩ := it_8 (F := 12000) (μ := fun k i => if k = 72 then (if i = 14 then nI N else nI p) else nI (T i)) ok (Nat.le_refl _) ⟨rfl, fun i _ => rfl⟩ (p := p) rfl hp
  rcases g with ⟨_, g⟩ | ⟨_, e2, p2, g, g1, g2, g3, g4, g5, g6⟩
  · rw [h] at g; cases g
  · rw [h] at g; cases g
    exact ⟨g1, g2, g4, g5⟩
theorem tx_all_ok (ok : tx_ok T N) : ∀ (c p z : Nat) (It : hn_It), p ≤ N → 5 * z ≤ p → (∀ i, i < z → tx_io (It i)) → okI (tx_all T N c p z It).2.1 (tx_all T N c p z It).2.2 := by
  have on := ok.1
  intro c
  induction c with
  | zero => intro p z It hp h5 h; exact ⟨by show z ≤ 40; omega, h⟩
  | succ c ih =>
    intro p z It hp h5 h
    by_cases hN : N ≤ p
    · rw [ta_e hN]; exact ⟨by show z ≤ 40; omega, h⟩
    cases hx : tx_ps T N p with
    | none => rw [ta_n hN hx]; exact ⟨by show z ≤ 40; omega, h⟩
    | some q =>
      obtain ⟨e, p'⟩ := q
      rw [ta_s hN hx]
      have g := tx_ps_ok ok (by omega) hx
      refine ih p' (z + 1) _ g.2.1 (by omega) (fun i hi => ?_)
      by_cases hz : i = z
      · simp only [if_pos hz]; exact g.2.2.1
      · simp only [if_neg hz]; exact h i (by omega)
theorem tx_all_b : ∀ (c p z : Nat) (It : hn_It) (b : Nat), (tx_all T N c p z It).1 = some b → b < N := by
  intro c
  induction c with
  | zero => intro p z It b h; cases h
  | succ c ih =>
    intro p z It b h
    by_cases hN : N ≤ p
    · rw [ta_e hN] at h; cases h
    cases hx : tx_ps T N p with
    | none => rw [ta_n hN hx] at h; cases h; omega
    | some q =>
      obtain ⟨e, p'⟩ := q
      rw [ta_s hN hx] at h
      exact ih _ _ _ _ h
theorem rd_7 (ht : t = 58 ∨ t = 65) (ok : tx_ok T N) (hF : 12000 ≤ F) : ∀ (c p z n : Nat) (It : hn_It) (μ : hn_M), N - p < c → c ≤ n → tx_C μ T N → μ t 7 = nI p → p ≤ N → 5 * z ≤ p → repI μ t z It → (∀ k, k < t ∨ t + 6 < k → μ k = O k) →
    ∃ μ', fX0_read_10 F t n μ = some (te4 (tx_all T N c p z It).1, μ') ∧ (∀ k, k < t ∨ t + 6 < k → μ' k = O k) ∧ ((tx_all T N c p z It).1 = none → repI μ' t (tx_all T N c p z It).2.1 (tx_all T N c p z It).2.2) := by
  have on := ok.1
  intro c
  induction c with
  | zero => intro p z n It μ hc; omega
  | succ c ih =>
    intro p z n It μ hc hn hC h7 hp h5 hI hfr
    obtain ⟨n, rfl⟩ : ∃ n', n = n' + 1 := ⟨n - 1, by omega⟩
    rw [fX0_read_10, hC.1, h7]
    by_cases hN : N ≤ p
    · rw [if_pos (by rw [hn_leN (by omega) (by omega)]; exact hN)]
      unfold fX0_read_58
      rw [hC.1, h7, if_pos (by rw [hn_leN (by omega) (by omega)]; exact hN), ta_e hN]
      exact ⟨μ, rfl, hfr, fun _ => hI⟩
    · rw [if_neg (by rw [hn_leN (by omega) (by omega)]; exact hN), hI.1, if_neg (show ¬ (40 : Int32) ≤ nI z from hn_ge (b := 40) (by omega) (by decide))]
      obtain ⟨w, μ1, r1, r2, r3⟩ := it_7 (F := F) ht ok hF hC h7 (by omega) hI.1 (by omega)
      rw [r1, Option.bind_some]
      dsimp only
      rcases r3 with ⟨rfl, r3⟩ | ⟨rfl, e, p', r3, r4, r5, r6, r7, s1, s2, s3, s4, s5⟩
      · rw [if_pos (show (0 : Int32) = 0 from rfl), ta_n hN r3]
        exact ⟨μ1, rfl, fun k hk => by rw [r2 k hk]; exact hfr k hk, fun z => by cases z⟩
      · rw [if_neg (show ¬ (1 : Int32) = 0 by decide), ta_s hN r3]
        unfold hn_pf
        rw [r6, nI_1]
        have q := tx_ps_ok ok (by omega) r3
        refine ih p' (z + 1) n _ _ (by omega) (by omega) ⟨?_, ?_⟩ ?_ q.2.1 (by omega) ⟨hn_up_at, fun i hi => ?_⟩ (fun k hk => ?_)
        · rw [hn_up_ne (by omega), r2 54 (by omega)]; exact hC.1
        · rw [hn_up_ne (by omega), r2 55 (by omega)]; exact hC.2
        · rw [hn_up_off (by decide)]; exact r4
        · rw [hn_up_ne (show t + 1 ≠ t by omega), hn_up_ne (show t + 2 ≠ t by omega), hn_up_ne (show t + 3 ≠ t by omega), hn_up_ne (show t + 4 ≠ t by omega), hn_up_ne (show t + 5 ≠ t by omega)]
          by_cases hz : i = z
          · simp only [if_pos hz]; rw [hz]; exact ⟨s1, s2, s3, s4, s5⟩
          · simp only [if_neg hz]
            rw [r7 (t + 1) i (by omega) (by omega) hz, r7 (t + 2) i (by omega) (by omega) hz, r7 (t + 3) i (by omega) (by omega) hz, r7 (t + 4) i (by omega) (by omega) hz, r7 (t + 5) i (by omega) (by omega) hz]
            exact hI.2 i (by omega)
        · rw [hn_up_ne (by omega), r2 k hk]; exact hfr k hk
theorem rd_7a (ht : t = 58 ∨ t = 65) (ok : tx_ok T N) (hF : 12000 ≤ F) (hC : tx_C μ T N) (It : hn_It) : ∃ μ', fX0_read F t μ = some (te4 (tx_all T N (N + 1) 0 0 It).1, μ') ∧ (∀ k, k < t ∨ t + 6 < k → μ' k = μ k) ∧ ((tx_all T N (N + 1) 0 0 It).1 = none → repI μ' t (tx_all T N (N + 1) 0 0 It).2.1 (tx_all T N (N + 1) 0 0 It).2.2) := by
  have on := ok.1
  unfold fX0_read hn_pf
  refine rd_7 (O := μ) ht ok hF (N + 1) 0 0 F It _ (by omega) (by omega) ⟨?_, ?_⟩ hn_up_at (Nat.zero_le _) (Nat.le_refl _) ⟨?_, fun i hi => by omega⟩ (fun k hk => ?_)
  · rw [hn_up_ne (by omega), hn_up_ne (by omega)]; exact hC.1
  · rw [hn_up_ne (by omega), hn_up_ne (by omega)]; exact hC.2
  · rw [hn_up_off (by decide)]; exact hn_up_at
  · rw [hn_up_ne (by omega), hn_up_ne (by omega)]
/-- what the model's reading may touch -/
def rd_fr (O μ : hn_M) : Prop := (∀ k, k ≠ 72 → k ≠ 85 → k ≠ 86 → k ≠ 92 → μ k = O k) ∧ (∀ i, i ≠ 24 → μ 72 i = O 72 i) ∧ (∀ i, i ≠ 0 → μ 85 i = O 85 i) ∧ (∀ i, 200 ≤ i → μ 86 i = O 86 i)
def rd_up (μ : hn_M) (z : Nat) (x y1 y2 y3 y4 : Int32) : hn_M := hn_up (hn_up (hn_up (hn_up (hn_up (hn_up μ 86 (5 * z) x) 86 (5 * z + 1) y1) 86 (5 * z + 2) y2) 86 (5 * z + 3) y3) 86 (5 * z + 4) y4) 85 0 (nI (z + 1))
theorem rd_u86 {z j : Nat} {x y1 y2 y3 y4 : Int32} : rd_up μ z x y1 y2 y3 y4 86 j = if j = 5 * z + 4 then y4 else if j = 5 * z + 3 then y3 else if j = 5 * z + 2 then y2 else if j = 5 * z + 1 then y1 else if j = 5 * z then x else μ 86 j := by
  unfold rd_up
  rw [hn_up_ne (by decide), hn_upk, hn_upk, hn_upk, hn_upk, hn_upk]
theorem rd_une {z k : Nat} {x y1 y2 y3 y4 : Int32} (h5 : k ≠ 85) (h6 : k ≠ 86) : rd_up μ z x y1 y2 y3 y4 k = μ k := by
  unfold rd_up
  rw [hn_up_ne h5, hn_up_ne h6, hn_up_ne h6, hn_up_ne h6, hn_up_ne h6, hn_up_ne h6]
theorem rd_st0 {z : Nat} (hz : z < 40) (h85 : μ 85 0 = nI z) (x : Int32) (K : hn_M → Option (Int32 × hn_M)) : fX8_readAll_76 F K (nI (5 * z)) x 0 μ = K (rd_up μ z x (μ 92 0) (μ 92 1) (μ 92 2) (μ 92 3)) := by
  have a2 : nI (5 * z) + 2 = nI (5 * z + 2) := nI_add _ 2
  have a3 : nI (5 * z) + 3 = nI (5 * z + 3) := nI_add _ 3
  have a4 : nI (5 * z) + 4 = nI (5 * z + 4) := nI_add _ 4
  have n1 : (92 : Nat) ≠ 86 := by decide
  have n2 : (85 : Nat) ≠ 86 := by decide
  unfold fX8_readAll_76 fX8_readAll_107 fX8_readAll_135 fX8_readAll_163
  simp only [a2, a3, a4, nI_1, if_pos (show (0 : Int32) = 0 from rfl)]
  rw [hn_wr_at (by omega) (by decide), hn_rd_0 (by decide) (by decide), hn_wr_at (by omega) (by decide), hn_rd_1 (by decide) (by decide), hn_wr_at (by omega) (by decide), hn_rd_2 (by decide) (by decide), hn_wr_at (by omega) (by decide), hn_rd_3 (by decide) (by decide), hn_wr_at (by omega) (by decide), hn_rd_0 (by decide) (by decide), hn_wr_0 (by decide) (by decide)]
  simp only [hn_up_ne n1, hn_up_ne n2, h85, nI_1]
  rfl
theorem rd_st1 {z : Nat} (hz : z < 40) (h85 : μ 85 0 = nI z) (x : Int32) (K : hn_M → Option (Int32 × hn_M)) : fX8_readAll_71 F K (nI (5 * z)) x μ = K (rd_up μ z x 0 (μ 92 0) (μ 92 1) (μ 92 3)) := by
  have a2 : nI (5 * z) + 2 = nI (5 * z + 2) := nI_add _ 2
  have a3 : nI (5 * z) + 3 = nI (5 * z + 3) := nI_add _ 3
  have a4 : nI (5 * z) + 4 = nI (5 * z + 4) := nI_add _ 4
  have n1 : (92 : Nat) ≠ 86 := by decide
  have n2 : (85 : Nat) ≠ 86 := by decide
  unfold fX8_readAll_71 fX8_readAll_76 fX8_readAll_107 fX8_readAll_135 fX8_readAll_163
  simp only [a2, a3, a4, nI_1, if_neg (show ¬ (1 : Int32) = 0 by decide)]
  rw [hn_wr_at (by omega) (by decide), hn_wr_at (by omega) (by decide), hn_rd_0 (by decide) (by decide), hn_wr_at (by omega) (by decide), hn_rd_1 (by decide) (by decide), hn_wr_at (by omega) (by decide), hn_rd_3 (by decide) (by decide), hn_wr_at (by omega) (by decide), hn_rd_0 (by decide) (by decide), hn_wr_0 (by decide) (by decide)]
  simp only [hn_up_ne n1, hn_up_ne n2, h85, nI_1]
  rfl
/-- the model lays an item -/
theorem rd_lay {z : Nat} (hz : z < 40) (h85 : μ 85 0 = nI z) {e : Nat × Nat × Nat × Nat × Nat} (hio : tx_io e) (hT : tx_tl μ e) (K : hn_M → Option (Int32 × hn_M)) : (if nI (hn_lett e.1) = 111 then fX8_readAll_71 F K (nI (5 * z)) (nI (hn_lett e.1)) μ else if nI (hn_lett e.1) = 98 then fX8_readAll_71 F K (nI (5 * z)) (nI (hn_lett e.1)) μ else if nI (hn_lett e.1) = 120 then fX8_readAll_71 F K (nI (5 * z)) (nI (hn_lett e.1)) μ else fX8_readAll_76 F K (nI (5 * z)) (nI (hn_lett e.1)) 0 μ) = K (rd_up μ z (nI (hn_lett e.1)) (nI e.2.1) (nI e.2.2.1) (nI e.2.2.2.1) (nI e.2.2.2.2)) := by
  obtain ⟨t3, tt⟩ := hT
  obtain ⟨L, x, y, d, u⟩ := e
  dsimp only at t3 tt ⊢
  have hL : L < 6 := hio.1
  rcases tt with ⟨b1, b2, b3, b4, b5⟩ | ⟨b1, b2, b3, b4⟩
  · have e1 := rd_st1 (F := F) hz h85 (nI (hn_lett L)) K
    rw [b4, b5, t3] at e1
    rw [b3, show nI 0 = (0 : Int32) from rfl, ← e1]
    have : L = 2 ∨ L = 3 ∨ L = 4 := by omega
    rcases this with rfl | rfl | rfl
    · rw [if_pos (by decide)]
    · rw [if_neg (by decide), if_pos (by decide)]
    · rw [if_neg (by decide), if_neg (by decide), if_pos (by decide)]
  · have e1 := rd_st0 (F := F) hz h85 (nI (hn_lett L)) K
    rw [b2, b3, b4, t3] at e1
    rw [← e1]
    have : L = 0 ∨ L = 1 ∨ L = 5 := by omega
    rcases this with rfl | rfl | rfl
    · rw [if_neg (by decide), if_neg (by decide), if_neg (by decide)]
    · rw [if_neg (by decide), if_neg (by decide), if_neg (by decide)]
    · rw [if_neg (by decide), if_neg (by decide), if_neg (by decide)]
theorem rd_8 (ok : tx_ok T N) (hF : 12000 ≤ F) : ∀ (c p z n : Nat) (It : hn_It) (μ : hn_M), N - p < c → c ≤ n → tx_M μ T N → μ 72 24 = nI p → p ≤ N → 5 * z ≤ p → repJ μ 0 z It → rd_fr O μ →
    ∃ μ', fX8_readAll_12 F n μ = some (te4 (tx_all T N c p z It).1, μ') ∧ rd_fr O μ' ∧ ((tx_all T N c p z It).1 = none → repJ μ' 0 (tx_all T N c p z It).2.1 (tx_all T N c p z It).2.2) := by
  have on := ok.1
  intro c
  induction c with
  | zero => intro p z n It μ hc; omega
  | succ c ih =>
    intro p z n It μ hc hn hM h24 hp h5 hJ hfr
    obtain ⟨n, rfl⟩ : ∃ n', n = n' + 1 := ⟨n - 1, by omega⟩
    rw [fX8_readAll_12, hM.1, h24]
    by_cases hN : N ≤ p
    · rw [if_pos (by rw [hn_leN (by omega) (by omega)]; exact hN), ta_e hN]
      exact ⟨μ, rfl, hfr, fun _ => hJ⟩
    · rw [if_neg (by rw [hn_leN (by omega) (by omega)]; exact hN)]
      obtain ⟨w, μ1, r1, r2, r3⟩ := it_8 (F := F) ok hF hM h24 (by omega)
      rw [r1, Option.bind_some]
      dsimp only
      have fr1 : rd_fr O μ1 := ⟨fun k k1 k2 k3 k4 => by rw [r2.1 k k1 k4]; exact hfr.1 k k1 k2 k3 k4, fun i hi => by rw [r2.2 i hi]; exact hfr.2.1 i hi, fun i hi => by rw [r2.1 85 (by decide) (by decide)]; exact hfr.2.2.1 i hi, fun i hi => by rw [r2.1 86 (by decide) (by decide)]; exact hfr.2.2.2 i hi⟩
      rcases r3 with ⟨rfl, r3⟩ | ⟨rfl, e, p', r3, r4, r5, r6, r7, r8, r9⟩
      · rw [if_pos (show (0 : Int32) = 0 from rfl), ta_n hN r3]
        exact ⟨μ1, rfl, fr1, fun z => by cases z⟩
      · have h85 : μ1 85 0 = nI z := by rw [r2.1 85 (by decide) (by decide)]; exact hJ.1
        rw [if_neg (show ¬ (1 : Int32) = 0 by decide), hn_rd_0 (by decide) (by decide), h85, hn_rd_at (by omega) (by decide), r2.1 84 (by decide) (by decide), hM.2 p (by omega), hn_ix5, r8, rd_lay (by omega) h85 r7 r9, ta_s hN r3]
        refine ih p' (z + 1) n _ _ (by omega) (by omega) ⟨?_, ?_⟩ ?_ r5 (by omega) ⟨?_, fun i hi => ?_⟩ ⟨fun k k1 k2 k3 k4 => ?_, fun i hi => ?_, fun i hi => ?_, fun i hi => ?_⟩
        · rw [rd_une (by decide) (by decide), r2.2 14 (by decide)]; exact hM.1
        · rw [rd_une (by decide) (by decide), r2.1 84 (by decide) (by decide)]; exact hM.2
        · rw [rd_une (by decide) (by decide)]; exact r6
        · exact hn_up_at
        · rw [rd_u86, rd_u86, rd_u86, rd_u86, rd_u86]
          by_cases hz : i = z
          · simp only [if_pos hz]
            rw [hz]
            refine ⟨?_, ?_, ?_, ?_, ?_⟩
            · rw [if_neg (by omega), if_neg (by omega), if_neg (by omega), if_neg (by omega), if_pos (by omega)]
            · rw [if_neg (by omega), if_neg (by omega), if_neg (by omega), if_pos (by omega)]
            · rw [if_neg (by omega), if_neg (by omega), if_pos (by omega)]
            · rw [if_neg (by omega), if_pos (by omega)]
            · rw [if_pos (by omega)]
          · simp only [if_neg hz]
            have off : ∀ (j : Nat) (A B C D' E G : Int32), j < 5 * z → (if j = 5 * z + 4 then A else if j = 5 * z + 3 then B else if j = 5 * z + 2 then C else if j = 5 * z + 1 then D' else if j = 5 * z then E else G) = G := fun j A B C D' E G hj => by rw [if_neg (by omega), if_neg (by omega), if_neg (by omega), if_neg (by omega), if_neg (by omega)]
            rw [off _ _ _ _ _ _ _ (by omega), off _ _ _ _ _ _ _ (by omega), off _ _ _ _ _ _ _ (by omega), off _ _ _ _ _ _ _ (by omega), off _ _ _ _ _ _ _ (by omega), r2.1 86 (by decide) (by decide)]
            exact hJ.2 i (by omega)
        · rw [rd_une k2 k3]; exact fr1.1 k k1 k2 k3 k4
        · rw [rd_une (by decide) (by decide)]; exact fr1.2.1 i hi
        · show hn_up _ 85 0 _ 85 i = _
          rw [hn_up_off hi, hn_up_ne (by decide), hn_up_ne (by decide), hn_up_ne (by decide), hn_up_ne (by decide), hn_up_ne (by decide)]; exact fr1.2.2.1 i hi
        · rw [rd_u86, if_neg (by omega), if_neg (by omega), if_neg (by omega), if_neg (by omega), if_neg (by omega)]; exact fr1.2.2.2 i hi
theorem rd_8a (ok : tx_ok T N) (hF : 12000 ≤ F) (hM : tx_M μ T N) (It : hn_It) : ∃ μ', fX8_readAll F μ = some (te4 (tx_all T N (N + 1) 0 0 It).1, μ') ∧ rd_fr μ μ' ∧ ((tx_all T N (N + 1) 0 0 It).1 = none → repJ μ' 0 (tx_all T N (N + 1) 0 0 It).2.1 (tx_all T N (N + 1) 0 0 It).2.2) := by
  have on := ok.1
  unfold fX8_readAll hn_pf
  rw [hn_wr_0 (by decide) (by decide)]
  refine rd_8 (O := μ) ok hF (N + 1) 0 0 F It _ (by omega) (by omega) ⟨?_, ?_⟩ hn_up_at (Nat.zero_le _) (Nat.le_refl _) ⟨?_, fun i hi => by omega⟩ ⟨fun k k1 k2 k3 k4 => ?_, fun i hi => ?_, fun i hi => ?_, fun i hi => ?_⟩
  · rw [hn_up_off (by decide), hn_up_ne (by decide)]; exact hM.1
  · rw [hn_up_ne (by decide), hn_up_ne (by decide)]; exact hM.2
  · rw [hn_up_ne (by decide)]; exact hn_up_at
  · rw [hn_up_ne k1, hn_up_ne k2]
  · rw [hn_up_off hi, hn_up_ne (by decide)]
  · rw [hn_up_ne (by decide), hn_up_off hi]
  · rw [hn_up_ne (by decide), hn_up_ne (by decide)]
theorem tx_of (h : iT μ) : ∃ T N, tx_ok T N ∧ tx_C μ T N ∧ tx_M μ T N := by
  obtain ⟨n, h1, h2, h3, h4⟩ := h
  have e : ∀ i, i < n → (μ 84 i).toInt.toNat < 256 ∧ μ 84 i = nI (μ 84 i).toInt.toNat ∧ μ 55 i = hn_sx (μ 84 i).toInt.toNat := by
    intro i hi
    obtain ⟨b, b1, b2, b3⟩ := h4 i hi
    have e : (μ 84 i).toInt.toNat = b := by rw [b2, nI_toInt (by omega)]; rfl
    rw [e]
    exact ⟨b1, b2, b3⟩
  exact ⟨fun i => (μ 84 i).toInt.toNat, n, ⟨h1, fun i hi => (e i hi).1⟩, ⟨h2, fun i hi => (e i hi).2.2⟩, ⟨h3, fun i hi => (e i hi).2.1⟩⟩
end rd
