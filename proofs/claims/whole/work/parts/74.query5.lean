/-! beyond, worth -/
section q5
variable {μ ν : hn_M} {V : hn_Vw} {D S : Nat → Nat → Int} {o F : Nat}
theorem by_mul (b : Int64) : ∀ d j j' w, hn_it_ (fun _ p => p * b) d j w = w * hn_it_ (fun _ p => p * b) d j' (1 : Int64) := by
  intro d
  induction d with
  | zero => intro j j' w; show w = w * 1; rw [Int64.mul_one]
  | succ d ih =>
    intro j j' w
    show hn_it_ _ d (j + 1) (w * b) = w * hn_it_ _ d (j' + 1) (1 * b)
    rw [ih (j + 1) (j' + 1) (w * b), ih (j' + 1) (j' + 1) (1 * b), Int64.one_mul, Int64.mul_assoc]
def by_ch (N h : Nat) : Int64 := hn_it_ (fun i w => (w * ((nI N - nI h) + nI (i + 1)).toInt64) / (nI (i + 1)).toInt64) h 0 1
def by_pw (b : Int64) (d : Nat) : Int64 := hn_it_ (fun _ p => p * b) d 0 1
theorem by_n0 {i : Nat} (h : i < 1000) : ¬ (nI (i + 1)).toInt64 = 0 := by
  intro z
  have : (nI (i + 1)).toInt64.toInt = 0 := by rw [z]; rfl
  rw [Int32.toInt_toInt64, nI_toInt (by omega)] at this
  omega
theorem by_c7 {N h : Nat} (hF : 12000 ≤ F) (hh : h ≤ 15) : fX7_choices F (nI N) (nI h) = some (by_ch N h) := by
  have f := hn_fold (fun n j s => fX7_choices_5 F n (nI N) (nI h) s (nI (j + 1))) h (fun i w => (w * ((nI N - nI h) + nI (i + 1)).toInt64) / (nI (i + 1)).toInt64) some
    (fun n s => by
      show fX7_choices_5 F (n + 1) _ _ s (nI (h + 1)) = _
      rw [fX7_choices_5, if_pos (nI_lt (by omega) (by omega))])
    (fun n j s hj => by
      show fX7_choices_5 F (n + 1) _ _ s (nI (j + 1)) = _
      rw [fX7_choices_5, if_neg (nI_nlt (by omega) (by omega)), if_neg (by_n0 (by omega)), nI_1]) F 1 (by omega)
  exact f
theorem by_p7 {d : Nat} (hF : 12000 ≤ F) (hd : d ≤ 15) (l : Int32) : fX7_power F l (nI d) = some (by_pw l.toInt64 d) := by
  have f := hn_fold (fun n j s => fX7_power_5 F n l (nI d) s (nI j)) d (fun _ p => p * l.toInt64) some
    (fun n s => by
      show fX7_power_5 F (n + 1) _ _ s (nI d) = _
      rw [fX7_power_5, if_pos (by rw [hn_leN (by omega) (by omega)]; exact Nat.le_refl _)])
    (fun n j s hj => by
      show fX7_power_5 F (n + 1) _ _ s (nI j) = _
      rw [fX7_power_5, if_neg (by rw [hn_leN (by omega) (by omega)]; omega), nI_1]) F 1 (by omega)
  exact f
theorem by_8 {N h : Nat} (hF : 12000 ≤ F) (hN : N ≤ 15) (hh : h ≤ N) (l3 : Int32) (s : Int64) (k47 : Int32 → Int32 → Int64 → Int32 → Option Int64) : fX8_beyond_59 F k47 F (nI N) l3 s (nI h) 1 1 = k47 (nI N) l3 (s + by_ch N h * by_pw (l3 - 1).toInt64 (N - h)) (nI (h + 1)) := by
  have f := hn_fold (fun n j w => fX8_beyond_59 F k47 n (nI N) l3 s (nI h) w (nI (j + 1))) h (fun i w => (w * ((nI N - nI h) + nI (i + 1)).toInt64) / (nI (i + 1)).toInt64) (fun w => fX8_beyond_89 F k47 (nI N) l3 s (nI h) w)
    (fun n w => by
      show fX8_beyond_59 F k47 (n + 1) _ _ _ _ w (nI (h + 1)) = _
      rw [fX8_beyond_59, if_pos (nI_lt (by omega) (by omega))])
    (fun n j w hj => by
      show fX8_beyond_59 F k47 (n + 1) _ _ _ _ w (nI (j + 1)) = _
      rw [fX8_beyond_59, if_neg (nI_nlt (by omega) (by omega)), if_neg (by_n0 (by omega)), nI_1]) F 1 (by omega)
  have f : fX8_beyond_59 F k47 F (nI N) l3 s (nI h) 1 1 = fX8_beyond_89 F k47 (nI N) l3 s (nI h) (by_ch N h) := f
  rw [f]
  have g := hn_fold (fun n j w => fX8_beyond_93 F k47 n (nI N) l3 s (nI h) w (nI (h + j))) (N - h) (fun _ p => p * (l3 - 1).toInt64) (fun w => fX8_beyond_114 F k47 (nI N) l3 s (nI h) w)
    (fun n w => by
      show fX8_beyond_93 F k47 (n + 1) _ _ _ _ w (nI (h + (N - h))) = _
      rw [fX8_beyond_93, if_pos (by rw [hn_leN (by omega) (by omega)]; omega)])
    (fun n j w hj => by
      show fX8_beyond_93 F k47 (n + 1) _ _ _ _ w (nI (h + j)) = _
      rw [fX8_beyond_93, if_neg (by rw [hn_leN (by omega) (by omega)]; omega), nI_1]
      rfl) F (by_ch N h) (by omega)
  unfold fX8_beyond_89
  have g : fX8_beyond_93 F k47 F (nI N) l3 s (nI h) (by_ch N h) (nI h) = _ := g
  rw [g, by_mul _ (N - h) 0 0]
  unfold fX8_beyond_114
  rw [nI_1]
  rfl
theorem c_beyond (hF : 12000 ≤ F) (x y z : Int32) : ∃ r, fX7_beyond F x y z = some r ∧ fX8_beyond F x y z = some r := by
  have e1 : (1 : Int32).toInt = 1 := rfl
  have e15 : (15 : Int32).toInt = 15 := rfl
  have e2 : (2 : Int32).toInt = 2 := rfl
  have e10 : (10 : Int32).toInt = 10 := rfl
  have e0 : (0 : Int32).toInt = 0 := rfl
  by_cases hg : (1 ≤ x.toInt ∧ x.toInt ≤ 15) ∧ (0 ≤ y.toInt ∧ y.toInt ≤ x.toInt) ∧ (2 ≤ z.toInt ∧ z.toInt ≤ 10)
  rotate_left 1
  · refine ⟨-1, ?_, ?_⟩
    · unfold fX7_beyond
      simp only [hn_lt, hn_le, e1, e15, e2, e10, e0]
      by_cases h1 : x.toInt < 1
      · rw [if_pos h1]
      rw [if_neg h1]
      by_cases h2 : 15 < x.toInt
      · rw [if_pos h2]
      rw [if_neg h2]
      by_cases h3 : z.toInt < 2
      · rw [if_pos h3]
      rw [if_neg h3]
      by_cases h4 : 10 < z.toInt
      · rw [if_pos h4]
      rw [if_neg h4]
      by_cases h5 : y.toInt < 0
      · rw [if_pos h5]
      rw [if_neg h5, if_neg (fun h6 => hg ⟨by omega, by omega, by omega⟩)]
    · unfold fX8_beyond
      rw [hn_in8 x (a := 1) (b := 15) rfl rfl, hn_in8' (x := y) (y := x) (a := 0) (b := x.toInt) rfl rfl, hn_in8 z (a := 2) (b := 10) rfl rfl]
      by_cases h1 : 1 ≤ x.toInt ∧ x.toInt ≤ 15
      rotate_left 1
      · rw [hn_ckf h1]
      by_cases h2 : 0 ≤ y.toInt ∧ y.toInt ≤ x.toInt
      rotate_left 1
      · rw [hn_ckt h1, hn_ckf h2]
      rw [hn_ckt h1, hn_ckt h2, hn_ckf (fun q => hg ⟨h1, h2, q⟩)]
  obtain ⟨h1, h2, h3⟩ := hg
  have c7 : fX7_beyond F x y z = fX7_beyond_41 F F x z 0 y := by
    unfold fX7_beyond
    rw [if_neg (by rw [hn_lt, e1]; omega), if_neg (by rw [hn_lt, e15]; omega), if_neg (by rw [hn_lt, e2]; omega), if_neg (by rw [hn_lt, e10]; omega), if_neg (by rw [hn_lt, e0]; omega), if_pos (by rw [hn_le]; exact h2.2)]
  have c8 : fX8_beyond F x y z = fX8_beyond_47 F F x z 0 y := by
    unfold fX8_beyond
    rw [hn_in8 x (a := 1) (b := 15) rfl rfl, hn_in8' (x := y) (y := x) (a := 0) (b := x.toInt) rfl rfl, hn_in8 z (a := 2) (b := 10) rfl rfl, hn_ckt h1, hn_ckt h2, hn_ckt h3]
  obtain ⟨N, rfl, hN⟩ := hn_nat (x := x) (by omega)
  obtain ⟨k, rfl, hk⟩ := hn_nat (x := y) (by omega)
  have f7 := hn_fold (fun n j s => fX7_beyond_41 F n (nI N) z s (nI (k + j))) (N - k + 1) (fun j s => s + by_ch N (k + j) * by_pw (z - 1).toInt64 (N - (k + j))) some
    (fun n s => by
      show fX7_beyond_41 F (n + 1) _ _ s (nI (k + (N - k + 1))) = _
      rw [fX7_beyond_41, if_pos (nI_lt (by omega) (by omega))])
    (fun n j s hj => by
      show fX7_beyond_41 F (n + 1) _ _ s (nI (k + j)) = _
      rw [fX7_beyond_41, if_neg (nI_nlt (by omega) (by omega)), by_c7 hF (by omega), Option.bind_some, pk_sub (by omega), by_p7 hF (by omega), Option.bind_some, nI_1]
      rfl) F 0 (by omega)
  have f8 := hn_fold (fun n j s => fX8_beyond_47 F n (nI N) z s (nI (k + j))) (N - k + 1) (fun j s => s + by_ch N (k + j) * by_pw (z - 1).toInt64 (N - (k + j))) some
    (fun n s => by
      show fX8_beyond_47 F (n + 1) _ _ s (nI (k + (N - k + 1))) = _
      rw [fX8_beyond_47, if_pos (nI_lt (by omega) (by omega))])
    (fun n j s hj => by
      show fX8_beyond_47 F (n + 1) _ _ s (nI (k + j)) = _
      rw [fX8_beyond_47, if_neg (nI_nlt (by omega) (by omega)), by_8 hF (by omega) (by omega)]
      rfl) F 0 (by omega)
  rw [c7, c8]
  exact ⟨_, f7, f8⟩
theorem c_worth (x y w : Int32) : hn_cM (fun μ => fX7_worth x y w μ) (fun μ => fX8_worth x y w μ) := by
  intro μ ⟨V, D, S, o, hB, hS⟩
  have hI : hn_Inv μ := ⟨V, D, S, o, hB, hS⟩
  obtain ⟨i1, i2, i3, i4, i5, i6, i7⟩ := id hB
  have e0 : (0 : Int32).toInt = 0 := rfl
  have e6 : (6 : Int32).toInt = 6 := rfl
  have e4 : (4 : Int32).toInt = 4 := rfl
  have em : (-1000 : Int32).toInt = -1000 := rfl
  have ep : (1000 : Int32).toInt = 1000 := rfl
  show ∃ r μ1 μ2, fX7_worth x y w μ = some (r, μ1) ∧ fX8_worth x y w μ1 = some (r, μ2) ∧ _
  by_cases hg : (0 ≤ x.toInt ∧ x.toInt ≤ 5) ∧ (0 ≤ y.toInt ∧ y.toInt ≤ 3) ∧ (-1000 ≤ w.toInt ∧ w.toInt ≤ 1000)
  rotate_left 1
  · refine ⟨-10000, μ, μ, ?_, ?_, hI⟩
    · unfold fX7_worth
      simp only [hn_lt, hn_le, e0, e6, e4, em, ep]
      by_cases h1 : x.toInt < 0
      · rw [if_pos h1]
      rw [if_neg h1]
      by_cases h2 : 6 ≤ x.toInt
      · rw [if_pos h2]
      rw [if_neg h2]
      by_cases h3 : y.toInt < 0
      · rw [if_pos h3]
      rw [if_neg h3]
      by_cases h4 : y.toInt < 4
      rotate_left 1
      · rw [if_neg h4]
      rw [if_pos h4]
      by_cases h5 : w.toInt < -1000
      · rw [if_pos h5]
      rw [if_neg h5, if_neg (fun h6 => hg ⟨by omega, by omega, by omega⟩)]
    · unfold fX8_worth
      rw [hn_in8 x (a := 0) (b := 5) rfl rfl, hn_in8 y (a := 0) (b := 3) rfl rfl, hn_in8 w (a := -1000) (b := 1000) rfl rfl]
      by_cases h1 : 0 ≤ x.toInt ∧ x.toInt ≤ 5
      rotate_left 1
      · rw [hn_ckf h1]
      by_cases h2 : 0 ≤ y.toInt ∧ y.toInt ≤ 3
      rotate_left 1
      · rw [hn_ckt h1, hn_ckf h2]
      rw [hn_ckt h1, hn_ckt h2, hn_ckf (fun q => hg ⟨h1, h2, q⟩)]
  obtain ⟨h1, h2, h3⟩ := hg
  obtain ⟨a, ha, rfl⟩ := hn_ix' 6 (by decide) h1
  obtain ⟨b, hb, rfl⟩ := hn_ix' 4 (by decide) h2
  refine ⟨μ 57 (4 * a + b), hn_up μ 57 (4 * a + b) w, hn_up (hn_up μ 57 (4 * a + b) w) 87 (4 * a + b) w, ?_, ?_, ?_⟩
  · unfold fX7_worth
    rw [if_neg (by rw [hn_lt, e0]; omega), if_neg (by rw [hn_le, e6]; omega), if_neg (by rw [hn_lt, e0]; omega), if_pos (by rw [hn_lt, e4]; omega), if_neg (by rw [hn_lt, em]; omega), if_pos (by rw [hn_le, ep]; omega)]
    unfold fX6_put
    rw [hn_ix4r, nI_add, hn_rd_at (by omega) (by decide), hn_wr_at (by omega) (by decide), Option.bind_some]
  · unfold fX8_worth
    rw [hn_in8 (nI a) (a := 0) (b := 5) rfl rfl, hn_in8 (nI b) (a := 0) (b := 3) rfl rfl, hn_in8 w (a := -1000) (b := 1000) rfl rfl, hn_ckt h1, hn_ckt h2, hn_ckt h3, hn_ix4, nI_add, hn_rd_at (by omega) (by decide), hn_wr_at (by omega) (by decide), hn_up_ne (show (87 : Nat) ≠ 57 by decide), ← (i7 (4 * a + b) (by omega)).1]
  · have fk : ∀ k, k ≠ 57 → k ≠ 87 → hn_up (hn_up μ 57 (4 * a + b) w) 87 (4 * a + b) w k = μ k := fun k k0 k1 => by rw [hn_up_ne k1, hn_up_ne k0]
    generalize hν : hn_up (hn_up μ 57 (4 * a + b) w) 87 (4 * a + b) w = ν at fk ⊢
    have n57 : ∀ i, ν 57 i = if i = 4 * a + b then w else μ 57 i := fun i => by rw [← hν]; simp (disch := omega) only [hn_up_ne, hn_upk]
    have n87 : ∀ i, ν 87 i = if i = 4 * a + b then w else μ 87 i := fun i => by rw [← hν]; simp (disch := omega) only [hn_up_ne, hn_upk]
    refine ⟨V, D, S, o, ⟨iP_c (fun k hk => fk k (by omega) (by omega)) i1, iV_c (fun k hk => fk k (by omega) (by omega)) i2, iK_c (by rw [fk 0 (by decide) (by decide)]) (by rw [fk 72 (by decide) (by decide)]) (fun k hk => fk k (by omega) (by omega)) i3, iF_c ⟨by rw [fk 0 (by decide) (by decide)], by rw [fk 0 (by decide) (by decide)]⟩ ⟨by rw [fk 72 (by decide) (by decide)], by rw [fk 72 (by decide) (by decide)]⟩ i4, iT_c ⟨fk 54 (by decide) (by decide), fk 55 (by decide) (by decide), fk 84 (by decide) (by decide)⟩ (by rw [fk 72 (by decide) (by decide)]) i5, iI_c ⟨by rw [fk 0 (by decide) (by decide)], by rw [fk 0 (by decide) (by decide)]⟩ (fun k hk => fk k (by omega) (by omega)) i6, fun i hi => ?_⟩, iS_c (by rw [fk 0 (by decide) (by decide)]) ⟨by rw [fk 46 (by decide) (by decide)], fk 47 (by decide) (by decide), fk 48 (by decide) (by decide), fk 51 (by decide) (by decide), fk 52 (by decide) (by decide), fk 53 (by decide) (by decide)⟩ hS⟩
    rw [n57, n87]
    by_cases hc : i = 4 * a + b
    · rw [if_pos hc, if_pos hc]; exact ⟨rfl, h3.1, h3.2⟩
    · rw [if_neg hc, if_neg hc]; exact i7 i hi
end q5
