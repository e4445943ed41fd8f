/-! what the constructors leave -/
section ini
variable {μ ν : hn_M} {F : Nat}
theorem hn_zs_in {k c a : Nat} (h : k ≤ a ∧ a < k + c) : hn_zs μ k c a = fun _ => 0 := if_pos h
theorem hn_zs_out {k c a : Nat} (h : ¬ (k ≤ a ∧ a < k + c)) : hn_zs μ k c a = μ a := if_neg h
theorem in_fill (hF : 12000 ≤ F) (d : Nat) (μ : hn_M) : ∃ ν, fJ7_fill_53178 F d (-1) μ = some ν ∧ (∀ k, k ≠ d → ν k = μ k) ∧ ∀ i, i < 10 → ν d i = -1 := by
  obtain ⟨ν, h1, h2⟩ := hn_loopE (fun n j s => fJ7_fill_53178_5 F d n (-1) (nI j) 10 s) 10 some (fun j s => (∀ k, k ≠ d → s k = μ k) ∧ ∀ i, i < j → s d i = -1)
    (fun n s _ => by
      show fJ7_fill_53178_5 F d (n + 1) (-1) (nI 10) 10 s = _
      rw [fJ7_fill_53178_5, if_pos (by decide)])
    (fun n j s hj hi => by
      refine ⟨hn_up s d j (-1), ?_, fun k hk => by rw [hn_up_ne hk]; exact hi.1 k hk, fun i hi2 => ?_⟩
      · show fJ7_fill_53178_5 F d (n + 1) (-1) (nI j) 10 s = _
        rw [fJ7_fill_53178_5, if_neg (show ¬ (10 : Int32) ≤ nI j from hn_ge (b := 10) hj (by decide)), hn_wr_at hj (by decide), nI_1]
      · rw [hn_upk]
        by_cases hij : i = j
        · rw [if_pos hij]
        · rw [if_neg hij]; exact hi.2 i (by omega))
    10 0 F μ (by omega) (by omega) ⟨fun k _ => rfl, fun i hi => by omega⟩
  exact ⟨ν, h1, h2.1, h2.2⟩
theorem in_1 (hF : 12000 ≤ F) (k : Nat) (μ : hn_M) : ∃ ν, fX1_init F k μ = some ν ∧ (∀ a, (a < k ∨ k + 12 < a) → ν a = μ a) ∧ (∀ a, k ≤ a → a ≤ k + 10 → ν a = fun _ => 0) ∧ ∀ i, i < 10 → ν (k + 11) i = -1 ∧ ν (k + 12) i = -1 := by
  obtain ⟨μ1, a1, a2, a3⟩ := in_fill (F := F) hF (k + 11) (hn_zs μ k 13)
  obtain ⟨μ2, b1, b2, b3⟩ := in_fill (F := F) hF (k + 12) μ1
  refine ⟨μ2, ?_, fun a ha => ?_, fun a h1 h2 => ?_, fun i hi => ⟨?_, b3 i hi⟩⟩
  · unfold fX1_init
    rw [a1, Option.bind_some, b1]
  · rw [b2 a (by omega), a2 a (by omega), hn_zs_out (by omega)]
  · rw [b2 a (by omega), a2 a (by omega), hn_zs_in (by omega)]
  · rw [b2 (k + 11) (by omega)]; exact a3 i hi
def in_L (_ _ : Nat) : Int := 0
def in_D : Nat → Nat → Int := (fw_r (fw_D0 in_L) in_L 6).1
def in_S : Nat → Nat → Int := (fw_r (fw_D0 in_L) in_L 6).2
theorem in_p : fw_post in_L in_L := fun _ _ _ _ => Or.inl ⟨rfl, rfl⟩
theorem in_7 (hF : 12000 ≤ F) : ∃ ν, fX7_init F (fun _ _ => 0) = some ν ∧ (ν 0 = fun j => if j = 7 then 58 else if j = 8 then 65 else if j = 10 then 12 else 0) ∧ (∀ k, 1 ≤ k → k ≤ 3 → ν k = fun _ => 0) ∧ (∀ x y, x < 6 → y < 6 → pD ν x y = in_D x y ∧ pS ν x y = in_S x y) ∧ (∀ k, 6 ≤ k → k ≤ 16 → ν k = fun _ => 0) ∧ (∀ i, i < 10 → ν 17 i = -1 ∧ ν 18 i = -1) ∧ (∀ k, 46 ≤ k → k ≤ 71 → ν k = fun _ => 0) := by
  have z : hn_zs (fun _ _ => 0) 1 5 = fun _ _ => 0 := by
    funext a
    by_cases h : 1 ≤ a ∧ a < 1 + 5
    · rw [hn_zs_in h]
    · rw [hn_zs_out h]
  have eL : pL (fun _ _ => 0) = in_L := by funext a b; rfl
  have eM : pM (fun _ _ => 0) = in_L := by funext a b; rfl
  have rk := hn_reckon2 (F := F) (μ := fun _ _ => 0) (by omega) (by rw [eL, eM]; exact in_p)
  rw [eL, eM] at rk
  obtain ⟨μ1, a1, a2, a3⟩ := rk
  obtain ⟨μ2, b1, b2, b3, b4⟩ := in_1 (F := F) hF 6 μ1
  obtain ⟨μ3, c1, c2, c3, c4⟩ := in_1 (F := F) hF 20 μ2
  obtain ⟨μ4, d1, d2, d3, d4⟩ := in_1 (F := F) hF 33 μ3
  obtain ⟨ν, hν⟩ : ∃ m : hn_M, hn_row0 (hn_zs (hn_zs (hn_zs (hn_zs (hn_zs (hn_zs μ4 46 4) 50 4) 54 2) 56 2) 58 7) 65 7) = m := ⟨_, rfl⟩
  have lo : ∀ k, 1 ≤ k → k ≤ 19 → ν k = μ2 k := fun k h1 h2 => by
    rw [← hν, show ∀ m : hn_M, hn_row0 m k = m k from fun m => if_neg (by omega), hn_zs_out (by omega), hn_zs_out (by omega), hn_zs_out (by omega), hn_zs_out (by omega), hn_zs_out (by omega), hn_zs_out (by omega), d2 k (by omega), c2 k (by omega)]
  refine ⟨ν, ?_, ?_, fun k h1 h2 => ?_, fun x y hx hy => ?_, fun k h1 h2 => ?_, fun i hi => ?_, fun k h1 h2 => ?_⟩
  · unfold fX7_init
    rw [z, a1, Option.bind_some, b1, Option.bind_some, c1, Option.bind_some, d1, Option.bind_some, hν]
  · rw [← hν]; rfl
  · rw [lo k h1 (by omega), b2 k (by omega), a2 k (by omega) (by omega)]
  · have := a3 x y hx hy
    unfold pD pS at this ⊢
    rw [lo 4 (by omega) (by omega), lo 5 (by omega) (by omega), b2 4 (by omega), b2 5 (by omega)]
    exact this
  · rw [lo k (by omega) (by omega), b3 k h1 (by omega)]
  · rw [lo 17 (by omega) (by omega), lo 18 (by omega) (by omega)]
    exact b4 i hi
  · rw [← hν, show ∀ m : hn_M, hn_row0 m k = m k from fun m => if_neg (by omega)]
    by_cases g1 : 65 ≤ k
    · rw [hn_zs_in (by omega)]
    rw [hn_zs_out (by omega)]
    by_cases g2 : 58 ≤ k
    · rw [hn_zs_in (by omega)]
    rw [hn_zs_out (by omega)]
    by_cases g3 : 56 ≤ k
    · rw [hn_zs_in (by omega)]
    rw [hn_zs_out (by omega)]
    by_cases g4 : 54 ≤ k
    · rw [hn_zs_in (by omega)]
    rw [hn_zs_out (by omega)]
    by_cases g5 : 50 ≤ k
    · rw [hn_zs_in (by omega)]
    rw [hn_zs_out (by omega), hn_zs_in (by omega)]
theorem in_8 (hF : 12000 ≤ F) (μ : hn_M) : ∃ ν, fX8_init F μ = some ν ∧ (∀ k, k < 72 → ν k = μ k) ∧ (∀ i, i ≠ 12 → ν 72 i = 0) ∧ ν 72 12 = 12 ∧ (∀ k, 73 ≤ k → k ≤ 74 → ν k = fun _ => 0) ∧ (∀ x y, x < 6 → y < 6 → (ν 75 (6 * x + y)).toInt = fw_enc (in_D x y)) ∧ (∀ k, (76 ≤ k ∧ k ≤ 81) ∨ (84 ≤ k ∧ k ≤ 92) → ν k = fun _ => 0) ∧ ∀ i, i < 10 → ν 82 (2 * i) = -1 ∧ ν 83 i = -1 := by
  obtain ⟨O, hO⟩ : ∃ m : hn_M, hn_up (hn_zs μ 72 21) 72 12 12 = m := ⟨_, rfl⟩
  obtain ⟨μ1, h1, h2⟩ := hn_loopE (fun n j s => fX8_init_170 F n (nI j) s) 10 (fun s => fX8_init_198 F s) (fun j s => (∀ k, k ≠ 82 → k ≠ 83 → s k = O k) ∧ ∀ i, i < j → s 82 (2 * i) = -1 ∧ s 83 i = -1)
    (fun n s _ => by
      show fX8_init_170 F (n + 1) (nI 10) s = _
      rw [fX8_init_170, if_pos (by decide)])
    (fun n j s hj hi => by
      refine ⟨hn_up (hn_up s 82 (2 * j) (-1)) 83 j (-1), ?_, fun k k1 k2 => by rw [hn_up_ne k2, hn_up_ne k1]; exact hi.1 k k1 k2, fun i hi2 => ?_⟩
      · show fX8_init_170 F (n + 1) (nI j) s = _
        rw [fX8_init_170, if_neg (show ¬ (10 : Int32) ≤ nI j from hn_ge (b := 10) hj (by decide)), hn_ix2, hn_wr_at (by omega) (by decide), hn_wr_at (by omega) (by decide), nI_1]
      · rw [hn_up_ne (show (82 : Nat) ≠ 83 by decide), hn_upk, hn_upk, hn_up_ne (show (83 : Nat) ≠ 82 by decide)]
        by_cases hij : i = j
        · rw [if_pos (by omega), if_pos hij]; exact ⟨rfl, rfl⟩
        · rw [if_neg (by omega), if_neg hij]; exact hi.2 i (by omega))
    10 0 F O (by omega) (by omega) ⟨fun k _ _ => rfl, fun i hi => by omega⟩
  have o72 : ∀ k, 73 ≤ k → k ≤ 92 → O k = fun _ => 0 := fun k k1 k2 => by rw [← hO, hn_up_ne (by omega), hn_zs_in (by omega)]
  obtain ⟨μ2, w1, w2, w3⟩ := hn_layWays (F := F) (μ := μ1) (L := in_L) (M := in_L) (by omega) in_p (fun a b ha hb => by rw [h2.1 73 (by decide) (by decide), o72 73 (by decide) (by decide)]; rfl)
  have fk : ∀ k, k ≠ 75 → k ≠ 82 → k ≠ 83 → μ2 k = O k := fun k k1 k2 k3 => by rw [w2 k k1, h2.1 k k2 k3]
  refine ⟨μ2, ?_, fun k hk => ?_, fun i hi => ?_, ?_, fun k k1 k2 => ?_, fun x y hx hy => ?_, fun k hk => ?_, fun i hi => ?_⟩
  · unfold fX8_init fX8_init_168
    rw [hO]
    refine Eq.trans h1 ?_
    show fX8_init_198 F μ1 = _
    unfold fX8_init_198
    rw [w1, Option.bind_some]
  · rw [fk k (by omega) (by omega) (by omega), ← hO, hn_up_ne (by omega), hn_zs_out (by omega)]
  · rw [fk 72 (by decide) (by decide) (by decide), ← hO, hn_up_off hi, hn_zs_in (by omega)]
  · rw [fk 72 (by decide) (by decide) (by decide), ← hO, hn_up_at]
  · rw [fk k (by omega) (by omega) (by omega), o72 k k1 (by omega)]
  · exact w3 x y hx hy
  · rw [fk k (by omega) (by omega) (by omega), o72 k (by omega) (by omega)]
  · rw [w2 82 (by decide), w2 83 (by decide)]; exact h2.2 i hi
def in_V : hn_Vw := ((0, 0, 0), fun _ => (0, 0, -1), fun _ => (0, 0), fun _ => (0, 0, 0, 0, false, false), fun _ => none, fun _ => -1)
theorem dy_cnt_0 (P : Nat → Prop) [DecidablePred P] : ∀ n, (∀ i, i < n → ¬ P i) → dy_cnt P n = 0 := by
  intro n
  induction n with
  | zero => intro _; rfl
  | succ n ih =>
    intro h
    simp only [dy_cnt]
    rw [ih (fun i hi => h i (by omega)), if_neg (h n (by omega))]
theorem in_all (hF : 12000 ≤ F) : ∃ μ1 μ2, fX7_init F (fun _ _ => 0) = some μ1 ∧ fX8_init F μ1 = some μ2 ∧ hn_Inv μ2 := by
  obtain ⟨μ1, a0, a1, a2, a3, a4, a5, a6⟩ := in_7 (F := F) hF
  obtain ⟨μ2, b0, b1, b2, b3, b4, b5, b6, b7⟩ := in_8 (F := F) hF μ1
  refine ⟨μ1, μ2, a0, b0, in_V, in_D, in_S, 12, ⟨⟨?_, ?_, ?_, b5, ?_⟩, ⟨?_, ?_, ?_⟩, ?_, ?_, ?_, ?_, ?_⟩, Or.inl ?_⟩
  · intro x y hx hy
    have := a3 x y hx hy
    unfold pD pS at this ⊢
    rw [b1 4 (by decide), b1 5 (by decide)]
    exact this
  · have e2 : pL μ2 = in_L := by funext a b; unfold pL; rw [b1 2 (by decide), a2 2 (by decide) (by decide)]; rfl
    have e3 : pM μ2 = in_L := by funext a b; unfold pM; rw [b1 3 (by decide), a2 3 (by decide) (by decide)]; rfl
    rw [e2, e3]
    have ok := fw_r_ok in_p 6 (Nat.le_refl _)
    have e := fw_end (by decide) in_p ok
    refine ⟨fun x y hx hy => ?_, ok.2.1, in_p, e.1, e.2⟩
    have := ok.1 x y hx hy
    show 0 ≤ (fw_r (fw_D0 in_L) in_L 6).1 x y ∧ ((fw_r (fw_D0 in_L) in_L 6).1 x y ≤ 3840 ∨ (fw_r (fw_D0 in_L) in_L 6).1 x y = 1000000) ∧ 0 ≤ (fw_r (fw_D0 in_L) in_L 6).2 x y ∧ (fw_r (fw_D0 in_L) in_L 6).2 x y ≤ 3840
    simpa using this
  · intro i hi
    rw [b4 73 (by decide) (by decide), b4 74 (by decide) (by decide), b1 2 (by decide), b1 3 (by decide), a2 2 (by decide) (by decide), a2 3 (by decide) (by decide)]
    exact ⟨rfl, rfl⟩
  · rw [dy_cnt_0 _ 36 (fun i _ z => z (by rw [b1 2 (by decide), a2 2 (by decide) (by decide)])), b1 1 (by decide), a2 1 (by decide) (by decide)]
    rfl
  · have e6 : μ2 6 = fun _ => 0 := by rw [b1 6 (by decide), a4 6 (by decide) (by decide)]
    refine ⟨⟨by rw [e6]; rfl, by rw [e6]; rfl, by rw [e6]; rfl⟩, fun s hs => absurd hs (Nat.not_lt_zero _), fun s hs => absurd hs (Nat.not_lt_zero _), fun s hs => absurd hs (Nat.not_lt_zero _), fun t ht => Or.inl ⟨rfl, ?_⟩, fun t ht => ?_⟩
    · rw [show 6 + 11 = 17 from rfl, b1 17 (by decide)]; exact (a5 t ht).1
    · rw [show 6 + 12 = 18 from rfl, b1 18 (by decide), (a5 t ht).2]; rfl
  · refine ⟨⟨by rw [b6 76 (by omega)]; rfl, by rw [b6 78 (by omega)]; rfl, by rw [b6 80 (by omega)]; rfl⟩, fun s hs => absurd hs (Nat.not_lt_zero _), fun s hs => absurd hs (Nat.not_lt_zero _), fun s hs => absurd hs (Nat.not_lt_zero _), fun t ht => Or.inl ⟨rfl, ?_⟩, fun t ht => ?_⟩
    · rw [show 20 * 0 + 2 * t = 2 * t by omega]; exact (b7 t ht).1
    · rw [show 10 * 0 + t = t by omega, (b7 t ht).2]; rfl
  · exact ⟨⟨Nat.zero_le _, Nat.zero_le _, Nat.zero_le _⟩, fun s hs => absurd hs (Nat.not_lt_zero _), fun s hs => absurd hs (Nat.not_lt_zero _), fun s hs => absurd hs (Nat.not_lt_zero _), fun t ht a d h => (by have h : (none : Option (Nat × Nat)) = some (a, d) := h; cases h), fun t ht => ⟨by show (-1 : Int) ≤ -1; omega, by show (-1 : Int) ≤ 9999; omega⟩⟩
  · exact ⟨0, fun _ => in_V, by omega, by rw [b1 0 (by decide), a1]; rfl, by rw [b2 11 (by decide)]; rfl, fun i hi => absurd hi (Nat.not_lt_zero _)⟩
  · exact ⟨by omega, by rw [b1 0 (by decide), a1]; rfl, by rw [b3]; rfl, 0, by omega, by rw [b1 0 (by decide), a1]; rfl, by rw [b2 13 (by decide)]; rfl⟩
  · exact ⟨0, by omega, by rw [b1 54 (by decide), a6 54 (by decide) (by decide)]; rfl, by rw [b2 14 (by decide)]; rfl, fun i hi => absurd hi (Nat.not_lt_zero _)⟩
  · refine ⟨58, 65, 0, fun _ => (0, 0, 0, 0, 0), Or.inl ⟨rfl, rfl⟩, by rw [b1 0 (by decide), a1]; rfl, by rw [b1 0 (by decide), a1]; rfl, ⟨by rw [b1 58 (by decide), a6 58 (by decide) (by decide)]; rfl, fun i hi => absurd hi (Nat.not_lt_zero _)⟩, ⟨by rw [b6 85 (by omega)]; rfl, fun i hi => absurd hi (Nat.not_lt_zero _)⟩, Nat.zero_le _, fun i hi => absurd hi (Nat.not_lt_zero _)⟩
  · intro i hi
    rw [b1 57 (by decide), a6 57 (by decide) (by decide), b6 87 (by omega)]
    exact ⟨rfl, show (-1000 : Int) ≤ (0 : Int32).toInt by decide, show (0 : Int32).toInt ≤ 1000 by decide⟩
  · rw [b1 0 (by decide), a1]
    first | done | rfl
end ini
