/-! texts of rules: a number and what ends it -/
abbrev tx_fig (T : Nat → Nat) (N p : Nat) : Prop := p < N ∧ 48 ≤ T p ∧ T p ≤ 57
def tx_rn (T : Nat → Nat) (N : Nat) : Nat → Nat → Nat → Nat × Nat
  | 0, _, v => (0, v)
  | c + 1, p, v => if tx_fig T N p then ((tx_rn T N c (p + 1) (10 * v + (T p - 48))).1 + 1, (tx_rn T N c (p + 1) (10 * v + (T p - 48))).2) else (0, v)
theorem tx_t {T : Nat → Nat} {N c p v : Nat} (h : tx_fig T N p) : tx_rn T N (c + 1) p v = ((tx_rn T N c (p + 1) (10 * v + (T p - 48))).1 + 1, (tx_rn T N c (p + 1) (10 * v + (T p - 48))).2) := by rw [tx_rn, if_pos h]
theorem tx_f {T : Nat → Nat} {N c p v : Nat} (h : ¬ tx_fig T N p) : tx_rn T N (c + 1) p v = (0, v) := by rw [tx_rn, if_neg h]
theorem tx_rn_le (T : Nat → Nat) (N : Nat) : ∀ c p v, (tx_rn T N c p v).1 ≤ c := by
  intro c
  induction c with
  | zero => intro p v; exact Nat.le_refl _
  | succ c ih =>
    intro p v
    have := ih (p + 1) (10 * v + (T p - 48))
    simp only [tx_rn]
    by_cases h : tx_fig T N p
    · rw [if_pos h]; show _ + 1 ≤ c + 1; omega
    · rw [if_neg h]; exact Nat.zero_le _
theorem tx_rn_N (T : Nat → Nat) (N : Nat) : ∀ c p v, p ≤ N → p + (tx_rn T N c p v).1 ≤ N := by
  intro c
  induction c with
  | zero => intro p v hp; exact hp
  | succ c ih =>
    intro p v hp
    simp only [tx_rn]
    by_cases h : tx_fig T N p
    · have := ih (p + 1) (10 * v + (T p - 48)) (by have := h.1; omega)
      rw [if_pos h]; show p + (_ + 1) ≤ N; omega
    · rw [if_neg h]; exact hp
theorem tx_rn_v (T : Nat → Nat) (N : Nat) : ∀ c p v k, v < 10 ^ k → (tx_rn T N c p v).2 < 10 ^ (k + c) := by
  intro c
  induction c with
  | zero => intro p v k hv; exact hv
  | succ c ih =>
    intro p v k hv
    simp only [tx_rn]
    by_cases h : tx_fig T N p
    · have h2 : 10 * v + (T p - 48) < 10 ^ (k + 1) := by
        have := h.2.2
        rw [Nat.pow_succ]
        omega
      have := ih (p + 1) _ (k + 1) h2
      rw [if_pos h]
      show (tx_rn T N c (p + 1) (10 * v + (T p - 48))).2 < 10 ^ (k + (c + 1))
      rw [show k + (c + 1) = k + 1 + c by omega]
      exact this
    · rw [if_neg h]
      exact Nat.lt_of_lt_of_le hv (Nat.pow_le_pow_right (by decide) (by omega))
/-- one more figure at most: the same, or the limit was reached and a figure follows -/
theorem tx_rn_more (T : Nat → Nat) (N : Nat) : ∀ c p v, ((tx_rn T N (c + 1) p v).1 ≤ c ∧ tx_rn T N (c + 1) p v = tx_rn T N c p v) ∨ ((tx_rn T N (c + 1) p v).1 = c + 1 ∧ (tx_rn T N c p v).1 = c ∧ tx_fig T N (p + c)) := by
  intro c
  induction c with
  | zero =>
    intro p v
    simp only [tx_rn]
    by_cases h : tx_fig T N p
    · rw [if_pos h]; refine Or.inr ⟨?_, ?_, h⟩ <;> trivial
    · rw [if_neg h]; exact Or.inl ⟨Nat.le_refl _, rfl⟩
  | succ c ih =>
    intro p v
    have ih := ih (p + 1) (10 * v + (T p - 48))
    rw [tx_rn]
    by_cases h : tx_fig T N p
    · rw [if_pos h]
      have e : tx_rn T N (c + 1) p v = ((tx_rn T N c (p + 1) (10 * v + (T p - 48))).1 + 1, (tx_rn T N c (p + 1) (10 * v + (T p - 48))).2) := by rw [tx_rn, if_pos h]
      rw [e]
      rcases ih with ⟨i1, i2⟩ | ⟨i1, i2, i3⟩
      · left
        refine ⟨by show _ + 1 ≤ c + 1; omega, ?_⟩
        rw [i2]
      · right
        refine ⟨by show _ + 1 = c + 1 + 1; omega, by show _ + 1 = c + 1; omega, ?_⟩
        rw [show p + (c + 1) = p + 1 + c by omega]
        exact i3
    · rw [if_neg h]
      have e : tx_rn T N (c + 1) p v = (0, v) := by rw [tx_rn, if_neg h]
      rw [e]
      exact Or.inl ⟨Nat.zero_le _, rfl⟩
/-- a number of one to three figures, and the byte that must follow -/
def tx_fld (T : Nat → Nat) (N p sep : Nat) : Option (Nat × Nat) := if ¬ (tx_rn T N 3 p 0).1 = 0 ∧ p + (tx_rn T N 3 p 0).1 < N ∧ T (p + (tx_rn T N 3 p 0).1) = sep then some ((tx_rn T N 3 p 0).2, p + (tx_rn T N 3 p 0).1 + 1) else none
theorem tx_fld_b {T : Nat → Nat} {N p sep v p' : Nat} (h : tx_fld T N p sep = some (v, p')) : v < 1000 ∧ p + 2 ≤ p' ∧ p' ≤ N := by
  unfold tx_fld at h
  by_cases hc : ¬ (tx_rn T N 3 p 0).1 = 0 ∧ p + (tx_rn T N 3 p 0).1 < N ∧ T (p + (tx_rn T N 3 p 0).1) = sep
  · rw [if_pos hc] at h
    cases h
    have := tx_rn_v T N 3 p 0 0 (by decide)
    exact ⟨this, by omega, by omega⟩
  · rw [if_neg hc] at h; cases h
/-- the class's text, the model's text -/
def tx_C (μ : hn_M) (T : Nat → Nat) (N : Nat) : Prop := μ 54 1 = nI N ∧ ∀ i, i < N → μ 55 i = hn_sx (T i)
def tx_M (μ : hn_M) (T : Nat → Nat) (N : Nat) : Prop := μ 72 14 = nI N ∧ ∀ i, i < N → μ 84 i = nI (T i)
abbrev tx_ok (T : Nat → Nat) (N : Nat) : Prop := N ≤ 200 ∧ ∀ i, i < N → T i < 256
section tx
variable {μ O : hn_M} {T : Nat → Nat} {N F t : Nat}
theorem tx_byte (hC : tx_C μ T N) (ok : tx_ok T N) {p : Nat} (hp : p ≤ 1000) : fX4_byteAt μ (nI p) = some (if p < N then hn_sx (T p) else -1) := by
  have on := ok.1
  unfold fX4_byteAt
  rw [if_neg (nI_pos (by omega)), hC.1]
  by_cases h : p < N
  · rw [if_neg (by rw [hn_leN (by omega) (by omega)]; omega), hn_rd_at (by omega) (by decide), hC.2 p h, if_pos h]
  · rw [if_pos (by rw [hn_leN (by omega) (by omega)]; omega), if_neg h]
theorem tx_figC : ∀ b : Fin 256, fX0_isFigure (hn_sx b.val) = some (if 48 ≤ b.val ∧ b.val ≤ 57 then 1 else 0) := by decide +kernel
theorem tx_sx_fig {b : Nat} (h : b ≤ 57) : hn_sx b = nI b := if_pos (by omega)
theorem tx_sx_eq : ∀ b : Fin 256, (hn_sx b.val = 59 ↔ b.val = 59) ∧ (hn_sx b.val = 44 ↔ b.val = 44) := by decide +kernel
theorem tx_num7 (ht : t = 58 ∨ t = 65) (ok : tx_ok T N) : ∀ (c p v n fg : Nat) (μ : hn_M), tx_C μ T N → μ t 7 = nI p → p ≤ N → v < 10 ^ (3 - c) → c ≤ 3 → fg = 3 - c → c < n → ∃ μ', fX0_readNumber_4 F t n (nI v) (nI fg) μ = some ((if fg + (tx_rn T N c p v).1 = 0 then -1 else nI (tx_rn T N c p v).2), μ') ∧ μ' t 7 = nI (p + (tx_rn T N c p v).1) ∧ (∀ k, k ≠ t → μ' k = μ k) ∧ ∀ i, i ≠ 7 → μ' t i = μ t i := by
  have on := ok.1
  intro c
  induction c with
  | zero =>
    intro p v n fg μ hC h7 hp hv hc hfg hn
    obtain ⟨n, rfl⟩ : ∃ n', n = n' + 1 := ⟨n - 1, by omega⟩
    subst hfg
    refine ⟨μ, ?_, h7, fun k _ => rfl, fun i _ => rfl⟩
    rw [fX0_readNumber_4, if_pos (by decide)]
    unfold fX0_readNumber_56
    rw [if_neg (show ¬ nI (3 - 0) = 0 by decide)]
    rfl
  | succ c ih =>
    intro p v n fg μ hC h7 hp hv hc hfg hn
    obtain ⟨n, rfl⟩ : ∃ n', n = n' + 1 := ⟨n - 1, by omega⟩
    rw [fX0_readNumber_4, if_neg (show ¬ (3 : Int32) ≤ nI fg from hn_ge (b := 3) (by omega) (by decide)), h7, tx_byte hC ok (by omega), Option.bind_some]
    have stop : ∃ μ', fX0_readNumber_56 F t (nI v) (nI fg) μ = some ((if fg + 0 = 0 then -1 else nI v), μ') ∧ μ' t 7 = nI (p + 0) ∧ (∀ k, k ≠ t → μ' k = μ k) ∧ ∀ i, i ≠ 7 → μ' t i = μ t i := by
      refine ⟨μ, ?_, h7, fun k _ => rfl, fun i _ => rfl⟩
      unfold fX0_readNumber_56
      by_cases h0 : fg = 0
      · subst h0; rfl
      · rw [if_neg (nI_ne0 (by omega) (by omega)), if_neg (by omega)]
    by_cases hp2 : p < N
    · rw [if_pos hp2, tx_figC ⟨T p, ok.2 p hp2⟩, Option.bind_some]
      by_cases hf : 48 ≤ T p ∧ T p ≤ 57
      · rw [if_pos (show 48 ≤ (⟨T p, ok.2 p hp2⟩ : Fin 256).val ∧ (⟨T p, ok.2 p hp2⟩ : Fin 256).val ≤ 57 from hf), if_neg (show ¬ (1 : Int32) = 0 by decide), tx_t (show tx_fig T N p from ⟨hp2, hf⟩), Option.bind_some]
        have hv2 : 10 * v + (T p - 48) < 10 ^ (3 - c) := by
          rw [show 3 - c = (3 - (c + 1)) + 1 by omega, Nat.pow_succ]
          omega
        obtain ⟨μ', g1, g2, g3, g4⟩ := ih (p + 1) (10 * v + (T p - 48)) n (fg + 1) (hn_up μ t 7 (nI (p + 1))) ⟨by rw [hn_up_ne (by omega)]; exact hC.1, by rw [hn_up_ne (by omega)]; exact hC.2⟩ hn_up_at (by omega) hv2 (by omega) (by omega) (by omega)
        refine ⟨μ', ?_, ?_, fun k hk => by rw [g3 k hk, hn_up_ne hk], fun i hi => by rw [g4 i hi, hn_up_off hi]⟩
        · unfold hn_pf
          rw [nI_1, nI_1]
          have e : ((10 * nI v + hn_sx (T p)) - 48) = nI (10 * v + (T p - 48)) := by
            rw [tx_sx_fig hf.2, show (10 : Int32) = nI 10 from rfl, pk_mul, nI_add, show (48 : Int32) = nI 48 from rfl, pk_sub (by omega), show 10 * v + T p - 48 = 10 * v + (T p - 48) by omega]
          show fX0_readNumber_4 F t n ((10 * nI v + hn_sx (T p)) - 48) (nI (fg + 1)) (hn_up μ t 7 (nI (p + 1))) = _
          rw [e, g1, show fg + 1 + (tx_rn T N c (p + 1) (10 * v + (T p - 48))).1 = fg + ((tx_rn T N c (p + 1) (10 * v + (T p - 48))).1 + 1) by omega]
        · rw [g2, show p + 1 + (tx_rn T N c (p + 1) (10 * v + (T p - 48))).1 = p + ((tx_rn T N c (p + 1) (10 * v + (T p - 48))).1 + 1) by omega]
      · rw [if_neg (show ¬ (48 ≤ (⟨T p, ok.2 p hp2⟩ : Fin 256).val ∧ (⟨T p, ok.2 p hp2⟩ : Fin 256).val ≤ 57) from hf), if_pos (show (0 : Int32) = 0 from rfl), tx_f (show ¬ tx_fig T N p from fun z => hf z.2)]
        exact stop
    · rw [if_neg hp2, show fX0_isFigure (-1) = some 0 from by decide, Option.bind_some, if_pos (show (0 : Int32) = 0 from rfl), tx_f (show ¬ tx_fig T N p from fun z => hp2 z.1)]
      exact stop
theorem tx_num8 (ok : tx_ok T N) (k22 : Int32 → Int32 → hn_M → Option (Int32 × hn_M)) (l1 l2 : Int32) : ∀ (c p v n fg : Nat) (μ : hn_M), tx_M μ T N → μ 72 24 = nI p → p ≤ N → c ≤ 4 → v < 10 ^ (4 - c) → fg = 4 - c → c < n → ∃ μ', fX8_numbers_32 F k22 n l1 l2 (nI fg) (nI v) μ = fX8_numbers_106 F k22 l1 l2 (nI (fg + (tx_rn T N c p v).1)) (nI (tx_rn T N c p v).2) μ' ∧ μ' 72 24 = nI (p + (tx_rn T N c p v).1) ∧ (∀ k, k ≠ 72 → μ' k = μ k) ∧ ∀ i, i ≠ 24 → μ' 72 i = μ 72 i := by
  have on := ok.1
  intro c
  induction c with
  | zero =>
    intro p v n fg μ hM h24 hp hc hv hfg hn
    obtain ⟨n, rfl⟩ : ∃ n', n = n' + 1 := ⟨n - 1, by omega⟩
    subst hfg
    refine ⟨μ, ?_, h24, fun k _ => rfl, fun i _ => rfl⟩
    rw [fX8_numbers_32, hM.1, h24]
    by_cases hp2 : p < N
    · rw [if_neg (by rw [hn_leN (by omega) (by omega)]; omega), hn_rd_at (by omega) (by decide), hM.2 p hp2, hn_in8 (nI (T p)) (a := 48) (b := 57) rfl rfl, Option.bind_some]
      by_cases hf : 48 ≤ (nI (T p)).toInt ∧ (nI (T p)).toInt ≤ 57
      · rw [hn_bi_t hf, if_neg (show ¬ (1 : Int32) = 0 by decide), if_pos (show (4 : Int32) ≤ nI (4 - 0) by decide)]
        rfl
      · rw [hn_bi_f hf, if_pos (show (0 : Int32) = 0 from rfl)]
        rfl
    · rw [if_pos (by rw [hn_leN (by omega) (by omega)]; omega)]
      rfl
  | succ c ih =>
    intro p v n fg μ hM h24 hp hc hv hfg hn
    obtain ⟨n, rfl⟩ : ∃ n', n = n' + 1 := ⟨n - 1, by omega⟩
    rw [fX8_numbers_32, hM.1, h24]
    by_cases hp2 : p < N
    · have tp := ok.2 p hp2
      have ti := nI_toInt (n := T p) (by omega)
      rw [if_neg (by rw [hn_leN (by omega) (by omega)]; omega), hn_rd_at (by omega) (by decide), hM.2 p hp2, hn_in8 (nI (T p)) (a := 48) (b := 57) rfl rfl, Option.bind_some]
      by_cases hf : 48 ≤ T p ∧ T p ≤ 57
      · rw [hn_bi_t (by omega), if_neg (show ¬ (1 : Int32) = 0 by decide), if_neg (show ¬ (4 : Int32) ≤ nI fg from hn_ge (b := 4) (by omega) (by decide)), tx_t (show tx_fig T N p from ⟨hp2, hf⟩), hn_rd_at (by omega) (by decide), hM.2 p hp2]
        have hv2 : 10 * v + (T p - 48) < 10 ^ (4 - c) := by
          rw [show 4 - c = (4 - (c + 1)) + 1 by omega, Nat.pow_succ]
          omega
        obtain ⟨μ', g1, g2, g3, g4⟩ := ih (p + 1) (10 * v + (T p - 48)) n (fg + 1) (hn_up μ 72 24 (nI (p + 1))) ⟨by rw [hn_up_off (by decide)]; exact hM.1, by rw [hn_up_ne (by decide)]; exact hM.2⟩ hn_up_at (by omega) (by omega) hv2 (by omega) (by omega)
        refine ⟨μ', ?_, ?_, fun k hk => by rw [g3 k hk, hn_up_ne hk], fun i hi => by rw [g4 i hi, hn_up_off hi]⟩
        · unfold hn_pf
          rw [nI_1, nI_1]
          have e : ((10 * nI v + nI (T p)) - 48) = nI (10 * v + (T p - 48)) := by
            rw [show (10 : Int32) = nI 10 from rfl, pk_mul, nI_add, show (48 : Int32) = nI 48 from rfl, pk_sub (by omega), show 10 * v + T p - 48 = 10 * v + (T p - 48) by omega]
          show fX8_numbers_32 F k22 n l1 l2 (nI (fg + 1)) ((10 * nI v + nI (T p)) - 48) (hn_up μ 72 24 (nI (p + 1))) = _
          rw [e, g1, show fg + 1 + (tx_rn T N c (p + 1) (10 * v + (T p - 48))).1 = fg + ((tx_rn T N c (p + 1) (10 * v + (T p - 48))).1 + 1) by omega]
        · rw [g2, show p + 1 + (tx_rn T N c (p + 1) (10 * v + (T p - 48))).1 = p + ((tx_rn T N c (p + 1) (10 * v + (T p - 48))).1 + 1) by omega]
      · rw [hn_bi_f (by omega), if_pos (show (0 : Int32) = 0 from rfl), tx_f (show ¬ tx_fig T N p from fun z => hf z.2)]
        exact ⟨μ, rfl, h24, fun k _ => rfl, fun i _ => rfl⟩
    · rw [if_pos (by rw [hn_leN (by omega) (by omega)]; omega), tx_f (show ¬ tx_fig T N p from fun z => hp2 z.1)]
      exact ⟨μ, rfl, h24, fun k _ => rfl, fun i _ => rfl⟩
end tx
