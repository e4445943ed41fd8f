/-! parts of an item: the class's and the model's -/
def tx_hi (L i : Nat) : Option Nat := if L = 0 then (if i = 0 then some 5 else if i = 1 then some 100 else if i = 2 then some 999 else none) else if L = 1 then (if i = 0 then some 7 else if i = 1 then some 100 else if i = 2 then some 999 else none) else if L = 4 then (if i = 1 then some 9 else if i = 2 then some 999 else none) else if L = 5 then (if i = 0 then some 5 else if i = 1 then some 9 else some 999) else (if i = 1 then some 999 else if i = 2 then some 999 else none)
theorem tx_hi_ok : ∀ (L : Fin 6) (i : Fin 4), (tx_hi L.val i.val = none ∧ hn_high (4 * L.val + i.val) = -1) ∨ (∃ h : Fin 1000, tx_hi L.val i.val = some h.val ∧ hn_high (4 * L.val + i.val) = nI h.val) := by
  intro L i
  have key : ∀ (L : Fin 6) (i : Fin 4), (tx_hi L.val i.val = none ∧ hn_high (4 * L.val + i.val) = -1) ∨ ((tx_hi L.val i.val).getD 0 < 1000 ∧ tx_hi L.val i.val = some ((tx_hi L.val i.val).getD 0) ∧ hn_high (4 * L.val + i.val) = nI ((tx_hi L.val i.val).getD 0)) := by decide +kernel
  rcases key L i with h | ⟨h1, h2, h3⟩
  · exact Or.inl h
  · exact Or.inr ⟨⟨_, h1⟩, h2, h3⟩
def tx_set (a : Nat → Nat) (i v : Nat) : Nat → Nat := fun j => if j = i then v else a j
def tx_pr (T : Nat → Nat) (N L last : Nat) : Nat → Nat → Nat → (Nat → Nat) → Option ((Nat → Nat) × Nat)
  | 0, _, p, a => some (a, p)
  | r + 1, i, p, a => match tx_hi L i with
    | none => tx_pr T N L last r (i + 1) p (tx_set a i 0)
    | some h => match tx_fld T N p (if i = last then 59 else 44) with
      | none => none
      | some (v, p') => if v ≤ h then tx_pr T N L last r (i + 1) p' (tx_set a i v) else none
def tx_nu (T : Nat → Nat) (N many : Nat) : Nat → Nat → Nat → (Nat → Nat) → Option ((Nat → Nat) × Nat)
  | 0, _, p, a => some (a, p)
  | r + 1, k, p, a => match tx_fld T N p (if many - 1 ≤ k then 59 else 44) with
    | none => none
    | some (v, p') => tx_nu T N many r (k + 1) p' (tx_set a k v)
section pa
variable {μ O : hn_M} {T : Nat → Nat} {N F t : Nat}
/-- cells that the class's reading of parts may touch -/
def tx_fr (t : Nat) (O μ : hn_M) : Prop := (∀ k, k ≠ t → k ≠ t + 6 → μ k = O k) ∧ ∀ i, i ≠ 7 → μ t i = O t i
theorem tx_pr7 (ht : t = 58 ∨ t = 65) (ok : tx_ok T N) (hF : 12000 ≤ F) {L last : Nat} (hL : L < 6) (hl : last < 4) : ∀ (r i p n : Nat) (a : Nat → Nat) (μ : hn_M), i + r = 4 → r < n → tx_C μ T N → μ t 7 = nI p → p ≤ N → tx_fr t O μ → (∀ j, j < i → μ (t + 6) j = nI (a j)) →
    ∃ w μ', fX0_readParts_14 F t n (nI L) (nI last) (nI i) μ = some (w, μ') ∧ tx_fr t O μ' ∧ ((w = 0 ∧ tx_pr T N L last r i p a = none) ∨ (w = 1 ∧ ∃ a' p', tx_pr T N L last r i p a = some (a', p') ∧ μ' t 7 = nI p' ∧ p' ≤ N ∧ ∀ j, j < 4 → μ' (t + 6) j = nI (a' j))) := by
  have on := ok.1
  intro r
  induction r with
  | zero =>
    intro i p n a μ hi hn hC h7 hp hfr ha
    obtain ⟨n, rfl⟩ : ∃ n', n = n' + 1 := ⟨n - 1, by omega⟩
    have : i = 4 := by omega
    subst this
    refine ⟨1, μ, ?_, hfr, Or.inr ⟨rfl, a, p, rfl, h7, hp, ha⟩⟩
    rw [fX0_readParts_14, if_pos (by decide)]
  | succ r ih =>
    intro i p n a μ hi hn hC h7 hp hfr ha
    obtain ⟨n, rfl⟩ : ∃ n', n = n' + 1 := ⟨n - 1, by omega⟩
    have h02 : tx_fr t O (hn_up μ (t + 6) i 0) := ⟨fun k k1 k2 => by rw [hn_up_ne k2]; exact hfr.1 k k1 k2, fun j hj => by rw [hn_up_ne (by omega)]; exact hfr.2 j hj⟩
    have hC2 : tx_C (hn_up μ (t + 6) i 0) T N := ⟨by rw [hn_up_ne (by omega)]; exact hC.1, by rw [hn_up_ne (by omega)]; exact hC.2⟩
    have h72 : hn_up μ (t + 6) i 0 t 7 = nI p := by rw [hn_up_ne (by omega)]; exact h7
    rw [fX0_readParts_14, if_neg (show ¬ (4 : Int32) ≤ nI i from hn_ge (b := 4) (by omega) (by decide)), hn_wr_at (by omega) (by decide), hn_ix4r, nI_add, hn_rs_at (by omega) (by decide)]
    simp only [tx_pr]
    rcases tx_hi_ok ⟨L, hL⟩ ⟨i, by omega⟩ with ⟨e1, e2⟩ | ⟨h, e1, e2⟩
    · have e1 : tx_hi L i = none := e1
      have e2 : hn_high (4 * L + i) = -1 := e2
      rw [e2, if_pos rfl, e1]
      unfold fX0_readParts_116
      rw [nI_1]
      exact ih (i + 1) p n (tx_set a i 0) _ (by omega) (by omega) hC2 h72 hp h02 (fun j hj => by
        rw [hn_upk]
        unfold tx_set
        by_cases hji : j = i
        · rw [if_pos hji, if_pos hji]; rfl
        · rw [if_neg hji, if_neg hji]; exact ha j (by omega))
    · obtain ⟨h, hh⟩ := h
      have e1 : tx_hi L i = some h := e1
      have e2 : hn_high (4 * L + i) = nI h := e2
      rw [e2, if_neg (by rw [hn_eq_i, nI_toInt (by omega)]; show ¬ (h : Int) = -1; omega), e1]
      obtain ⟨μ3, g1, g2, g3, g4⟩ := tx_num7 (F := F) ht ok 3 p 0 F 0 _ hC2 h72 hp (by decide) (by omega) rfl (by omega)
      have g1 : fX0_readNumber F t (hn_up μ (t + 6) i 0) = some ((if 0 + (tx_rn T N 3 p 0).1 = 0 then -1 else nI (tx_rn T N 3 p 0).2), μ3) := g1
      have h03 : tx_fr t O μ3 := ⟨fun k k1 k2 => by rw [g3 k k1]; exact h02.1 k k1 k2, fun j hj => by rw [g4 j hj]; exact h02.2 j hj⟩
      have cn := tx_rn_le T N 3 p 0
      have cN := tx_rn_N T N 3 p 0 hp
      have cv : (tx_rn T N 3 p 0).2 < 1000 := tx_rn_v T N 3 p 0 0 (by decide)
      rw [g1, Option.bind_some, Nat.zero_add]
      dsimp only
      unfold tx_fld
      by_cases c0 : (tx_rn T N 3 p 0).1 = 0
      · rw [if_pos c0, if_pos rfl, if_neg (fun z => z.1 c0)]
        exact ⟨0, μ3, rfl, h03, Or.inl ⟨rfl, rfl⟩⟩
      rw [if_neg c0, if_neg (show ¬ nI (tx_rn T N 3 p 0).2 = -1 by rw [hn_eq_i, nI_toInt (by omega)]; show ¬ ((tx_rn T N 3 p 0).2 : Int) = -1; omega)]
      generalize hcv : (tx_rn T N 3 p 0).2 = v at *
      generalize hcc : (tx_rn T N 3 p 0).1 = c at *
      by_cases c1 : v ≤ h
      rotate_left 1
      · rw [if_neg (by rw [hn_leN (by omega) (by omega)]; exact c1)]
        refine ⟨0, μ3, rfl, h03, Or.inl ⟨rfl, ?_⟩⟩
        by_cases c2 : ¬ c = 0 ∧ p + c < N ∧ T (p + c) = (if i = last then 59 else 44)
        · rw [if_pos c2]
          exact if_neg c1
        · rw [if_neg c2]
      rw [if_pos (by rw [hn_leN (by omega) (by omega)]; exact c1), hn_wr_at (by omega) (by decide)]
      have hC4 : tx_C (hn_up μ3 (t + 6) i (nI v)) T N := ⟨by rw [hn_up_ne (by omega), g3 54 (by omega)]; exact hC2.1, by rw [hn_up_ne (by omega), g3 55 (by omega)]; exact hC2.2⟩
      have h74 : hn_up μ3 (t + 6) i (nI v) t 7 = nI (p + c) := by rw [hn_up_ne (by omega)]; exact g2
      have h04 : tx_fr t O (hn_up μ3 (t + 6) i (nI v)) := ⟨fun k k1 k2 => by rw [hn_up_ne k2]; exact h03.1 k k1 k2, fun j hj => by rw [hn_up_ne (by omega)]; exact h03.2 j hj⟩
      rw [h74, tx_byte hC4 ok (by omega), Option.bind_some]
      have e101 : ∀ (A B : Option (Int32 × hn_M)), (if nI i = nI last then A else B) = if i = last then A else B := by
        intro A B
        by_cases hil : i = last
        · rw [if_pos hil, if_pos (by rw [hil])]
        · rw [if_neg hil, if_neg (by rw [nI_eq (by omega) (by omega)]; exact hil)]
      rw [e101]
      have bad : ¬ (p + c < N ∧ T (p + c) = (if i = last then 59 else 44)) → ∃ w μ', (if i = last then fX0_readParts_101 F t (fX0_readParts_14 F t n) (nI L) (nI last) (nI i) 59 (if p + c < N then hn_sx (T (p + c)) else -1) (hn_up μ3 (t + 6) i (nI v)) else fX0_readParts_101 F t (fX0_readParts_14 F t n) (nI L) (nI last) (nI i) 44 (if p + c < N then hn_sx (T (p + c)) else -1) (hn_up μ3 (t + 6) i (nI v))) = some (w, μ') ∧ w = 0 ∧ tx_fr t O μ' := by
        intro hz
        refine ⟨0, hn_up μ3 (t + 6) i (nI v), ?_, rfl, h04⟩
        unfold fX0_readParts_101
        by_cases hN : p + c < N
        · have sx := tx_sx_eq ⟨T (p + c), ok.2 _ hN⟩
          rw [if_pos hN]
          by_cases hil : i = last
          · rw [if_pos hil]
            rw [if_pos hil] at hz
            exact if_neg (fun z => hz ⟨hN, sx.1.mp z⟩)
          · rw [if_neg hil]
            rw [if_neg hil] at hz
            exact if_neg (fun z => hz ⟨hN, sx.2.mp z⟩)
        · rw [if_neg hN]
          by_cases hil : i = last
          · rw [if_pos hil]; exact if_neg (by decide)
          · rw [if_neg hil]; exact if_neg (by decide)
      by_cases c2 : p + c < N ∧ T (p + c) = (if i = last then 59 else 44)
      rotate_left 1
      · obtain ⟨w, μ', b1, b2, b3⟩ := bad c2
        rw [b1, b2, if_neg (show ¬ (¬ c = 0 ∧ p + c < N ∧ T (p + c) = (if i = last then 59 else 44)) from fun z => c2 z.2)]
        exact ⟨0, μ', rfl, b3, Or.inl ⟨rfl, rfl⟩⟩
      rw [if_pos (show ¬ c = 0 ∧ p + c < N ∧ T (p + c) = (if i = last then 59 else 44) from ⟨c0, c2⟩), if_pos c2.1]
      dsimp only
      rw [if_pos c1]
      have sx := tx_sx_eq ⟨T (p + c), ok.2 _ c2.1⟩
      have good : (if i = last then fX0_readParts_101 F t (fX0_readParts_14 F t n) (nI L) (nI last) (nI i) 59 (hn_sx (T (p + c))) (hn_up μ3 (t + 6) i (nI v)) else fX0_readParts_101 F t (fX0_readParts_14 F t n) (nI L) (nI last) (nI i) 44 (hn_sx (T (p + c))) (hn_up μ3 (t + 6) i (nI v))) = fX0_readParts_14 F t n (nI L) (nI last) (nI (i + 1)) (hn_up (hn_up μ3 (t + 6) i (nI v)) t 7 (nI (p + c + 1))) := by
        unfold fX0_readParts_101 fX0_readParts_116 hn_pf
        rw [h74, nI_1, nI_1]
        have c3 := c2.2
        by_cases hil : i = last
        · rw [if_pos hil]
          rw [if_pos hil] at c3
          exact if_pos (sx.1.mpr c3)
        · rw [if_neg hil]
          rw [if_neg hil] at c3
          exact if_pos (sx.2.mpr c3)
      rw [good]
      exact ih (i + 1) (p + c + 1) n (tx_set a i v) _ (by omega) (by omega) ⟨by rw [hn_up_ne (by omega)]; exact hC4.1, by rw [hn_up_ne (by omega)]; exact hC4.2⟩ hn_up_at (by omega) ⟨fun k k1 k2 => by rw [hn_up_ne k1]; exact h04.1 k k1 k2, fun j hj => by rw [hn_up_off hj]; exact h04.2 j hj⟩ (fun j hj => by
        rw [hn_up_ne (show t + 6 ≠ t by omega), hn_upk]
        unfold tx_set
        by_cases hji : j = i
        · rw [if_pos hji, if_pos hji]
        · rw [if_neg hji, if_neg hji, g3 (t + 6) (by omega), hn_upk, if_neg hji]; exact ha j (by omega))
/-- cells that the model's reading of numbers may touch -/
def tx_frM (O μ : hn_M) : Prop := (∀ k, k ≠ 72 → k ≠ 92 → μ k = O k) ∧ ∀ i, i ≠ 24 → μ 72 i = O 72 i
theorem tx_nu8 (ok : tx_ok T N) (hF : 12000 ≤ F) {many : Nat} (hm : 1 ≤ many ∧ many ≤ 4) : ∀ (r k p n : Nat) (a : Nat → Nat) (μ : hn_M), k + r = many → r < n → tx_M μ T N → μ 72 24 = nI p → p ≤ N → tx_frM O μ → (∀ j, j < 4 → μ 92 j = nI (a j)) →
    ∃ w μ', fX8_numbers_22 F n (nI many) (nI k) μ = some (w, μ') ∧ tx_frM O μ' ∧ ((w = 0 ∧ tx_nu T N many r k p a = none) ∨ (w = 1 ∧ ∃ a' p', tx_nu T N many r k p a = some (a', p') ∧ μ' 72 24 = nI p' ∧ p' ≤ N ∧ ∀ j, j < 4 → μ' 92 j = nI (a' j))) := by
  have on := ok.1
  intro r
  induction r with
  | zero =>
    intro k p n a μ hk hn hM h24 hp hfr ha
    obtain ⟨n, rfl⟩ : ∃ n', n = n' + 1 := ⟨n - 1, by omega⟩
    refine ⟨1, μ, ?_, hfr, Or.inr ⟨rfl, a, p, rfl, h24, hp, ha⟩⟩
    rw [fX8_numbers_22, if_pos (by rw [hn_leN (by omega) (by omega)]; omega)]
  | succ r ih =>
    intro k p n a μ hk hn hM h24 hp hfr ha
    obtain ⟨n, rfl⟩ : ∃ n', n = n' + 1 := ⟨n - 1, by omega⟩
    obtain ⟨μ3, g1, g2, g3, g4⟩ := tx_num8 (F := F) ok (fX8_numbers_22 F n) (nI many) (nI k) 4 p 0 F 0 μ hM h24 hp (by omega) (by decide) rfl (by omega)
    have g1 : fX8_numbers_32 F (fX8_numbers_22 F n) F (nI many) (nI k) 0 0 μ = fX8_numbers_106 F (fX8_numbers_22 F n) (nI many) (nI k) (nI (0 + (tx_rn T N 4 p 0).1)) (nI (tx_rn T N 4 p 0).2) μ3 := g1
    have h03 : tx_frM O μ3 := ⟨fun j k1 k2 => by rw [g3 j k1]; exact hfr.1 j k1 k2, fun j hj => by rw [g4 j hj]; exact hfr.2 j hj⟩
    have hM3 : tx_M μ3 T N := ⟨by rw [g4 14 (by decide)]; exact hM.1, by rw [g3 84 (by decide)]; exact hM.2⟩
    have cN := tx_rn_N T N 4 p 0 hp
    have c4 := tx_rn_le T N 4 p 0
    rw [fX8_numbers_22, if_neg (by rw [hn_leN (by omega) (by omega)]; omega), g1, Nat.zero_add]
    simp only [tx_nu]
    have e59 : ∀ (A B : Option (Int32 × hn_M)), (if nI many - 1 ≤ nI k then A else B) = if many - 1 ≤ k then A else B := by
      intro A B
      have e : nI many - 1 = nI (many - 1) := by rw [show (1 : Int32) = nI 1 from rfl, pk_sub (by omega)]
      rw [e]
      by_cases hil : many - 1 ≤ k
      · rw [if_pos hil, if_pos (by rw [hn_leN (by omega) (by omega)]; exact hil)]
      · rw [if_neg hil, if_neg (by rw [hn_leN (by omega) (by omega)]; exact hil)]
    unfold fX8_numbers_106
    rw [hn_in8 (nI (tx_rn T N 4 p 0).1) (a := 1) (b := 3) rfl rfl]
    have ti := nI_toInt (n := (tx_rn T N 4 p 0).1) (by omega)
    unfold tx_fld
    rcases tx_rn_more T N 3 p 0 with ⟨m1, m2⟩ | ⟨m1, m2, m3⟩
    rotate_left 1
    · -- four figures
      rw [hn_ckf (by rw [ti, m1]; omega)]
      refine ⟨0, μ3, rfl, h03, Or.inl ⟨rfl, ?_⟩⟩
      rw [if_neg (fun z => by
        have z2 := z.2.2
        rw [m2] at z2
        have m4 := m3.2
        by_cases hil : many - 1 ≤ k
        · rw [if_pos hil] at z2; omega
        · rw [if_neg hil] at z2; omega)]
    rw [← m2]
    have cv : (tx_rn T N 4 p 0).2 < 1000 := by rw [m2]; exact tx_rn_v T N 3 p 0 0 (by decide)
    generalize hcv : (tx_rn T N 4 p 0).2 = v at *
    generalize hcc : (tx_rn T N 4 p 0).1 = c at *
    by_cases c0 : c = 0
    · rw [hn_ckf (by rw [ti, c0]; omega), if_neg (fun z => z.1 c0)]
      exact ⟨0, μ3, rfl, h03, Or.inl ⟨rfl, rfl⟩⟩
    rw [hn_ckt (by rw [ti]; omega), g2, hM3.1]
    by_cases c1 : p + c < N
    rotate_left 1
    · rw [if_pos (by rw [show p + c = N by omega]), if_neg (show ¬ (¬ c = 0 ∧ p + c < N ∧ T (p + c) = (if many - 1 ≤ k then 59 else 44)) from fun z => c1 z.2.1)]
      exact ⟨0, μ3, rfl, h03, Or.inl ⟨rfl, rfl⟩⟩
    rw [if_neg (by rw [nI_eq (by omega) (by omega)]; omega), hn_rd_at (by omega) (by decide), hM3.2 _ c1, e59]
    have tb := ok.2 _ c1
    have e152 : (if many - 1 ≤ k then fX8_numbers_152 F (fX8_numbers_22 F n) (nI many) (nI k) (nI v) 59 (nI (T (p + c))) μ3 else fX8_numbers_152 F (fX8_numbers_22 F n) (nI many) (nI k) (nI v) 44 (nI (T (p + c))) μ3) = if T (p + c) = (if many - 1 ≤ k then 59 else 44) then fX8_numbers_22 F n (nI many) (nI (k + 1)) (hn_up (hn_up μ3 92 k (nI v)) 72 24 (nI (p + c + 1))) else some (0, μ3) := by
      have e1 : ∀ sp : Nat, sp < 100 → fX8_numbers_152 F (fX8_numbers_22 F n) (nI many) (nI k) (nI v) (nI sp) (nI (T (p + c))) μ3 = if T (p + c) = sp then fX8_numbers_22 F n (nI many) (nI (k + 1)) (hn_up (hn_up μ3 92 k (nI v)) 72 24 (nI (p + c + 1))) else some (0, μ3) := by
        intro sp hsp
        unfold fX8_numbers_152 hn_pf
        rw [hn_wr_at (by omega) (by decide), hn_up_ne (show (72 : Nat) ≠ 92 by decide), g2, nI_1, nI_1]
        by_cases hs : T (p + c) = sp
        · rw [if_pos hs, if_pos (by rw [hs])]
        · rw [if_neg hs, if_neg (by rw [nI_eq (by omega) (by omega)]; exact hs)]
      by_cases hil : many - 1 ≤ k
      · rw [if_pos hil, if_pos hil]; exact e1 59 (by decide)
      · rw [if_neg hil, if_neg hil]; exact e1 44 (by decide)
    rw [e152]
    by_cases c2 : T (p + c) = (if many - 1 ≤ k then 59 else 44)
    rotate_left 1
    · rw [if_neg c2, if_neg (show ¬ (¬ c = 0 ∧ p + c < N ∧ T (p + c) = (if many - 1 ≤ k then 59 else 44)) from fun z => c2 z.2.2)]
      exact ⟨0, μ3, rfl, h03, Or.inl ⟨rfl, rfl⟩⟩
    rw [if_pos c2, if_pos (show ¬ c = 0 ∧ p + c < N ∧ T (p + c) = (if many - 1 ≤ k then 59 else 44) from ⟨c0, c1, c2⟩)]
    dsimp only
    exact ih (k + 1) (p + c + 1) n (tx_set a k v) _ (by omega) (by omega) ⟨by rw [hn_up_off (by decide), hn_up_ne (by decide)]; exact hM3.1, by rw [hn_up_ne (by decide), hn_up_ne (by decide)]; exact hM3.2⟩ hn_up_at (by omega) ⟨fun j k1 k2 => by rw [hn_up_ne k1, hn_up_ne k2]; exact h03.1 j k1 k2, fun j hj => by rw [hn_up_off hj, hn_up_ne (by decide)]; exact h03.2 j hj⟩ (fun j hj => by
      rw [hn_up_ne (by decide), hn_upk]
      unfold tx_set
      by_cases hji : j = k
      · rw [if_pos hji, if_pos hji]
      · rw [if_neg hji, if_neg hji, g3 92 (by decide)]; exact ha j hj)
end pa
