/-! how unlike two sayings are: the class's reckoning and the model's -/
def hn_pc (z : Nat) : Nat := z % 2 + z / 2 % 2 + z / 4 % 2 + z / 8 % 2 + z / 16 % 2 + z / 32 % 2 + z / 64 % 2 + z / 128 % 2
def un_d : Nat → Nat → Nat → Nat
  | 0, _, _ => 0
  | k + 1, x, y => (if x % 10 = y % 10 then 0 else 3) + un_d k (x / 10) (y / 10)
theorem un_d_le (k x y : Nat) : un_d k x y ≤ 3 * k := by
  induction k generalizing x y with
  | zero => exact Nat.le_refl _
  | succ k ih =>
    have := ih (x / 10) (y / 10)
    simp only [un_d]
    by_cases h : x % 10 = y % 10
    · rw [if_pos h]; omega
    · rw [if_neg h]; omega
theorem hn_pc_le (z : Nat) : hn_pc z ≤ 8 := by unfold hn_pc; omega
theorem hn_pc_bit : ∀ z : Fin 256, fJ6_bitCount (nI z.val) = some (nI (hn_pc z.val)) := by decide +kernel
theorem hn_pc_kern : ∀ z : Fin 256, z.val = 0 ∨ (nI z.val &&& (nI z.val - 1) = nI (z.val &&& (z.val - 1)) ∧ z.val &&& (z.val - 1) < 256 ∧ hn_pc (z.val &&& (z.val - 1)) + 1 = hn_pc z.val) := by decide +kernel
theorem hn_xor (u w : Nat) : nI u ^^^ nI w = nI (u ^^^ w) := by
  refine Int32.toBitVec_inj.mp ?_
  show BitVec.ofNat 32 u ^^^ BitVec.ofNat 32 w = BitVec.ofNat 32 (u ^^^ w)
  exact BitVec.ofNat_xor.symm
def un (V : hn_Vw) (a b : Nat) : Nat := un_d 4 (vY V a).2.2.1 (vY V b).2.2.1 + hn_pc ((vY V a).2.2.2.1 ^^^ (vY V b).2.2.2.1)
theorem un_le (V : hn_Vw) (a b : Nat) : un V a b ≤ 20 := by
  have := un_d_le 4 (vY V a).2.2.1 (vY V b).2.2.1
  have := hn_pc_le ((vY V a).2.2.2.1 ^^^ (vY V b).2.2.2.1)
  unfold un; omega
section un
variable {V : hn_Vw} {D : Nat → Nat → Int} {μ : hn_M} {F : Nat}
theorem un_ten (x : Nat) (h : x < 10000) : nI x / 10 = nI (x / 10) := pk_div (d := 10) (by omega) (by decide) (by decide)
theorem un_rem (x : Nat) (h : x < 10000) : nI x - nI x / 10 * 10 = nI (x % 10) := pk_rem (d := 10) (by omega) (by decide) (by decide)
theorem un_c1 : ∀ (k n s x y : Nat), k ≤ 4 → k < n → x < 10000 → y < 10000 → fX1_unlikeness_36 F μ n (nI s) (nI x) (nI y) (nI (4 - k)) = some (nI (s + un_d k x y)) := by
  intro k
  induction k with
  | zero =>
    intro n s x y _ hn _ _
    obtain ⟨n, rfl⟩ : ∃ n', n = n' + 1 := ⟨n - 1, by omega⟩
    rw [fX1_unlikeness_36, if_pos (by decide)]
    rfl
  | succ k ih =>
    intro n s x y hk hn hx hy
    obtain ⟨n, rfl⟩ : ∃ n', n = n' + 1 := ⟨n - 1, by omega⟩
    rw [fX1_unlikeness_36, if_neg (show ¬ (4 : Int32) ≤ nI (4 - (k + 1)) from hn_ge (b := 4) (by omega) (by decide)), un_rem x hx, un_rem y hy]
    unfold fX1_unlikeness_58
    rw [un_ten x hx, un_ten y hy, nI_1, show 4 - (k + 1) + 1 = 4 - k by omega]
    simp only [un_d]
    by_cases h : x % 10 = y % 10
    · rw [if_pos (by rw [h]), if_pos h, ih n s _ _ (by omega) (by omega) (by omega) (by omega), Nat.zero_add]
    · rw [if_neg (by rw [nI_eq (by omega) (by omega)]; exact h), if_neg h, hn_p3, ih n (s + 3) _ _ (by omega) (by omega) (by omega) (by omega), Nat.add_assoc]
theorem un_m1 {l1 l2 : Int32} : ∀ (k n s x y : Nat), k ≤ 4 → k < n → x < 10000 → y < 10000 → fX8_changeOf_31 F μ n l1 l2 (nI x) (nI y) (nI s) (nI (4 - k)) = fX8_changeOf_77 F μ l1 l2 (nI (s + un_d k x y)) := by
  intro k
  induction k with
  | zero =>
    intro n s x y _ hn _ _
    obtain ⟨n, rfl⟩ : ∃ n', n = n' + 1 := ⟨n - 1, by omega⟩
    rw [fX8_changeOf_31, if_pos (by decide)]
    rfl
  | succ k ih =>
    intro n s x y hk hn hx hy
    obtain ⟨n, rfl⟩ : ∃ n', n = n' + 1 := ⟨n - 1, by omega⟩
    rw [fX8_changeOf_31, if_neg (show ¬ (4 : Int32) ≤ nI (4 - (k + 1)) from hn_ge (b := 4) (by omega) (by decide)), un_rem x hx, un_rem y hy]
    unfold fX8_changeOf_56
    rw [un_ten x hx, un_ten y hy, nI_1, show 4 - (k + 1) + 1 = 4 - k by omega]
    simp only [un_d]
    by_cases h : x % 10 = y % 10
    · rw [if_pos (by rw [h]), if_pos h, show nI s + 0 = nI s from nI_add s 0, ih n s _ _ (by omega) (by omega) (by omega) (by omega), Nat.zero_add]
    · rw [if_neg (by rw [nI_eq (by omega) (by omega)]; exact h), if_neg h, hn_p3, ih n (s + 3) _ _ (by omega) (by omega) (by omega) (by omega), Nat.add_assoc]
theorem un_m2 : ∀ (p n s z : Nat), z < 256 → hn_pc z = p → p < n → fX8_changeOf_102 F μ n (nI s) (nI z) = some (nI (s + p)) := by
  intro p
  induction p with
  | zero =>
    intro n s z hz hp hn
    obtain ⟨n, rfl⟩ : ∃ n', n = n' + 1 := ⟨n - 1, by omega⟩
    rcases hn_pc_kern ⟨z, hz⟩ with h | ⟨_, _, h⟩
    · simp only at h
      subst h
      rw [fX8_changeOf_102, if_pos (by decide)]
      rfl
    · simp only at h; omega
  | succ p ih =>
    intro n s z hz hp hn
    obtain ⟨n, rfl⟩ : ∃ n', n = n' + 1 := ⟨n - 1, by omega⟩
    rcases hn_pc_kern ⟨z, hz⟩ with h | ⟨h1, h2, h3⟩
    · simp only at h
      subst h
      exact absurd hp (by unfold hn_pc; omega)
    · simp only at h1 h2 h3
      have hz0 : z ≠ 0 := by
        intro h
        subst h
        exact absurd hp (by unfold hn_pc; omega)
      rw [fX8_changeOf_102, if_neg (nI_ne0 (by omega) (by omega)), h1, nI_1, ih n (s + 1) _ h2 (by omega) (by omega), show s + 1 + p = s + (p + 1) by omega]
theorem un_class (hV : okV V D) (hC : repC μ 6 V) (hF : 31 ≤ F) {a b : Nat} (ha : a < vK V) (hb : b < vK V) : fX1_unlikeness F μ (nI a) (nI b) = some (nI (un V a b)) := by
  have hn := hV.1
  obtain ⟨⟨c0, c4, c7⟩, cS, cQ, cY, cE, cT⟩ := hC
  have ya := cY a ha
  have yb := cY b hb
  have oa := hV.2.2.2.1 a ha
  have ob := hV.2.2.2.1 b hb
  unfold fX1_unlikeness
  rw [hn_rd_at (by omega) (by decide), hn_rd_at (by omega) (by decide), show μ 15 a = nI (vY V a).2.2.2.1 from ya.2.2.2.1, show μ 15 b = nI (vY V b).2.2.2.1 from yb.2.2.2.1, hn_xor]
  have hx : (vY V a).2.2.2.1 ^^^ (vY V b).2.2.2.1 < 256 := Nat.xor_lt_two_pow (n := 8) oa.2.2.2.1 ob.2.2.2.1
  have hp := hn_pc_bit ⟨_, hx⟩
  simp only at hp
  rw [hp, Option.bind_some, hn_rd_at (by omega) (by decide), hn_rd_at (by omega) (by decide), show μ 14 a = nI (vY V a).2.2.1 from ya.2.2.1, show μ 14 b = nI (vY V b).2.2.1 from yb.2.2.1]
  have := un_c1 (F := F) (μ := μ) 4 F (hn_pc ((vY V a).2.2.2.1 ^^^ (vY V b).2.2.2.1)) _ _ (by omega) (by omega) oa.2.2.1 ob.2.2.1
  rw [show (0 : Int32) = nI (4 - 4) from rfl, this, un, Nat.add_comm]
theorem un_model (hV : okV V D) (hM : repM μ 0 V) (hF : 31 ≤ F) {a b : Nat} (ha : a < vK V) (hb : b < vK V) : fX8_changeOf F μ (nI a) (nI b) = some (nI (un V a b)) := by
  have hn := hV.1
  have ya := rm_y hM ha
  have yb := rm_y hM hb
  have oa := hV.2.2.2.1 a ha
  have ob := hV.2.2.2.1 b hb
  have hx : (vY V a).2.2.2.1 ^^^ (vY V b).2.2.2.1 < 256 := Nat.xor_lt_two_pow (n := 8) oa.2.2.2.1 ob.2.2.2.1
  unfold fX8_changeOf
  simp (disch := omega) only [hn_rd_at, hn_ix6m, hn_p2, ya.2.2.1, yb.2.2.1]
  have := un_m1 (F := F) (μ := μ) (l1 := nI a) (l2 := nI b) 4 F 0 _ _ (by omega) (by omega) oa.2.2.1 ob.2.2.1
  rw [show (0 : Int32) = nI 0 from rfl]
  have this : fX8_changeOf_31 F μ F (nI a) (nI b) (nI (vY V a).2.2.1) (nI (vY V b).2.2.1) (nI 0) (nI 0) = _ := this
  rw [this]
  unfold fX8_changeOf_77
  simp (disch := omega) only [hn_rd_at, hn_ix6m, hn_p3, ya.2.2.2.1, yb.2.2.2.1]
  have h8 := hn_pc_le ((vY V a).2.2.2.1 ^^^ (vY V b).2.2.2.1)
  rw [hn_xor, un_m2 _ F _ _ hx rfl (by omega), un, Nat.zero_add]
end un
