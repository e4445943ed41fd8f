/-! sets of sayings by bits -/
def hn_bit (x : Int32) (i : Nat) : Bool := x.toBitVec.getLsbD i
theorem hn_sh_ix : ∀ i : Fin 32, ((nI i.val &&& 31).toBitVec.smod 32).toNat = i.val := by decide +kernel
theorem hn_one_bit : ∀ i j : Fin 32, ((1 : Int32) <<< (nI j.val &&& 31)).toBitVec.getLsbD i.val = decide (i.val = j.val) := by decide +kernel
theorem hn_not_bit : ∀ i j : Fin 32, (((1 : Int32) <<< (nI j.val &&& 31)) ^^^ (-1)).toBitVec.getLsbD i.val = !decide (i.val = j.val) := by decide +kernel
theorem hn_isIn (x : Int32) {i : Nat} (hi : i < 32) : fX7_isIn x (nI i) = some (hn_b01 (hn_bit x i)) := by
  have e1 : ((x >>> (nI i &&& 31)) &&& 1 = 1) ↔ hn_bit x i = true := by
    rw [← Int32.toBitVec_inj]
    have e2 : (x >>> (nI i &&& 31) &&& 1).toBitVec = (x.toBitVec.sshiftRight i) &&& 1#32 := by
      rw [Int32.toBitVec_and, Int32.toBitVec_shiftRight, BitVec.sshiftRight', hn_sh_ix ⟨i, hi⟩]
      rfl
    rw [e2, BitVec.and_one_eq_setWidth_ofBool_getLsbD, BitVec.getLsbD_sshiftRight]
    have e3 : (!decide (32 ≤ 0) && if i + 0 < 32 then x.toBitVec.getLsbD (i + 0) else x.toBitVec.msb) = hn_bit x i := by
      rw [if_pos (by omega)]
      simp [hn_bit]
    rw [e3]
    cases hn_bit x i <;> decide
  unfold fX7_isIn
  by_cases h : hn_bit x i = true
  · rw [if_pos (e1.mpr h), h]; rfl
  · rw [if_neg (fun z => h (e1.mp z))]
    have : hn_bit x i = false := by cases h2 : hn_bit x i with | false => rfl | true => exact absurd h2 h
    rw [this]; rfl
theorem hn_or_bit (x : Int32) {i j : Nat} (hi : i < 32) (hj : j < 32) : hn_bit (x ||| (1 <<< (nI j &&& 31))) i = (hn_bit x i || decide (i = j)) := by
  unfold hn_bit
  rw [Int32.toBitVec_or, BitVec.getLsbD_or, hn_one_bit ⟨i, hi⟩ ⟨j, hj⟩]
theorem hn_and_bit (x : Int32) {i j : Nat} (hi : i < 32) (hj : j < 32) : hn_bit (x &&& ((1 <<< (nI j &&& 31)) ^^^ (-1))) i = (hn_bit x i && !decide (i = j)) := by
  unfold hn_bit
  rw [Int32.toBitVec_and, BitVec.getLsbD_and, hn_not_bit ⟨i, hi⟩ ⟨j, hj⟩]
theorem hn_with (x : Int32) (b : Bool) {j : Nat} (hj : j < 32) : ∃ y, fX7_with x (nI j) (hn_b01 b) = some y ∧ ∀ i, i < 32 → hn_bit y i = if i = j then b else hn_bit x i := by
  unfold fX7_with
  cases b with
  | false =>
    rw [if_pos (show hn_b01 false = 0 from rfl)]
    refine ⟨_, rfl, fun i hi => ?_⟩
    rw [hn_and_bit x hi hj]
    by_cases h : i = j
    · rw [if_pos h]; simp [h]
    · rw [if_neg h]; simp [h]
  | true =>
    rw [if_neg (by decide)]
    refine ⟨_, rfl, fun i hi => ?_⟩
    rw [hn_or_bit x hi hj]
    by_cases h : i = j
    · rw [if_pos h]; simp [h]
    · rw [if_neg h]; simp [h]
theorem hn_isIn_bit {x : Int32} {i : Nat} {b : Bool} (hi : i < 32) : fX7_isIn x (nI i) = some (hn_b01 b) ↔ hn_bit x i = b := by
  rw [hn_isIn x hi]
  constructor
  · intro h
    exact hn_b01_eq.mp (Option.some.inj h)
  · intro h
    rw [h]
