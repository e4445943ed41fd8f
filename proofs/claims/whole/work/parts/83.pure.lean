/-! one item: letter by letter the same -/
section mo
variable {T : Nat → Nat} {N : Nat}
abbrev tx_z : Nat → Nat := fun _ => 0
theorem mo_3 (L h0 h1 : Nat) (e0 : tx_hi L 0 = some h0) (e1 : tx_hi L 1 = some h1) (e2 : tx_hi L 2 = some 999) (e3 : tx_hi L 3 = none) (q : Nat) : (tx_nu T N 3 3 0 q tx_z = none ∧ tx_pr T N L 2 4 0 q tx_z = none) ∨ ∃ a p', tx_nu T N 3 3 0 q tx_z = some (a, p') ∧ q + 6 ≤ p' ∧ a 3 = 0 ∧ (∀ j, j < 4 → a j < 1000) ∧ ((a 0 ≤ h0 ∧ a 1 ≤ h1 ∧ ∃ b, tx_pr T N L 2 4 0 q tx_z = some (b, p') ∧ b 0 = a 0 ∧ b 1 = a 1 ∧ b 2 = a 2 ∧ b 3 = 0) ∨ (¬ (a 0 ≤ h0 ∧ a 1 ≤ h1) ∧ tx_pr T N L 2 4 0 q tx_z = none)) := by
  cases f0 : tx_fld T N q 44 with
  | none => left; simp [tx_nu, tx_pr, e0, f0]
  | some x0 =>
    obtain ⟨v0, p0⟩ := x0
    have b0 := tx_fld_b f0
    cases f1 : tx_fld T N p0 44 with
    | none => left; simp [tx_nu, tx_pr, e0, e1, f0, f1]
    | some x1 =>
      obtain ⟨v1, p1⟩ := x1
      have b1 := tx_fld_b f1
      cases f2 : tx_fld T N p1 59 with
      | none => left; simp [tx_nu, tx_pr, e0, e1, e2, f0, f1, f2]
      | some x2 =>
        obtain ⟨v2, p2⟩ := x2
        have b2 := tx_fld_b f2
        right
        refine ⟨tx_set (tx_set (tx_set tx_z 0 v0) 1 v1) 2 v2, p2, by simp [tx_nu, f0, f1, f2], by omega, rfl, ?_, ?_⟩
        · intro j hj
          have : j = 0 ∨ j = 1 ∨ j = 2 ∨ j = 3 := by omega
          rcases this with rfl | rfl | rfl | rfl
          · exact b0.1
          · exact b1.1
          · exact b2.1
          · show 0 < 1000; omega
        · show (v0 ≤ h0 ∧ v1 ≤ h1 ∧ _) ∨ (¬ (v0 ≤ h0 ∧ v1 ≤ h1) ∧ _)
          by_cases c : v0 ≤ h0 ∧ v1 ≤ h1
          · left
            refine ⟨c.1, c.2, tx_set (tx_set (tx_set (tx_set tx_z 0 v0) 1 v1) 2 v2) 3 0, ?_, rfl, rfl, rfl, rfl⟩
            simp [tx_pr, e0, e1, e2, e3, f0, f1, f2, c.1, c.2, show v2 ≤ 999 by omega]
          · right
            refine ⟨c, ?_⟩
            by_cases c0 : v0 ≤ h0
            · have c1 : ¬ v1 ≤ h1 := fun z => c ⟨c0, z⟩
              simp [tx_pr, e0, e1, f0, f1, c0, c1]
            · simp [tx_pr, e0, f0, c0]
theorem mo_2 (L h1 : Nat) (e0 : tx_hi L 0 = none) (e1 : tx_hi L 1 = some h1) (e2 : tx_hi L 2 = some 999) (e3 : tx_hi L 3 = none) (q : Nat) : (tx_nu T N 2 2 0 q tx_z = none ∧ tx_pr T N L 2 4 0 q tx_z = none) ∨ ∃ a p', tx_nu T N 2 2 0 q tx_z = some (a, p') ∧ q + 4 ≤ p' ∧ a 3 = 0 ∧ (∀ j, j < 4 → a j < 1000) ∧ ((a 0 ≤ h1 ∧ ∃ b, tx_pr T N L 2 4 0 q tx_z = some (b, p') ∧ b 0 = 0 ∧ b 1 = a 0 ∧ b 2 = a 1 ∧ b 3 = 0) ∨ (¬ a 0 ≤ h1 ∧ tx_pr T N L 2 4 0 q tx_z = none)) := by
  cases f0 : tx_fld T N q 44 with
  | none => left; simp [tx_nu, tx_pr, e0, e1, f0]
  | some x0 =>
    obtain ⟨v0, p0⟩ := x0
    have b0 := tx_fld_b f0
    cases f1 : tx_fld T N p0 59 with
    | none => left; simp [tx_nu, tx_pr, e0, e1, e2, f0, f1]
    | some x1 =>
      obtain ⟨v1, p1⟩ := x1
      have b1 := tx_fld_b f1
      right
      refine ⟨tx_set (tx_set tx_z 0 v0) 1 v1, p1, by simp [tx_nu, f0, f1], by omega, rfl, ?_, ?_⟩
      · intro j hj
        have : j = 0 ∨ j = 1 ∨ j = 2 ∨ j = 3 := by omega
        rcases this with rfl | rfl | rfl | rfl
        · exact b0.1
        · exact b1.1
        · show 0 < 1000; omega
        · show 0 < 1000; omega
      · show (v0 ≤ h1 ∧ _) ∨ (¬ v0 ≤ h1 ∧ _)
        by_cases c : v0 ≤ h1
        · left
          refine ⟨c, tx_set (tx_set (tx_set (tx_set tx_z 0 0) 1 v0) 2 v1) 3 0, ?_, rfl, rfl, rfl, rfl⟩
          simp [tx_pr, e0, e1, e2, e3, f0, f1, c, show v1 ≤ 999 by omega]
        · right
          refine ⟨c, ?_⟩
          simp [tx_pr, e0, e1, f0, c]
theorem mo_4 (q : Nat) : (tx_nu T N 4 4 0 q tx_z = none ∧ tx_pr T N 5 3 4 0 q tx_z = none) ∨ ∃ a p', tx_nu T N 4 4 0 q tx_z = some (a, p') ∧ q + 8 ≤ p' ∧ (∀ j, j < 4 → a j < 1000) ∧ ((a 0 ≤ 5 ∧ a 1 ≤ 9 ∧ ∃ b, tx_pr T N 5 3 4 0 q tx_z = some (b, p') ∧ b 0 = a 0 ∧ b 1 = a 1 ∧ b 2 = a 2 ∧ b 3 = a 3) ∨ (¬ (a 0 ≤ 5 ∧ a 1 ≤ 9) ∧ tx_pr T N 5 3 4 0 q tx_z = none)) := by
  have e0 : tx_hi 5 0 = some 5 := rfl
  have e1 : tx_hi 5 1 = some 9 := rfl
  have e2 : tx_hi 5 2 = some 999 := rfl
  have e3 : tx_hi 5 3 = some 999 := rfl
  cases f0 : tx_fld T N q 44 with
  | none => left; simp [tx_nu, tx_pr, e0, f0]
  | some x0 =>
    obtain ⟨v0, p0⟩ := x0
    have b0 := tx_fld_b f0
    cases f1 : tx_fld T N p0 44 with
    | none => left; simp [tx_nu, tx_pr, e0, e1, f0, f1]
    | some x1 =>
      obtain ⟨v1, p1⟩ := x1
      have b1 := tx_fld_b f1
      cases f2 : tx_fld T N p1 44 with
      | none => left; simp [tx_nu, tx_pr, e0, e1, e2, f0, f1, f2]
      | some x2 =>
        obtain ⟨v2, p2⟩ := x2
        have b2 := tx_fld_b f2
        cases f3 : tx_fld T N p2 59 with
        | none => left; simp [tx_nu, tx_pr, e0, e1, e2, e3, f0, f1, f2, f3]
        | some x3 =>
          obtain ⟨v3, p3⟩ := x3
          have b3 := tx_fld_b f3
          right
          refine ⟨tx_set (tx_set (tx_set (tx_set tx_z 0 v0) 1 v1) 2 v2) 3 v3, p3, by simp [tx_nu, f0, f1, f2, f3], by omega, ?_, ?_⟩
          · intro j hj
            have : j = 0 ∨ j = 1 ∨ j = 2 ∨ j = 3 := by omega
            rcases this with rfl | rfl | rfl | rfl
            · exact b0.1
            · exact b1.1
            · exact b2.1
            · exact b3.1
          · show (v0 ≤ 5 ∧ v1 ≤ 9 ∧ _) ∨ (¬ (v0 ≤ 5 ∧ v1 ≤ 9) ∧ _)
            by_cases c : v0 ≤ 5 ∧ v1 ≤ 9
            · left
              refine ⟨c.1, c.2, tx_set (tx_set (tx_set (tx_set tx_z 0 v0) 1 v1) 2 v2) 3 v3, ?_, rfl, rfl, rfl, rfl⟩
              simp [tx_pr, e0, e1, e2, e3, f0, f1, f2, f3, c.1, c.2, show v2 ≤ 999 by omega, show v3 ≤ 999 by omega]
            · right
              refine ⟨c, ?_⟩
              by_cases c0 : v0 ≤ 5
              · have c1 : ¬ v1 ≤ 9 := fun z => c ⟨c0, z⟩
                simp [tx_pr, e0, e1, f0, f1, c0, c1]
              · simp [tx_pr, e0, f0, c0]
def tx_kd (b : Nat) : Option Nat := if b = 119 then some 0 else if b = 118 then some 1 else if b = 111 then some 2 else if b = 98 then some 3 else if b = 120 then some 4 else if b = 110 then some 5 else none
theorem tx_kd_b {b L : Nat} (h : tx_kd b = some L) : L < 6 ∧ b = hn_lett L := by
  unfold tx_kd at h
  by_cases h0 : b = 119
  · rw [if_pos h0] at h; cases h; exact ⟨by omega, h0⟩
  rw [if_neg h0] at h
  by_cases h1 : b = 118
  · rw [if_pos h1] at h; cases h; exact ⟨by omega, h1⟩
  rw [if_neg h1] at h
  by_cases h2 : b = 111
  · rw [if_pos h2] at h; cases h; exact ⟨by omega, h2⟩
  rw [if_neg h2] at h
  by_cases h3 : b = 98
  · rw [if_pos h3] at h; cases h; exact ⟨by omega, h3⟩
  rw [if_neg h3] at h
  by_cases h4 : b = 120
  · rw [if_pos h4] at h; cases h; exact ⟨by omega, h4⟩
  rw [if_neg h4] at h
  by_cases h5 : b = 110
  · rw [if_pos h5] at h; cases h; exact ⟨by omega, h5⟩
  rw [if_neg h5] at h
  cases h
/-- an item at a place, and the place behind it -/
def tx_ps (T : Nat → Nat) (N p : Nat) : Option ((Nat × Nat × Nat × Nat × Nat) × Nat) := match tx_kd (T p) with
  | none => none
  | some L => match tx_pr T N L (if L = 5 then 3 else 2) 4 0 (p + 1) tx_z with
    | none => none
    | some (a, p') => if (L = 3 ∧ a 1 < 1) ∨ (L = 5 ∧ a 3 < a 2) then none else some ((L, a 0, a 1, a 2, a 3), p')
end mo
