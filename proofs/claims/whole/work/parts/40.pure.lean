/-! small rows over the mirrors: reads and writes at a place, ranges -/
theorem hn_lit (n : Nat) : (OfNat.ofNat n : Int32) = nI n := rfl
theorem hn_rd_at {α : Type} {μ : hn_M} {k n j : Nat} {K : Int32 → Option α} (h : j < n) (hn : n < 2 ^ 31) : hn_rd μ k n (nI j) K = K (μ k j) := by
  simp only [hn_rd]
  rw [if_neg (nI_in h hn), nI_clamp (by omega)]
theorem hn_wr_at {α : Type} {μ : hn_M} {k n j : Nat} {x : Int32} {K : hn_M → Option α} (h : j < n) (hn : n < 2 ^ 31) : hn_wr μ k n (nI j) x K = K (hn_up μ k j x) := by
  simp only [hn_wr]
  rw [if_neg (nI_in h hn), nI_clamp (by omega)]
theorem hn_rs_at {α : Type} {f : Nat → Int32} {n j : Nat} {K : Int32 → Option α} (h : j < n) (hn : n < 2 ^ 31) : hn_rs f n (nI j) K = K (f j) := by
  simp only [hn_rs]
  rw [if_neg (nI_in h hn), nI_clamp (by omega)]
theorem hn_up_at {μ : hn_M} {k i : Nat} {x : Int32} : hn_up μ k i x k i = x := by simp [hn_up]
theorem hn_up_off {μ : hn_M} {k i j : Nat} {x : Int32} (h : j ≠ i) : hn_up μ k i x k j = μ k j := by simp [hn_up, h]
/-- 1 where a number lies between, else 0 -/
def hn_bi (x : Int32) (a b : Int) : Int32 := if a ≤ x.toInt ∧ x.toInt ≤ b then 1 else 0
theorem hn_bi_t {x : Int32} {a b : Int} (h : a ≤ x.toInt ∧ x.toInt ≤ b) : hn_bi x a b = 1 := if_pos h
theorem hn_bi_f {x : Int32} {a b : Int} (h : ¬ (a ≤ x.toInt ∧ x.toInt ≤ b)) : hn_bi x a b = 0 := if_neg h
theorem hn_bi_bo {α : Type} {x : Int32} {a b : Int} {K : Option α} : hn_bo (hn_bi x a b) K = K := by
  unfold hn_bo
  by_cases h : a ≤ x.toInt ∧ x.toInt ≤ b
  · rw [hn_bi_t h]; rfl
  · rw [hn_bi_f h]; rfl
theorem hn_nat {x : Int32} (h : 0 ≤ x.toInt) : ∃ j : Nat, x = nI j ∧ (j : Int) = x.toInt := by
  have hx : ¬ x < 0 := by rw [Int32.lt_iff_toInt_lt, Int32.toInt_zero]; omega
  obtain ⟨j, hj, rfl⟩ := nI_of hx
  exact ⟨j, rfl, (nI_toInt hj).symm⟩
theorem hn_cmpn (x y : Int64) : (lg_cmp x y < 0) ↔ x.toInt < y.toInt := by
  unfold lg_cmp
  by_cases h1 : y < x
  · have g := Int64.lt_iff_toInt_lt.mp h1
    rw [if_pos h1]
    exact ⟨fun z => absurd z (by decide), fun z => by omega⟩
  · rw [if_neg h1]
    have g : ¬ y.toInt < x.toInt := fun z => h1 (Int64.lt_iff_toInt_lt.mpr z)
    by_cases h2 : x = y
    · rw [if_pos h2, h2]
      exact ⟨fun z => absurd z (by decide), fun z => by omega⟩
    · have g2 : ¬ x.toInt = y.toInt := fun z => h2 (Int64.toInt_inj.mp z)
      rw [if_neg h2]
      exact ⟨fun _ => by omega, fun _ => by decide⟩
theorem hn_cmpp (x y : Int64) : (0 < lg_cmp x y) ↔ y.toInt < x.toInt := by
  unfold lg_cmp
  by_cases h1 : y < x
  · have g := Int64.lt_iff_toInt_lt.mp h1
    rw [if_pos h1]
    exact ⟨fun _ => g, fun _ => by decide⟩
  · rw [if_neg h1]
    have g : ¬ y.toInt < x.toInt := fun z => h1 (Int64.lt_iff_toInt_lt.mpr z)
    by_cases h2 : x = y
    · rw [if_pos h2]
      exact ⟨fun z => absurd z (by decide), fun z => absurd z g⟩
    · rw [if_neg h2]
      exact ⟨fun z => absurd z (by decide), fun z => absurd z g⟩
theorem hn_in8 (x : Int32) {lo hi : Int64} {a b : Int} (ha : lo.toInt = a) (hb : hi.toInt = b) : fX8_in x.toInt64 lo hi = some (hn_bi x a b) := by
  unfold fX8_in
  simp only [hn_cmpn, hn_cmpp, Int32.toInt_toInt64, ha, hb]
  by_cases h1 : x.toInt < a
  · rw [if_pos h1, hn_bi_f (by omega)]
  · by_cases h2 : b < x.toInt
    · rw [if_neg h1, if_pos h2, hn_bi_f (by omega)]
    · rw [if_neg h1, if_neg h2, hn_bi_t (by omega)]
theorem hn_lt {x y : Int32} : x < y ↔ x.toInt < y.toInt := Int32.lt_iff_toInt_lt
theorem hn_le {x y : Int32} : x ≤ y ↔ x.toInt ≤ y.toInt := Int32.le_iff_toInt_le
theorem hn_eq_i {x y : Int32} : x = y ↔ x.toInt = y.toInt := Int32.toInt_inj.symm
theorem hn_town7 (x : Int32) : fX7_isTown x = some (hn_bi x 0 5) := by
  unfold fX7_isTown hn_bi
  simp only [hn_lt, hn_le, show (0 : Int32).toInt = 0 from rfl, show (6 : Int32).toInt = 6 from rfl]
  by_cases h1 : x.toInt < 0
  · rw [if_pos h1, if_neg (by omega)]
  · by_cases h2 : 6 ≤ x.toInt
    · rw [if_neg h1, if_pos h2, if_neg (by omega)]
    · rw [if_neg h1, if_neg h2, if_pos (by omega)]
theorem hn_writer7 (x : Int32) : fX7_isWriter x = some (hn_bi x 0 7) := by
  unfold fX7_isWriter hn_bi
  simp only [hn_lt, hn_le, show (0 : Int32).toInt = 0 from rfl, show (8 : Int32).toInt = 8 from rfl]
  by_cases h1 : x.toInt < 0
  · rw [if_pos h1, if_neg (by omega)]
  · by_cases h2 : 8 ≤ x.toInt
    · rw [if_neg h1, if_pos h2, if_neg (by omega)]
    · rw [if_neg h1, if_neg h2, if_pos (by omega)]
theorem hn_thing7 (x : Int32) : fX7_isThing x = some (hn_bi x 0 9) := by
  unfold fX7_isThing hn_bi
  simp only [hn_lt, hn_le, show (0 : Int32).toInt = 0 from rfl, show (10 : Int32).toInt = 10 from rfl]
  by_cases h1 : x.toInt < 0
  · rw [if_pos h1, if_neg (by omega)]
  · by_cases h2 : 10 ≤ x.toInt
    · rw [if_neg h1, if_pos h2, if_neg (by omega)]
    · rw [if_neg h1, if_neg h2, if_pos (by omega)]
theorem hn_day7 (x : Int32) : fX7_isDay x = some (hn_bi x 0 999) := by
  unfold fX7_isDay hn_bi
  simp only [hn_lt, show (0 : Int32).toInt = 0 from rfl, show (999 : Int32).toInt = 999 from rfl]
  by_cases h1 : x.toInt < 0
  · rw [if_pos h1, if_neg (by omega)]
  · by_cases h2 : 999 < x.toInt
    · rw [if_neg h1, if_pos h2, if_neg (by omega)]
    · rw [if_neg h1, if_neg h2, if_pos (by omega)]
theorem hn_dayn7 (x : Int32) : fX7_isDayOrNone x = some (hn_bi x (-1) 999) := by
  unfold fX7_isDayOrNone
  rw [hn_day7, Option.bind_some]
  have em : (x = -1) ↔ x.toInt = -1 := by rw [hn_eq_i]; rfl
  by_cases h1 : x = -1
  · rw [if_pos h1, hn_bi_t (by have := em.mp h1; omega)]
  · have h2 : ¬ x.toInt = -1 := fun z => h1 (em.mpr z)
    rw [if_neg h1]
    by_cases h3 : 0 ≤ x.toInt ∧ x.toInt ≤ 999
    · rw [hn_bi_t h3, hn_bi_t (by omega)]; rfl
    · rw [hn_bi_f h3, hn_bi_f (by omega)]; rfl
theorem hn_town8 (x : Int32) : fX8_isTown x = some (hn_bi x 0 5) := by
  unfold fX8_isTown; rw [hn_in8 x (a := 0) (b := 5) rfl rfl, Option.bind_some, hn_bi_bo]
theorem hn_thing8 (x : Int32) : fX8_isThing x = some (hn_bi x 0 9) := by
  unfold fX8_isThing; rw [hn_in8 x (a := 0) (b := 9) rfl rfl, Option.bind_some, hn_bi_bo]
theorem hn_day8 (x : Int32) : fX8_isDay x = some (hn_bi x 0 999) := by
  unfold fX8_isDay; rw [hn_in8 x (a := 0) (b := 999) rfl rfl, Option.bind_some, hn_bi_bo]
theorem hn_bi_nI {j : Nat} {a b : Nat} (hj : j < 2 ^ 31) (h1 : a ≤ j) (h2 : j ≤ b) : hn_bi (nI j) a b = 1 := hn_bi_t (by rw [nI_toInt hj]; omega)
/-- a loop of a mirror over places j to N - 1, the state s: by its step -/
def hn_it_ {σ : Type} (step : Nat → σ → σ) : Nat → Nat → σ → σ
  | 0, _, s => s
  | d + 1, j, s => hn_it_ step d (j + 1) (step j s)
theorem hn_loop {σ ρ : Type} (f : Nat → Nat → σ → ρ) (N : Nat) (step : Nat → σ → σ) (fin : σ → ρ) (I : Nat → σ → Prop)
    (hend : ∀ n s, I N s → f (n + 1) N s = fin s) (hstep : ∀ n j s, j < N → I j s → f (n + 1) j s = f n (j + 1) (step j s)) (hI : ∀ j s, j < N → I j s → I (j + 1) (step j s)) :
    ∀ (d j n : Nat) (s : σ), j + d = N → d < n → I j s → f n j s = fin (hn_it_ step d j s) ∧ I N (hn_it_ step d j s) := by
  intro d
  induction d with
  | zero =>
    intro j n s hj hn hi
    obtain ⟨n, rfl⟩ : ∃ n', n = n' + 1 := ⟨n - 1, by omega⟩
    have hj : j = N := by omega
    subst hj
    exact ⟨hend n s hi, hi⟩
  | succ d ih =>
    intro j n s hj hn hi
    obtain ⟨n, rfl⟩ : ∃ n', n = n' + 1 := ⟨n - 1, by omega⟩
    rw [hstep n j s (by omega) hi]
    exact ih (j + 1) n (step j s) (by omega) (by omega) (hI j s (by omega) hi)
