/-! systems of days: lo ≤ d ≤ hi, and for edges (l, e, g): d l ≥ d e + g; rounds that raise -/
def dy_sol (n : Nat) (lo hi : Nat → Int) (E : List (Nat × Nat × Int)) (d : Nat → Int) : Prop := (∀ s, s < n → lo s ≤ d s ∧ d s ≤ hi s) ∧ ∀ q ∈ E, d q.2.1 + q.2.2 ≤ d q.1
def dy_in (n : Nat) (E : List (Nat × Nat × Int)) : Prop := ∀ q ∈ E, q.1 < n ∧ q.2.1 < n
def dy_up (d : Nat → Int) (k : Nat) (x : Int) : Nat → Int := fun j => if j = k then x else d j
def dy_r1 (d : Nat → Int) (q : Nat × Nat × Int) : Nat → Int := if d q.1 < d q.2.1 + q.2.2 then dy_up d q.1 (d q.2.1 + q.2.2) else d
def dy_rd (E : List (Nat × Nat × Int)) (d : Nat → Int) : Nat → Int := E.foldl dy_r1 d
def dy_it (E : List (Nat × Nat × Int)) : Nat → (Nat → Int) → Nat → Int
  | 0, d => d
  | r + 1, d => dy_rd E (dy_it E r d)
theorem dy_r1_ge (d : Nat → Int) (q : Nat × Nat × Int) (s : Nat) : d s ≤ dy_r1 d q s := by
  unfold dy_r1
  by_cases h : d q.1 < d q.2.1 + q.2.2
  · rw [if_pos h]; unfold dy_up
    by_cases hs : s = q.1
    · rw [if_pos hs, hs]; omega
    · rw [if_neg hs]; exact Int.le_refl _
  · rw [if_neg h]; exact Int.le_refl _
theorem dy_rd_ge (E : List (Nat × Nat × Int)) : ∀ (d : Nat → Int) (s : Nat), d s ≤ dy_rd E d s := by
  induction E with
  | nil => intro d s; exact Int.le_refl _
  | cons q E ih => intro d s; exact Int.le_trans (dy_r1_ge d q s) (ih (dy_r1 d q) s)
theorem dy_r1_le {n : Nat} {d m : Nat → Int} {q : Nat × Nat × Int} (hq : q.1 < n ∧ q.2.1 < n) (he : m q.2.1 + q.2.2 ≤ m q.1) (h : ∀ s, s < n → d s ≤ m s) : ∀ s, s < n → dy_r1 d q s ≤ m s := by
  intro s hs
  unfold dy_r1
  by_cases h1 : d q.1 < d q.2.1 + q.2.2
  · rw [if_pos h1]; unfold dy_up
    by_cases h2 : s = q.1
    · rw [if_pos h2, h2]; have := h q.2.1 hq.2; omega
    · rw [if_neg h2]; exact h s hs
  · rw [if_neg h1]; exact h s hs
theorem dy_rd_le {n : Nat} {m : Nat → Int} (E : List (Nat × Nat × Int)) : ∀ (d : Nat → Int), dy_in n E → (∀ q ∈ E, m q.2.1 + q.2.2 ≤ m q.1) → (∀ s, s < n → d s ≤ m s) → ∀ s, s < n → dy_rd E d s ≤ m s := by
  induction E with
  | nil => intro d _ _ h; exact h
  | cons q E ih =>
    intro d hi he h
    exact ih (dy_r1 d q) (fun x hx => hi x (List.mem_cons_of_mem _ hx)) (fun x hx => he x (List.mem_cons_of_mem _ hx)) (dy_r1_le (hi q List.mem_cons_self) (he q List.mem_cons_self) h)
/-- behind a round each edge holds with its source's day from before the round -/
theorem dy_rd_edge (E : List (Nat × Nat × Int)) : ∀ (d : Nat → Int), ∀ q ∈ E, d q.2.1 + q.2.2 ≤ dy_rd E d q.1 := by
  induction E with
  | nil => intro d q hq; cases hq
  | cons p E ih =>
    intro d q hq
    show _ ≤ dy_rd E (dy_r1 d p) q.1
    rcases List.mem_cons.mp hq with h | h
    · subst h
      refine Int.le_trans ?_ (dy_rd_ge E (dy_r1 d q) q.1)
      unfold dy_r1
      by_cases h1 : d q.1 < d q.2.1 + q.2.2
      · rw [if_pos h1]; unfold dy_up; rw [if_pos rfl]; exact Int.le_refl _
      · rw [if_neg h1]; omega
    · have h1 := ih (dy_r1 d p) q h
      have h2 := dy_r1_ge d p q.2.1
      omega
theorem dy_fix {n : Nat} {E : List (Nat × Nat × Int)} {d : Nat → Int} (hi : dy_in n E) (h : ∀ s, s < n → dy_rd E d s = d s) : ∀ q ∈ E, d q.2.1 + q.2.2 ≤ d q.1 := by
  intro q hq
  have := dy_rd_edge E d q hq
  rw [h q.1 (hi q hq).1] at this
  exact this
theorem dy_least (P : Int → Prop) (b : Int) (hb : ∀ x, P x → b ≤ x) : (∃ x, P x) → ∃ x, P x ∧ ∀ y, P y → x ≤ y := by
  have key : ∀ (k : Nat), P (b + k) → ∃ x, P x ∧ ∀ y, P y → x ≤ y := by
    intro k
    induction k using Nat.strongRecOn with
    | ind k ih =>
      intro hk
      by_cases h : ∃ j, j < k ∧ P (b + (j : Nat))
      · obtain ⟨j, hj, hp⟩ := h
        exact ih j hj hp
      · refine ⟨b + k, hk, fun y hy => ?_⟩
        have h1 := hb y hy
        by_cases h2 : b + k ≤ y
        · exact h2
        · exact absurd ⟨(y - b).toNat, by omega, by rw [show b + ((y - b).toNat : Int) = y by omega]; exact hy⟩ h
  rintro ⟨x, hx⟩
  have h1 := hb x hx
  exact key (x - b).toNat (by rw [show b + ((x - b).toNat : Int) = x by omega]; exact hx)
/-- where there is a solution there is a least one -/
theorem dy_min {n : Nat} {lo hi : Nat → Int} {E : List (Nat × Nat × Int)} (hE : dy_in n E) (h : ∃ d, dy_sol n lo hi E d) : ∃ m, dy_sol n lo hi E m ∧ ∀ d, dy_sol n lo hi E d → ∀ s, s < n → m s ≤ d s := by
  have h1 : ∀ s, ∃ x : Int, s < n → (∃ d, dy_sol n lo hi E d ∧ d s = x) ∧ ∀ d, dy_sol n lo hi E d → x ≤ d s := by
    intro s
    by_cases hs : s < n
    · obtain ⟨x, ⟨d, hd, hx⟩, hl⟩ := dy_least (fun x => ∃ d, dy_sol n lo hi E d ∧ d s = x) (lo s) (fun x ⟨d, hd, hx⟩ => by rw [← hx]; exact (hd.1 s hs).1) (by obtain ⟨d, hd⟩ := h; exact ⟨d s, d, hd, rfl⟩)
      exact ⟨x, fun _ => ⟨⟨d, hd, hx⟩, fun d' hd' => hl _ ⟨d', hd', rfl⟩⟩⟩
    · exact ⟨0, fun z => absurd z hs⟩
  obtain ⟨m, hm⟩ := Classical.axiomOfChoice h1
  refine ⟨m, ⟨fun s hs => ?_, fun q hq => ?_⟩, fun d hd s hs => (hm s hs).2 d hd⟩
  · obtain ⟨d, hd, he⟩ := (hm s hs).1
    rw [← he]; exact hd.1 s hs
  · obtain ⟨d, hd, he⟩ := (hm q.1 (hE q hq).1).1
    have h2 := (hm q.2.1 (hE q hq).2).2 d hd
    have h3 := hd.2 q hq
    show m q.2.1 + q.2.2 ≤ m q.1
    rw [← he]; omega
def dy_cnt (P : Nat → Prop) [DecidablePred P] : Nat → Nat
  | 0 => 0
  | n + 1 => dy_cnt P n + (if P n then 1 else 0)
theorem dy_cnt_le (P : Nat → Prop) [DecidablePred P] (n : Nat) : dy_cnt P n ≤ n := by
  induction n with
  | zero => exact Nat.le_refl _
  | succ n ih => unfold dy_cnt; by_cases h : P n <;> simp [h] <;> omega
theorem dy_cnt_all (P : Nat → Prop) [DecidablePred P] (n : Nat) (h : dy_cnt P n = n) : ∀ s, s < n → P s := by
  induction n with
  | zero => intro s hs; omega
  | succ n ih =>
    intro s hs
    have hl := dy_cnt_le P n
    unfold dy_cnt at h
    by_cases hn : P n
    · rw [if_pos hn] at h
      by_cases hsn : s = n
      · rw [hsn]; exact hn
      · exact ih (by omega) s (by omega)
    · rw [if_neg hn] at h; omega
theorem dy_cnt_mono (P Q : Nat → Prop) [DecidablePred P] [DecidablePred Q] (n : Nat) (h : ∀ s, s < n → P s → Q s) : dy_cnt P n ≤ dy_cnt Q n := by
  induction n with
  | zero => exact Nat.le_refl _
  | succ n ih =>
    have h1 := ih (fun s hs => h s (by omega))
    unfold dy_cnt
    by_cases hp : P n
    · rw [if_pos hp, if_pos (h n (by omega) hp)]; omega
    · rw [if_neg hp]; omega
theorem dy_cnt_lt (P Q : Nat → Prop) [DecidablePred P] [DecidablePred Q] (n : Nat) (h : ∀ s, s < n → P s → Q s) (v : Nat) (hv : v < n) (h1 : ¬ P v) (h2 : Q v) : dy_cnt P n < dy_cnt Q n := by
  induction n with
  | zero => omega
  | succ n ih =>
    unfold dy_cnt
    by_cases hvn : v = n
    · subst hvn
      have := dy_cnt_mono P Q v (fun s hs => h s (by omega))
      rw [if_neg h1, if_pos h2]; omega
    · have h3 := ih (fun s hs => h s (by omega)) (by omega)
      by_cases hp : P n
      · rw [if_pos hp, if_pos (h n (by omega) hp)]; omega
      · rw [if_neg hp]; omega
theorem dy_cnt_full (P : Nat → Prop) [DecidablePred P] (n : Nat) (h : ∀ s, s < n → P s) : dy_cnt P n = n := by
  induction n with
  | zero => rfl
  | succ n ih =>
    unfold dy_cnt
    rw [if_pos (h n (by omega)), ih (fun s hs => h s (by omega))]
/-- a round brings at least one more to the least solution -/
theorem dy_one {n : Nat} {lo hi : Nat → Int} {E : List (Nat × Nat × Int)} {m d : Nat → Int} (hE : dy_in n E) (hm : dy_sol n lo hi E m) (hl : ∀ d, dy_sol n lo hi E d → ∀ s, s < n → m s ≤ d s) (h1 : ∀ s, s < n → lo s ≤ d s) (h2 : ∀ s, s < n → d s ≤ m s) (v0 : Nat) (hv0 : v0 < n) (hne : d v0 < m v0) : ∃ v, v < n ∧ d v < m v ∧ dy_rd E d v = m v := by
  refine Classical.byContradiction fun hno => ?_
  have h3 : ∀ s, s < n → dy_rd E d s ≤ m s := dy_rd_le E d hE hm.2 h2
  have h4 : ∀ v, v < n → d v < m v → dy_rd E d v < m v := by
    intro v hv hlt
    have h5 := h3 v hv
    by_cases h6 : dy_rd E d v = m v
    · exact absurd ⟨v, hv, hlt, h6⟩ hno
    · omega
  have hs : dy_sol n lo hi E (fun v => if d v < m v then m v - 1 else m v) := by
    refine ⟨fun s hs => ?_, fun q hq => ?_⟩
    · have a1 := hm.1 s hs
      have a2 := h1 s hs
      by_cases h7 : d s < m s
      · simp only [if_pos h7]; omega
      · simp only [if_neg h7]; exact a1
    · have b1 := hm.2 q hq
      have b2 := dy_rd_edge E d q hq
      have b3 := hE q hq
      show (if d q.2.1 < m q.2.1 then m q.2.1 - 1 else m q.2.1) + q.2.2 ≤ (if d q.1 < m q.1 then m q.1 - 1 else m q.1)
      by_cases c1 : d q.1 < m q.1
      · rw [if_pos c1]
        have b4 := h4 q.1 b3.1 c1
        by_cases c2 : d q.2.1 < m q.2.1
        · rw [if_pos c2]; omega
        · rw [if_neg c2]
          have b5 := h2 q.2.1 b3.2
          omega
      · rw [if_neg c1]
        by_cases c2 : d q.2.1 < m q.2.1
        · rw [if_pos c2]; omega
        · rw [if_neg c2]; omega
  have h8 := hl _ hs v0 hv0
  simp only [if_pos hne] at h8
  omega
theorem dy_it_ge (E : List (Nat × Nat × Int)) (d : Nat → Int) (r s : Nat) : d s ≤ dy_it E r d s := by
  induction r with
  | zero => exact Int.le_refl _
  | succ r ih => exact Int.le_trans ih (dy_rd_ge E _ s)
theorem dy_it_le {n : Nat} {m : Nat → Int} {E : List (Nat × Nat × Int)} {d : Nat → Int} (hE : dy_in n E) (he : ∀ q ∈ E, m q.2.1 + q.2.2 ≤ m q.1) (h : ∀ s, s < n → d s ≤ m s) (r : Nat) : ∀ s, s < n → dy_it E r d s ≤ m s := by
  induction r with
  | zero => exact h
  | succ r ih => exact dy_rd_le E _ hE he ih
/-- after n rounds from the floors the least solution stands -/
theorem dy_done {n : Nat} {lo hi : Nat → Int} {E : List (Nat × Nat × Int)} {m : Nat → Int} (hE : dy_in n E) (hm : dy_sol n lo hi E m) (hl : ∀ d, dy_sol n lo hi E d → ∀ s, s < n → m s ≤ d s) (r : Nat) (hr : n ≤ r) : ∀ s, s < n → dy_it E r lo s = m s := by
  have hle : ∀ r s, s < n → dy_it E r lo s ≤ m s := fun r => dy_it_le hE hm.2 (fun s hs => (hm.1 s hs).1) r
  have key : ∀ r, (∀ s, s < n → dy_it E r lo s = m s) ∨ r ≤ dy_cnt (fun s => dy_it E r lo s = m s) n := by
    intro r
    induction r with
    | zero => exact Or.inr (Nat.zero_le _)
    | succ r ih =>
      by_cases hall : ∀ s, s < n → dy_it E r lo s = m s
      · left
        intro s hs
        have h1 := hle (r + 1) s hs
        have h2 : dy_it E r lo s ≤ dy_it E (r + 1) lo s := dy_rd_ge E _ s
        have h3 := hall s hs
        omega
      · right
        have ih := ih.resolve_left hall
        obtain ⟨v0, hv0⟩ := Classical.not_forall.mp hall
        obtain ⟨hv1, hv2⟩ := Classical.not_imp.mp hv0
        obtain ⟨v, h1, h2, h3⟩ := dy_one hE hm hl (fun s hs => dy_it_ge E lo r s) (hle r) v0 hv1 (by have := hle r v0 hv1; omega)
        have h4 := dy_cnt_lt (fun s => dy_it E r lo s = m s) (fun s => dy_it E (r + 1) lo s = m s) n (fun s hs he => by
          have a1 := hle (r + 1) s hs
          have a2 : dy_it E r lo s ≤ dy_it E (r + 1) lo s := dy_rd_ge E _ s
          omega) v h1 (by omega) h3
        omega
  rcases key r with h | h
  · exact h
  · have h5 := dy_cnt_le (fun s => dy_it E r lo s = m s) n
    exact dy_cnt_all _ n (by omega)
/-- rounds that stop moving below the ceilings have found the least solution -/
theorem dy_stop {n : Nat} {lo hi : Nat → Int} {E : List (Nat × Nat × Int)} {d : Nat → Int} (hE : dy_in n E) (h1 : ∀ s, s < n → lo s ≤ d s) (h2 : ∀ m, dy_sol n lo hi E m → ∀ s, s < n → d s ≤ m s) (hf : ∀ q ∈ E, d q.2.1 + q.2.2 ≤ d q.1) : ((∀ s, s < n → d s ≤ hi s) ↔ ∃ m, dy_sol n lo hi E m) ∧ ((∀ s, s < n → d s ≤ hi s) → dy_sol n lo hi E d) := by
  have h3 : (∀ s, s < n → d s ≤ hi s) → dy_sol n lo hi E d := fun h => ⟨fun s hs => ⟨h1 s hs, h s hs⟩, hf⟩
  refine ⟨⟨fun h => ⟨d, h3 h⟩, fun ⟨m, hm⟩ s hs => Int.le_trans (h2 m hm s hs) (hm.1 s hs).2⟩, h3⟩
