/-! calls: way, slow, post -/
section c1
variable {μ ν : hn_M} {V : hn_Vw} {D S : Nat → Nat → Int} {o F : Nat}
theorem hn_ckt {α : Type} {x : Int32} {a b : Int} {B K : Option α} (h : a ≤ x.toInt ∧ x.toInt ≤ b) : ((some (hn_bi x a b)).bind fun v => if v = 0 then B else K) = K := by
  rw [Option.bind_some, hn_bi_t h]; rfl
theorem hn_ckf {α : Type} {x : Int32} {a b : Int} {B K : Option α} (h : ¬ (a ≤ x.toInt ∧ x.toInt ≤ b)) : ((some (hn_bi x a b)).bind fun v => if v = 0 then B else K) = B := by
  rw [Option.bind_some, hn_bi_f h]; rfl
theorem hn_ix' {x : Int32} {n : Int} (m : Nat) (hm : n + 1 = m) (h : 0 ≤ x.toInt ∧ x.toInt ≤ n) : ∃ j, j < m ∧ x = nI j := hn_ix (by omega)
/-- a call that changes nothing in the class -/
def hn_cP (c m : hn_M → Option Int32) : Prop := ∀ μ, hn_Inv μ → ∃ r, c μ = some r ∧ m μ = some r
/-- a call -/
def hn_cM (c m : hn_M → Option (Int32 × hn_M)) : Prop := ∀ μ, hn_Inv μ → ∃ r μ1 μ2, c μ = some (r, μ1) ∧ m μ1 = some (r, μ2) ∧ hn_Inv μ2
/-- a call that only the model writes at -/
def hn_cN (c : hn_M → Option Int32) (m : hn_M → Option (Int32 × hn_M)) : Prop := ∀ μ, hn_Inv μ → ∃ r μ2, c μ = some r ∧ m μ = some (r, μ2) ∧ hn_Inv μ2
theorem hn_wayI (h : iP μ D S) {a b : Nat} (ha : a < 6) (hb : b < 6) : (D a b < 1000000 ∧ μ 75 (6 * a + b) = μ 4 (6 * a + b)) ∨ (¬ D a b < 1000000 ∧ μ 75 (6 * a + b) = -4) := by
  have w := h.2.2.2.1 a b ha hb
  have d : (μ 4 (6 * a + b)).toInt = D a b := (h.1 a b ha hb).1
  unfold fw_enc at w
  by_cases hc : D a b < 1000000
  · rw [if_pos hc] at w
    exact Or.inl ⟨hc, hn_eq_i.mpr (by rw [w, d])⟩
  · rw [if_neg hc] at w
    exact Or.inr ⟨hc, hn_eq_i.mpr (by rw [w]; rfl)⟩
theorem c_way (x y : Int32) : hn_cP (fun μ => fX7_way μ x y) (fun μ => fX8_way μ x y) := by
  intro μ ⟨V, D, S, o, ⟨i1, _⟩, _⟩
  show ∃ r, fX7_way μ x y = some r ∧ fX8_way μ x y = some r
  unfold fX7_way fX8_way
  rw [hn_town7, hn_town8]
  by_cases h1 : 0 ≤ x.toInt ∧ x.toInt ≤ 5
  rotate_left 1
  · rw [hn_ckf h1, hn_ckf h1]; exact ⟨-1, rfl, rfl⟩
  rw [hn_ckt h1, hn_ckt h1, hn_town7, hn_town8]
  by_cases h2 : 0 ≤ y.toInt ∧ y.toInt ≤ 5
  rotate_left 1
  · rw [hn_ckf h2, hn_ckf h2]; exact ⟨-1, rfl, rfl⟩
  rw [hn_ckt h2, hn_ckt h2]
  obtain ⟨a, ha, rfl⟩ := hn_ix' 6 (by decide) h1
  obtain ⟨b, hb, rfl⟩ := hn_ix' 6 (by decide) h2
  rw [hn_leads (iP_O i1) ha hb, hn_days ha hb, hn_ix6m, nI_add, hn_rd_at (by omega) (by decide), Option.bind_some]
  rcases hn_wayI i1 ha hb with ⟨hc, e⟩ | ⟨hc, e⟩
  · rw [if_pos hc, e]; exact ⟨_, rfl, rfl⟩
  · rw [if_neg hc, e]; exact ⟨_, rfl, rfl⟩
theorem c_slow (hF : 12000 ≤ F) (x y : Int32) : hn_cN (fun μ => fX7_slow μ x y) (fun μ => fX8_slow F x y μ) := by
  intro μ ⟨V, D, S, o, hB, hS⟩
  have hI : hn_Inv μ := ⟨V, D, S, o, hB, hS⟩
  have i1 := hB.1
  show ∃ r μ2, fX7_slow μ x y = some r ∧ fX8_slow F x y μ = some (r, μ2) ∧ _
  unfold fX7_slow fX8_slow
  rw [hn_town7, hn_town8]
  by_cases h1 : 0 ≤ x.toInt ∧ x.toInt ≤ 5
  rotate_left 1
  · rw [hn_ckf h1, hn_ckf h1]; exact ⟨-1, μ, rfl, rfl, hI⟩
  rw [hn_ckt h1, hn_ckt h1, hn_town7, hn_town8]
  by_cases h2 : 0 ≤ y.toInt ∧ y.toInt ≤ 5
  rotate_left 1
  · rw [hn_ckf h2, hn_ckf h2]; exact ⟨-1, μ, rfl, rfl, hI⟩
  rw [hn_ckt h2, hn_ckt h2]
  obtain ⟨a, ha, rfl⟩ := hn_ix' 6 (by decide) h1
  obtain ⟨b, hb, rfl⟩ := hn_ix' 6 (by decide) h2
  obtain ⟨r, μ2, s1, s2, s3⟩ := hn_slow8 (F := F) (μ := μ) (by omega) ha hb i1.2.1 (fun a b ha hb => ⟨by rw [(i1.2.2.1 (6 * a + b) (by omega)).1]; rfl, by rw [(i1.2.2.1 (6 * a + b) (by omega)).2]; rfl, i1.2.2.2.1 a b ha hb⟩)
  rw [hn_leads (iP_O i1) ha hb, s1, Option.bind_some]
  have fr : qfr μ μ2 := ⟨fun k a b c d => s3 k (by omega), fun i _ => by rw [s3 0 (by decide)], fun i _ _ => by rw [s3 72 (by decide)]⟩
  have hI2 : hn_Inv μ2 := ⟨V, D, S, o, hn_Ba_q fr hB, iS_c (by rw [s3 0 (by decide)]) ⟨by rw [s3 46 (by decide)], s3 47 (by decide), s3 48 (by decide), s3 51 (by decide), s3 52 (by decide), s3 53 (by decide)⟩ hS⟩
  unfold sl_T at s2
  by_cases hc : D a b < 1000000
  · rw [if_pos hc] at s2
    rw [if_pos hc, if_neg (by decide)]
    unfold fX2_slowestDays
    rw [hn_ix6r, nI_add, hn_rd_at (by omega) (by decide)]
    refine ⟨r, μ2, ?_, rfl, hI2⟩
    have e : (μ 5 (6 * a + b)).toInt = S a b := (i1.1 a b ha hb).2
    rw [Option.bind_some, show μ 5 (6 * a + b) = r from hn_eq_i.mpr (by rw [e, s2])]
  · rw [if_neg hc] at s2
    rw [if_neg hc, if_pos rfl]
    exact ⟨r, μ2, by rw [show r = -4 from hn_eq_i.mpr (by rw [s2]; rfl)], rfl, hI2⟩
theorem okV_0 {D' : Nat → Nat → Int} (h : okV V D) (h0 : vN V = 0) : okV V D' := by
  obtain ⟨h1, h2, h3, h4, h5, h6⟩ := h
  refine ⟨h1, h2, fun q hq => ?_, fun j hj => ?_, h5, h6⟩
  · have := (h3 q hq).1; omega
  · have := (h4 j hj).1; omega
theorem dy_cnt_one (P Q : Nat → Prop) [DecidablePred P] [DecidablePred Q] (k : Nat) (hQ : Q k) : ∀ n, (∀ i, i < n → i ≠ k → (Q i ↔ P i)) → dy_cnt Q n = dy_cnt P n + (if k < n ∧ ¬ P k then 1 else 0) := by
  intro n
  induction n with
  | zero => intro _; rfl
  | succ n ih =>
    intro h
    have ih := ih (fun i hi => h i (by omega))
    simp only [dy_cnt]
    rw [ih]
    by_cases hkn : n = k
    · subst hkn
      rw [if_pos hQ, if_neg (show ¬ (n < n ∧ ¬ P n) by omega)]
      by_cases hP : P n
      · rw [if_pos hP, if_neg (fun z => z.2 hP)]
      · rw [if_neg hP, if_pos ⟨by omega, hP⟩]
    · have h2 := h n (by omega) hkn
      have e : (if Q n then 1 else 0) = (if P n then 1 else 0) := by
        by_cases hP : P n
        · rw [if_pos hP, if_pos (h2.mpr hP)]
        · rw [if_neg hP, if_neg (fun z => hP (h2.mp z))]
      rw [e]
      by_cases hc : k < n ∧ ¬ P k
      · rw [if_pos hc, if_pos (show k < n + 1 ∧ ¬ P k from ⟨by omega, hc.2⟩)]; omega
      · rw [if_neg hc, if_neg (show ¬ (k < n + 1 ∧ ¬ P k) from fun z => hc ⟨by omega, z.2⟩)]; omega
/-- Posts.tell -/
theorem po_tell (hF : 12000 ≤ F) (i1 : iP μ D S) {a b lo hi : Nat} (ha : a < 6) (hb : b < 6) (hab : a ≠ b) (h1 : 1 ≤ lo) (h2 : lo ≤ hi) (h3 : hi ≤ 60) : ∃ ν D' S', fX2_tell F (nI a) (nI b) (nI lo) (nI hi) μ = some ν ∧ (∀ k, k ≠ 1 → k ≠ 2 → k ≠ 3 → k ≠ 4 → k ≠ 5 → ν k = μ k) ∧
    (∀ x y, x < 6 → y < 6 → pD ν x y = D' x y ∧ pS ν x y = S' x y) ∧ sl_W (pL ν) (pM ν) D' S' ∧ (ν 1 4 = nI (dy_cnt (fun i => ¬ ν 2 i = 0) 36)) ∧ (∀ i, i < 36 → ν 2 i = (if i = 6 * a + b then nI lo else μ 2 i) ∧ ν 3 i = (if i = 6 * a + b then nI hi else μ 3 i)) ∧ D' = (fw_r (fw_D0 (pL ν)) (pM ν) 6).1 := by
  obtain ⟨p1, p2, p3, p4, p5⟩ := i1
  -- the memory before reckon
  have key : ∀ (ξ : hn_M), (∀ k, k ≠ 1 → ξ k = μ k) → ξ 1 4 = nI (dy_cnt (fun i => ¬ (if i = 6 * a + b then nI lo else μ 2 i) = 0) 36) → ∃ ν D' S', fX2_tell_28 F (nI lo) (nI hi) (nI (6 * a + b)) ξ = some ν ∧ (∀ k, k ≠ 1 → k ≠ 2 → k ≠ 3 → k ≠ 4 → k ≠ 5 → ν k = μ k) ∧
      (∀ x y, x < 6 → y < 6 → pD ν x y = D' x y ∧ pS ν x y = S' x y) ∧ sl_W (pL ν) (pM ν) D' S' ∧ (ν 1 4 = nI (dy_cnt (fun i => ¬ ν 2 i = 0) 36)) ∧ (∀ i, i < 36 → ν 2 i = (if i = 6 * a + b then nI lo else μ 2 i) ∧ ν 3 i = (if i = 6 * a + b then nI hi else μ 3 i)) ∧ D' = (fw_r (fw_D0 (pL ν)) (pM ν) 6).1 := by
    intro ξ hk h14
    unfold fX2_tell_28
    rw [hn_wr_at (by omega) (by decide), hn_wr_at (by omega) (by decide)]
    generalize hχ : hn_up (hn_up ξ 2 (6 * a + b) (nI lo)) 3 (6 * a + b) (nI hi) = χ
    have c2 : ∀ i, χ 2 i = (if i = 6 * a + b then nI lo else μ 2 i) := fun i => by rw [← hχ, hn_up_ne (by decide), hn_upk, hk 2 (by decide)]
    have c3 : ∀ i, χ 3 i = (if i = 6 * a + b then nI hi else μ 3 i) := fun i => by rw [← hχ, hn_upk, hn_up_ne (by decide), hk 3 (by decide)]
    have cp : fw_post (pL χ) (pM χ) := by
      intro x y hx hy
      have := p2.2.2.1 x y hx hy
      unfold pL pM at this ⊢
      rw [c2, c3]
      by_cases he : 6 * x + y = 6 * a + b
      · rw [if_pos he, if_pos he, nI_toInt (by omega), nI_toInt (by omega)]
        right
        omega
      · rw [if_neg he, if_neg he]; exact this
    obtain ⟨ν, r1, r2, r3⟩ := hn_reckon2 (F := F) (μ := χ) (by omega) cp
    rw [r1, Option.bind_some]
    have e2 : ν 2 = χ 2 := r2 2 (by decide) (by decide)
    have e3 : ν 3 = χ 3 := r2 3 (by decide) (by decide)
    have eL : pL ν = pL χ := by funext x y; unfold pL; rw [e2]
    have eM : pM ν = pM χ := by funext x y; unfold pM; rw [e3]
    refine ⟨ν, (fw_r (fw_D0 (pL χ)) (pM χ) 6).1, (fw_r (fw_D0 (pL χ)) (pM χ) 6).2, rfl, fun k k1 k2 k3 k4 k5 => ?_, r3, ?_, ?_, fun i hi => ?_, by rw [eL, eM]⟩
    · rw [r2 k k4 k5, ← hχ, hn_up_ne k3, hn_up_ne k2, hk k k1]
    · rw [eL, eM]
      have ok := fw_r_ok cp 6 (Nat.le_refl _)
      have e := fw_end (by decide) cp ok
      refine ⟨fun x y hx hy => ?_, ok.2.1, cp, e.1, e.2⟩
      have := ok.1 x y hx hy
      simpa using this
    · rw [r2 1 (by decide) (by decide), e2, ← hχ, hn_up_ne (by decide), hn_up_ne (by decide), h14, hχ]
      congr 1
      have : (fun i => ¬ (if i = 6 * a + b then nI lo else μ 2 i) = 0) = (fun i => ¬ χ 2 i = 0) := by funext i; rw [c2]
      congr 1
    · rw [e2, e3]; exact ⟨c2 i, c3 i⟩
  unfold fX2_tell
  rw [hn_ix6r, nI_add, hn_rd_at (by omega) (by decide)]
  have c1 := dy_cnt_one (fun i => ¬ μ 2 i = 0) (fun i => ¬ (if i = 6 * a + b then nI lo else μ 2 i) = 0) (6 * a + b) (by show ¬ (if 6 * a + b = 6 * a + b then nI lo else μ 2 (6 * a + b)) = 0; rw [if_pos rfl]; exact nI_ne0 (by omega) (by omega)) 36 (fun i _ hi => by show (¬ (if i = 6 * a + b then nI lo else μ 2 i) = 0) ↔ _; rw [if_neg hi])
  by_cases h0 : μ 2 (6 * a + b) = 0
  · rw [if_pos h0]
    rw [if_pos ⟨by omega, fun z => z h0⟩] at c1
    exact key (hn_up μ 1 4 (μ 1 4 + 1)) (fun k hk => hn_up_ne hk) (by rw [hn_up_at, p5, nI_1, c1])
  · rw [if_neg h0]
    rw [if_neg (fun z => z.2 h0)] at c1
    exact key μ (fun k _ => rfl) (by rw [p5, c1]; rfl)
end c1
