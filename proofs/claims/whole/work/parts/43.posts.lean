/-! Posts and layWays: the mirrors do the rounds of 42.ways -/
theorem hn_addI {x y : Int32} (h1 : -2147483648 ≤ x.toInt + y.toInt) (h2 : x.toInt + y.toInt < 2147483648) : (x + y).toInt = x.toInt + y.toInt := by
  rw [Int32.toInt_add, Int.bmod_eq_of_le (by omega) (by omega)]
theorem hn_subI {x y : Int32} (h1 : -2147483648 ≤ x.toInt - y.toInt) (h2 : x.toInt - y.toInt < 2147483648) : (x - y).toInt = x.toInt - y.toInt := by
  rw [Int32.toInt_sub, Int.bmod_eq_of_le (by omega) (by omega)]
theorem hn_loopE {σ ρ : Type} (f : Nat → Nat → σ → ρ) (N : Nat) (fin : σ → ρ) (I : Nat → σ → Prop)
    (hend : ∀ n s, I N s → f (n + 1) N s = fin s) (hstep : ∀ n j s, j < N → I j s → ∃ s', f (n + 1) j s = f n (j + 1) s' ∧ I (j + 1) s') :
    ∀ (d j n : Nat) (s : σ), j + d = N → d < n → I j s → ∃ s', f n j s = fin s' ∧ I N s' := by
  intro d
  induction d with
  | zero =>
    intro j n s hj hn hi
    obtain ⟨n, rfl⟩ : ∃ n', n = n' + 1 := ⟨n - 1, by omega⟩
    have hj : j = N := by omega
    subst hj
    exact ⟨s, hend n s hi, hi⟩
  | succ d ih =>
    intro j n s hj hn hi
    obtain ⟨n, rfl⟩ : ∃ n', n = n' + 1 := ⟨n - 1, by omega⟩
    obtain ⟨s', h1, h2⟩ := hstep n j s (by omega) hi
    obtain ⟨s2, h3, h4⟩ := ih (j + 1) n s' (by omega) (by omega) h2
    exact ⟨s2, h1.trans h3, h4⟩
theorem hn_ge {a b : Nat} (h : a < b) (hb : b < 2 ^ 31) : ¬ nI b ≤ nI a := nI_ge h hb
theorem hn_upk {μ : hn_M} {k j i : Nat} {x : Int32} : hn_up μ k i x k j = if j = i then x else μ k j := by simp [hn_up]
theorem hn_layPosts {F : Nat} {μ : hn_M} (hF : 37 ≤ F) : ∃ μ', fX2_layPosts F μ = some μ' ∧ (∀ k, k ≠ 4 → k ≠ 5 → μ' k = μ k) ∧ ∀ i, i < 36 → μ' 4 i = (if i / 6 = i % 6 then 0 else if 0 < (μ 2 i).toInt then μ 2 i else 1000000) ∧ μ' 5 i = μ 3 i := by
  obtain ⟨μ', h1, h2⟩ := hn_loopE (fun n j μ' => fX2_layPosts_2 F n (nI j) μ') 36 some (fun j μ' => (∀ k, k ≠ 4 → k ≠ 5 → μ' k = μ k) ∧ ∀ i, i < j → μ' 4 i = (if i / 6 = i % 6 then 0 else if 0 < (μ 2 i).toInt then μ 2 i else 1000000) ∧ μ' 5 i = μ 3 i)
    (fun n s _ => by
      show fX2_layPosts_2 F (n + 1) (nI 36) s = some s
      rw [fX2_layPosts_2, if_pos (show (36 : Int32) ≤ nI 36 from by decide)])
    (fun n j s hj hi => by
      obtain ⟨g1, g2⟩ := hi
      have e2 : s 2 = μ 2 := g1 2 (by decide) (by decide)
      have e3 : s 3 = μ 3 := g1 3 (by decide) (by decide)
      have key : ∀ x : Int32, x = (if j / 6 = j % 6 then 0 else if 0 < (μ 2 j).toInt then μ 2 j else 1000000) → ∃ s', fX2_layPosts_58 F (fX2_layPosts_2 F n) (nI j) x (nI j) s = fX2_layPosts_2 F n (nI (j + 1)) s' ∧ (∀ k, k ≠ 4 → k ≠ 5 → s' k = μ k) ∧ ∀ i, i < j + 1 → s' 4 i = (if i / 6 = i % 6 then 0 else if 0 < (μ 2 i).toInt then μ 2 i else 1000000) ∧ s' 5 i = μ 3 i := by
        intro x hx
        refine ⟨hn_up (hn_up s 4 j x) 5 j (μ 3 j), ?_, ?_, ?_⟩
        · unfold fX2_layPosts_58
          rw [hn_wr_at hj (by decide), hn_rd_at hj (by decide), hn_wr_at hj (by decide), hn_up_ne (by decide), e3, nI_1]
        · intro k k4 k5
          rw [hn_up_ne k5, hn_up_ne k4]; exact g1 k k4 k5
        · intro i hi
          rw [hn_up_ne (by decide), hn_upk, hn_upk, hn_up_ne (by decide)]
          by_cases hij : i = j
          · subst hij; rw [if_pos rfl, if_pos rfl]; exact ⟨hx, rfl⟩
          · rw [if_neg hij, if_neg hij]; exact g2 i (by omega)
      show ∃ s', fX2_layPosts_2 F (n + 1) (nI j) s = fX2_layPosts_2 F n (nI (j + 1)) s' ∧ _
      have hdiv : nI j / 6 = nI (j / 6) := pk_div (d := 6) (by omega) (by decide) (by decide)
      have hrem : nI j - nI j / 6 * 6 = nI (j % 6) := pk_rem (d := 6) (by omega) (by decide) (by decide)
      rw [fX2_layPosts_2, if_neg (show ¬ (36 : Int32) ≤ nI j from hn_ge (b := 36) hj (by decide)), hrem, hdiv]
      by_cases hd : j / 6 = j % 6
      · rw [if_pos (by rw [hd])]
        unfold fX2_layPosts_24
        rw [if_neg (by decide)]
        exact key 0 (by rw [if_pos hd])
      · rw [if_neg (by rw [nI_eq (by omega) (by omega)]; exact hd)]
        unfold fX2_layPosts_24
        rw [if_pos rfl, hn_rd_at hj (by decide), hn_rd_at hj (by decide), e2]
        by_cases hl : 0 < (μ 2 j).toInt
        · rw [if_neg (by rw [hn_le]; show ¬ (μ 2 j).toInt ≤ 0; omega)]
          exact key _ (by rw [if_neg hd, if_pos hl])
        · rw [if_pos (by rw [hn_le]; show (μ 2 j).toInt ≤ 0; omega)]
          exact key _ (by rw [if_neg hd, if_neg hl]))
    36 0 F μ (by decide) (by omega) ⟨fun k _ _ => rfl, fun i hi => by omega⟩
  exact ⟨μ', h1, h2⟩
def pD (μ : hn_M) (a b : Nat) : Int := (μ 4 (6 * a + b)).toInt
def pS (μ : hn_M) (a b : Nat) : Int := (μ 5 (6 * a + b)).toInt
def pL (μ : hn_M) (a b : Nat) : Int := (μ 2 (6 * a + b)).toInt
def pM (μ : hn_M) (a b : Nat) : Int := (μ 3 (6 * a + b)).toInt
/-- in the round of v: the pairs ahead of (a, b) are new, the others old -/
def pj (D S : Nat → Nat → Int) (v a b : Nat) (O μ : hn_M) : Prop := (∀ k, k ≠ 4 → k ≠ 5 → μ k = O k) ∧ ∀ x y, x < 6 → y < 6 → (x < a ∨ (x = a ∧ y < b) → pD μ x y = fw_d D S v x y ∧ pS μ x y = fw_s D S v x y) ∧ (¬ (x < a ∨ (x = a ∧ y < b)) → pD μ x y = D x y ∧ pS μ x y = S x y)
theorem pj_go {D S : Nat → Nat → Int} {v a b : Nat} {O μ : hn_M} {B : Int} (hv : v < 6) (ha : a < 6) (hb : b < 6) (hB : B < 400000) (h0 : ∀ x y, x < 6 → y < 6 → 0 ≤ D x y ∧ (D x y ≤ B ∨ D x y = 1000000) ∧ 0 ≤ S x y ∧ S x y ≤ B) (hd : D v v = 0 ∧ S v v = 0) (h : pj D S v a b O μ) : ∃ μ', fX2_goThrough (nI a) (nI v) (nI b) μ = some μ' ∧ pj D S v a (b + 1) O μ' := by
  obtain ⟨g1, g2⟩ := h
  have c1 : fw_d D S v a v = D a v ∧ fw_s D S v a v = S a v := by
    unfold fw_d fw_s
    have h : ¬ fw_hit D S v a v := by unfold fw_hit; omega
    rw [if_neg h, if_neg h]; exact ⟨rfl, rfl⟩
  have c2 : fw_d D S v v b = D v b ∧ fw_s D S v v b = S v b := by
    unfold fw_d fw_s
    have h : ¬ fw_hit D S v v b := by unfold fw_hit; omega
    rw [if_neg h, if_neg h]; exact ⟨rfl, rfl⟩
  have r1 : pD μ a v = D a v ∧ pS μ a v = S a v := by
    by_cases h : a < a ∨ (a = a ∧ v < b)
    · have := (g2 a v ha hv).1 h; omega
    · exact (g2 a v ha hv).2 h
  have r2 : pD μ v b = D v b ∧ pS μ v b = S v b := by
    by_cases h : v < a ∨ (v = a ∧ b < b)
    · have := (g2 v b hv hb).1 h; omega
    · exact (g2 v b hv hb).2 h
  have r3 : pD μ a b = D a b ∧ pS μ a b = S a b := (g2 a b ha hb).2 (by omega)
  unfold pD pS at r1 r2 r3
  have b1 := h0 a v ha hv
  have b2 := h0 v b hv hb
  have b3 := h0 a b ha hb
  have i1 : nI a * 6 + nI v = nI (6 * a + v) := by rw [show (6 : Int32) = nI 6 from rfl, pk_mul, nI_add, Nat.mul_comm]
  have i2 : nI v * 6 + nI b = nI (6 * v + b) := by rw [show (6 : Int32) = nI 6 from rfl, pk_mul, nI_add, Nat.mul_comm]
  have i3 : nI a * 6 + nI b = nI (6 * a + b) := by rw [show (6 : Int32) = nI 6 from rfl, pk_mul, nI_add, Nat.mul_comm]
  have s1 : (μ 4 (6 * a + v) + μ 4 (6 * v + b)).toInt = D a v + D v b := by rw [hn_addI (by omega) (by omega)]; omega
  have s2 : (μ 5 (6 * a + v) + μ 5 (6 * v + b)).toInt = S a v + S v b := by rw [hn_addI (by omega) (by omega)]; omega
  have keep : ¬ fw_hit D S v a b → pj D S v a (b + 1) O μ := by
    intro hh
    refine ⟨g1, fun x y hx hy => ⟨fun z => ?_, fun z => (g2 x y hx hy).2 (by omega)⟩⟩
    by_cases z2 : x < a ∨ (x = a ∧ y < b)
    · exact (g2 x y hx hy).1 z2
    · have ex : x = a := by omega
      have ey : y = b := by omega
      subst ex; subst ey
      unfold fw_d fw_s
      rw [if_neg hh, if_neg hh]
      exact (g2 x y hx hy).2 z2
  have put : fw_hit D S v a b → ∃ μ', fX2_goThrough_102 (nI (6 * a + b)) (μ 4 (6 * a + v) + μ 4 (6 * v + b)) (μ 5 (6 * a + v) + μ 5 (6 * v + b)) μ = some μ' ∧ pj D S v a (b + 1) O μ' := by
    intro hh
    refine ⟨hn_up (hn_up μ 4 (6 * a + b) (μ 4 (6 * a + v) + μ 4 (6 * v + b))) 5 (6 * a + b) (μ 5 (6 * a + v) + μ 5 (6 * v + b)), ?_, ?_, ?_⟩
    · unfold fX2_goThrough_102
      rw [hn_wr_at (by omega) (by decide), hn_wr_at (by omega) (by decide)]
    · intro k k4 k5
      rw [hn_up_ne k5, hn_up_ne k4]; exact g1 k k4 k5
    · intro x y hx hy
      unfold pD pS
      rw [hn_up_ne (by decide), hn_upk, hn_upk, hn_up_ne (by decide)]
      by_cases hxy : 6 * x + y = 6 * a + b
      · have ex : x = a := by omega
        have ey : y = b := by omega
        subst ex; subst ey
        rw [if_pos rfl, if_pos rfl]
        refine ⟨fun _ => ?_, fun z => by omega⟩
        unfold fw_d fw_s
        rw [if_pos hh, if_pos hh, s1, s2]
        exact ⟨rfl, rfl⟩
      · rw [if_neg hxy, if_neg hxy]
        exact ⟨fun z => (g2 x y hx hy).1 (by omega), fun z => (g2 x y hx hy).2 (by omega)⟩
  unfold fX2_goThrough
  rw [i1, i2, i3]
  rw [hn_rd_at (by omega) (by decide), hn_rd_at (by omega) (by decide), hn_rd_at (by omega) (by decide), hn_rd_at (by omega) (by decide), hn_rd_at (by omega) (by decide), hn_rd_at (by omega) (by decide), hn_rd_at (by omega) (by decide)]
  by_cases t1 : D a v + D v b < 1000000
  · rw [if_pos (by rw [hn_lt, s1]; exact t1)]
    by_cases t2 : D a v + D v b < D a b
    · rw [if_pos (by rw [hn_lt, s1, r3.1]; exact t2)]
      exact put ⟨t1, Or.inl t2⟩
    · rw [if_neg (by rw [hn_lt, s1, r3.1]; exact t2)]
      by_cases t3 : D a v + D v b = D a b
      · rw [if_pos (by rw [hn_eq_i, s1, r3.1]; exact t3)]
        by_cases t4 : S a v + S v b ≤ S a b
        · rw [if_pos (by rw [hn_le, s2, r3.2]; exact t4)]
          exact ⟨μ, rfl, keep (by unfold fw_hit; omega)⟩
        · rw [if_neg (by rw [hn_le, s2, r3.2]; exact t4)]
          exact put ⟨t1, Or.inr ⟨t3, by omega⟩⟩
      · rw [if_neg (by rw [hn_eq_i, s1, r3.1]; exact t3)]
        exact ⟨μ, rfl, keep (by unfold fw_hit; omega)⟩
  · rw [if_neg (by rw [hn_lt, s1]; exact t1)]
    exact ⟨μ, rfl, keep (by unfold fw_hit; omega)⟩
theorem pj_row {D S : Nat → Nat → Int} {v a F : Nat} {O μ : hn_M} {B : Int} (hF : 7 ≤ F) (hv : v < 6) (ha : a < 6) (hB : B < 400000) (h0 : ∀ x y, x < 6 → y < 6 → 0 ≤ D x y ∧ (D x y ≤ B ∨ D x y = 1000000) ∧ 0 ≤ S x y ∧ S x y ≤ B) (hd : D v v = 0 ∧ S v v = 0) (h : pj D S v a 0 O μ) (k6 : Int32 → hn_M → Option hn_M) (k14 : Int32 → Int32 → hn_M → Option hn_M) : ∃ μ', fX2_reckon_22 F k6 k14 F (nI v) (nI a) 0 μ = k14 (nI v) (nI (a + 1)) μ' ∧ pj D S v (a + 1) 0 O μ' := by
  obtain ⟨μ', h1, h2⟩ := hn_loopE (fun n j μ' => fX2_reckon_22 F k6 k14 n (nI v) (nI a) (nI j) μ') 6 (fun μ' => k14 (nI v) (nI (a + 1)) μ') (fun j μ' => pj D S v a j O μ')
    (fun n s _ => by
      show fX2_reckon_22 F k6 k14 (n + 1) (nI v) (nI a) (nI 6) s = _
      rw [fX2_reckon_22, if_pos (show (6 : Int32) ≤ nI 6 from by decide)]
      unfold fX2_reckon_41
      rw [nI_1])
    (fun n j s hj hi => by
      obtain ⟨s', e1, e2⟩ := pj_go hv ha hj hB h0 hd hi
      refine ⟨s', ?_, e2⟩
      show fX2_reckon_22 F k6 k14 (n + 1) (nI v) (nI a) (nI j) s = _
      rw [fX2_reckon_22, if_neg (show ¬ (6 : Int32) ≤ nI j from hn_ge (b := 6) hj (by decide)), e1, Option.bind_some, nI_1])
    6 0 F μ (by decide) (by omega) h
  refine ⟨μ', h1, h2.1, fun x y hx hy => ⟨fun z => (h2.2 x y hx hy).1 (by omega), fun z => (h2.2 x y hx hy).2 (by omega)⟩⟩
theorem pj_all {D S : Nat → Nat → Int} {v F : Nat} {O μ : hn_M} {B : Int} (hF : 7 ≤ F) (hv : v < 6) (hB : B < 400000) (h0 : ∀ x y, x < 6 → y < 6 → 0 ≤ D x y ∧ (D x y ≤ B ∨ D x y = 1000000) ∧ 0 ≤ S x y ∧ S x y ≤ B) (hd : D v v = 0 ∧ S v v = 0) (h : pj D S v 0 0 O μ) (k6 : Int32 → hn_M → Option hn_M) : ∃ μ', fX2_reckon_14 F k6 F (nI v) 0 μ = k6 (nI (v + 1)) μ' ∧ pj D S v 6 0 O μ' := by
  exact hn_loopE (fun n j μ' => fX2_reckon_14 F k6 n (nI v) (nI j) μ') 6 (fun μ' => k6 (nI (v + 1)) μ') (fun j μ' => pj D S v j 0 O μ')
    (fun n s _ => by
      show fX2_reckon_14 F k6 (n + 1) (nI v) (nI 6) s = _
      rw [fX2_reckon_14, if_pos (show (6 : Int32) ≤ nI 6 from by decide)]
      unfold fX2_reckon_47
      rw [nI_1])
    (fun n j s hj hi => by
      obtain ⟨s', e1, e2⟩ := pj_row hF hv hj hB h0 hd hi k6 (fX2_reckon_14 F k6 n)
      refine ⟨s', ?_, e2⟩
      show fX2_reckon_14 F k6 (n + 1) (nI v) (nI j) s = _
      rw [fX2_reckon_14, if_neg (show ¬ (6 : Int32) ≤ nI j from hn_ge (b := 6) hj (by decide))]
      exact e1)
    6 0 F μ (by decide) (by omega) h
theorem fw_cong {L M D S D' S' : Nat → Nat → Int} {k : Nat} {B : Int} (hD : ∀ x y, x < 6 → y < 6 → D' x y = D x y) (hS : ∀ x y, x < 6 → y < 6 → S' x y = S x y) (hk : k ≤ 6) (h : fw_ok L M D S k B) : fw_ok L M D' S' k B := by
  obtain ⟨h0, h1, h2, h3, h4, h5⟩ := h
  refine ⟨fun a b ha hb => by rw [hD a b ha hb, hS a b ha hb]; exact h0 a b ha hb, fun a ha => by rw [hD a a ha ha, hS a a ha ha]; exact h1 a ha, fun a b ha hb hab => by rw [hD a b ha hb]; exact h2 a b ha hb hab, fun a v b ha hv hb g1 g2 => ?_, fun a b ha hb hl => by rw [hD a b ha hb, hS a b ha hb]; exact h4 a b ha hb hl, fun a b ha hb hab hd => ?_⟩
  · rw [hD a v ha (by omega)] at g1 ⊢
    rw [hD v b (by omega) hb] at g2 ⊢
    rw [hD a b ha hb, hS a b ha hb, hS a v ha (by omega), hS v b (by omega) hb]
    exact h3 a v b ha hv hb g1 g2
  · rw [hD a b ha hb] at hd ⊢
    obtain ⟨c, c1, c2, c3, c4⟩ := h5 a b ha hb hab hd
    refine ⟨c, c1, c2, by rw [hD a c ha c1]; exact c3, ?_⟩
    rw [hD a c ha c1, hS a c ha c1, hS a b ha hb]
    exact c4
/-- what reckon leaves: cells 4 and 5 alone are new, and right -/
theorem hn_reckon {F : Nat} {μ : hn_M} (hF : 37 ≤ F) (hL : ∀ a b, a < 6 → b < 6 → (pL μ a b = 0 ∧ pM μ a b = 0) ∨ (a ≠ b ∧ 1 ≤ pL μ a b ∧ pL μ a b ≤ pM μ a b ∧ pM μ a b ≤ 60)) : ∃ μ', fX2_reckon F μ = some μ' ∧ (∀ k, k ≠ 4 → k ≠ 5 → μ' k = μ k) ∧ fw_ok (pL μ) (pM μ) (pD μ') (pS μ') 6 3840 := by
  obtain ⟨μ0, e1, e2, e3⟩ := hn_layPosts (μ := μ) hF
  have hs : fw_ok (pL μ) (pM μ) (pD μ0) (pS μ0) 0 60 := by
    refine fw_start hL (fun a b ha hb => ?_) (fun a b ha hb => ?_)
    · unfold pD pL
      rw [(e3 (6 * a + b) (by omega)).1]
      have q1 : (6 * a + b) / 6 = a := by omega
      have q2 : (6 * a + b) % 6 = b := by omega
      rw [q1, q2]
      by_cases hab : a = b
      · rw [if_pos hab, if_pos hab]; rfl
      · rw [if_neg hab, if_neg hab]
        by_cases hl : 0 < (μ 2 (6 * a + b)).toInt
        · rw [if_pos hl, if_pos hl]
        · rw [if_neg hl, if_neg hl]; rfl
    · unfold pS pM
      rw [(e3 (6 * a + b) (by omega)).2]
  obtain ⟨μ', h1, h2⟩ := hn_loopE (fun n j μ' => fX2_reckon_6 F n (nI j) μ') 6 some (fun j μ' => (∀ k, k ≠ 4 → k ≠ 5 → μ' k = μ k) ∧ fw_ok (pL μ) (pM μ) (pD μ') (pS μ') j (60 * 2 ^ j))
    (fun n s _ => by
      show fX2_reckon_6 F (n + 1) (nI 6) s = some s
      rw [fX2_reckon_6, if_pos (show (6 : Int32) ≤ nI 6 from by decide)])
    (fun n j s hj hi => by
      obtain ⟨g1, g2⟩ := hi
      have hpow : (60 : Int) * 2 ^ j ≤ 1920 := by
        obtain rfl | rfl | rfl | rfl | rfl | rfl : j = 0 ∨ j = 1 ∨ j = 2 ∨ j = 3 ∨ j = 4 ∨ j = 5 := by omega
        all_goals decide
      have hpos : (0 : Int) ≤ 60 * 2 ^ j := by
        obtain rfl | rfl | rfl | rfl | rfl | rfl : j = 0 ∨ j = 1 ∨ j = 2 ∨ j = 3 ∨ j = 4 ∨ j = 5 := by omega
        all_goals decide
      obtain ⟨s', f1, f2⟩ := pj_all (O := s) (F := F) (by omega) hj (by omega) g2.1 (g2.2.1 j hj) ⟨fun k _ _ => rfl, fun x y hx hy => ⟨fun z => by omega, fun _ => ⟨rfl, rfl⟩⟩⟩ (fX2_reckon_6 F n)
      refine ⟨s', ?_, fun k k4 k5 => (f2.1 k k4 k5).trans (g1 k k4 k5), ?_⟩
      · show fX2_reckon_6 F (n + 1) (nI j) s = _
        rw [fX2_reckon_6, if_neg (show ¬ (6 : Int32) ≤ nI j from hn_ge (b := 6) hj (by decide))]
        exact f1
      · have st := fw_step hj hpos (by omega) g2
        have hB : (2 : Int) * (60 * 2 ^ j) = 60 * 2 ^ (j + 1) := by rw [Int.pow_succ]; omega
        rw [hB] at st
        have q : ∀ x y, x < 6 → y < 6 → pD s' x y = fw_d (pD s) (pS s) j x y ∧ pS s' x y = fw_s (pD s) (pS s) j x y := fun x y hx hy => (f2.2 x y hx hy).1 (by omega)
        exact fw_cong (fun x y hx hy => (q x y hx hy).1) (fun x y hx hy => (q x y hx hy).2) (by omega) st)
    6 0 F μ0 (by decide) (by omega) ⟨e2, by rw [show (60 : Int) * 2 ^ 0 = 60 from rfl]; exact hs⟩
  refine ⟨μ', ?_, h2.1, by have h3 := h2.2; rw [show (60 : Int) * 2 ^ 6 = 3840 from rfl] at h3; exact h3⟩
  unfold fX2_reckon
  rw [e1, Option.bind_some]
  exact h1
