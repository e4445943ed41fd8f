/-! buy -/
def bu_mn (w : Nat → Int) (b : Nat → Bool) (i : Int) : Nat → Int
  | 0 => i
  | k + 1 => if b k = true then (if w k < bu_mn w b i k then w k else bu_mn w b i k) else bu_mn w b i k
def bu_mg (w : Nat → Int) (b : Nat → Bool) (i : Int) : Nat → Int
  | 0 => i
  | k + 1 => if b k = true then (if bu_mg w b i k < w k then w k else bu_mg w b i k) else bu_mg w b i k
def bu_mx (w : Nat → Int) (i : Int) : Nat → Int
  | 0 => i
  | k + 1 => if bu_mx w i k < w k then w k else bu_mx w i k
/-- the first with the greatest -/
def bu_bs (L : Nat → Int) : Nat → Nat
  | 0 => 0
  | k + 1 => if L (bu_bs L k) < L (k + 1) then k + 1 else bu_bs L k
theorem bu_bs_le (L : Nat → Int) (k : Nat) : bu_bs L k ≤ k := by
  induction k with
  | zero => exact Nat.le_refl _
  | succ k ih =>
    simp only [bu_bs]
    by_cases h : L (bu_bs L k) < L (k + 1)
    · rw [if_pos h]; exact Nat.le_refl _
    · rw [if_neg h]; omega
theorem bu_mn_eq {w : Nat → Int} {b : Nat → Bool} {n : Nat} (hw : ∀ t, t < n → -1000 ≤ w t ∧ w t ≤ 1000) : ∀ k, k ≤ n → (bu_mn w b 1000 k = bu_mn w b 100000 k ∧ -1000 ≤ bu_mn w b 1000 k ∧ bu_mn w b 1000 k ≤ 1000) ∨ (bu_mn w b 1000 k = 1000 ∧ bu_mn w b 100000 k = 100000 ∧ ∀ t, t < k → b t = false) := by
  intro k
  induction k with
  | zero => intro _; exact Or.inr ⟨rfl, rfl, fun t ht => by omega⟩
  | succ k ih =>
    intro hk
    have ih := ih (by omega)
    have h := hw k (by omega)
    simp only [bu_mn]
    cases hb : b k with
    | false =>
      rw [if_neg (by decide), if_neg (by decide)]
      rcases ih with ih | ⟨i1, i2, i3⟩
      · exact Or.inl ih
      · refine Or.inr ⟨i1, i2, fun t ht => ?_⟩
        by_cases htk : t = k
        · rw [htk]; exact hb
        · exact i3 t (by omega)
    | true =>
      rw [if_pos rfl, if_pos rfl]
      left
      rcases ih with ⟨i1, i2, i3⟩ | ⟨i1, i2, i3⟩
      · rw [← i1]
        refine ⟨rfl, ?_⟩
        by_cases hc : w k < bu_mn w b 1000 k
        · rw [if_pos hc]; omega
        · rw [if_neg hc]; omega
      · rw [i1, i2, if_pos (show w k < 100000 by omega)]
        by_cases hc : w k < 1000
        · rw [if_pos hc]; exact ⟨rfl, by omega, by omega⟩
        · rw [if_neg hc]; exact ⟨by omega, by omega, by omega⟩
theorem bu_mg_eq {w : Nat → Int} {b : Nat → Bool} {n : Nat} (hw : ∀ t, t < n → 0 ≤ w t ∧ w t ≤ 2000) : ∀ k, k ≤ n → (bu_mg w b 0 k = bu_mg w b (-1) k ∧ 0 ≤ bu_mg w b 0 k ∧ bu_mg w b 0 k ≤ 2000) ∨ (bu_mg w b 0 k = 0 ∧ bu_mg w b (-1) k = -1 ∧ ∀ t, t < k → b t = false) := by
  intro k
  induction k with
  | zero => intro _; exact Or.inr ⟨rfl, rfl, fun t ht => by omega⟩
  | succ k ih =>
    intro hk
    have ih := ih (by omega)
    have h := hw k (by omega)
    simp only [bu_mg]
    cases hb : b k with
    | false =>
      rw [if_neg (by decide), if_neg (by decide)]
      rcases ih with ih | ⟨i1, i2, i3⟩
      · exact Or.inl ih
      · refine Or.inr ⟨i1, i2, fun t ht => ?_⟩
        by_cases htk : t = k
        · rw [htk]; exact hb
        · exact i3 t (by omega)
    | true =>
      rw [if_pos rfl, if_pos rfl]
      left
      rcases ih with ⟨i1, i2, i3⟩ | ⟨i1, i2, i3⟩
      · rw [← i1]
        refine ⟨rfl, ?_⟩
        by_cases hc : bu_mg w b 0 k < w k
        · rw [if_pos hc]; omega
        · rw [if_neg hc]; omega
      · rw [i1, i2, if_pos (show -1 < w k by omega)]
        by_cases hc : 0 < w k
        · rw [if_pos hc]; exact ⟨rfl, by omega, by omega⟩
        · rw [if_neg hc]; exact ⟨by omega, by omega, by omega⟩
theorem bu_mx_eq {w : Nat → Int} {n : Nat} (hw : ∀ t, t < n → -1000 ≤ w t ∧ w t ≤ 1000) : ∀ k, k ≤ n → (k = 0 ∨ bu_mx w (-1000) k = bu_mx w (-100000) k) ∧ -1000 ≤ bu_mx w (-1000) k ∧ bu_mx w (-1000) k ≤ 1000 ∧ ∀ t, t < k → w t ≤ bu_mx w (-1000) k := by
  intro k
  induction k with
  | zero => intro _; exact ⟨Or.inl rfl, by show (-1000 : Int) ≤ -1000; omega, by show (-1000 : Int) ≤ 1000; omega, fun t ht => by omega⟩
  | succ k ih =>
    intro hk
    obtain ⟨i1, i2, i3, i4⟩ := ih (by omega)
    have h := hw k (by omega)
    simp only [bu_mx]
    refine ⟨Or.inr ?_, ?_⟩
    · rcases i1 with rfl | i1
      · show (if (-1000 : Int) < w 0 then w 0 else -1000) = (if (-100000 : Int) < w 0 then w 0 else -100000)
        rw [if_pos (show (-100000 : Int) < w 0 by omega)]
        by_cases hc : (-1000 : Int) < w 0
        · rw [if_pos hc]
        · rw [if_neg hc]; omega
      · rw [← i1]
    · by_cases hc : bu_mx w (-1000) k < w k
      · rw [if_pos hc]
        refine ⟨by omega, by omega, fun t ht => ?_⟩
        by_cases htk : t = k
        · rw [htk]; exact Int.le_refl _
        · have := i4 t (by omega); omega
      · rw [if_neg hc]
        refine ⟨i2, i3, fun t ht => ?_⟩
        by_cases htk : t = k
        · rw [htk]; omega
        · exact i4 t (by omega)
section bu
variable {μ : hn_M} {F : Nat} {set : Int32}
def bu_w (μ : hn_M) (c t : Nat) : Int := (μ 57 (4 * c + t)).toInt
def bu_L (μ : hn_M) (set : Int32) (c : Nat) : Int := bu_mn (bu_w μ c) (hn_bit set) 1000 4
def bu_T (μ : hn_M) (n t : Nat) : Int := bu_mx (fun o => bu_w μ o t) (-1000) n
def bu_R (μ : hn_M) (set : Int32) (n c : Nat) : Int := bu_mg (fun t => bu_T μ n t - bu_w μ c t) (hn_bit set) 0 4
theorem bu_wb (h : iW μ) {c t : Nat} (hc : c < 6) (ht : t < 4) : -1000 ≤ bu_w μ c t ∧ bu_w μ c t ≤ 1000 := (h (4 * c + t) (by omega)).2
theorem bu_Tb (h : iW μ) {n t : Nat} (hn : n ≤ 6) (ht : t < 4) : -1000 ≤ bu_T μ n t ∧ bu_T μ n t ≤ 1000 ∧ ∀ c, c < n → bu_w μ c t ≤ bu_T μ n t := (bu_mx_eq (n := n) (fun o ho => bu_wb h (by omega) ht) n (Nat.le_refl _)).2
theorem bu_least (h : iW μ) (hF : 12000 ≤ F) {c : Nat} (hc : c < 6) : ∃ r, fX6_leastOf F μ (nI c) set = some r ∧ r.toInt = bu_L μ set c := by
  obtain ⟨r, h1, h2⟩ := hn_loopE (fun n j s => fX6_leastOf_7 F μ n (nI c) set s (nI j)) 4 some (fun j s => s.toInt = bu_mn (bu_w μ c) (hn_bit set) 1000 j)
    (fun n s _ => by
      show fX6_leastOf_7 F μ (n + 1) _ _ s (nI 4) = _
      rw [fX6_leastOf_7, if_pos (by decide)])
    (fun n j s hj hi => by
      show ∃ s', fX6_leastOf_7 F μ (n + 1) _ _ s (nI j) = _ ∧ _
      rw [fX6_leastOf_7, if_neg (show ¬ (4 : Int32) ≤ nI j from hn_ge (b := 4) hj (by decide)), hn_isIn set (by omega), Option.bind_some, hn_ix4r, nI_add, hn_rd_at (by omega) (by decide)]
      unfold fX6_leastOf_38
      rw [nI_1]
      simp only [bu_mn]
      cases hb : hn_bit set j with
      | false => rw [if_pos (show hn_b01 false = 0 from rfl)]; exact ⟨s, rfl, hi⟩
      | true =>
        rw [if_neg (show ¬ hn_b01 true = 0 by decide)]
        refine ⟨_, rfl, ?_⟩
        rw [if_pos (show true = true from rfl), ← hi]
        show _ = if (μ 57 (4 * c + j)).toInt < s.toInt then (μ 57 (4 * c + j)).toInt else s.toInt
        by_cases hlt : μ 57 (4 * c + j) < s
        · rw [if_pos hlt, if_pos (hn_lt.mp hlt)]
        · rw [if_neg hlt, if_neg (fun z => hlt (hn_lt.mpr z))])
    4 0 F 1000 (by omega) (by omega) rfl
  exact ⟨r, h1, h2⟩
theorem bu_best (h : iW μ) (hF : 12000 ≤ F) {n t : Nat} (hn : n ≤ 6) (ht : t < 4) : ∃ r, fX6_bestOf F μ (nI t) (nI n) = some r ∧ r.toInt = bu_T μ n t := by
  obtain ⟨r, h1, h2⟩ := hn_loopE (fun k j s => fX6_bestOf_7 F μ k (nI t) (nI n) s (nI j)) n some (fun j s => s.toInt = bu_mx (fun o => bu_w μ o t) (-1000) j)
    (fun k s _ => by
      show fX6_bestOf_7 F μ (k + 1) _ _ s (nI n) = _
      rw [fX6_bestOf_7, if_pos (by rw [hn_leN (by omega) (by omega)]; exact Nat.le_refl _)])
    (fun k j s hj hi => by
      show ∃ s', fX6_bestOf_7 F μ (k + 1) _ _ s (nI j) = _ ∧ _
      rw [fX6_bestOf_7, if_neg (by rw [hn_leN (by omega) (by omega)]; omega), hn_ix4r, nI_add, hn_rd_at (by omega) (by decide), nI_1]
      refine ⟨_, rfl, ?_⟩
      simp only [bu_mx]
      rw [← hi]
      show _ = if s.toInt < (μ 57 (4 * j + t)).toInt then (μ 57 (4 * j + t)).toInt else s.toInt
      by_cases hlt : s < μ 57 (4 * j + t)
      · rw [if_pos hlt, if_pos (hn_lt.mp hlt)]
      · rw [if_neg hlt, if_neg (fun z => hlt (hn_lt.mpr z))])
    n 0 F (-1000) (by omega) (by omega) rfl
  exact ⟨r, h1, h2⟩
theorem bu_regret (h : iW μ) (hF : 12000 ≤ F) {n c : Nat} (hn : n ≤ 6) (hc : c < n) : ∃ r, fX6_regretOf F μ (nI c) (nI n) set = some r ∧ r.toInt = bu_R μ set n c := by
  obtain ⟨r, h1, h2⟩ := hn_loopE (fun k j s => fX6_regretOf_6 F μ k (nI c) (nI n) set s (nI j)) 4 some (fun j s => s.toInt = bu_mg (fun t => bu_T μ n t - bu_w μ c t) (hn_bit set) 0 j)
    (fun k s _ => by
      show fX6_regretOf_6 F μ (k + 1) _ _ _ s (nI 4) = _
      rw [fX6_regretOf_6, if_pos (by decide)])
    (fun k j s hj hi => by
      show ∃ s', fX6_regretOf_6 F μ (k + 1) _ _ _ s (nI j) = _ ∧ _
      obtain ⟨b, b1, b2⟩ := bu_best (F := F) h hF hn hj
      have wb := bu_wb h (show c < 6 by omega) hj
      have tb := bu_Tb h hn hj
      rw [fX6_regretOf_6, if_neg (show ¬ (4 : Int32) ≤ nI j from hn_ge (b := 4) hj (by decide)), hn_isIn set (by omega), Option.bind_some, b1, Option.bind_some, hn_ix4r, nI_add, hn_rd_at (by omega) (by decide)]
      unfold fX6_regretOf_51
      rw [nI_1]
      simp only [bu_mg]
      have sb : (b - μ 57 (4 * c + j)).toInt = bu_T μ n j - bu_w μ c j := by
        have e : (μ 57 (4 * c + j)).toInt = bu_w μ c j := rfl
        rw [hn_subI (by omega) (by omega), b2, e]
      cases hb : hn_bit set j with
      | false => rw [if_pos (show hn_b01 false = 0 from rfl)]; exact ⟨s, rfl, hi⟩
      | true =>
        rw [if_neg (show ¬ hn_b01 true = 0 by decide)]
        refine ⟨_, rfl, ?_⟩
        rw [if_pos (show true = true from rfl), ← hi, ← sb]
        by_cases hlt : s < b - μ 57 (4 * c + j)
        · rw [if_pos hlt, if_pos (hn_lt.mp hlt)]
        · rw [if_neg hlt, if_neg (fun z => hlt (hn_lt.mpr z))])
    4 0 F 0 (by omega) (by omega) rfl
  exact ⟨r, h1, h2⟩
theorem bu_safest (h : iW μ) (hF : 12000 ≤ F) {n : Nat} (h1 : 1 ≤ n) (hn : n ≤ 6) : fX6_safest F μ (nI n) set = some (nI (bu_bs (bu_L μ set) (n - 1))) := by
  obtain ⟨r, h1, h2⟩ := hn_loopE (fun k j s => fX6_safest_5 F μ k (nI n) set s (nI (j + 1))) (n - 1) some (fun j s => s = nI (bu_bs (bu_L μ set) j))
    (fun k s _ => by
      show fX6_safest_5 F μ (k + 1) _ _ s (nI (n - 1 + 1)) = _
      rw [fX6_safest_5, if_pos (by rw [hn_leN (by omega) (by omega)]; omega)])
    (fun k j s hj hi => by
      show ∃ s', fX6_safest_5 F μ (k + 1) _ _ s (nI (j + 1)) = fX6_safest_5 F μ k _ _ s' (nI (j + 1 + 1)) ∧ _
      have hb := bu_bs_le (bu_L μ set) j
      obtain ⟨x, x1, x2⟩ := bu_least (F := F) (set := set) h hF (c := j + 1) (by omega)
      obtain ⟨y, y1, y2⟩ := bu_least (F := F) (set := set) h hF (c := bu_bs (bu_L μ set) j) (by omega)
      rw [fX6_safest_5, if_neg (by rw [hn_leN (by omega) (by omega)]; omega), x1, Option.bind_some, hi, y1, Option.bind_some]
      unfold fX6_safest_30
      rw [nI_1]
      simp only [bu_bs]
      by_cases hc : bu_L μ set (bu_bs (bu_L μ set) j) < bu_L μ set (j + 1)
      · rw [if_neg (by rw [hn_le, x2, y2]; omega), if_pos hc]
        exact ⟨_, rfl, rfl⟩
      · rw [if_pos (by rw [hn_le, x2, y2]; omega), if_neg hc]
        exact ⟨_, rfl, rfl⟩)
    (n - 1) 0 F 0 (by omega) (by omega) rfl
  rw [← h2]
  exact h1
theorem bu_calmest (h : iW μ) (hF : 12000 ≤ F) {n : Nat} (h1 : 1 ≤ n) (hn : n ≤ 6) : fX6_calmest F μ (nI n) set = some (nI (bu_bs (fun c => - bu_R μ set n c) (n - 1))) := by
  obtain ⟨r, h1, h2⟩ := hn_loopE (fun k j s => fX6_calmest_5 F μ k (nI n) set s (nI (j + 1))) (n - 1) some (fun j s => s = nI (bu_bs (fun c => - bu_R μ set n c) j))
    (fun k s _ => by
      show fX6_calmest_5 F μ (k + 1) _ _ s (nI (n - 1 + 1)) = _
      rw [fX6_calmest_5, if_pos (by rw [hn_leN (by omega) (by omega)]; omega)])
    (fun k j s hj hi => by
      show ∃ s', fX6_calmest_5 F μ (k + 1) _ _ s (nI (j + 1)) = fX6_calmest_5 F μ k _ _ s' (nI (j + 1 + 1)) ∧ _
      have hb := bu_bs_le (fun c => - bu_R μ set n c) j
      obtain ⟨x, x1, x2⟩ := bu_regret (F := F) (set := set) h hF hn (c := j + 1) (by omega)
      obtain ⟨y, y1, y2⟩ := bu_regret (F := F) (set := set) h hF hn (c := bu_bs (fun c => - bu_R μ set n c) j) (by omega)
      rw [fX6_calmest_5, if_neg (by rw [hn_leN (by omega) (by omega)]; omega), x1, Option.bind_some, hi, y1, Option.bind_some]
      unfold fX6_calmest_32
      rw [nI_1]
      simp only [bu_bs]
      by_cases hc : - bu_R μ set n (bu_bs (fun c => - bu_R μ set n c) j) < - bu_R μ set n (j + 1)
      · rw [if_neg (by rw [hn_le, x2, y2]; omega), if_pos hc]
        exact ⟨_, rfl, rfl⟩
      · rw [if_pos (by rw [hn_le, x2, y2]; omega), if_neg hc]
        exact ⟨_, rfl, rfl⟩)
    (n - 1) 0 F 0 (by omega) (by omega) rfl
  rw [← h2]
  exact h1
/-- the model's loop over truths, at a choice c -/
theorem bu_73 (h : iW μ) (hF : 12000 ≤ F) {n c : Nat} (h1 : 1 ≤ n) (hn : n ≤ 6) (hc : c < n) (l3 l4 l5 l6 l7 : Int32) (k57 : Int32 → Int32 → Int32 → Int32 → Int32 → Int32 → Int32 → Int32 → Option Int32) : ∃ lo hi : Int32, fX8_buy_73 F μ k57 F (nI n) set l3 l4 l5 l6 l7 (nI c) 100000 (-1) 0 = fX8_buy_202 F μ k57 (nI n) set l3 l4 l5 l6 l7 (nI c) lo hi ∧ lo.toInt = bu_mn (bu_w μ c) (hn_bit set) 100000 4 ∧ hi.toInt = bu_mg (fun t => bu_T μ n t - bu_w μ c t) (hn_bit set) (-1) 4 := by
  obtain ⟨s, e1, e2⟩ := hn_loopE (fun k j (s : Int32 × Int32) => fX8_buy_73 F μ k57 k (nI n) set l3 l4 l5 l6 l7 (nI c) s.1 s.2 (nI j)) 4 (fun s => fX8_buy_202 F μ k57 (nI n) set l3 l4 l5 l6 l7 (nI c) s.1 s.2) (fun j s => s.1.toInt = bu_mn (bu_w μ c) (hn_bit set) 100000 j ∧ s.2.toInt = bu_mg (fun t => bu_T μ n t - bu_w μ c t) (hn_bit set) (-1) j)
    (fun k s _ => by
      show fX8_buy_73 F μ k57 (k + 1) (nI n) set l3 l4 l5 l6 l7 (nI c) s.1 s.2 (nI 4) = _
      rw [fX8_buy_73, if_pos (by decide)])
    (fun k j s hj hi => by
      obtain ⟨lo, hg⟩ := s
      obtain ⟨i1, i2⟩ := hi
      have i1 : lo.toInt = _ := i1
      have i2 : hg.toInt = _ := i2
      show ∃ s' : Int32 × Int32, fX8_buy_73 F μ k57 (k + 1) (nI n) set l3 l4 l5 l6 l7 (nI c) lo hg (nI j) = fX8_buy_73 F μ k57 k (nI n) set l3 l4 l5 l6 l7 (nI c) s'.1 s'.2 (nI (j + 1)) ∧ _
      have wb := bu_wb h (show c < 6 by omega) hj
      have tb := bu_Tb h hn hj
      have hin := hn_isIn set (i := j) (by omega)
      unfold fX7_isIn at hin
      rw [fX8_buy_73, if_neg (show ¬ (4 : Int32) ≤ nI j from hn_ge (b := 4) hj (by decide))]
      simp only [bu_mn, bu_mg]
      cases hb : hn_bit set j with
      | false =>
        rw [hb] at hin
        have hno : ¬ (set >>> (nI j &&& 31)) &&& 1 = 1 := fun z => by rw [if_pos z] at hin; cases hin
        rw [if_neg hno]
        unfold fX8_buy_196
        rw [nI_1]
        exact ⟨(lo, hg), rfl, i1, i2⟩
      | true =>
        rw [hb] at hin
        have hyes : (set >>> (nI j &&& 31)) &&& 1 = 1 := Classical.byContradiction fun z => by rw [if_neg z] at hin; cases hin
        rw [if_pos hyes]
        obtain ⟨top, t1, t2⟩ := hn_loopE (fun q i s => fX8_buy_96 F μ k57 (fX8_buy_73 F μ k57 k) q (nI n) set l3 l4 l5 l6 l7 (nI c) lo hg (nI j) s (nI i)) n (fun s => fX8_buy_144 F μ k57 (fX8_buy_73 F μ k57 k) (nI n) set l3 l4 l5 l6 l7 (nI c) lo hg (nI j) s) (fun i s => s.toInt = bu_mx (fun o => bu_w μ o j) (-100000) i)
          (fun q s _ => by
            show fX8_buy_96 F μ k57 (fX8_buy_73 F μ k57 k) (q + 1) (nI n) set l3 l4 l5 l6 l7 (nI c) lo hg (nI j) s (nI n) = _
            rw [fX8_buy_96, if_pos (by rw [hn_leN (by omega) (by omega)]; exact Nat.le_refl _)])
          (fun q i s hi hs => by
            show ∃ s', fX8_buy_96 F μ k57 (fX8_buy_73 F μ k57 k) (q + 1) (nI n) set l3 l4 l5 l6 l7 (nI c) lo hg (nI j) s (nI i) = _ ∧ _
            rw [fX8_buy_96, if_neg (by rw [hn_leN (by omega) (by omega)]; omega), hn_ix4, nI_add, hn_rd_at (by omega) (by decide), hn_rd_at (by omega) (by decide), ← (h (4 * i + j) (by omega)).1]
            unfold fX8_buy_136
            rw [nI_1]
            simp only [bu_mx]
            by_cases hlt : s < μ 57 (4 * i + j)
            · rw [if_neg (by rw [hn_le]; have := hn_lt.mp hlt; omega)]
              refine ⟨_, rfl, ?_⟩
              rw [← hs, if_pos (show s.toInt < bu_w μ i j from hn_lt.mp hlt)]
              rfl
            · rw [if_pos (by rw [hn_le]; have : ¬ s.toInt < (μ 57 (4 * i + j)).toInt := fun z => hlt (hn_lt.mpr z); omega)]
              refine ⟨s, rfl, ?_⟩
              rw [← hs, if_neg (show ¬ s.toInt < bu_w μ i j from fun z => hlt (hn_lt.mpr z))])
          n 0 F (-100000) (by omega) (by omega) rfl
        have t1 : fX8_buy_96 F μ k57 (fX8_buy_73 F μ k57 k) F (nI n) set l3 l4 l5 l6 l7 (nI c) lo hg (nI j) (-100000) 0 = _ := t1
        have eT : top.toInt = bu_T μ n j := by
          rw [t2]
          have := (bu_mx_eq (w := fun o => bu_w μ o j) (n := n) (fun o ho => bu_wb h (by omega) hj) n (Nat.le_refl _)).1
          rcases this with h0 | h0
          · omega
          · exact h0.symm
        rw [t1]
        unfold fX8_buy_144 fX8_buy_172 fX8_buy_194 fX8_buy_196
        rw [hn_ix4, nI_add, hn_rd_at (by omega) (by decide), ← (h (4 * c + j) (by omega)).1, nI_1]
        have sb : (top - μ 57 (4 * c + j)).toInt = bu_T μ n j - bu_w μ c j := by
          have e : (μ 57 (4 * c + j)).toInt = bu_w μ c j := rfl
          rw [hn_subI (by omega) (by omega), eT, e]
        have e57 : (μ 57 (4 * c + j)).toInt = bu_w μ c j := rfl
        refine ⟨((if μ 57 (4 * c + j) < lo then μ 57 (4 * c + j) else lo), (if hg < top - μ 57 (4 * c + j) then top - μ 57 (4 * c + j) else hg)), ?_, ?_, ?_⟩
        · by_cases c1 : μ 57 (4 * c + j) < lo
          · have c1' : ¬ lo ≤ μ 57 (4 * c + j) := by rw [hn_le]; have := hn_lt.mp c1; omega
            rw [if_neg c1']
            by_cases c2 : hg < top - μ 57 (4 * c + j)
            · rw [if_neg (by rw [hn_le]; have := hn_lt.mp c2; omega)]
              simp only [if_pos c1, if_pos c2]
            · rw [if_pos (by rw [hn_le]; have : ¬ hg.toInt < (top - μ 57 (4 * c + j)).toInt := fun z => c2 (hn_lt.mpr z); omega)]
              simp only [if_pos c1, if_neg c2]
          · have c1' : lo ≤ μ 57 (4 * c + j) := by rw [hn_le]; have : ¬ (μ 57 (4 * c + j)).toInt < lo.toInt := fun z => c1 (hn_lt.mpr z); omega
            rw [if_pos c1']
            by_cases c2 : hg < top - μ 57 (4 * c + j)
            · rw [if_neg (by rw [hn_le]; have := hn_lt.mp c2; omega)]
              simp only [if_neg c1, if_pos c2]
            · rw [if_pos (by rw [hn_le]; have : ¬ hg.toInt < (top - μ 57 (4 * c + j)).toInt := fun z => c2 (hn_lt.mpr z); omega)]
              simp only [if_neg c1, if_neg c2]
        · show (if μ 57 (4 * c + j) < lo then μ 57 (4 * c + j) else lo).toInt = _
          rw [if_pos (show true = true from rfl), ← i1]
          by_cases c1 : μ 57 (4 * c + j) < lo
          · rw [if_pos c1, if_pos (show bu_w μ c j < lo.toInt from hn_lt.mp c1)]; exact e57
          · rw [if_neg c1, if_neg (show ¬ bu_w μ c j < lo.toInt from fun z => c1 (hn_lt.mpr z))]
        · show (if hg < top - μ 57 (4 * c + j) then top - μ 57 (4 * c + j) else hg).toInt = _
          rw [if_pos (show true = true from rfl), ← i2, ← sb]
          by_cases c1 : hg < top - μ 57 (4 * c + j)
          · rw [if_pos c1, if_pos (hn_lt.mp c1)]
          · rw [if_neg c1, if_neg (fun z => c1 (hn_lt.mpr z))])
    4 0 F (100000, -1) (by omega) (by omega) ⟨rfl, rfl⟩
  exact ⟨s.1, s.2, e1, e2.1, e2.2⟩
theorem bu_57 (h : iW μ) (hF : 12000 ≤ F) {n : Nat} (h1 : 1 ≤ n) (hn : n ≤ 6) (hset : ∃ t, t < 4 ∧ hn_bit set t = true) (l3 : Int32) : ∃ a b : Int32, fX8_buy_57 F μ F (nI n) set l3 (-4) 0 (-4) 0 0 = fX8_buy_252 F μ l3 (nI (bu_bs (bu_L μ set) (n - 1))) a (nI (bu_bs (fun c => - bu_R μ set n c) (n - 1))) b ∧ a.toInt = bu_L μ set (bu_bs (bu_L μ set) (n - 1)) ∧ b.toInt = bu_R μ set n (bu_bs (fun c => - bu_R μ set n c) (n - 1)) := by
  -- low and high are what the class finds
  have key : ∀ (c : Nat), c < n → ∀ (l4 l5 l6 l7 : Int32) (k57 : Int32 → Int32 → Int32 → Int32 → Int32 → Int32 → Int32 → Int32 → Option Int32), ∃ lo hi : Int32, fX8_buy_73 F μ k57 F (nI n) set l3 l4 l5 l6 l7 (nI c) 100000 (-1) 0 = fX8_buy_202 F μ k57 (nI n) set l3 l4 l5 l6 l7 (nI c) lo hi ∧ lo.toInt = bu_L μ set c ∧ hi.toInt = bu_R μ set n c := by
    intro c hc l4 l5 l6 l7 k57
    obtain ⟨lo, hi, e1, e2, e3⟩ := bu_73 (F := F) (set := set) h hF h1 hn hc l3 l4 l5 l6 l7 k57
    refine ⟨lo, hi, e1, ?_, ?_⟩
    · rw [e2]
      rcases bu_mn_eq (b := hn_bit set) (n := 4) (w := bu_w μ c) (fun t ht => bu_wb h (by omega) ht) 4 (Nat.le_refl _) with z | z
      · exact z.1.symm
      · obtain ⟨t, t1, t2⟩ := hset
        rw [z.2.2 t t1] at t2; cases t2
    · rw [e3]
      rcases bu_mg_eq (b := hn_bit set) (n := 4) (w := fun t => bu_T μ n t - bu_w μ c t) (fun t ht => by
        have a := bu_wb h (show c < 6 by omega) ht
        have b := bu_Tb h hn ht
        have c2 := b.2.2 c hc
        show 0 ≤ bu_T μ n t - bu_w μ c t ∧ bu_T μ n t - bu_w μ c t ≤ 2000
        omega) 4 (Nat.le_refl _) with z | z
      · exact z.1.symm
      · obtain ⟨t, t1, t2⟩ := hset
        rw [z.2.2 t t1] at t2; cases t2
  obtain ⟨F', rfl⟩ : ∃ F', F = F' + 1 := ⟨F - 1, by omega⟩
  -- the first choice
  have first : ∃ a b : Int32, fX8_buy_57 (F' + 1) μ (F' + 1) (nI n) set l3 (-4) 0 (-4) 0 0 = fX8_buy_57 (F' + 1) μ F' (nI n) set l3 (nI 0) a (nI 0) b (nI 1) ∧ a.toInt = bu_L μ set 0 ∧ b.toInt = bu_R μ set n 0 := by
    obtain ⟨lo, hi, e1, e2, e3⟩ := key 0 (by omega) (-4) 0 (-4) 0 (fX8_buy_57 (F' + 1) μ F')
    refine ⟨lo, hi, ?_, e2, e3⟩
    have e1 : fX8_buy_73 (F' + 1) μ (fX8_buy_57 (F' + 1) μ F') (F' + 1) (nI n) set l3 (-4) 0 (-4) 0 0 100000 (-1) 0 = fX8_buy_202 (F' + 1) μ (fX8_buy_57 (F' + 1) μ F') (nI n) set l3 (-4) 0 (-4) 0 0 lo hi := e1
    rw [fX8_buy_57, if_neg (show ¬ nI n ≤ 0 from nI_nle (by omega) (by omega)), e1]
    unfold fX8_buy_202 fX8_buy_216 fX8_buy_224 fX8_buy_238 fX8_buy_246
    rw [if_pos (show (-4 : Int32) = -4 from rfl), if_pos (show (-4 : Int32) = -4 from rfl)]
    rfl
  obtain ⟨a0, b0, f1, f2, f3⟩ := first
  rw [f1]
  obtain ⟨s, e1, e2⟩ := hn_loopE (fun k j (s : Int32 × Int32 × Int32 × Int32) => fX8_buy_57 (F' + 1) μ k (nI n) set l3 s.1 s.2.1 s.2.2.1 s.2.2.2 (nI (j + 1))) (n - 1) (fun s => fX8_buy_252 (F' + 1) μ l3 s.1 s.2.1 s.2.2.1 s.2.2.2)
    (fun j s => s.1 = nI (bu_bs (bu_L μ set) j) ∧ s.2.1.toInt = bu_L μ set (bu_bs (bu_L μ set) j) ∧ s.2.2.1 = nI (bu_bs (fun c => - bu_R μ set n c) j) ∧ s.2.2.2.toInt = bu_R μ set n (bu_bs (fun c => - bu_R μ set n c) j))
    (fun k s _ => by
      show fX8_buy_57 (F' + 1) μ (k + 1) (nI n) set l3 s.1 s.2.1 s.2.2.1 s.2.2.2 (nI (n - 1 + 1)) = _
      rw [fX8_buy_57, if_pos (by rw [hn_leN (by omega) (by omega)]; omega)])
    (fun k j s hj hi => by
      obtain ⟨p, q, r, w⟩ := s
      obtain ⟨i1, i2, i3, i4⟩ := hi
      have i1 : p = _ := i1
      have i2 : q.toInt = _ := i2
      have i3 : r = _ := i3
      have i4 : w.toInt = _ := i4
      show ∃ s' : Int32 × Int32 × Int32 × Int32, fX8_buy_57 (F' + 1) μ (k + 1) (nI n) set l3 p q r w (nI (j + 1)) = fX8_buy_57 (F' + 1) μ k (nI n) set l3 s'.1 s'.2.1 s'.2.2.1 s'.2.2.2 (nI (j + 1 + 1)) ∧ _
      obtain ⟨lo, hg, k1, k2, k3⟩ := key (j + 1) (by omega) p q r w (fX8_buy_57 (F' + 1) μ k)
      have hb := bu_bs_le (bu_L μ set) j
      have hb2 := bu_bs_le (fun c => - bu_R μ set n c) j
      rw [fX8_buy_57, if_neg (by rw [hn_leN (by omega) (by omega)]; omega), k1]
      have np : ∀ m : Nat, m < 100 → ¬ nI m = -4 := fun m hm z => by
        have : (nI m).toInt = -4 := by rw [z]; rfl
        rw [nI_toInt (by omega)] at this
        omega
      unfold fX8_buy_202 fX8_buy_216 fX8_buy_224 fX8_buy_238 fX8_buy_246
      have np1 : ¬ p = -4 := by rw [i1]; exact np _ (by omega)
      have nr1 : ¬ r = -4 := by rw [i3]; exact np _ (by omega)
      rw [nI_1]
      simp only [bu_bs, if_neg np1, if_neg nr1]
      by_cases c1 : bu_L μ set (bu_bs (bu_L μ set) j) < bu_L μ set (j + 1)
      · rw [if_neg (show ¬ lo ≤ q by rw [hn_le, k2, i2]; omega), if_pos c1]
        by_cases c2 : - bu_R μ set n (bu_bs (fun c => - bu_R μ set n c) j) < - bu_R μ set n (j + 1)
        · rw [if_neg (show ¬ w ≤ hg by rw [hn_le, k3, i4]; omega), if_pos c2]
          exact ⟨(nI (j + 1), lo, nI (j + 1), hg), rfl, rfl, k2, rfl, k3⟩
        · rw [if_pos (show w ≤ hg by rw [hn_le, k3, i4]; omega), if_neg c2]
          exact ⟨(nI (j + 1), lo, r, w), rfl, rfl, k2, i3, i4⟩
      · rw [if_pos (show lo ≤ q by rw [hn_le, k2, i2]; omega), if_neg c1]
        by_cases c2 : - bu_R μ set n (bu_bs (fun c => - bu_R μ set n c) j) < - bu_R μ set n (j + 1)
        · rw [if_neg (show ¬ w ≤ hg by rw [hn_le, k3, i4]; omega), if_pos c2]
          exact ⟨(p, q, nI (j + 1), hg), rfl, i1, i2, rfl, k3⟩
        · rw [if_pos (show w ≤ hg by rw [hn_le, k3, i4]; omega), if_neg c2]
          exact ⟨(p, q, r, w), rfl, i1, i2, i3, i4⟩)
    (n - 1) 0 F' (nI 0, a0, nI 0, b0) (by omega) (by omega) ⟨rfl, f2, rfl, f3⟩
  refine ⟨s.2.1, s.2.2.2, ?_, e2.2.1, e2.2.2.2⟩
  rw [← e2.1, ← e2.2.2.1]
  exact e1
theorem bu_set {s : Nat} (h1 : 1 ≤ s) (h2 : s ≤ 15) : ∃ t, t < 4 ∧ hn_bit (nI s) t = true := by
  have : ∀ s : Fin 16, s.val = 0 ∨ hn_bit (nI s.val) 0 = true ∨ hn_bit (nI s.val) 1 = true ∨ hn_bit (nI s.val) 2 = true ∨ hn_bit (nI s.val) 3 = true := by decide +kernel
  rcases this ⟨s, by omega⟩ with h | h | h | h | h
  · have h : s = 0 := h; omega
  · exact ⟨0, by omega, h⟩
  · exact ⟨1, by omega, h⟩
  · exact ⟨2, by omega, h⟩
  · exact ⟨3, by omega, h⟩
theorem c_buy (hF : 12000 ≤ F) (x y w : Int32) : hn_cP (fun μ => fX7_buy F μ x y w) (fun μ => fX8_buy F μ x y w) := by
  intro μ ⟨V, D, S, o, hB, hS⟩
  have iw := hB.2.2.2.2.2.2
  have e0 : (0 : Int32).toInt = 0 := rfl
  have e1 : (1 : Int32).toInt = 1 := rfl
  have e6 : (6 : Int32).toInt = 6 := rfl
  have e16 : (16 : Int32).toInt = 16 := rfl
  have e3 : (3 : Int32).toInt = 3 := rfl
  have e2 : (2 : Int32).toInt = 2 := rfl
  show ∃ r, fX7_buy F μ x y w = some r ∧ fX8_buy F μ x y w = some r
  by_cases hg : (1 ≤ x.toInt ∧ x.toInt ≤ 6) ∧ (1 ≤ y.toInt ∧ y.toInt ≤ 15) ∧ (0 ≤ w.toInt ∧ w.toInt ≤ 3)
  rotate_left 1
  · refine ⟨-10000, ?_, ?_⟩
    · unfold fX7_buy
      by_cases h1 : x.toInt < 1
      · rw [if_pos (by rw [hn_lt, e1]; exact h1)]
      rw [if_neg (by rw [hn_lt, e1]; exact h1)]
      by_cases h2 : 6 < x.toInt
      · rw [if_pos (by rw [hn_lt, e6]; exact h2)]
      rw [if_neg (by rw [hn_lt, e6]; exact h2)]
      by_cases h3 : y.toInt < 1
      · rw [if_pos (by rw [hn_lt, e1]; exact h3)]
      rw [if_neg (by rw [hn_lt, e1]; exact h3)]
      by_cases h4 : 16 ≤ y.toInt
      · rw [if_pos (by rw [hn_le, e16]; exact h4)]
      rw [if_neg (by rw [hn_le, e16]; exact h4)]
      by_cases h5 : w.toInt < 0
      · rw [if_pos (by rw [hn_lt, e0]; exact h5)]
      rw [if_neg (by rw [hn_lt, e0]; exact h5), if_neg (by rw [hn_le, e3]; exact fun h6 => hg ⟨by omega, by omega, by omega⟩)]
    · unfold fX8_buy
      rw [hn_in8 x (a := 1) (b := 6) rfl rfl, hn_in8 y (a := 1) (b := 15) rfl rfl, hn_in8 w (a := 0) (b := 3) rfl rfl]
      by_cases h1 : 1 ≤ x.toInt ∧ x.toInt ≤ 6
      rotate_left 1
      · rw [hn_ckf h1]
      by_cases h2 : 1 ≤ y.toInt ∧ y.toInt ≤ 15
      rotate_left 1
      · rw [hn_ckt h1, hn_ckf h2]
      rw [hn_ckt h1, hn_ckt h2, hn_ckf (fun q => hg ⟨h1, h2, q⟩)]
  obtain ⟨h1, h2, h3⟩ := hg
  obtain ⟨n, rfl, hn⟩ := hn_nat (x := x) (by omega)
  obtain ⟨s, rfl, hs⟩ := hn_nat (x := y) (by omega)
  obtain ⟨a, b, m1, m2, m3⟩ := bu_57 (F := F) (μ := μ) (set := nI s) (n := n) iw hF (by omega) (by omega) (bu_set (by omega) (by omega)) w
  have c8 : fX8_buy F μ (nI n) (nI s) w = fX8_buy_252 F μ w (nI (bu_bs (bu_L μ (nI s)) (n - 1))) a (nI (bu_bs (fun c => - bu_R μ (nI s) n c) (n - 1))) b := by
    unfold fX8_buy
    rw [hn_in8 (nI n) (a := 1) (b := 6) rfl rfl, hn_in8 (nI s) (a := 1) (b := 15) rfl rfl, hn_in8 w (a := 0) (b := 3) rfl rfl, hn_ckt h1, hn_ckt h2, hn_ckt h3, m1]
  rw [c8]
  unfold fX7_buy fX8_buy_252
  rw [if_neg (by rw [hn_lt, e1]; omega), if_neg (by rw [hn_lt, e6]; omega), if_neg (by rw [hn_lt, e1]; omega), if_neg (by rw [hn_le, e16]; omega), if_neg (by rw [hn_lt, e0]; omega), if_pos (by rw [hn_le, e3]; omega), bu_safest iw hF (by omega) (by omega), bu_calmest iw hF (by omega) (by omega), Option.bind_some, Option.bind_some]
  have hb := bu_bs_le (bu_L μ (nI s)) (n - 1)
  have hb2 := bu_bs_le (fun c => - bu_R μ (nI s) n c) (n - 1)
  obtain ⟨r1, q1, q2⟩ := bu_least (F := F) (μ := μ) (set := nI s) iw hF (c := bu_bs (bu_L μ (nI s)) (n - 1)) (by omega)
  obtain ⟨r2, q3, q4⟩ := bu_regret (F := F) (μ := μ) (set := nI s) iw hF (n := n) (c := bu_bs (fun c => - bu_R μ (nI s) n c) (n - 1)) (by omega) (by omega)
  rw [q1, q3, Option.bind_some, Option.bind_some, show r1 = a from hn_eq_i.mpr (by rw [q2, m2]), show r2 = b from hn_eq_i.mpr (by rw [q4, m3])]
  by_cases w0 : w = 0
  · rw [if_neg (by rw [hn_le, e2, w0, e0]; omega), if_pos w0, if_pos w0]; exact ⟨_, rfl, rfl⟩
  by_cases w1 : w = 1
  · rw [if_neg (by rw [hn_le, e2, w1, e1]; omega), if_neg w0, if_neg w0, if_pos w1]; exact ⟨_, rfl, rfl⟩
  have w2 : 2 ≤ w.toInt := by
    have a0 : ¬ w.toInt = 0 := fun z => w0 (hn_eq_i.mpr z)
    have a1 : ¬ w.toInt = 1 := fun z => w1 (hn_eq_i.mpr z)
    omega
  rw [if_pos (by rw [hn_le, e2]; exact w2), if_neg w0, if_neg w1]
  by_cases w3 : w = 2
  · rw [if_pos w3]; exact ⟨_, rfl, rfl⟩
  · rw [if_neg w3]; exact ⟨_, rfl, rfl⟩
end bu
