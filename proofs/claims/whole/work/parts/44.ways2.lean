/-! the rounds as a function of the posts; the model's ways are the same days -/
def fw_r (D0 S0 : Nat → Nat → Int) : Nat → (Nat → Nat → Int) × (Nat → Nat → Int)
  | 0 => (D0, S0)
  | k + 1 => (fw_d (fw_r D0 S0 k).1 (fw_r D0 S0 k).2 k, fw_s (fw_r D0 S0 k).1 (fw_r D0 S0 k).2 k)
def fw_D0 (L : Nat → Nat → Int) (a b : Nat) : Int := if a = b then 0 else if 0 < L a b then L a b else 1000000
abbrev fw_post (L M : Nat → Nat → Int) : Prop := ∀ a b, a < 6 → b < 6 → (L a b = 0 ∧ M a b = 0) ∨ (a ≠ b ∧ 1 ≤ L a b ∧ L a b ≤ M a b ∧ M a b ≤ 60)
theorem fw_pow {j : Nat} (hj : j < 6) : (0 : Int) ≤ 60 * 2 ^ j ∧ (60 : Int) * 2 ^ j ≤ 1920 ∧ (2 : Int) * (60 * 2 ^ j) = 60 * 2 ^ (j + 1) := by
  refine ⟨?_, ?_, by rw [Int.pow_succ]; omega⟩
  all_goals
    obtain rfl | rfl | rfl | rfl | rfl | rfl : j = 0 ∨ j = 1 ∨ j = 2 ∨ j = 3 ∨ j = 4 ∨ j = 5 := by omega
    all_goals decide
theorem fw_r_ok {L M : Nat → Nat → Int} (hL : fw_post L M) : ∀ j, j ≤ 6 → fw_ok L M (fw_r (fw_D0 L) M j).1 (fw_r (fw_D0 L) M j).2 j (60 * 2 ^ j) := by
  intro j
  induction j with
  | zero => intro _; rw [show (60 : Int) * 2 ^ 0 = 60 from rfl]; exact fw_start hL (fun a b _ _ => rfl) (fun a b _ _ => rfl)
  | succ j ih =>
    intro hj
    have p := fw_pow (show j < 6 by omega)
    have st := fw_step (show j < 6 by omega) p.1 (by omega) (ih (by omega))
    rw [p.2.2] at st
    exact st
theorem fw_cong1 {D S D' S' : Nat → Nat → Int} {v x y : Nat} (hv : v < 6) (hx : x < 6) (hy : y < 6) (hD : ∀ x y, x < 6 → y < 6 → D' x y = D x y) (hS : ∀ x y, x < 6 → y < 6 → S' x y = S x y) : fw_d D' S' v x y = fw_d D S v x y ∧ fw_s D' S' v x y = fw_s D S v x y := by
  unfold fw_d fw_s fw_hit
  rw [hD x v hx hv, hD v y hv hy, hD x y hx hy, hS x v hx hv, hS v y hv hy, hS x y hx hy]
  exact ⟨rfl, rfl⟩
/-- what reckon leaves: cells 4 and 5 alone are new: the rounds -/
theorem hn_reckon2 {F : Nat} {μ : hn_M} (hF : 37 ≤ F) (hL : fw_post (pL μ) (pM μ)) : ∃ μ', fX2_reckon F μ = some μ' ∧ (∀ k, k ≠ 4 → k ≠ 5 → μ' k = μ k) ∧ ∀ x y, x < 6 → y < 6 → pD μ' x y = (fw_r (fw_D0 (pL μ)) (pM μ) 6).1 x y ∧ pS μ' x y = (fw_r (fw_D0 (pL μ)) (pM μ) 6).2 x y := by
  obtain ⟨μ0, e1, e2, e3⟩ := hn_layPosts (μ := μ) hF
  have hs : ∀ x y, x < 6 → y < 6 → pD μ0 x y = (fw_r (fw_D0 (pL μ)) (pM μ) 0).1 x y ∧ pS μ0 x y = (fw_r (fw_D0 (pL μ)) (pM μ) 0).2 x y := by
    intro a b ha hb
    show pD μ0 a b = fw_D0 (pL μ) a b ∧ pS μ0 a b = pM μ a b
    unfold pD pS pM fw_D0 pL
    rw [(e3 (6 * a + b) (by omega)).1, (e3 (6 * a + b) (by omega)).2]
    have q1 : (6 * a + b) / 6 = a := by omega
    have q2 : (6 * a + b) % 6 = b := by omega
    rw [q1, q2]
    refine ⟨?_, rfl⟩
    by_cases hab : a = b
    · rw [if_pos hab, if_pos hab]; rfl
    · rw [if_neg hab, if_neg hab]
      by_cases hl : 0 < (μ 2 (6 * a + b)).toInt
      · rw [if_pos hl, if_pos hl]
      · rw [if_neg hl, if_neg hl]; rfl
  obtain ⟨μ', h1, h2⟩ := hn_loopE (fun n j μ' => fX2_reckon_6 F n (nI j) μ') 6 some (fun j μ' => (∀ k, k ≠ 4 → k ≠ 5 → μ' k = μ k) ∧ ∀ x y, x < 6 → y < 6 → pD μ' x y = (fw_r (fw_D0 (pL μ)) (pM μ) j).1 x y ∧ pS μ' x y = (fw_r (fw_D0 (pL μ)) (pM μ) j).2 x y)
    (fun n s _ => by
      show fX2_reckon_6 F (n + 1) (nI 6) s = some s
      rw [fX2_reckon_6, if_pos (show (6 : Int32) ≤ nI 6 from by decide)])
    (fun n j s hj hi => by
      obtain ⟨g1, g2⟩ := hi
      have p := fw_pow hj
      have ok := fw_cong (fun x y hx hy => (g2 x y hx hy).1) (fun x y hx hy => (g2 x y hx hy).2) (by omega) (fw_r_ok hL j (by omega))
      obtain ⟨s', f1, f2⟩ := pj_all (O := s) (F := F) (by omega) hj (by omega) ok.1 (ok.2.1 j hj) ⟨fun k _ _ => rfl, fun x y hx hy => ⟨fun z => by omega, fun _ => ⟨rfl, rfl⟩⟩⟩ (fX2_reckon_6 F n)
      refine ⟨s', ?_, fun k k4 k5 => (f2.1 k k4 k5).trans (g1 k k4 k5), fun x y hx hy => ?_⟩
      · show fX2_reckon_6 F (n + 1) (nI j) s = _
        rw [fX2_reckon_6, if_neg (show ¬ (6 : Int32) ≤ nI j from hn_ge (b := 6) hj (by decide))]
        exact f1
      · have q := (f2.2 x y hx hy).1 (by omega)
        have q2 := fw_cong1 hj hx hy (fun x y hx hy => (g2 x y hx hy).1) (fun x y hx hy => (g2 x y hx hy).2)
        exact ⟨q.1.trans q2.1, q.2.trans q2.2⟩)
    6 0 F μ0 (by decide) (by omega) ⟨e2, hs⟩
  refine ⟨μ', ?_, h2.1, h2.2⟩
  unfold fX2_reckon
  rw [e1, Option.bind_some]
  exact h1
def fw_enc (d : Int) : Int := if d < 1000000 then d else -4
/-- the model's row 75: the pairs ahead of (a, b) are new, the others old -/
def wj (P N : Nat → Nat → Int) (a b : Nat) (O μ : hn_M) : Prop := (∀ k, k ≠ 75 → μ k = O k) ∧ ∀ x y, x < 6 → y < 6 → (x < a ∨ (x = a ∧ y < b) → (μ 75 (6 * x + y)).toInt = N x y) ∧ (¬ (x < a ∨ (x = a ∧ y < b)) → (μ 75 (6 * x + y)).toInt = P x y)
theorem wj_put {P N : Nat → Nat → Int} {a b : Nat} {O μ : hn_M} {x0 : Int32} (ha : a < 6) (hb : b < 6) (h : wj P N a b O μ) (hx : x0.toInt = N a b) : wj P N a (b + 1) O (hn_up μ 75 (6 * a + b) x0) := by
  refine ⟨fun k hk => by rw [hn_up_ne hk]; exact h.1 k hk, fun x y hx1 hy1 => ?_⟩
  rw [hn_upk]
  by_cases hxy : 6 * x + y = 6 * a + b
  · have ex : x = a := by omega
    have ey : y = b := by omega
    subst ex; subst ey
    rw [if_pos rfl]
    exact ⟨fun _ => hx, fun z => by omega⟩
  · rw [if_neg hxy]
    exact ⟨fun z => (h.2 x y hx1 hy1).1 (by omega), fun z => (h.2 x y hx1 hy1).2 (by omega)⟩
theorem wj_keep {P N : Nat → Nat → Int} {a b : Nat} {O μ : hn_M} (h : wj P N a b O μ) (he : N a b = P a b) : wj P N a (b + 1) O μ := by
  refine ⟨h.1, fun x y hx hy => ⟨fun z => ?_, fun z => (h.2 x y hx hy).2 (by omega)⟩⟩
  by_cases z2 : x < a ∨ (x = a ∧ y < b)
  · exact (h.2 x y hx hy).1 z2
  · have ex : x = a := by omega
    have ey : y = b := by omega
    subst ex; subst ey
    rw [he]; exact (h.2 x y hx hy).2 z2
theorem wj_next {P N : Nat → Nat → Int} {a : Nat} {O μ : hn_M} (h : wj P N a 6 O μ) : wj P N (a + 1) 0 O μ :=
  ⟨h.1, fun x y hx hy => ⟨fun z => (h.2 x y hx hy).1 (by omega), fun z => (h.2 x y hx hy).2 (by omega)⟩⟩
theorem hn_ix6 (a b : Nat) : 6 * nI a + nI b = nI (6 * a + b) := by rw [show (6 : Int32) = nI 6 from rfl, pk_mul, nI_add]
/-- the fill ahead of the rounds -/
theorem wj_fill {F : Nat} {μ : hn_M} {L : Nat → Nat → Int} (hF : 7 ≤ F) (hL : ∀ a b, a < 6 → b < 6 → (μ 73 (6 * a + b)).toInt = L a b) (h0 : ∀ a b, a < 6 → b < 6 → L a b < 1000000) : ∃ μ', fX8_layWays F μ = fX8_layWays_78 F μ' ∧ (∀ k, k ≠ 75 → μ' k = μ k) ∧ ∀ x y, x < 6 → y < 6 → (μ' 75 (6 * x + y)).toInt = fw_enc (fw_D0 L x y) := by
  obtain ⟨μ', h1, h2⟩ := hn_loopE (fun n j μ' => fX8_layWays_2 F n (nI j) μ') 6 (fun μ' => fX8_layWays_78 F μ') (fun j μ' => wj (fun x y => (μ 75 (6 * x + y)).toInt) (fun x y => fw_enc (fw_D0 L x y)) j 0 μ μ')
    (fun n s _ => by
      show fX8_layWays_2 F (n + 1) (nI 6) s = _
      rw [fX8_layWays_2, if_pos (show (6 : Int32) ≤ nI 6 from by decide)])
    (fun n a s ha hi => by
      obtain ⟨s', f1, f2⟩ := hn_loopE (fun n2 b s => fX8_layWays_10 F (fX8_layWays_2 F n) n2 (nI a) (nI b) s) 6 (fun s => fX8_layWays_2 F n (nI (a + 1)) s) (fun b s => wj (fun x y => (μ 75 (6 * x + y)).toInt) (fun x y => fw_enc (fw_D0 L x y)) a b μ s)
        (fun n2 s _ => by
          show fX8_layWays_10 F (fX8_layWays_2 F n) (n2 + 1) (nI a) (nI 6) s = _
          rw [fX8_layWays_10, if_pos (show (6 : Int32) ≤ nI 6 from by decide)]
          unfold fX8_layWays_72
          rw [nI_1])
        (fun n2 b s hb hi => by
          have e73 : s 73 = μ 73 := hi.1 73 (by decide)
          have key : ∀ x0 : Int32, x0.toInt = fw_enc (fw_D0 L a b) → ∃ s', fX8_layWays_65 F (fX8_layWays_2 F n) (fX8_layWays_10 F (fX8_layWays_2 F n) n2) (nI a) (nI b) x0 (nI (6 * a + b)) s = fX8_layWays_10 F (fX8_layWays_2 F n) n2 (nI a) (nI (b + 1)) s' ∧ wj (fun x y => (μ 75 (6 * x + y)).toInt) (fun x y => fw_enc (fw_D0 L x y)) a (b + 1) μ s' := by
            intro x0 hx0
            refine ⟨hn_up s 75 (6 * a + b) x0, ?_, wj_put ha hb hi hx0⟩
            unfold fX8_layWays_65
            rw [hn_wr_at (by omega) (by decide), nI_1]
          show ∃ s', fX8_layWays_10 F (fX8_layWays_2 F n) (n2 + 1) (nI a) (nI b) s = _ ∧ _
          rw [fX8_layWays_10, if_neg (show ¬ (6 : Int32) ≤ nI b from hn_ge (b := 6) hb (by decide)), hn_ix6]
          by_cases hab : a = b
          · rw [if_pos (by rw [hab])]
            exact key 0 (by unfold fw_D0; rw [if_pos hab]; rfl)
          · rw [if_neg (by rw [nI_eq (by omega) (by omega)]; exact hab), hn_rd_at (by omega) (by decide), hn_rd_at (by omega) (by decide), e73]
            have hl := hL a b ha hb
            have hl0 := h0 a b ha hb
            by_cases h3 : 0 < L a b
            · rw [if_neg (by rw [hn_le, hl]; show ¬ L a b ≤ 0; omega)]
              exact key _ (by unfold fw_D0 fw_enc; rw [if_neg hab, if_pos h3, if_pos hl0]; exact hl)
            · rw [if_pos (by rw [hn_le, hl]; show L a b ≤ 0; omega)]
              exact key _ (by unfold fw_D0; rw [if_neg hab, if_neg h3]; rfl))
        6 0 F s (by decide) (by omega) hi
      refine ⟨s', ?_, wj_next f2⟩
      show fX8_layWays_2 F (n + 1) (nI a) s = _
      rw [fX8_layWays_2, if_neg (show ¬ (6 : Int32) ≤ nI a from hn_ge (b := 6) ha (by decide))]
      exact f1)
    6 0 F μ (by decide) (by omega) ⟨fun k _ => rfl, fun x y hx hy => ⟨fun z => by omega, fun _ => rfl⟩⟩
  exact ⟨μ', h1, h2.1, fun x y hx hy => (h2.2 x y hx hy).1 (by omega)⟩
theorem wj_go {D S : Nat → Nat → Int} {v a b n F : Nat} {O μ : hn_M} {B : Int} (hv : v < 6) (ha : a < 6) (hb : b < 6) (hB : B < 400000) (h0 : ∀ x y, x < 6 → y < 6 → 0 ≤ D x y ∧ (D x y ≤ B ∨ D x y = 1000000) ∧ 0 ≤ S x y ∧ S x y ≤ B) (hd : D v v = 0 ∧ S v v = 0) (h : wj (fun x y => fw_enc (D x y)) (fun x y => fw_enc (fw_d D S v x y)) a b O μ) (k80 : Int32 → hn_M → Option hn_M) (k88 : Int32 → Int32 → hn_M → Option hn_M) : ∃ μ', fX8_layWays_96 F k80 k88 (n + 1) (nI v) (nI a) (nI b) μ = fX8_layWays_96 F k80 k88 n (nI v) (nI a) (nI (b + 1)) μ' ∧ wj (fun x y => fw_enc (D x y)) (fun x y => fw_enc (fw_d D S v x y)) a (b + 1) O μ' := by
  have c1 : fw_d D S v a v = D a v := by
    unfold fw_d
    have h : ¬ fw_hit D S v a v := by unfold fw_hit; omega
    rw [if_neg h]
  have c2 : fw_d D S v v b = D v b := by
    unfold fw_d
    have h : ¬ fw_hit D S v v b := by unfold fw_hit; omega
    rw [if_neg h]
  have r1 : (μ 75 (6 * a + v)).toInt = fw_enc (D a v) := by
    by_cases z : a < a ∨ (a = a ∧ v < b)
    · rw [(h.2 a v ha hv).1 z]; show fw_enc (fw_d D S v a v) = _; rw [c1]
    · exact (h.2 a v ha hv).2 z
  have r2 : (μ 75 (6 * v + b)).toInt = fw_enc (D v b) := by
    by_cases z : v < a ∨ (v = a ∧ b < b)
    · rw [(h.2 v b hv hb).1 z]; show fw_enc (fw_d D S v v b) = _; rw [c2]
    · exact (h.2 v b hv hb).2 z
  have r3 : (μ 75 (6 * a + b)).toInt = fw_enc (D a b) := (h.2 a b ha hb).2 (by omega)
  have b1 := h0 a v ha hv
  have b2 := h0 v b hv hb
  have b3 := h0 a b ha hb
  have skip : fw_enc (fw_d D S v a b) = fw_enc (D a b) → ∃ μ', fX8_layWays_187 F k80 k88 (fX8_layWays_96 F k80 k88 n) (nI v) (nI a) (nI b) μ = fX8_layWays_96 F k80 k88 n (nI v) (nI a) (nI (b + 1)) μ' ∧ wj (fun x y => fw_enc (D x y)) (fun x y => fw_enc (fw_d D S v x y)) a (b + 1) O μ' := by
    intro he
    refine ⟨μ, ?_, wj_keep h he⟩
    unfold fX8_layWays_187
    rw [nI_1]
  have put : D a v < 1000000 → D v b < 1000000 → fw_d D S v a b = D a v + D v b → ∃ μ', fX8_layWays_171 F k80 k88 (fX8_layWays_96 F k80 k88 n) (nI v) (nI a) (nI b) (μ 75 (6 * a + v)) (μ 75 (6 * v + b)) μ = fX8_layWays_96 F k80 k88 n (nI v) (nI a) (nI (b + 1)) μ' ∧ wj (fun x y => fw_enc (D x y)) (fun x y => fw_enc (fw_d D S v x y)) a (b + 1) O μ' := by
    intro g1 g2 he
    have q1 : fw_enc (D a v) = D a v := if_pos g1
    have q2 : fw_enc (D v b) = D v b := if_pos g2
    refine ⟨hn_up μ 75 (6 * a + b) (μ 75 (6 * a + v) + μ 75 (6 * v + b)), ?_, wj_put ha hb h ?_⟩
    · unfold fX8_layWays_171 fX8_layWays_187
      rw [hn_ix6, hn_wr_at (by omega) (by decide), nI_1]
    · rw [hn_addI (by omega) (by omega), r1, r2, q1, q2, he]
      exact (if_pos (by omega)).symm
  rw [fX8_layWays_96, if_neg (show ¬ (6 : Int32) ≤ nI b from hn_ge (b := 6) hb (by decide)), hn_ix6, hn_ix6, hn_ix6, hn_rd_at (by omega) (by decide), hn_rd_at (by omega) (by decide), hn_rd_at (by omega) (by decide), hn_rd_at (by omega) (by decide)]
  by_cases g1 : D a v < 1000000
  · have q1 : fw_enc (D a v) = D a v := if_pos g1
    rw [if_neg (by rw [hn_lt, r1, q1]; show ¬ D a v < 0; omega)]
    by_cases g2 : D v b < 1000000
    · have q2 : fw_enc (D v b) = D v b := if_pos g2
      rw [if_neg (by rw [hn_lt, r2, q2]; show ¬ D v b < 0; omega)]
      have sm : (μ 75 (6 * a + v) + μ 75 (6 * v + b)).toInt = D a v + D v b := by rw [hn_addI (by omega) (by omega), r1, r2, q1, q2]
      by_cases g3 : D a b < 1000000
      · have q3 : fw_enc (D a b) = D a b := if_pos g3
        rw [if_neg (by rw [hn_lt, r3, q3]; show ¬ D a b < 0; omega)]
        by_cases g4 : D a b ≤ D a v + D v b
        · rw [if_pos (by rw [hn_le, r3, sm, q3]; exact g4)]
          refine skip ?_
          have : fw_d D S v a b = D a b := by
            unfold fw_d
            by_cases hh : fw_hit D S v a b
            · rw [if_pos hh]; unfold fw_hit at hh; omega
            · rw [if_neg hh]
          rw [this]
        · rw [if_neg (by rw [hn_le, r3, sm, q3]; exact g4)]
          exact put g1 g2 (by unfold fw_d; rw [if_pos (by unfold fw_hit; omega)])
      · have q3 : fw_enc (D a b) = -4 := if_neg g3
        rw [if_pos (by rw [hn_lt, r3, q3]; decide)]
        exact put g1 g2 (by unfold fw_d; rw [if_pos (by unfold fw_hit; omega)])
    · have q2 : fw_enc (D v b) = -4 := if_neg g2
      rw [if_pos (by rw [hn_lt, r2, q2]; decide)]
      exact skip (by unfold fw_d; rw [if_neg (by unfold fw_hit; omega)])
  · have q1 : fw_enc (D a v) = -4 := if_neg g1
    rw [if_pos (by rw [hn_lt, r1, q1]; decide)]
    exact skip (by unfold fw_d; rw [if_neg (by unfold fw_hit; omega)])
/-- what layWays leaves: cell 75 alone is new: the same days, -4 for none -/
theorem hn_layWays {F : Nat} {μ : hn_M} {L M : Nat → Nat → Int} (hF : 7 ≤ F) (hp : fw_post L M) (hL : ∀ a b, a < 6 → b < 6 → (μ 73 (6 * a + b)).toInt = L a b) : ∃ μ', fX8_layWays F μ = some μ' ∧ (∀ k, k ≠ 75 → μ' k = μ k) ∧ ∀ x y, x < 6 → y < 6 → (μ' 75 (6 * x + y)).toInt = fw_enc ((fw_r (fw_D0 L) M 6).1 x y) := by
  obtain ⟨μ0, e1, e2, e3⟩ := wj_fill (L := L) hF hL (fun a b ha hb => by have := hp a b ha hb; omega)
  obtain ⟨μ', h1, h2⟩ := hn_loopE (fun n j μ' => fX8_layWays_80 F n (nI j) μ') 6 some (fun j μ' => (∀ k, k ≠ 75 → μ' k = μ k) ∧ ∀ x y, x < 6 → y < 6 → (μ' 75 (6 * x + y)).toInt = fw_enc ((fw_r (fw_D0 L) M j).1 x y))
    (fun n s _ => by
      show fX8_layWays_80 F (n + 1) (nI 6) s = some s
      rw [fX8_layWays_80, if_pos (show (6 : Int32) ≤ nI 6 from by decide)])
    (fun n v s hv hi => by
      obtain ⟨g1, g2⟩ := hi
      have p := fw_pow hv
      have ok := fw_r_ok hp v (by omega)
      obtain ⟨s', f1, f2⟩ := hn_loopE (fun n2 a s' => fX8_layWays_88 F (fX8_layWays_80 F n) n2 (nI v) (nI a) s') 6 (fun s' => fX8_layWays_80 F n (nI (v + 1)) s') (fun a s' => wj (fun x y => fw_enc ((fw_r (fw_D0 L) M v).1 x y)) (fun x y => fw_enc (fw_d (fw_r (fw_D0 L) M v).1 (fw_r (fw_D0 L) M v).2 v x y)) a 0 s s')
        (fun n2 s' _ => by
          show fX8_layWays_88 F (fX8_layWays_80 F n) (n2 + 1) (nI v) (nI 6) s' = _
          rw [fX8_layWays_88, if_pos (show (6 : Int32) ≤ nI 6 from by decide)]
          unfold fX8_layWays_199
          rw [nI_1])
        (fun n2 a s' ha hi => by
          obtain ⟨s2, k1, k2⟩ := hn_loopE (fun n3 b s' => fX8_layWays_96 F (fX8_layWays_80 F n) (fX8_layWays_88 F (fX8_layWays_80 F n) n2) n3 (nI v) (nI a) (nI b) s') 6 (fun s' => fX8_layWays_88 F (fX8_layWays_80 F n) n2 (nI v) (nI (a + 1)) s') (fun b s' => wj (fun x y => fw_enc ((fw_r (fw_D0 L) M v).1 x y)) (fun x y => fw_enc (fw_d (fw_r (fw_D0 L) M v).1 (fw_r (fw_D0 L) M v).2 v x y)) a b s s')
            (fun n3 s' _ => by
              show fX8_layWays_96 F (fX8_layWays_80 F n) (fX8_layWays_88 F (fX8_layWays_80 F n) n2) (n3 + 1) (nI v) (nI a) (nI 6) s' = _
              rw [fX8_layWays_96, if_pos (show (6 : Int32) ≤ nI 6 from by decide)]
              unfold fX8_layWays_193
              rw [nI_1])
            (fun n3 b s' hb hi => wj_go hv ha hb (by omega) ok.1 (ok.2.1 v hv) hi _ _)
            6 0 F s' (by decide) (by omega) hi
          refine ⟨s2, ?_, wj_next k2⟩
          show fX8_layWays_88 F (fX8_layWays_80 F n) (n2 + 1) (nI v) (nI a) s' = _
          rw [fX8_layWays_88, if_neg (show ¬ (6 : Int32) ≤ nI a from hn_ge (b := 6) ha (by decide))]
          exact k1)
        6 0 F s (by decide) (by omega) ⟨fun k _ => rfl, fun x y hx hy => ⟨fun z => by omega, fun _ => g2 x y hx hy⟩⟩
      refine ⟨s', ?_, fun k hk => (f2.1 k hk).trans (g1 k hk), fun x y hx hy => (f2.2 x y hx hy).1 (by omega)⟩
      show fX8_layWays_80 F (n + 1) (nI v) s = _
      rw [fX8_layWays_80, if_neg (show ¬ (6 : Int32) ≤ nI v from hn_ge (b := 6) hv (by decide))]
      exact f1)
    6 0 F μ0 (by decide) (by omega) ⟨e2, e3⟩
  refine ⟨μ', ?_, h2⟩
  rw [e1]
  exact h1
