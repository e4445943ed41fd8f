/-! calls: post, sheet, dated, behind -/
section c2
variable {μ ν : hn_M} {V : hn_Vw} {D S : Nat → Nat → Int} {o F : Nat}
theorem hn_wr_0 {α : Type} {μ : hn_M} {k n : Nat} {x : Int32} {K : hn_M → Option α} (h : 0 < n) (hn : n < 2 ^ 31) : hn_wr μ k n 0 x K = K (hn_up μ k 0 x) := by
  rw [show (0 : Int32) = nI 0 from rfl]; exact hn_wr_at h hn
theorem rm_blk {m : Nat} (hm : 1 ≤ m) (h1 : ∀ k, k = 76 ∨ k = 78 ∨ k = 80 → ∀ i, 1 ≤ i → ν k i = μ k i) (h77 : ∀ i, 36 ≤ i → ν 77 i = μ 77 i) (h79 : ∀ i, 40 ≤ i → ν 79 i = μ 79 i) (h81 : ∀ i, 180 ≤ i → ν 81 i = μ 81 i) (h82 : ∀ i, 20 ≤ i → ν 82 i = μ 82 i) (h83 : ∀ i, 10 ≤ i → ν 83 i = μ 83 i) (h : repM μ m V) : repM ν m V := by
  obtain ⟨⟨a1, a2, a3⟩, b, c, d, e, f⟩ := h
  refine ⟨⟨?_, ?_, ?_⟩, fun s hs => ?_, fun q hq => ?_, fun j hj => ?_, fun t ht => ?_, fun t ht => ?_⟩
  · rw [h1 76 (by omega) m hm]; exact a1
  · rw [h1 78 (by omega) m hm]; exact a2
  · rw [h1 80 (by omega) m hm]; exact a3
  · rw [h77 _ (by omega), h77 _ (by omega), h77 _ (by omega)]; exact b s hs
  · rw [h79 _ (by omega), h79 _ (by omega)]; exact c q hq
  · rw [h81 _ (by omega), h81 _ (by omega), h81 _ (by omega), h81 _ (by omega), h81 _ (by omega), h81 _ (by omega)]; exact d j hj
  · rw [h82 _ (by omega), h82 _ (by omega)]; exact e t ht
  · rw [h83 _ (by omega)]; exact f t ht
theorem iK_b {V' : hn_Vw} (hN : vN V ≤ vN V') (h9 : ν 0 9 = μ 0 9) (h11 : ν 72 11 = μ 72 11) (hc : ∀ k, 20 ≤ k → k ≤ 45 → ν k = μ k) (h1 : ∀ k, k = 76 ∨ k = 78 ∨ k = 80 → ∀ i, 1 ≤ i → ν k i = μ k i) (h77 : ∀ i, 36 ≤ i → ν 77 i = μ 77 i) (h79 : ∀ i, 40 ≤ i → ν 79 i = μ 79 i) (h81 : ∀ i, 180 ≤ i → ν 81 i = μ 81 i) (h82 : ∀ i, 20 ≤ i → ν 82 i = μ 82 i) (h83 : ∀ i, 10 ≤ i → ν 83 i = μ 83 i) (i : iK μ V D) : iK ν V' D := by
  obtain ⟨k, W, i1, i2, i3, i4⟩ := i
  refine ⟨k, W, i1, by rw [h9]; exact i2, by rw [h11]; exact i3, fun j hj => ?_⟩
  have := i4 j hj
  exact ⟨rc_cong (fun k a b => hc k (by omega) (by omega)) this.1, rm_blk (by omega) h1 h77 h79 h81 h82 h83 this.2.1, this.2.2.1, by have := this.2.2.2.1; omega, this.2.2.2.2⟩
theorem c_post (hF : 12000 ≤ F) (x y l3 l4 : Int32) : hn_cM (fun μ => fX7_post F x y l3 l4 μ) (fun μ => fX8_post F x y l3 l4 μ) := by
  intro μ ⟨V, D, S, o, hB, hS⟩
  have hI : hn_Inv μ := ⟨V, D, S, o, hB, hS⟩
  obtain ⟨i1, i2, i3, i4, i5, i6, i7⟩ := hB
  have hn := i2.2.2.1
  show ∃ r μ1 μ2, fX7_post F x y l3 l4 μ = some (r, μ1) ∧ fX8_post F x y l3 l4 μ1 = some (r, μ2) ∧ _
  have e60 : (60 : Int32).toInt = 60 := rfl
  have e1 : (1 : Int32).toInt = 1 := rfl
  by_cases hg : (0 ≤ x.toInt ∧ x.toInt ≤ 5) ∧ (0 ≤ y.toInt ∧ y.toInt ≤ 5) ∧ ¬ x = y ∧ 1 ≤ l3.toInt ∧ l4.toInt ≤ 60 ∧ l3.toInt ≤ l4.toInt
  rotate_left 1
  · refine ⟨-1, μ, μ, ?_, ?_, hI⟩
    · unfold fX7_post
      rw [hn_town7, hn_town7]
      by_cases h1 : 0 ≤ x.toInt ∧ x.toInt ≤ 5
      rotate_left 1
      · rw [hn_ckf h1]
      by_cases h2 : 0 ≤ y.toInt ∧ y.toInt ≤ 5
      rotate_left 1
      · rw [hn_ckt h1, hn_ckf h2]
      rw [hn_ckt h1, hn_ckt h2]
      by_cases h3 : x = y
      · rw [if_pos h3]
      rw [if_neg h3]
      by_cases h4 : 1 ≤ l3.toInt
      rotate_left 1
      · rw [if_pos (by rw [hn_lt, e1]; omega)]
      rw [if_neg (by rw [hn_lt, e1]; omega)]
      by_cases h5 : l4.toInt ≤ 60
      rotate_left 1
      · rw [if_pos (by rw [hn_lt, e60]; omega)]
      rw [if_neg (by rw [hn_lt, e60]; omega), if_neg (by rw [hn_le]; exact fun z => hg ⟨h1, h2, h3, h4, h5, z⟩)]
    · unfold fX8_post
      rw [hn_town8, hn_town8, hn_in8 l3 (a := 1) (b := 60) rfl rfl, hn_in8 l4 (lo := l3.toInt64) (a := l3.toInt) (b := 60) (Int32.toInt_toInt64 l3) rfl]
      by_cases h1 : 0 ≤ x.toInt ∧ x.toInt ≤ 5
      rotate_left 1
      · rw [hn_ckf h1]
      by_cases h2 : 0 ≤ y.toInt ∧ y.toInt ≤ 5
      rotate_left 1
      · rw [hn_ckt h1, hn_ckf h2]
      rw [hn_ckt h1, hn_ckt h2]
      by_cases h3 : x = y
      · rw [if_pos h3]
      rw [if_neg h3]
      by_cases h4 : 1 ≤ l3.toInt ∧ l3.toInt ≤ 60
      rotate_left 1
      · rw [hn_ckf h4]
      rw [hn_ckt h4, hn_ckf (fun z => hg ⟨h1, h2, h3, h4.1, z.2, z.1⟩)]
  obtain ⟨h1, h2, h3, h4, h5, h6⟩ := hg
  have c8 : fX8_post F x y l3 l4 = fun μ => hn_rd μ 76 3 0 fun v5 => if v5 ≤ 0 then hn_wr μ 73 36 ((6 * x) + y) l3 fun μ6 => hn_wr μ6 74 36 ((6 * x) + y) l4 fun μ7 => (fX8_layWays F μ7).bind fun μ8 => some (0, μ8) else some ((-2), μ) := by
    funext μ
    unfold fX8_post
    rw [hn_town8, hn_town8, hn_in8 l3 (a := 1) (b := 60) rfl rfl, hn_in8 l4 (lo := l3.toInt64) (a := l3.toInt) (b := 60) (Int32.toInt_toInt64 l3) rfl, hn_ckt h1, hn_ckt h2, if_neg h3, hn_ckt (by omega), hn_ckt (by omega)]
  have c7 : fX7_post F x y l3 l4 μ = if μ 6 0 ≤ 0 then (fX2_tell F x y l3 l4 μ).bind fun μ3 => hn_pf μ3 0 12 0 fun μ4 => some (0, μ4) else some ((-2), μ) := by
    unfold fX7_post
    rw [hn_town7, hn_town7, hn_ckt h1, hn_ckt h2, if_neg h3, if_neg (by rw [hn_lt, e1]; omega), if_neg (by rw [hn_lt, e60]; omega), if_pos (by rw [hn_le]; exact h6)]
  rw [c7, c8]
  have cN : μ 6 0 = nI (vN V) := i2.1.1.1
  have mN := rm_n i2.2.1
  by_cases h0 : vN V = 0
  rotate_left 1
  · refine ⟨-2, μ, μ, ?_, ?_, hI⟩
    · rw [cN, if_neg (nI_nle (by omega) (by omega))]
    · show hn_rd μ 76 3 0 _ = _
      rw [hn_rd_0 (by decide) (by decide), mN, if_neg (nI_nle (by omega) (by omega))]
  obtain ⟨a, ha, rfl⟩ := hn_ix' 6 (by decide) h1
  obtain ⟨b, hb, rfl⟩ := hn_ix' 6 (by decide) h2
  obtain ⟨lo, rfl, elo⟩ := hn_nat (x := l3) (by omega)
  obtain ⟨hi, rfl, ehi⟩ := hn_nat (x := l4) (by omega)
  obtain ⟨μ1, D', S', t1, t2, t3, t4, t5, t6, t7⟩ := po_tell hF i1 ha hb (fun z => h3 (by rw [z])) (lo := lo) (hi := hi) (by omega) (by omega) (by omega)
  have cp := t4.2.2.1
  rw [cN, h0, if_pos (by decide), t1, Option.bind_some]
  obtain ⟨μ2, w1, w2, w3⟩ := hn_layWays (F := F) (μ := hn_up (hn_up (hn_up μ1 0 12 0) 73 (6 * a + b) (nI lo)) 74 (6 * a + b) (nI hi)) (by omega) cp (fun x y hx hy => by
    have := t6 (6 * x + y) (by omega)
    have e := i1.2.2.1 (6 * x + y) (by omega)
    rw [hn_up_ne (by decide), hn_upk, hn_up_ne (by decide), t2 73 (by decide) (by decide) (by decide) (by decide) (by decide)]
    unfold pL
    rw [this.1, e.1])
  have fr : ∀ k, k ≠ 0 → k ≠ 1 → k ≠ 2 → k ≠ 3 → k ≠ 4 → k ≠ 5 → k ≠ 73 → k ≠ 74 → k ≠ 75 → μ2 k = μ k := fun k k0 k1 k2 k3 k4 k5 k6 k7 k8 => by rw [w2 k k8, hn_up_ne k7, hn_up_ne k6, hn_up_ne k0, t2 k k1 k2 k3 k4 k5]
  have fr1 : ∀ k, k ≠ 0 → k ≠ 73 → k ≠ 74 → k ≠ 75 → μ2 k = μ1 k := fun k k0 k6 k7 k8 => by rw [w2 k k8, hn_up_ne k7, hn_up_ne k6, hn_up_ne k0]
  have f0 : ∀ i, i ≠ 12 → μ2 0 i = μ 0 i := fun i hi => by rw [w2 0 (by decide), hn_up_ne (by decide), hn_up_ne (by decide), hn_up_off hi, t2 0 (by decide) (by decide) (by decide) (by decide) (by decide)]
  refine ⟨0, hn_up μ1 0 12 0, μ2, rfl, ?_, V, D', S', o, ⟨?_, ?_, ?_, ?_, ?_, ?_, ?_⟩, Or.inl ?_⟩
  · have e76 : hn_up μ1 0 12 0 76 0 = nI (vN V) := by rw [hn_up_ne (by decide), t2 76 (by decide) (by decide) (by decide) (by decide) (by decide)]; exact mN
    show hn_rd (hn_up μ1 0 12 0) 76 3 0 _ = _
    rw [hn_rd_0 (by decide) (by decide), e76, h0, if_pos (by decide), hn_ix6m, nI_add, hn_wr_at (by omega) (by decide), hn_wr_at (by omega) (by decide), w1, Option.bind_some]
  · have p1 : pL μ2 = pL μ1 := by funext a b; unfold pL; rw [fr1 2 (by decide) (by decide) (by decide) (by decide)]
    have p2 : pM μ2 = pM μ1 := by funext a b; unfold pM; rw [fr1 3 (by decide) (by decide) (by decide) (by decide)]
    refine ⟨fun x y hx hy => ?_, by rw [p1, p2]; exact t4, fun i hi => ?_, fun x y hx hy => ?_, ?_⟩
    · unfold pD pS
      rw [fr1 4 (by decide) (by decide) (by decide) (by decide), fr1 5 (by decide) (by decide) (by decide) (by decide)]
      exact t3 x y hx hy
    · have := t6 i hi
      have e := i1.2.2.1 i hi
      rw [fr1 2 (by decide) (by decide) (by decide) (by decide), fr1 3 (by decide) (by decide) (by decide) (by decide), w2 73 (by decide), w2 74 (by decide), hn_up_ne (show (73 : Nat) ≠ 74 by decide), hn_upk, hn_upk, hn_up_ne (show (73 : Nat) ≠ 0 by decide), hn_up_ne (show (74 : Nat) ≠ 73 by decide), hn_up_ne (show (74 : Nat) ≠ 0 by decide), t2 73 (by decide) (by decide) (by decide) (by decide) (by decide), t2 74 (by decide) (by decide) (by decide) (by decide) (by decide), this.1, this.2, e.1, e.2]
      exact ⟨rfl, rfl⟩
    · rw [w3 x y hx hy, t7]
    · rw [fr1 1 (by decide) (by decide) (by decide) (by decide), fr1 2 (by decide) (by decide) (by decide) (by decide)]; exact t5
  · exact ⟨rc_cong (fun k a b => fr k (by omega) (by omega) (by omega) (by omega) (by omega) (by omega) (by omega) (by omega) (by omega)) i2.1, rm_cong (fun k a b => fr k (by omega) (by omega) (by omega) (by omega) (by omega) (by omega) (by omega) (by omega) (by omega)) i2.2.1, okV_0 i2.2.2 h0⟩
  · have := iK_c (ν := μ2) (f0 9 (by decide)) (by rw [fr 72 (by decide) (by decide) (by decide) (by decide) (by decide) (by decide) (by decide) (by decide) (by decide)]) (fun k hk => fr k (by omega) (by omega) (by omega) (by omega) (by omega) (by omega) (by omega) (by omega) (by omega)) i3
    obtain ⟨k, W, j1, j2, j3, j4⟩ := this
    refine ⟨k, W, j1, j2, j3, fun j hj => ?_⟩
    have := j4 j hj
    exact ⟨this.1, this.2.1, okV_0 this.2.2.1 (by have := this.2.2.2.1; omega), this.2.2.2⟩
  · exact iF_c ⟨f0 10 (by decide), f0 11 (by decide)⟩ ⟨by rw [fr 72 (by decide) (by decide) (by decide) (by decide) (by decide) (by decide) (by decide) (by decide) (by decide)], by rw [fr 72 (by decide) (by decide) (by decide) (by decide) (by decide) (by decide) (by decide) (by decide) (by decide)]⟩ i4
  · exact iT_c ⟨fr 54 (by decide) (by decide) (by decide) (by decide) (by decide) (by decide) (by decide) (by decide) (by decide), fr 55 (by decide) (by decide) (by decide) (by decide) (by decide) (by decide) (by decide) (by decide) (by decide), fr 84 (by decide) (by decide) (by decide) (by decide) (by decide) (by decide) (by decide) (by decide) (by decide)⟩ (by rw [fr 72 (by decide) (by decide) (by decide) (by decide) (by decide) (by decide) (by decide) (by decide) (by decide)]) i5
  · exact iI_c ⟨f0 7 (by decide), f0 8 (by decide)⟩ (fun k hk => fr k (by omega) (by omega) (by omega) (by omega) (by omega) (by omega) (by omega) (by omega) (by omega)) i6
  · exact iW_c ⟨fr 57 (by decide) (by decide) (by decide) (by decide) (by decide) (by decide) (by decide) (by decide) (by decide), fr 87 (by decide) (by decide) (by decide) (by decide) (by decide) (by decide) (by decide) (by decide) (by decide)⟩ i7
  · rw [w2 0 (by decide), hn_up_ne (by decide), hn_up_ne (by decide)]; exact hn_up_at
/-- a call that tells papers: all but the papers' cells and the settled mark stay -/
def pfr (μ ν : hn_M) : Prop := (∀ k, k ≠ 0 → ¬ (6 ≤ k ∧ k ≤ 18) → ¬ (76 ≤ k ∧ k ≤ 83) → ν k = μ k) ∧ (∀ i, i ≠ 12 → ν 0 i = μ 0 i)
theorem hn_Ba_p {V' : hn_Vw} (h : pfr μ ν) (hv : iV ν V' D) (hk : iK ν V' D) (i : hn_Ba μ V D S o) : hn_Ba ν V' D S o := by
  obtain ⟨i1, i2, i3, i4, i5, i6, i7⟩ := i
  obtain ⟨h1, h2⟩ := h
  have e72 := h1 72 (by omega) (by omega) (by omega)
  exact ⟨iP_c (fun k hk => h1 k (by omega) (by omega) (by omega)) i1, hv, hk,
    iF_c ⟨h2 10 (by decide), h2 11 (by decide)⟩ ⟨by rw [e72], by rw [e72]⟩ i4,
    iT_c ⟨h1 54 (by omega) (by omega) (by omega), h1 55 (by omega) (by omega) (by omega), h1 84 (by omega) (by omega) (by omega)⟩ (by rw [e72]) i5,
    iI_c ⟨h2 7 (by decide), h2 8 (by decide)⟩ (fun k hk => h1 k (by omega) (by omega) (by omega)) i6,
    iW_c ⟨h1 57 (by omega) (by omega) (by omega), h1 87 (by omega) (by omega) (by omega)⟩ i7⟩
end c2
