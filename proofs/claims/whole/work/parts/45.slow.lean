/-! the model's slow: six rounds come to the most slow days over the ways of least days -/
def sl_x (μ : hn_M) (b : Nat) : Int := (μ 88 b).toInt
/-- bounds: not reached yet, or reached and not above -/
def sl_Q (D S : Nat → Nat → Int) (i : Nat) (x : Nat → Int) : Prop := x i = 0 ∧ ∀ b, b < 6 → x b = -4 ∨ (D i b < 1000000 ∧ 0 ≤ x b ∧ x b ≤ S i b)
abbrev sl_on (L D : Nat → Nat → Int) (i : Nat) (x : Nat → Int) (c b : Nat) : Prop := 0 ≤ x c ∧ 0 < L c b ∧ D i c + L c b = D i b
def sl_J (L M D S : Nat → Nat → Int) (i : Nat) (x0 : Nat → Int) (a b : Nat) (x : Nat → Int) : Prop := sl_Q D S i x ∧ (∀ y, y < 6 → x0 y ≤ x y) ∧ ∀ c y, c < 6 → y < 6 → (c < a ∨ (c = a ∧ y < b)) → sl_on L D i x0 c y → x0 c + M c y ≤ x y
/-- what the rounds of 42.ways leave, in the words that are used here -/
def sl_W (L M D S : Nat → Nat → Int) : Prop := (∀ a b, a < 6 → b < 6 → 0 ≤ D a b ∧ (D a b ≤ 3840 ∨ D a b = 1000000) ∧ 0 ≤ S a b ∧ S a b ≤ 3840) ∧ (∀ a, a < 6 → D a a = 0 ∧ S a a = 0) ∧ fw_post L M ∧
    (∀ a b c, a < 6 → b < 6 → c < 6 → 0 < L c b → D a c < 1000000 → D a b ≤ D a c + L c b ∧ (D a b = D a c + L c b → S a c + M c b ≤ S a b)) ∧
    (∀ a b, a < 6 → b < 6 → a ≠ b → D a b < 1000000 → ∃ c, c < 6 ∧ 0 < L c b ∧ D a c < 1000000 ∧ D a b = D a c + L c b ∧ S a b = S a c + M c b)
def sl_T (D S : Nat → Nat → Int) (i b : Nat) : Int := if D i b < 1000000 then S i b else -4
theorem sl_more {L M D S : Nat → Nat → Int} {i : Nat} {x0 x : Nat → Int} (hi : i < 6) (hw : sl_W L M D S) (q0 : sl_Q D S i x0) (h : sl_J L M D S i x0 6 0 x) (r : Nat) (hr : (∀ b, b < 6 → x0 b = sl_T D S i b) ∨ r ≤ dy_cnt (fun b => x0 b = sl_T D S i b) 6) : (∀ b, b < 6 → x b = sl_T D S i b) ∨ r + 1 ≤ dy_cnt (fun b => x b = sl_T D S i b) 6 := by
  obtain ⟨q1, m1, e1⟩ := h
  obtain ⟨w0, w1, w2, w3, w4⟩ := hw
  have stay : ∀ b, b < 6 → x0 b = sl_T D S i b → x b = sl_T D S i b := by
    intro b hb hx
    have a1 := q1.2 b hb
    have a2 := m1 b hb
    have a3 := w0 i b hi hb
    unfold sl_T at hx ⊢
    by_cases hd : D i b < 1000000
    · rw [if_pos hd] at hx ⊢; omega
    · rw [if_neg hd] at hx ⊢; omega
  by_cases hall : ∀ b, b < 6 → x0 b = sl_T D S i b
  · exact Or.inl fun b hb => stay b hb (hall b hb)
  · right
    have hr := hr.resolve_left hall
    obtain ⟨b0, hb0⟩ := Classical.not_forall.mp hall
    obtain ⟨hb1, hb2⟩ := Classical.not_imp.mp hb0
    obtain ⟨z, ⟨b, hb, hbx, rfl⟩, hl⟩ := dy_least (fun z => ∃ b, b < 6 ∧ ¬ x0 b = sl_T D S i b ∧ D i b = z) 0 (fun z ⟨b, hb, _, e⟩ => by rw [← e]; exact (w0 i b hi hb).1) ⟨_, b0, hb1, hb2, rfl⟩
    have hd : D i b < 1000000 := by
      refine Classical.byContradiction fun z => hbx ?_
      have := q0.2 b hb
      unfold sl_T
      rw [if_neg z]
      omega
    have hib : i ≠ b := by
      intro z
      subst z
      apply hbx
      unfold sl_T
      rw [if_pos hd, (w1 i hi).2]
      exact q0.1
    obtain ⟨c, c1, c2, c3, c4, c5⟩ := w4 i b hi hb hib hd
    have hLc := w2 c b c1 hb
    have hc : x0 c = sl_T D S i c := by
      refine Classical.byContradiction fun z => ?_
      have := hl (D i c) ⟨c, c1, z, rfl⟩
      omega
    have hc2 : x0 c = S i c := by unfold sl_T at hc; rw [if_pos c3] at hc; exact hc
    have hSc := w0 i c hi c1
    have e2 := e1 c b c1 hb (by omega) ⟨by omega, c2, c4.symm⟩
    have hx : x b = sl_T D S i b := by
      have a1 := q1.2 b hb
      have a3 := w0 i b hi hb
      unfold sl_T
      rw [if_pos hd]
      omega
    have := dy_cnt_lt (fun b => x0 b = sl_T D S i b) (fun b => x b = sl_T D S i b) 6 (fun s hs => stay s hs) b hb hbx hx
    omega
/-- one pair of towns in a round -/
theorem sl_go {L M D S : Nat → Nat → Int} {i a b n F : Nat} {x0 : Nat → Int} {O μ : hn_M} (hi : i < 6) (ha : a < 6) (hb : b < 6) (hw : sl_W L M D S) (hO1 : ∀ a b, a < 6 → b < 6 → (O 73 (6 * a + b)).toInt = L a b ∧ (O 74 (6 * a + b)).toInt = M a b ∧ (O 75 (6 * a + b)).toInt = fw_enc (D a b)) (hk : ∀ k, k ≠ 88 → μ k = O k) (h : sl_J L M D S i x0 a b (sl_x μ)) (l2 l3 : Int32) (k49 : Int32 → Int32 → Int32 → hn_M → Option (Int32 × hn_M)) (k58 : Int32 → Int32 → Int32 → Int32 → hn_M → Option (Int32 × hn_M)) : ∃ μ', fX8_slow_68 F k49 k58 (n + 1) (nI i) l2 l3 (nI a) (nI b) μ = fX8_slow_68 F k49 k58 n (nI i) l2 l3 (nI a) (nI (b + 1)) μ' ∧ (∀ k, k ≠ 88 → μ' k = O k) ∧ sl_J L M D S i x0 a (b + 1) (sl_x μ') := by
  obtain ⟨w0, w1, w2, w3, w4⟩ := hw
  have e73 := hk 73 (by decide)
  have e74 := hk 74 (by decide)
  have e75 := hk 75 (by decide)
  have o1 := hO1 a b ha hb
  have o2 := hO1 i a hi ha
  have o3 := hO1 i b hi hb
  have bM := w2 a b ha hb
  have bS := w0 i b hi hb
  have bSa := w0 i a hi ha
  have qa := h.1.2 a ha
  have qb := h.1.2 b hb
  have xa : (μ 88 a).toInt = sl_x μ a := rfl
  have xb : (μ 88 b).toInt = sl_x μ b := rfl
  have step : ∀ x' : Nat → Int, (∀ y, y < 6 → y ≠ b → x' y = sl_x μ y) → sl_x μ b ≤ x' b → (x' b = sl_x μ b ∨ (D i b < 1000000 ∧ 0 ≤ x' b ∧ x' b ≤ S i b ∧ b ≠ i) ∨ (b = i ∧ x' b = 0)) → (sl_on L D i x0 a b → x0 a + M a b ≤ x' b) → sl_J L M D S i x0 a (b + 1) x' := by
    intro x' h1 h2 h3 h4
    obtain ⟨q1, q2, q3⟩ := h
    refine ⟨⟨?_, fun y hy => ?_⟩, fun y hy => ?_, fun c y hc hy hp hon => ?_⟩
    · by_cases hib : i = b
      · subst hib; have := q1.1; omega
      · rw [h1 i hi hib]; exact q1.1
    · by_cases hyb : y = b
      · subst hyb
        have q := q1.2 y hy
        rcases h3 with e | e | e
        · rw [e]; exact q
        · exact Or.inr ⟨e.1, e.2.1, e.2.2.1⟩
        · obtain ⟨ey, ez⟩ := e
          subst ey
          have := w1 y hi
          exact Or.inr ⟨by omega, by omega, by omega⟩
      · rw [h1 y hy hyb]; exact q1.2 y hy
    · by_cases hyb : y = b
      · subst hyb; have := q2 y hy; omega
      · rw [h1 y hy hyb]; exact q2 y hy
    · by_cases hp2 : c < a ∨ (c = a ∧ y < b)
      · have := q3 c y hc hy hp2 hon
        by_cases hyb : y = b
        · subst hyb; omega
        · rw [h1 y hy hyb]; exact this
      · have ec : c = a := by omega
        have ey : y = b := by omega
        subst ec; subst ey
        exact h4 hon
  -- nothing new for b
  have skip : (sl_on L D i x0 a b → x0 a + M a b ≤ sl_x μ b) → ∃ μ', fX8_slow_201 F k49 k58 (fX8_slow_68 F k49 k58 n) (nI i) l2 l3 (nI a) (nI b) (nI b) μ = fX8_slow_68 F k49 k58 n (nI i) l2 l3 (nI a) (nI (b + 1)) μ' ∧ (∀ k, k ≠ 88 → μ' k = O k) ∧ sl_J L M D S i x0 a (b + 1) (sl_x μ') := by
    intro h4
    refine ⟨hn_up μ 88 b (μ 88 b), ?_, fun k hk2 => by rw [hn_up_ne hk2]; exact hk k hk2, ?_⟩
    · unfold fX8_slow_201 fX8_slow_208
      rw [hn_rd_at hb (by decide), hn_wr_at hb (by decide), nI_1]
    · have ex : sl_x (hn_up μ 88 b (μ 88 b)) = sl_x μ := by
        funext y
        unfold sl_x
        rw [hn_upk]
        by_cases hy : y = b
        · rw [if_pos hy, hy]
        · rw [if_neg hy]
      rw [ex]
      exact step (sl_x μ) (fun _ _ _ => rfl) (Int.le_refl _) (Or.inl rfl) h4
  have hxa0 : x0 a ≤ sl_x μ a := h.2.1 a ha
  rw [fX8_slow_68, if_neg (show ¬ (6 : Int32) ≤ nI b from hn_ge (b := 6) hb (by decide)), hn_ix6, hn_ix6, hn_ix6, hn_rd_at ha (by decide), hn_rd_at (by omega) (by decide), hn_rd_at (by omega) (by decide), hn_rd_at (by omega) (by decide), hn_rd_at (by omega) (by decide), e73, e75]
  by_cases t1 : sl_x μ a < 0
  · rw [if_pos (by rw [hn_lt, xa]; exact t1)]
    unfold fX8_slow_144 fX8_slow_145
    rw [if_pos rfl]
    exact skip (fun z => by omega)
  · rw [if_neg (by rw [hn_lt, xa]; exact t1)]
    have da : D i a < 1000000 := by omega
    by_cases t2 : L a b ≤ 0
    · rw [if_pos (by rw [hn_le, o1.1]; exact t2)]
      unfold fX8_slow_144 fX8_slow_145
      rw [if_pos rfl]
      exact skip (fun z => by omega)
    · rw [if_neg (by rw [hn_le, o1.1]; exact t2)]
      have q2 : fw_enc (D i a) = D i a := if_pos da
      have cl := w3 i b a hi hb ha (by omega) da
      have q3 : fw_enc (D i b) = D i b := if_pos (by omega)
      have sm : (O 75 (6 * i + a) + O 73 (6 * a + b)).toInt = D i a + L a b := by rw [hn_addI (by omega) (by omega), o2.2.2, o1.1, q2]
      by_cases t3 : D i a + L a b = D i b
      · rw [if_pos (by rw [hn_eq_i, sm, o3.2.2, q3]; exact t3)]
        unfold fX8_slow_145
        rw [if_neg (by decide), hn_rd_at ha (by decide), hn_rd_at (by omega) (by decide), hn_rd_at hb (by decide), hn_rd_at ha (by decide), hn_rd_at (by omega) (by decide), e74]
        have sx : (μ 88 a + O 74 (6 * a + b)).toInt = sl_x μ a + M a b := by rw [hn_addI (by omega) (by omega), o1.2.1, xa]
        by_cases t4 : sl_x μ a + M a b ≤ sl_x μ b
        · rw [if_pos (by rw [hn_le, sx, xb]; exact t4)]
          exact skip (fun z => by omega)
        · rw [if_neg (by rw [hn_le, sx, xb]; exact t4)]
          have up := cl.2 t3.symm
          refine ⟨hn_up μ 88 b (μ 88 a + O 74 (6 * a + b)), ?_, fun k hk2 => by rw [hn_up_ne hk2]; exact hk k hk2, ?_⟩
          · unfold fX8_slow_208
            rw [hn_wr_at hb (by decide), nI_1]
          · have ev : sl_x (hn_up μ 88 b (μ 88 a + O 74 (6 * a + b))) b = sl_x μ a + M a b := by
              unfold sl_x
              rw [hn_up_at]
              exact sx
            refine step _ (fun y hy hyb => by unfold sl_x; rw [hn_up_off hyb]) (by rw [ev]; omega) ?_ (fun z => by rw [ev]; omega)
            right; left
            rw [ev]
            refine ⟨by omega, by omega, by omega, ?_⟩
            intro hbi
            subst hbi
            have := w1 b hb
            omega
      · rw [if_neg (by rw [hn_eq_i, sm, o3.2.2, q3]; exact t3)]
        unfold fX8_slow_144 fX8_slow_145
        rw [if_pos rfl]
        exact skip (fun z => absurd z.2.2 t3)
/-- the answer of slow; cell 88 alone is new -/
theorem hn_slow8 {L M D S : Nat → Nat → Int} {i t F : Nat} {μ : hn_M} (hF : 7 ≤ F) (hi : i < 6) (ht : t < 6) (hw : sl_W L M D S) (hO1 : ∀ a b, a < 6 → b < 6 → (μ 73 (6 * a + b)).toInt = L a b ∧ (μ 74 (6 * a + b)).toInt = M a b ∧ (μ 75 (6 * a + b)).toInt = fw_enc (D a b)) : ∃ r μ', fX8_slow_18 F F (nI i) (nI t) 0 μ = some (r, μ') ∧ r.toInt = sl_T D S i t ∧ ∀ k, k ≠ 88 → μ' k = μ k := by
  obtain ⟨μ0, h1, h2⟩ := hn_loopE (fun n j μ' => fX8_slow_18 F n (nI i) (nI t) (nI j) μ') 6 (fun μ' => fX8_slow_47 F (nI i) (nI t) μ') (fun j μ' => (∀ k, k ≠ 88 → μ' k = μ k) ∧ ∀ b, b < j → sl_x μ' b = if b = i then 0 else -4)
    (fun n s _ => by
      show fX8_slow_18 F (n + 1) (nI i) (nI t) (nI 6) s = _
      rw [fX8_slow_18, if_pos (show (6 : Int32) ≤ nI 6 from by decide)])
    (fun n j s hj hi2 => by
      have key : ∀ x0 : Int32, x0.toInt = (if j = i then 0 else -4) → ∃ s', fX8_slow_40 F (fX8_slow_18 F n) (nI i) (nI t) (nI j) x0 (nI j) s = fX8_slow_18 F n (nI i) (nI t) (nI (j + 1)) s' ∧ (∀ k, k ≠ 88 → s' k = μ k) ∧ ∀ b, b < j + 1 → sl_x s' b = if b = i then 0 else -4 := by
        intro x0 hx0
        refine ⟨hn_up s 88 j x0, ?_, fun k hk => by rw [hn_up_ne hk]; exact hi2.1 k hk, fun b hb => ?_⟩
        · unfold fX8_slow_40
          rw [hn_wr_at hj (by decide), nI_1]
        · unfold sl_x
          rw [hn_upk]
          by_cases hbj : b = j
          · subst hbj; rw [if_pos rfl]; exact hx0
          · rw [if_neg hbj]; exact hi2.2 b (by omega)
      show ∃ s', fX8_slow_18 F (n + 1) (nI i) (nI t) (nI j) s = _ ∧ _
      rw [fX8_slow_18, if_neg (show ¬ (6 : Int32) ≤ nI j from hn_ge (b := 6) hj (by decide))]
      by_cases hji : j = i
      · rw [if_pos (by rw [hji])]
        exact key 0 (by rw [if_pos hji]; rfl)
      · rw [if_neg (by rw [nI_eq (by omega) (by omega)]; exact hji)]
        exact key (-4) (by rw [if_neg hji]; rfl))
    6 0 F μ (by decide) (by omega) ⟨fun k _ => rfl, fun b hb => by omega⟩
  have q0 : sl_Q D S i (sl_x μ0) := by
    refine ⟨by rw [h2.2 i hi, if_pos rfl], fun b hb => ?_⟩
    rw [h2.2 b hb]
    by_cases hbi : b = i
    · rw [if_pos hbi, hbi]; have := hw.2.1 i hi; right; omega
    · rw [if_neg hbi]; exact Or.inl rfl
  obtain ⟨μ1, h3, h4⟩ := hn_loopE (fun n j μ' => fX8_slow_49 F n (nI i) (nI t) (nI j) μ') 6 (fun μ' => fX8_slow_227 F (nI t) μ') (fun j μ' => (∀ k, k ≠ 88 → μ' k = μ k) ∧ sl_Q D S i (sl_x μ') ∧ ((∀ b, b < 6 → sl_x μ' b = sl_T D S i b) ∨ j ≤ dy_cnt (fun b => sl_x μ' b = sl_T D S i b) 6))
    (fun n s _ => by
      show fX8_slow_49 F (n + 1) (nI i) (nI t) (nI 6) s = _
      rw [fX8_slow_49, if_pos (show (6 : Int32) ≤ nI 6 from by decide)])
    (fun n j s hj hi2 => by
      obtain ⟨g1, g2, g3⟩ := hi2
      obtain ⟨s1, f1, f2⟩ := hn_loopE (fun n2 a s' => fX8_slow_58 F (fX8_slow_49 F n) n2 (nI i) (nI t) (nI j) (nI a) s') 6 (fun s' => fX8_slow_49 F n (nI i) (nI t) (nI (j + 1)) s') (fun a s' => (∀ k, k ≠ 88 → s' k = μ k) ∧ sl_J L M D S i (sl_x s) a 0 (sl_x s'))
        (fun n2 s' _ => by
          show fX8_slow_58 F (fX8_slow_49 F n) (n2 + 1) (nI i) (nI t) (nI j) (nI 6) s' = _
          rw [fX8_slow_58, if_pos (show (6 : Int32) ≤ nI 6 from by decide)]
          unfold fX8_slow_221
          rw [nI_1])
        (fun n2 a s' ha hi3 => by
          obtain ⟨s2, k1, k2⟩ := hn_loopE (fun n3 b s' => fX8_slow_68 F (fX8_slow_49 F n) (fX8_slow_58 F (fX8_slow_49 F n) n2) n3 (nI i) (nI t) (nI j) (nI a) (nI b) s') 6 (fun s' => fX8_slow_58 F (fX8_slow_49 F n) n2 (nI i) (nI t) (nI j) (nI (a + 1)) s') (fun b s' => (∀ k, k ≠ 88 → s' k = μ k) ∧ sl_J L M D S i (sl_x s) a b (sl_x s'))
            (fun n3 s' _ => by
              show fX8_slow_68 F (fX8_slow_49 F n) (fX8_slow_58 F (fX8_slow_49 F n) n2) (n3 + 1) (nI i) (nI t) (nI j) (nI a) (nI 6) s' = _
              rw [fX8_slow_68, if_pos (show (6 : Int32) ≤ nI 6 from by decide)]
              unfold fX8_slow_215
              rw [nI_1])
            (fun n3 b s' hb hi4 => sl_go hi ha hb hw hO1 hi4.1 hi4.2 _ _ _ _)
            6 0 F s' (by decide) (by omega) hi3
          refine ⟨s2, ?_, k2.1, k2.2.1, k2.2.2.1, fun c y hc hy hp => k2.2.2.2 c y hc hy (by omega)⟩
          show fX8_slow_58 F (fX8_slow_49 F n) (n2 + 1) (nI i) (nI t) (nI j) (nI a) s' = _
          rw [fX8_slow_58, if_neg (show ¬ (6 : Int32) ≤ nI a from hn_ge (b := 6) ha (by decide))]
          exact k1)
        6 0 F s (by decide) (by omega) ⟨g1, g2, fun y _ => Int.le_refl _, fun c y _ _ hp => by omega⟩
      refine ⟨s1, ?_, f2.1, f2.2.1, sl_more hi hw g2 f2.2 j g3⟩
      show fX8_slow_49 F (n + 1) (nI i) (nI t) (nI j) s = _
      rw [fX8_slow_49, if_neg (show ¬ (6 : Int32) ≤ nI j from hn_ge (b := 6) hj (by decide))]
      exact f1)
    6 0 F μ0 (by decide) (by omega) ⟨h2.1, q0, Or.inr (Nat.zero_le _)⟩
  have hall : ∀ b, b < 6 → sl_x μ1 b = sl_T D S i b := by
    rcases h4.2.2 with z | z
    · exact z
    · have := dy_cnt_le (fun b => sl_x μ1 b = sl_T D S i b) 6
      exact dy_cnt_all _ 6 (by omega)
  refine ⟨μ1 88 t, μ1, ?_, hall t ht, h4.1⟩
  refine Eq.trans h1 ?_
  unfold fX8_slow_47
  refine Eq.trans h3 ?_
  unfold fX8_slow_227
  rw [hn_rd_at ht (by decide)]
