/-! calls that ask: known, count, beyond -/
section q4
variable {μ ν : hn_M} {V : hn_Vw} {D S : Nat → Nat → Int} {o F : Nat}
/-- when a thing of town a, day d, could be known in b -/
def hn_kn (μ : hn_M) (D : Nat → Nat → Int) (a d b : Nat) : Int32 := if D a b < 1000000 then nI d + μ 4 (6 * a + b) else -4
theorem kn_b (hP : iP μ D S) {a d b : Nat} (ha : a < 6) (hb : b < 6) (hd : d < 1000) : hn_kn μ D a d b = -4 ∨ (0 ≤ (hn_kn μ D a d b).toInt ∧ (hn_kn μ D a d b).toInt ≤ 5000) := by
  have x : (μ 4 (6 * a + b)).toInt = D a b := (hP.1 a b ha hb).1
  have y := iP_D hP a b ha hb
  have z := nI_toInt (n := d) (by omega)
  unfold hn_kn
  by_cases hc : D a b < 1000000
  · rw [if_pos hc]
    right
    rw [hn_addI (by omega) (by omega)]
    omega
  · rw [if_neg hc]; exact Or.inl rfl
theorem kn_class (hB : hn_Ba μ V D S o) {t a d b : Nat} (ht : t < 10) (he : vE V t = some (a, d)) (hb : b < 6) : fX7_firstKnown μ (nI t) (nI b) = some (hn_kn μ D a d b) := by
  have hV := hB.2.1.2.2
  have oe := hV.2.2.2.2.1 t ht a d he
  unfold fX7_firstKnown hn_kn
  rcases hB.2.1.1.2.2.2.2.1 t ht with ⟨e1, _⟩ | ⟨a', d', e1, e2, e3⟩
  · rw [he] at e1; cases e1
  · rw [he] at e1
    cases e1
    rw [hn_rd_at (by omega) (by decide), show μ 16 t = _ from e2, hn_leads (iP_O hB.1) oe.1 hb, Option.bind_some, hn_rd_at (by omega) (by decide), show μ 17 t = _ from e3, hn_days oe.1 hb, Option.bind_some]
    by_cases hc : D a b < 1000000
    · rw [if_pos hc, if_pos hc, if_neg (show ¬ (1 : Int32) = 0 by decide)]
    · rw [if_neg hc, if_neg hc, if_pos (show (0 : Int32) = 0 from rfl)]
theorem kn_model (hB : hn_Ba μ V D S o) {t a d b : Nat} (ht : t < 10) (he : vE V t = some (a, d)) (hb : b < 6) : fX8_knownIn μ (nI t) (nI b) = some (hn_kn μ D a d b) := by
  have hV := hB.2.1.2.2
  have oe := hV.2.2.2.2.1 t ht a d he
  unfold fX8_knownIn hn_kn
  rcases rm_e hB.2.1.2.1 ht with ⟨e1, _⟩ | ⟨a', d', e1, e2, e3⟩
  · rw [he] at e1; cases e1
  · rw [he] at e1
    cases e1
    rw [hn_ix2, hn_p1, hn_rd_at (by omega) (by decide), e2, hn_ix6m, nI_add, hn_rd_at (by omega) (by decide), hn_rd_at (by omega) (by decide), e3]
    have x1 : (μ 4 (6 * a + b)).toInt = _ := (hB.1.1 _ _ oe.1 hb).1
    rcases hn_wayI hB.1 oe.1 hb with ⟨hd, e⟩ | ⟨hd, e⟩
    · rw [if_pos hd, e, if_pos (by rw [hn_le, x1]; exact (iP_D hB.1 _ _ oe.1 hb).1)]
    · rw [if_neg hd, e, if_neg (by decide)]
theorem c_known (hF : 12000 ≤ F) (x y w : Int32) : hn_cP (fun μ => fX7_known F μ x y w) (fun μ => fX8_known F μ x y w) := by
  intro μ ⟨V, D, S, o, hB, hS⟩
  have hV := hB.2.1.2.2
  have z0 : (0 : Int32).toInt = 0 := rfl
  have z1 : (1 : Int32).toInt = 1 := rfl
  show ∃ r, fX7_known F μ x y w = some r ∧ fX8_known F μ x y w = some r
  unfold fX7_known fX8_known
  rw [hn_thing7, hn_town7, hn_thing8, hn_town8, hn_in8 w (a := 0) (b := 1) rfl rfl]
  by_cases h1 : 0 ≤ x.toInt ∧ x.toInt ≤ 9
  rotate_left 1
  · rw [hn_ckf h1, hn_ckf h1]; exact ⟨-1, rfl, rfl⟩
  by_cases h2 : 0 ≤ y.toInt ∧ y.toInt ≤ 5
  rotate_left 1
  · rw [hn_ckt h1, hn_ckf h2, hn_ckt h1, hn_ckf h2]; exact ⟨-1, rfl, rfl⟩
  rw [hn_ckt h1, hn_ckt h2, hn_ckt h1, hn_ckt h2]
  by_cases h3 : 0 ≤ w.toInt ∧ w.toInt ≤ 1
  rotate_left 1
  · rw [hn_ckf h3]
    refine ⟨-1, ?_, rfl⟩
    by_cases h4 : 0 ≤ w.toInt
    rotate_left 1
    · rw [if_pos (by rw [hn_lt, z0]; omega)]
    rw [if_neg (by rw [hn_lt, z0]; omega), if_neg (by rw [hn_le, z1]; exact fun z => h3 ⟨h4, z⟩)]
  rw [hn_ckt h3, if_neg (by rw [hn_lt, z0]; omega), if_pos (by rw [hn_le, z1]; omega)]
  obtain ⟨t, ht, rfl⟩ := hn_ix' 10 (by decide) h1
  obtain ⟨b, hb, rfl⟩ := hn_ix' 6 (by decide) h2
  rw [hn_hap hB.2.1.1 hV ht, Option.bind_some, hn_ix2, hn_rd_at (by omega) (by decide)]
  rcases rm_e hB.2.1.2.1 ht with ⟨e1, e2⟩ | ⟨a, d, e1, e2, e3⟩
  · rw [e1, e2]; exact ⟨-2, rfl, rfl⟩
  have oe := hV.2.2.2.2.1 t ht a d e1
  rw [e2, if_pos (nI_pos' (by omega)), e1, if_neg (show ¬ hn_b01 (Option.isSome (some (a, d))) = 0 from show ¬ hn_b01 true = 0 by decide), kn_class hB ht e1 hb, kn_model hB ht e1 hb, Option.bind_some, Option.bind_some]
  by_cases w0 : w = 0
  · rw [if_pos w0, if_pos w0]; exact ⟨_, rfl, rfl⟩
  rw [if_neg w0, if_neg w0]
  rcases kn_b hB.1 oe.1 hb oe.2 (b := b) with hk | hk
  · rw [hk]; exact ⟨-4, rfl, rfl⟩
  rw [if_neg (show ¬ hn_kn μ D a d b = -4 from fun z => by rw [z] at hk; exact absurd hk.1 (by decide)), if_pos (show 0 ≤ hn_kn μ D a d b by rw [hn_le]; exact hk.1)]
  -- the lag
  have f7 := hn_loop (fun n j s => fX7_lagBehind_6 F μ n (nI t) (hn_kn μ D a d b) s (nI j)) 6 (fun j s => if hn_kn μ D a d j ≤ hn_kn μ D a d b then s else if s = -4 then hn_kn μ D a d j - hn_kn μ D a d b else if s ≤ hn_kn μ D a d j - hn_kn μ D a d b then s else hn_kn μ D a d j - hn_kn μ D a d b) some (fun _ _ => True)
    (fun n s _ => by
      show fX7_lagBehind_6 F μ (n + 1) _ _ s (nI 6) = _
      rw [fX7_lagBehind_6, if_pos (by decide)])
    (fun n j s hj _ => by
      show fX7_lagBehind_6 F μ (n + 1) _ _ s (nI j) = _
      rw [fX7_lagBehind_6, if_neg (show ¬ (6 : Int32) ≤ nI j from hn_ge (b := 6) hj (by decide)), kn_class hB ht e1 hj, Option.bind_some]
      unfold fX7_lagBehind_42 fX7_lagBehind_47
      rw [nI_1]
      by_cases c1 : hn_kn μ D a d j ≤ hn_kn μ D a d b
      · simp only [if_pos c1]
      · simp only [if_neg c1]
        by_cases c2 : s = -4
        · simp only [if_pos c2]
        · simp only [if_neg c2]
          by_cases c3 : s ≤ hn_kn μ D a d j - hn_kn μ D a d b
          · simp only [if_pos c3]
          · simp only [if_neg c3]) (fun _ _ _ _ => trivial) 6 0 F (-4) (by omega) (by omega) trivial
  have f8 := hn_loop (fun n j s => fX8_known_67 F μ n (nI t) (hn_kn μ D a d b) s (nI j)) 6 (fun j s => if hn_kn μ D a d j ≤ hn_kn μ D a d b then s else if s = -4 then hn_kn μ D a d j - hn_kn μ D a d b else if s ≤ hn_kn μ D a d j - hn_kn μ D a d b then s else hn_kn μ D a d j - hn_kn μ D a d b) some (fun _ s => s = -4 ∨ 0 ≤ s.toInt)
    (fun n s _ => by
      show fX8_known_67 F μ (n + 1) _ _ s (nI 6) = _
      rw [fX8_known_67, if_pos (by decide)])
    (fun n j s hj hi => by
      show fX8_known_67 F μ (n + 1) _ _ s (nI j) = _
      rw [fX8_known_67, if_neg (show ¬ (6 : Int32) ≤ nI j from hn_ge (b := 6) hj (by decide)), kn_model hB ht e1 hj, Option.bind_some]
      unfold fX8_known_105 fX8_known_113 fX8_known_115
      rw [nI_1]
      have hs : s < 0 ↔ s = -4 := by
        rcases hi with h | h
        · rw [h]; exact ⟨fun _ => rfl, fun _ => by decide⟩
        · constructor
          · intro z; rw [hn_lt] at z; have z : s.toInt < 0 := z; omega
          · intro z; rw [z] at h; exact absurd h (by decide)
      by_cases c1 : hn_kn μ D a d j ≤ hn_kn μ D a d b
      · simp only [if_pos c1]
      · simp only [if_neg c1]
        by_cases c2 : s = -4
        · simp only [if_pos c2, if_pos (hs.mpr c2)]
        · have c2' : ¬ s < 0 := fun z => c2 (hs.mp z)
          simp only [if_neg c2, if_neg c2']
          by_cases c3 : s ≤ hn_kn μ D a d j - hn_kn μ D a d b
          · simp only [if_pos c3]
          · simp only [if_neg c3])
    (fun j s hj hi => by
      have kj := kn_b hB.1 oe.1 hj oe.2 (b := j)
      by_cases c1 : hn_kn μ D a d j ≤ hn_kn μ D a d b
      · simp only [if_pos c1]; exact hi
      · simp only [if_neg c1]
        have c1' := c1
        rw [hn_le] at c1'
        have kj2 : 0 ≤ (hn_kn μ D a d j).toInt ∧ (hn_kn μ D a d j).toInt ≤ 5000 := by
          rcases kj with h | h
          · rw [h] at c1'; have : (-4 : Int32).toInt = -4 := rfl; omega
          · exact h
        have ks : 0 ≤ (hn_kn μ D a d j - hn_kn μ D a d b).toInt := by rw [hn_subI (by omega) (by omega)]; omega
        by_cases c2 : s = -4
        · simp only [if_pos c2]; exact Or.inr ks
        · simp only [if_neg c2]
          by_cases c3 : s ≤ hn_kn μ D a d j - hn_kn μ D a d b
          · simp only [if_pos c3]; exact hi
          · simp only [if_neg c3]; exact Or.inr ks) 6 0 F (-4) (by omega) (by omega) (Or.inl rfl)
  have f7 : fX7_lagBehind F μ (nI t) (hn_kn μ D a d b) = _ := f7.1
  have f8 : fX8_known_67 F μ F (nI t) (hn_kn μ D a d b) (-4) 0 = _ := f8.1
  rw [f7, f8]
  exact ⟨_, rfl, rfl⟩
theorem hn_itk {α : Type} {t : Nat} {K : Nat → Option α} (h : t = 58 ∨ t = 65) : hn_it (nI t) K = K t := by
  unfold hn_it
  rcases h with rfl | rfl
  · rw [if_pos (Or.inl (by decide)), show (nI 58).toNatClampNeg = 58 by decide]
  · rw [if_pos (Or.inr (by decide)), show (nI 65).toNatClampNeg = 65 by decide]
theorem hn_it_cnt (P : Nat → Prop) [DecidablePred P] : ∀ d j c, c = nI (dy_cnt P j) → hn_it_ (fun i s => if P i then s + 1 else s) d j c = nI (dy_cnt P (j + d)) := by
  intro d
  induction d with
  | zero => intro j c hc; exact hc
  | succ d ih =>
    intro j c hc
    show hn_it_ _ d (j + 1) (if P j then c + 1 else c) = _
    rw [ih (j + 1) _ (by
      simp only [dy_cnt]
      by_cases h : P j
      · rw [if_pos h, if_pos h, hc, nI_1]
      · rw [if_neg h, if_neg h, hc]; rfl), show j + 1 + d = j + (d + 1) by omega]
theorem c_count (hF : 12000 ≤ F) (x : Int32) : hn_cP (fun μ => fX7_count F μ x) (fun μ => fX8_count F μ x) := by
  intro μ ⟨V, D, S, o, hB, hS⟩
  have hV := hB.2.1.2.2
  show ∃ r, fX7_count F μ x = some r ∧ fX8_count F μ x = some r
  unfold fX7_count fX8_count
  by_cases x0 : x = 0
  · rw [if_pos x0, if_pos x0, hn_rd_0 (by decide) (by decide), hn_cN7 hB, hn_cN8 hB]; exact ⟨_, rfl, rfl⟩
  rw [if_neg x0, if_neg x0]
  by_cases x1 : x = 1
  · rw [if_pos x1, if_pos x1, hn_rd_0 (by decide) (by decide), show μ 6 4 = _ from hB.2.1.1.1.2.1, rm_p hB.2.1.2.1]; exact ⟨_, rfl, rfl⟩
  rw [if_neg x1, if_neg x1]
  have tk : ∀ (d : Nat) (P : Nat → Prop) (dp : DecidablePred P), (∀ i, i < 10 → (P i ↔ ¬ μ d i = -1)) → fX7_toldIn F d μ = some (hn_it_ (fun i s => if P i then s + 1 else s) 10 0 0) := by
    intro d P dp hP
    have f7 := hn_fold (fun n j s => fX7_toldIn_10 F d μ n s 10 (nI j)) 10 (fun i s => if P i then s + 1 else s) some
      (fun n s => by
        show fX7_toldIn_10 F d μ (n + 1) s 10 (nI 10) = _
        rw [fX7_toldIn_10, if_pos (by decide)])
      (fun n j s hj => by
        show fX7_toldIn_10 F d μ (n + 1) s 10 (nI j) = _
        rw [fX7_toldIn_10, if_neg (show ¬ (10 : Int32) ≤ nI j from hn_ge (b := 10) hj (by decide)), hn_rd_at (by omega) (by decide)]
        unfold fX7_toldIn_31
        rw [nI_1]
        by_cases hc : μ d j = -1
        · rw [if_pos hc, if_neg (fun z => (hP j hj).mp z hc)]
        · rw [if_neg hc, if_pos ((hP j hj).mpr hc)]) F 0 (by omega)
    exact f7
  by_cases x2 : x = 2
  · rw [if_pos x2, if_pos x2, tk 17 (fun i => (vE V i).isSome = true) inferInstance (fun i hi => by
      rcases hB.2.1.1.2.2.2.2.1 i hi with ⟨e1, e2⟩ | ⟨a, d, e1, _, e2⟩
      · rw [e1, show μ 17 i = -1 from e2]; exact ⟨(fun z => by cases z), (fun z => absurd rfl z)⟩
      · have := hV.2.2.2.2.1 i hi a d e1
        rw [e1, show μ 17 i = nI d from e2]
        exact ⟨fun _ => by rw [hn_eq_i, nI_toInt (by omega)]; show ¬ (d : Int) = -1; omega, fun _ => rfl⟩)]
    have f8 := hn_fold (fun n j s => fX8_count_68 F μ n s (nI j)) 10 (fun i s => if (vE V i).isSome = true then s + 1 else s) some
      (fun n s => by
        show fX8_count_68 F μ (n + 1) s (nI 10) = _
        rw [fX8_count_68, if_pos (by decide)])
      (fun n j s hj => by
        show fX8_count_68 F μ (n + 1) s (nI j) = _
        rw [fX8_count_68, if_neg (show ¬ (10 : Int32) ≤ nI j from hn_ge (b := 10) hj (by decide)), hn_ix2, hn_rd_at (by omega) (by decide)]
        unfold fX8_count_91
        rw [nI_1, hn_a0]
        rcases rm_e hB.2.1.2.1 hj with ⟨e1, e2⟩ | ⟨a, d, e1, e2, _⟩
        · rw [e1, e2, if_pos (by decide), if_neg (fun z => by cases z)]
        · have := hV.2.2.2.2.1 j hj a d e1
          rw [e1, e2, if_neg (nI_pos (by omega))]
          rfl) F 0 (by omega)
    have f8 : fX8_count_68 F μ F 0 0 = _ := f8
    rw [f8]
    exact ⟨_, rfl, rfl⟩
  rw [if_neg x2, if_neg x2]
  by_cases x3 : x = 3
  · rw [if_pos x3, if_pos x3, hn_rd_0 (by decide) (by decide), hn_cK7 hB, hn_cK8 hB]; exact ⟨_, rfl, rfl⟩
  rw [if_neg x3, if_neg x3]
  by_cases x4 : x = 4
  · rw [if_pos x4, if_pos x4, tk 18 (fun i => ¬ vT V i = -1) inferInstance (fun i hi => by
      have e : (μ 18 i).toInt = vT V i := hB.2.1.1.2.2.2.2.2 i hi
      constructor
      · intro h z; rw [z] at e; exact h e.symm
      · intro h z; exact h (hn_eq_i.mpr (by rw [e, z]; rfl)))]
    have f8 := hn_fold (fun n j s => fX8_count_110 F μ n s (nI j)) 10 (fun i s => if ¬ vT V i = -1 then s + 1 else s) some
      (fun n s => by
        show fX8_count_110 F μ (n + 1) s (nI 10) = _
        rw [fX8_count_110, if_pos (by decide)])
      (fun n j s hj => by
        show fX8_count_110 F μ (n + 1) s (nI j) = _
        rw [fX8_count_110, if_neg (show ¬ (10 : Int32) ≤ nI j from hn_ge (b := 10) hj (by decide)), hn_rd_at (by omega) (by decide)]
        unfold fX8_count_131
        rw [nI_1, hn_a0]
        have e := rm_t hB.2.1.2.1 hj
        have ot := hV.2.2.2.2.2 j hj
        by_cases hc : vT V j = -1
        · rw [if_pos (by rw [hn_lt, e, hc]; decide), if_neg (fun z => z hc)]
        · rw [if_neg (by rw [hn_lt, e]; show ¬ _ < (0 : Int); omega), if_pos hc]) F 0 (by omega)
    have f8 : fX8_count_110 F μ F 0 0 = _ := f8
    rw [f8]
    exact ⟨_, rfl, rfl⟩
  rw [if_neg x4, if_neg x4]
  by_cases x5 : x = 5
  · obtain ⟨n, _, t1, t2, _⟩ := hB.2.2.2.2.1
    rw [if_pos x5, if_pos x5, t1, t2]; exact ⟨_, rfl, rfl⟩
  rw [if_neg x5, if_neg x5]
  by_cases x6 : x = 6
  · obtain ⟨t, u, n, It, t0, t1, t2, t3, t4, t5⟩ := hB.2.2.2.2.2.1
    rw [if_pos x6, if_pos x6, show (1 : Int32) = nI 1 from rfl, hn_rd_at (by decide) (by decide), t4.1, t1]
    rw [hn_itk (t0.imp (fun z => z.1) (fun z => z.1)), t3.1]
    exact ⟨_, rfl, rfl⟩
  rw [if_neg x6, if_neg x6]
  by_cases x7 : x = 7
  · obtain ⟨k, W, _, k1, k2, _⟩ := hB.2.2.1
    rw [if_pos x7, if_pos x7, k1, k2]; exact ⟨_, rfl, rfl⟩
  rw [if_neg x7, if_neg x7]
  by_cases x8 : x = 8
  · rw [if_pos x8, if_pos x8, hB.1.2.2.2.2]
    have f8 := hn_fold (fun n j s => fX8_count_160 F μ n s (nI j)) 36 (fun i s => if ¬ μ 2 i = 0 then s + 1 else s) some
      (fun n s => by
        show fX8_count_160 F μ (n + 1) s (nI 36) = _
        rw [fX8_count_160, if_pos (by decide)])
      (fun n j s hj => by
        show fX8_count_160 F μ (n + 1) s (nI j) = _
        rw [fX8_count_160, if_neg (show ¬ (36 : Int32) ≤ nI j from hn_ge (b := 36) hj (by decide)), hn_rd_at (by omega) (by decide), (hB.1.2.2.1 j hj).1]
        unfold fX8_count_181
        rw [nI_1, hn_a0]
        have e := hB.1.2.1.2.2.1 (j / 6) (j % 6) (by omega) (by omega)
        unfold pL pM at e
        rw [show 6 * (j / 6) + j % 6 = j by omega] at e
        by_cases hc : μ 2 j = 0
        · rw [if_pos (by rw [hc]; decide), if_neg (fun z => z hc)]
        · have h0 : ¬ (μ 2 j).toInt = 0 := fun z => hc (hn_eq_i.mpr (by rw [z]; rfl))
          rw [if_neg (by rw [hn_le]; show ¬ _ ≤ (0 : Int); omega), if_pos hc]) F 0 (by omega)
    have f8 : fX8_count_160 F μ F 0 0 = _ := f8
    rw [f8, hn_it_cnt (fun i => ¬ μ 2 i = 0) 36 0 0 rfl]
    exact ⟨_, rfl, rfl⟩
  rw [if_neg x8, if_neg x8]
  exact ⟨_, rfl, rfl⟩
end q4
