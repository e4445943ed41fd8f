/-! calls: keep, back -/
section ke
variable {μ ν O : hn_M} {V W : hn_Vw} {D S : Nat → Nat → Int} {o F : Nat}
def hn_cq (μ : hn_M) (k1 k2 n : Nat) : hn_M := fun a => if a = k2 then va_cpy (μ k1) (μ k2) 0 0 n else μ a
theorem hn_cp_q {α : Type} {k1 k2 n : Nat} {K : hn_M → Option α} : hn_cp μ k1 k2 n K = K (hn_cq μ k1 k2 n) := rfl
theorem hn_pf_q {α : Type} {k j : Nat} {x : Int32} {K : hn_M → Option α} : hn_pf μ k j x K = K (hn_up μ k j x) := rfl
theorem hn_cq_ne {k1 k2 n a : Nat} (h : a ≠ k2) : hn_cq μ k1 k2 n a = μ a := if_neg h
theorem hn_cq_at {k1 k2 n j : Nat} (h : j < n) : hn_cq μ k1 k2 n k2 j = μ k1 j := by
  unfold hn_cq va_cpy
  rw [if_pos rfl, if_pos ⟨Nat.zero_le _, by omega⟩, show 0 + (j - 0) = j by omega]
set_option maxRecDepth 4000 in
theorem cp_all {t o : Nat} (h : o + 12 < t ∨ t + 12 < o) (μ : hn_M) : ∃ ν, fX1_copyFrom t o μ = some ν ∧ (∀ k, (k < t ∨ t + 12 < k) → ν k = μ k) ∧ (ν t 0 = μ o 0 ∧ ν t 4 = μ o 4 ∧ ν t 7 = μ o 7 ∧ ν t 12 = μ o 12 ∧ ν t 13 = μ o 13) ∧
    (∀ s, s < 12 → ν (t + 1) s = μ (o + 1) s ∧ ν (t + 2) s = μ (o + 2) s ∧ ν (t + 3) s = μ (o + 3) s) ∧ (∀ s, s < 20 → ν (t + 4) s = μ (o + 4) s ∧ ν (t + 5) s = μ (o + 5) s) ∧
    (∀ s, s < 30 → ν (t + 6) s = μ (o + 6) s ∧ ν (t + 7) s = μ (o + 7) s ∧ ν (t + 8) s = μ (o + 8) s ∧ ν (t + 9) s = μ (o + 9) s) ∧ (∀ s, s < 10 → ν (t + 10) s = μ (o + 10) s ∧ ν (t + 11) s = μ (o + 11) s ∧ ν (t + 12) s = μ (o + 12) s) := by
  unfold fX1_copyFrom
  simp only [hn_cp_q, hn_pf_q]
  refine ⟨_, rfl, fun k hk => ?_, ⟨?_, ?_, ?_, ?_, ?_⟩, fun s hs => ⟨?_, ?_, ?_⟩, fun s hs => ⟨?_, ?_⟩, fun s hs => ⟨?_, ?_, ?_, ?_⟩, fun s hs => ⟨?_, ?_, ?_⟩⟩
  all_goals simp (disch := omega) only [hn_cq_ne, hn_up_ne, hn_up_off, hn_up_at, hn_cq_at]
theorem cp_rep {t o : Nat} (h : o + 12 < t ∨ t + 12 < o) (hr : repC μ o V) (hn : vN V ≤ 12 ∧ vP V ≤ 20 ∧ vK V ≤ 30) : ∃ ν, fX1_copyFrom t o μ = some ν ∧ (∀ k, (k < t ∨ t + 12 < k) → ν k = μ k) ∧ repC ν t V := by
  obtain ⟨ν, h1, h2, ⟨a0, a4, a7, a12, a13⟩, b, c, d, e⟩ := cp_all h μ
  obtain ⟨⟨c0, c4, c7⟩, cS, cQ, cY, cE, cT⟩ := hr
  refine ⟨ν, h1, h2, ⟨by rw [a0]; exact c0, by rw [a4]; exact c4, by rw [a7]; exact c7⟩, fun s hs => ?_, fun q hq => ?_, fun j hj => ?_, fun x hx => ?_, fun x hx => ?_⟩
  · have g := b s (by omega)
    rw [g.1, g.2.1, g.2.2]; exact cS s hs
  · have g := c q (by omega)
    rw [g.1, g.2]; exact cQ q hq
  · have g := d j (by omega)
    rw [g.1, g.2.1, g.2.2.1, g.2.2.2, a12, a13]; exact cY j hj
  · have g := e x hx
    rw [g.1, g.2.1]; exact cE x hx
  · have g := e x hx
    rw [g.2.2]; exact cT x hx
/-- a block of a row is copied onto another -/
def cmp_ (c w a b : Nat) (μ ν : hn_M) : Prop := (∀ j, j < w → ν c (w * b + j) = μ c (w * a + j)) ∧ ∀ i, (i < w * b ∨ w * b + w ≤ i) → ν c i = μ c i
theorem cm_loop (f : Nat → Int32 → hn_M → Option hn_M) (fin : hn_M → Option hn_M) (c w tot a b : Nat) (hw : w ≤ 180) (ht : w * 3 ≤ tot) (ht2 : tot < 1000) (hw0 : 0 < w) (hab : (a = 0 ∧ (b = 1 ∨ b = 2)) ∨ (b = 0 ∧ (a = 1 ∨ a = 2))) (hF : 12000 ≤ F)
    (hf : ∀ n j μ, f (n + 1) (nI j) μ = if nI w ≤ nI j then fin μ else hn_rd μ c tot (nI (w * a + j)) fun v => hn_wr μ c tot (nI (w * b + j)) v fun μ' => f n (nI (j + 1)) μ') (μ : hn_M) :
    ∃ ν, f F 0 μ = fin ν ∧ (∀ k, k ≠ c → ν k = μ k) ∧ cmp_ c w a b μ ν := by
  have dis : ∀ j, j < w → w * a + j < w * b ∨ w * b + w ≤ w * a + j := by
    intro j hj
    rcases hab with ⟨rfl, rfl | rfl⟩ | ⟨rfl, rfl | rfl⟩ <;> omega
  have la : ∀ j, j < w → w * a + j < tot := by
    intro j hj
    rcases hab with ⟨rfl, rfl | rfl⟩ | ⟨rfl, rfl | rfl⟩ <;> omega
  have lb : ∀ j, j < w → w * b + j < tot := by
    intro j hj
    rcases hab with ⟨rfl, rfl | rfl⟩ | ⟨rfl, rfl | rfl⟩ <;> omega
  obtain ⟨ν, h1, h2⟩ := hn_loopE (fun n j s => f n (nI j) s) w fin (fun j s => (∀ k, k ≠ c → s k = μ k) ∧ (∀ i, i < j → s c (w * b + i) = μ c (w * a + i)) ∧ ∀ i, (i < w * b ∨ w * b + w ≤ i) → s c i = μ c i)
    (fun n s _ => by
      show f (n + 1) (nI w) s = _
      rw [hf, if_pos (by rw [hn_leN (by omega) (by omega)]; exact Nat.le_refl _)])
    (fun n j s hj hi => by
      refine ⟨hn_up s c (w * b + j) (s c (w * a + j)), ?_, fun k hk => by rw [hn_up_ne hk]; exact hi.1 k hk, fun i hi2 => ?_, fun i hi2 => ?_⟩
      · show f (n + 1) (nI j) s = _
        rw [hf, if_neg (by rw [hn_leN (by omega) (by omega)]; omega), hn_rd_at (la j hj) (by omega), hn_wr_at (lb j hj) (by omega)]
      · rw [hn_upk]
        by_cases hij : i = j
        · rw [if_pos (by rw [hij]), hij]; exact hi.2.2 _ (dis j hj)
        · rw [if_neg (by omega)]; exact hi.2.1 i (by omega)
      · rw [hn_up_off (by omega)]; exact hi.2.2 i hi2)
    w 0 F μ (by omega) (by omega) ⟨fun k _ => rfl, fun i hi => by omega, fun i _ => rfl⟩
  exact ⟨ν, h1, h2.1, h2.2⟩
theorem cmp_c {c w a b : Nat} {μ ν μ' ν' : hn_M} (h1 : μ' c = μ c) (h2 : ν' c = ν c) (h : cmp_ c w a b μ ν) : cmp_ c w a b μ' ν' := by
  unfold cmp_
  rw [h1, h2]
  exact h
theorem cm_all (hF : 12000 ≤ F) {a b : Nat} (hab : (a = 0 ∧ (b = 1 ∨ b = 2)) ∨ (b = 0 ∧ (a = 1 ∨ a = 2))) (μ : hn_M) : ∃ ν, fX8_copy F (nI a) (nI b) μ = some ν ∧ (∀ k, (k < 76 ∨ 83 < k) → ν k = μ k) ∧ (∀ k, k = 76 ∨ k = 78 ∨ k = 80 → ν k b = μ k a ∧ ∀ i, i ≠ b → ν k i = μ k i) ∧ cmp_ 77 36 a b μ ν ∧ cmp_ 79 40 a b μ ν ∧ cmp_ 81 180 a b μ ν ∧ cmp_ 82 20 a b μ ν ∧ cmp_ 83 10 a b μ ν := by
  have ha : a < 3 := by omega
  have hb : b < 3 := by omega
  obtain ⟨μ0, hμ0⟩ : ∃ m : hn_M, hn_up (hn_up (hn_up μ 76 b (μ 76 a)) 78 b (μ 78 a)) 80 b (μ 80 a) = m := ⟨_, rfl⟩
  have e0 : fX8_copy F (nI a) (nI b) μ = fX8_copy_38 F F (nI a) (nI b) 0 μ0 := by
    unfold fX8_copy
    rw [hn_rd_at ha (by decide), hn_wr_at hb (by decide), hn_rd_at ha (by decide), hn_wr_at hb (by decide), hn_rd_at ha (by decide), hn_wr_at hb (by decide), hn_up_ne (show (78 : Nat) ≠ 76 by decide), hn_up_ne (show (80 : Nat) ≠ 78 by decide), hn_up_ne (show (80 : Nat) ≠ 76 by decide), hμ0]
  obtain ⟨μ1, p1, p2, p3⟩ := cm_loop (F := F) (fun n l s => fX8_copy_38 F n (nI a) (nI b) l s) (fun s => fX8_copy_72 F (nI a) (nI b) s) 77 36 108 a b (by decide) (by decide) (by decide) (by decide) hab hF (fun n j s => by
    show fX8_copy_38 F (n + 1) (nI a) (nI b) (nI j) s = _
    rw [fX8_copy_38, show (36 : Int32) = nI 36 from rfl, pk_mul, pk_mul, nI_add, nI_add, nI_1]) μ0
  obtain ⟨μ2, q1, q2, q3⟩ := cm_loop (F := F) (fun n l s => fX8_copy_74 F n (nI a) (nI b) l s) (fun s => fX8_copy_108 F (nI a) (nI b) s) 79 40 120 a b (by decide) (by decide) (by decide) (by decide) hab hF (fun n j s => by
    show fX8_copy_74 F (n + 1) (nI a) (nI b) (nI j) s = _
    rw [fX8_copy_74, show (40 : Int32) = nI 40 from rfl, pk_mul, pk_mul, nI_add, nI_add, nI_1]) μ1
  obtain ⟨μ3, r1, r2, r3⟩ := cm_loop (F := F) (fun n l s => fX8_copy_110 F n (nI a) (nI b) l s) (fun s => fX8_copy_147 F (nI a) (nI b) s) 81 180 540 a b (by decide) (by decide) (by decide) (by decide) hab hF (fun n j s => by
    show fX8_copy_110 F (n + 1) (nI a) (nI b) (nI j) s = _
    rw [fX8_copy_110, show (180 : Int32) = nI 180 from rfl, pk_mul, pk_mul, nI_add, nI_add, nI_1]) μ2
  obtain ⟨μ4, s1, s2, s3⟩ := cm_loop (F := F) (fun n l s => fX8_copy_149 F n (nI a) (nI b) l s) (fun s => fX8_copy_183 F (nI a) (nI b) s) 82 20 60 a b (by decide) (by decide) (by decide) (by decide) hab hF (fun n j s => by
    show fX8_copy_149 F (n + 1) (nI a) (nI b) (nI j) s = _
    rw [fX8_copy_149, show (20 : Int32) = nI 20 from rfl, pk_mul, pk_mul, nI_add, nI_add, nI_1]) μ3
  obtain ⟨μ5, t1, t2, t3⟩ := cm_loop (F := F) (fun n l s => fX8_copy_185 F n (nI a) (nI b) l s) some 83 10 30 a b (by decide) (by decide) (by decide) (by decide) hab hF (fun n j s => by
    show fX8_copy_185 F (n + 1) (nI a) (nI b) (nI j) s = _
    rw [fX8_copy_185, show (10 : Int32) = nI 10 from rfl, pk_mul, pk_mul, nI_add, nI_add, nI_1]) μ4
  have all : fX8_copy F (nI a) (nI b) μ = some μ5 := by
    refine e0.trans (Eq.trans p1 ?_)
    show fX8_copy_72 F (nI a) (nI b) μ1 = _
    unfold fX8_copy_72
    refine Eq.trans q1 ?_
    show fX8_copy_108 F (nI a) (nI b) μ2 = _
    unfold fX8_copy_108
    refine Eq.trans r1 ?_
    show fX8_copy_147 F (nI a) (nI b) μ3 = _
    unfold fX8_copy_147
    refine Eq.trans s1 ?_
    show fX8_copy_183 F (nI a) (nI b) μ4 = _
    unfold fX8_copy_183
    exact t1
  have z : ∀ k, k ≠ 76 → k ≠ 78 → k ≠ 80 → μ0 k = μ k := fun k k1 k2 k3 => by rw [← hμ0, hn_up_ne k3, hn_up_ne k2, hn_up_ne k1]
  have five : ∀ k, k ≠ 77 → k ≠ 79 → k ≠ 81 → k ≠ 82 → k ≠ 83 → μ5 k = μ0 k := fun k k1 k2 k3 k4 k5 => by rw [t2 k k5, s2 k k4, r2 k k3, q2 k k2, p2 k k1]
  refine ⟨μ5, all, fun k hk => by rw [five k (by omega) (by omega) (by omega) (by omega) (by omega), z k (by omega) (by omega) (by omega)], fun k hk => ?_, ?_, ?_, ?_, ?_, ?_⟩
  · rw [five k (by omega) (by omega) (by omega) (by omega) (by omega), ← hμ0]
    rcases hk with rfl | rfl | rfl
    · rw [hn_up_ne (by decide), hn_up_ne (by decide)]
      exact ⟨hn_up_at, fun i hi => hn_up_off hi⟩
    · rw [hn_up_ne (by decide)]
      exact ⟨hn_up_at, fun i hi => by rw [hn_up_off hi, hn_up_ne (by decide)]⟩
    · exact ⟨hn_up_at, fun i hi => by rw [hn_up_off hi, hn_up_ne (by decide), hn_up_ne (by decide)]⟩
  · exact cmp_c (z 77 (by decide) (by decide) (by decide)).symm (by rw [t2 77 (by decide), s2 77 (by decide), r2 77 (by decide), q2 77 (by decide)]) p3
  · exact cmp_c (by rw [p2 79 (by decide), z 79 (by decide) (by decide) (by decide)]) (by rw [t2 79 (by decide), s2 79 (by decide), r2 79 (by decide)]) q3
  · exact cmp_c (by rw [q2 81 (by decide), p2 81 (by decide), z 81 (by decide) (by decide) (by decide)]) (by rw [t2 81 (by decide), s2 81 (by decide)]) r3
  · exact cmp_c (by rw [r2 82 (by decide), q2 82 (by decide), p2 82 (by decide), z 82 (by decide) (by decide) (by decide)]) (by rw [t2 82 (by decide)]) s3
  · exact cmp_c (by rw [s2 83 (by decide), r2 83 (by decide), q2 83 (by decide), p2 83 (by decide), z 83 (by decide) (by decide) (by decide)]) rfl t3
theorem cm_rep (hF : 12000 ≤ F) {a b : Nat} (hab : (a = 0 ∧ (b = 1 ∨ b = 2)) ∨ (b = 0 ∧ (a = 1 ∨ a = 2))) (hr : repM μ a V) (hn : vN V ≤ 12 ∧ vP V ≤ 20 ∧ vK V ≤ 30) : ∃ ν, fX8_copy F (nI a) (nI b) μ = some ν ∧ (∀ k, (k < 76 ∨ 83 < k) → ν k = μ k) ∧ repM ν b V ∧ ∀ (m : Nat) (W : hn_Vw), m ≠ b → vN W ≤ 12 → vP W ≤ 20 → vK W ≤ 30 → repM μ m W → repM ν m W := by
  obtain ⟨ν, h1, h2, h3, c77, c79, c81, c82, c83⟩ := cm_all hF hab μ
  obtain ⟨⟨m0, m1, m2⟩, mS, mQ, mY, mE, mT⟩ := hr
  refine ⟨ν, h1, h2, ⟨⟨by rw [(h3 76 (by omega)).1]; exact m0, by rw [(h3 78 (by omega)).1]; exact m1, by rw [(h3 80 (by omega)).1]; exact m2⟩, fun s hs => ?_, fun q hq => ?_, fun j hj => ?_, fun x hx => ?_, fun x hx => ?_⟩, fun m W hm w1 w2 w3 hW => ?_⟩
  · have g0 : ν 77 (36 * b + 3 * s) = μ 77 (36 * a + 3 * s) := c77.1 (3 * s) (by omega)
    have g1 : ν 77 (36 * b + 3 * s + 1) = μ 77 (36 * a + 3 * s + 1) := c77.1 (3 * s + 1) (by omega)
    have g2 : ν 77 (36 * b + 3 * s + 2) = μ 77 (36 * a + 3 * s + 2) := c77.1 (3 * s + 2) (by omega)
    rw [g0, g1, g2]; exact mS s hs
  · have g0 : ν 79 (40 * b + 2 * q) = μ 79 (40 * a + 2 * q) := c79.1 (2 * q) (by omega)
    have g1 : ν 79 (40 * b + 2 * q + 1) = μ 79 (40 * a + 2 * q + 1) := c79.1 (2 * q + 1) (by omega)
    rw [g0, g1]; exact mQ q hq
  · have g0 : ν 81 (180 * b + 6 * j) = μ 81 (180 * a + 6 * j) := c81.1 (6 * j) (by omega)
    have g1 : ν 81 (180 * b + 6 * j + 1) = μ 81 (180 * a + 6 * j + 1) := c81.1 (6 * j + 1) (by omega)
    have g2 : ν 81 (180 * b + 6 * j + 2) = μ 81 (180 * a + 6 * j + 2) := c81.1 (6 * j + 2) (by omega)
    have g3 : ν 81 (180 * b + 6 * j + 3) = μ 81 (180 * a + 6 * j + 3) := c81.1 (6 * j + 3) (by omega)
    have g4 : ν 81 (180 * b + 6 * j + 4) = μ 81 (180 * a + 6 * j + 4) := c81.1 (6 * j + 4) (by omega)
    have g5 : ν 81 (180 * b + 6 * j + 5) = μ 81 (180 * a + 6 * j + 5) := c81.1 (6 * j + 5) (by omega)
    rw [g0, g1, g2, g3, g4, g5]; exact mY j hj
  · have g0 : ν 82 (20 * b + 2 * x) = μ 82 (20 * a + 2 * x) := c82.1 (2 * x) (by omega)
    have g1 : ν 82 (20 * b + 2 * x + 1) = μ 82 (20 * a + 2 * x + 1) := c82.1 (2 * x + 1) (by omega)
    rw [g0, g1]; exact mE x hx
  · rw [c83.1 x hx]; exact mT x hx
  · obtain ⟨⟨n0, n1, n2⟩, nS, nQ, nY, nE, nT⟩ := hW
    refine ⟨⟨by rw [(h3 76 (by omega)).2 m hm]; exact n0, by rw [(h3 78 (by omega)).2 m hm]; exact n1, by rw [(h3 80 (by omega)).2 m hm]; exact n2⟩, fun s hs => ?_, fun q hq => ?_, fun j hj => ?_, fun x hx => ?_, fun x hx => ?_⟩
    · rw [c77.2 (36 * m + 3 * s) (by omega), c77.2 (36 * m + 3 * s + 1) (by omega), c77.2 (36 * m + 3 * s + 2) (by omega)]; exact nS s hs
    · rw [c79.2 (40 * m + 2 * q) (by omega), c79.2 (40 * m + 2 * q + 1) (by omega)]; exact nQ q hq
    · rw [c81.2 (180 * m + 6 * j) (by omega), c81.2 (180 * m + 6 * j + 1) (by omega), c81.2 (180 * m + 6 * j + 2) (by omega), c81.2 (180 * m + 6 * j + 3) (by omega), c81.2 (180 * m + 6 * j + 4) (by omega), c81.2 (180 * m + 6 * j + 5) (by omega)]; exact nY j hj
    · rw [c82.2 (20 * m + 2 * x) (by omega), c82.2 (20 * m + 2 * x + 1) (by omega)]; exact nE x hx
    · rw [c83.2 (10 * m + x) (by omega)]; exact nT x hx
/-- what keep and back touch -/
theorem hn_Ba_k {V' : hn_Vw} (h : ∀ k, k ≠ 0 → ¬ (6 ≤ k ∧ k ≤ 45) → k ≠ 72 → ¬ (76 ≤ k ∧ k ≤ 83) → ν k = μ k) (h0 : ∀ i, i ≠ 9 → i ≠ 12 → ν 0 i = μ 0 i) (h72 : ∀ i, i ≠ 11 → ν 72 i = μ 72 i) (hv : iV ν V' D) (hk : iK ν V' D) (i : hn_Ba μ V D S o) : hn_Ba ν V' D S o := by
  obtain ⟨i1, i2, i3, i4, i5, i6, i7⟩ := i
  have fk : ∀ k, ((1 ≤ k ∧ k ≤ 5) ∨ (46 ≤ k ∧ k ≤ 71) ∨ (73 ≤ k ∧ k ≤ 75) ∨ (84 ≤ k ∧ k ≤ 92)) → ν k = μ k := fun k hk => h k (by omega) (by omega) (by omega) (by omega)
  exact ⟨iP_c (fun k hk => fk k (by omega)) i1, hv, hk, iF_c ⟨h0 10 (by decide) (by decide), h0 11 (by decide) (by decide)⟩ ⟨h72 12 (by decide), h72 13 (by decide)⟩ i4, iT_c ⟨fk 54 (by omega), fk 55 (by omega), fk 84 (by omega)⟩ (h72 14 (by decide)) i5, iI_c ⟨h0 7 (by decide) (by decide), h0 8 (by decide) (by decide)⟩ (fun k hk => fk k (by omega)) i6, iW_c ⟨fk 57 (by omega), fk 87 (by omega)⟩ i7⟩
theorem c_keep (hF : 12000 ≤ F) : hn_cM (fun μ => fX7_keep μ) (fun μ => fX8_keep F μ) := by
  intro μ ⟨V, D, S, o, hB, hS⟩
  obtain ⟨k, W, j1, j2, j3, j4⟩ := hB.2.2.1
  have hv := hB.2.1
  show ∃ r μ1 μ2, fX7_keep μ = some (r, μ1) ∧ fX8_keep F μ1 = some (r, μ2) ∧ _
  by_cases hk : k = 2
  · subst hk
    refine ⟨-3, μ, μ, ?_, ?_, V, D, S, o, hB, hS⟩
    · unfold fX7_keep
      rw [j2, if_neg (by decide)]
    · unfold fX8_keep
      rw [j3, if_pos (by decide)]
  have hk2 : k < 2 := by omega
  obtain ⟨μ1, a1, a2, a3⟩ := cp_rep (t := 20 + 13 * k) (o := 6) (by omega) hv.1 hv.2.2.1
  have m9 : μ1 0 9 = nI k := by rw [a2 0 (by omega)]; exact j2
  have c7 : fX7_keep μ = some (nI (k + 1), hn_up μ1 0 9 (nI (k + 1))) := by
    have key : fX7_keep μ = (fX1_copyFrom (20 + 13 * k) 6 μ).bind fun μ1 => hn_pf μ1 0 9 ((μ1 0 9) + 1) fun μ2 => some (μ2 0 9, μ2) := by
      unfold fX7_keep
      rw [j2]
      have : k = 0 ∨ k = 1 := by omega
      rcases this with rfl | rfl
      · exact Eq.trans (if_pos (show nI 0 < 2 by decide)) (Eq.trans (if_pos (show nI 0 = 0 by decide)) rfl)
      · exact Eq.trans (if_pos (show nI 1 < 2 by decide)) (Eq.trans (if_neg (show ¬ nI 1 = 0 by decide)) (Eq.trans (if_pos (show nI 1 = 1 by decide)) rfl))
    rw [key, a1, Option.bind_some, hn_pf_q, m9, nI_1, hn_up_at]
  generalize hμ2 : hn_up μ1 0 9 (nI (k + 1)) = μ2 at c7
  have f2 : ∀ x, x ≠ 0 → μ2 x = μ1 x := fun x hx => by rw [← hμ2, hn_up_ne hx]
  have f2a : ∀ x, x ≠ 0 → (x < 20 + 13 * k ∨ 20 + 13 * k + 12 < x) → μ2 x = μ x := fun x hx hy => by rw [f2 x hx, a2 x hy]
  obtain ⟨μ3, b1, b2, b3, b4⟩ := cm_rep (F := F) (a := 0) (b := 1 + k) (μ := μ2) (V := V) hF (by omega) (rm_cong (fun x h1 h2 => f2a x (by omega) (by omega)) hv.2.1) hv.2.2.1
  have m11 : μ3 72 11 = nI k := by rw [b2 72 (by omega), f2a 72 (by omega) (by omega)]; exact j3
  have c8 : fX8_keep F μ2 = some (nI (k + 1), hn_up μ3 72 11 (nI (k + 1))) := by
    unfold fX8_keep
    rw [f2a 72 (by omega) (by omega), j3, if_neg (show ¬ nI k = 2 by rw [show (2 : Int32) = nI 2 from rfl, nI_eq (by omega) (by decide)]; omega), show (1 : Int32) + nI k = nI (1 + k) from nI_add 1 k, show fX8_copy F 0 (nI (1 + k)) μ2 = some μ3 from b1, Option.bind_some, hn_pf_q, m11, nI_1, hn_up_at]
  have fx : ∀ x, x ≠ 72 → (x < 76 ∨ 83 < x) → hn_up μ3 72 11 (nI (k + 1)) x = μ2 x := fun x h1 h2 => by rw [hn_up_ne h1, b2 x h2]
  have f0 : ∀ i, i ≠ 9 → μ2 0 i = μ 0 i := fun i hi => by rw [← hμ2, hn_up_off hi, a2 0 (by omega)]
  have fy : ∀ x, x ≠ 0 → ¬ (20 ≤ x ∧ x ≤ 45) → x ≠ 72 → ¬ (76 ≤ x ∧ x ≤ 83) → hn_up μ3 72 11 (nI (k + 1)) x = μ x := fun x h0 h1 h2 h3 => by rw [fx x h2 (by omega), f2a x h0 (by omega)]
  refine ⟨nI (k + 1), μ2, _, c7, c8, V, D, S, o, hn_Ba_k (fun x h0 h1 h2 h3 => fy x h0 (by omega) h2 h3) (fun i h9 _ => by rw [fx 0 (by decide) (by omega)]; exact f0 i h9) (fun i hi => by rw [hn_up_off hi, b2 72 (by omega), f2a 72 (by omega) (by omega)]) ⟨?_, ?_, hv.2.2⟩ ⟨k + 1, fun i => if i = k then V else W i, by omega, ?_, hn_up_at, fun i hi => ?_⟩ hB, ?_⟩
  · exact rc_cong (fun x h1 h2 => fy x (by omega) (by omega) (by omega) (by omega)) hv.1
  · exact rm_cong (μ := hn_up μ3 72 11 (nI (k + 1))) (fun x h1 h2 => hn_up_ne (by omega)) (b4 0 V (by omega) hv.2.2.1.1 hv.2.2.1.2.1 hv.2.2.1.2.2 (rm_cong (fun x h1 h2 => f2a x (by omega) (by omega)) hv.2.1))
  · rw [fx 0 (by decide) (by omega), ← hμ2, hn_up_at]
  · by_cases hi2 : i = k
    · show repC _ (20 + 13 * i) (if i = k then V else W i) ∧ repM _ (1 + i) (if i = k then V else W i) ∧ okV (if i = k then V else W i) D ∧ vN (if i = k then V else W i) ≤ vN V ∧ ∀ j, j ≤ i → vN (if j = k then V else W j) ≤ vN (if i = k then V else W i)
      rw [if_pos hi2, hi2]
      refine ⟨rc_cong (fun x h1 h2 => by rw [fx x (by omega) (by omega), f2 x (by omega)]) a3, rm_cong (fun x h1 h2 => hn_up_ne (by omega)) b3, hv.2.2, Nat.le_refl _, fun j hj => ?_⟩
      by_cases hj2 : j = k
      · rw [if_pos hj2]; exact Nat.le_refl _
      · rw [if_neg hj2]; exact (j4 j (by omega)).2.2.2.1
    · have g := j4 i (by omega)
      show repC _ (20 + 13 * i) (if i = k then V else W i) ∧ repM _ (1 + i) (if i = k then V else W i) ∧ okV (if i = k then V else W i) D ∧ vN (if i = k then V else W i) ≤ vN V ∧ ∀ j, j ≤ i → vN (if j = k then V else W j) ≤ vN (if i = k then V else W i)
      rw [if_neg hi2]
      refine ⟨rc_cong (fun x h1 h2 => by rw [fx x (by omega) (by omega), f2a x (by omega) (by omega)]) g.1, rm_cong (fun x h1 h2 => hn_up_ne (by omega)) (b4 (1 + i) (W i) (by omega) g.2.2.1.1.1 g.2.2.1.1.2.1 g.2.2.1.1.2.2 (rm_cong (fun x h1 h2 => f2a x (by omega) (by omega)) g.2.1)), g.2.2.1, g.2.2.2.1, fun j hj => ?_⟩
      rw [if_neg (show ¬ j = k by omega)]
      exact g.2.2.2.2 j hj
  · exact iS_c (by rw [fx 0 (by decide) (by omega)]; exact f0 12 (by decide)) ⟨by rw [fy 46 (by omega) (by omega) (by omega) (by omega)], fy 47 (by omega) (by omega) (by omega) (by omega), fy 48 (by omega) (by omega) (by omega) (by omega), fy 51 (by omega) (by omega) (by omega) (by omega), fy 52 (by omega) (by omega) (by omega) (by omega), fy 53 (by omega) (by omega) (by omega) (by omega)⟩ hS
theorem c_back (hF : 12000 ≤ F) : hn_cM (fun μ => fX7_back μ) (fun μ => fX8_back F μ) := by
  intro μ ⟨V, D, S, o, hB, hS⟩
  obtain ⟨k, W, j1, j2, j3, j4⟩ := hB.2.2.1
  show ∃ r μ1 μ2, fX7_back μ = some (r, μ1) ∧ fX8_back F μ1 = some (r, μ2) ∧ _
  by_cases hk : k = 0
  · subst hk
    refine ⟨-2, μ, μ, ?_, ?_, V, D, S, o, hB, hS⟩
    · unfold fX7_back
      rw [j2, if_neg (by decide)]
    · unfold fX8_back
      rw [j3, if_pos (by decide)]
  obtain ⟨k, rfl⟩ : ∃ k', k = k' + 1 := ⟨k - 1, by omega⟩
  have hw := j4 k (by omega)
  obtain ⟨μ1, a1, a2, a3⟩ := cp_rep (μ := hn_up μ 0 9 (nI k)) (t := 6) (o := 20 + 13 * k) (by omega) (rc_cong (fun x h1 h2 => hn_up_ne (by omega)) hw.1) hw.2.2.1.1
  have m9 : hn_up μ1 0 12 0 0 9 = nI k := by rw [hn_up_off (by decide), a2 0 (by omega), hn_up_at]
  have c7 : fX7_back μ = some (nI k, hn_up μ1 0 12 0) := by
    have key : fX7_back μ = (fX1_copyFrom 6 (20 + 13 * k) (hn_up μ 0 9 (nI k))).bind fun μ2 => hn_pf μ2 0 12 0 fun μ3 => some (μ3 0 9, μ3) := by
      unfold fX7_back
      rw [j2, if_pos (show (1 : Int32) ≤ nI (k + 1) by rw [show (1 : Int32) = nI 1 from rfl, hn_leN (by decide) (by omega)]; omega), hn_pf_q, nI_pred, hn_up_at]
      have : k = 0 ∨ k = 1 := by omega
      rcases this with rfl | rfl
      · exact Eq.trans (if_pos (show nI 0 = 0 by decide)) rfl
      · exact Eq.trans (if_neg (show ¬ nI 1 = 0 by decide)) (Eq.trans (if_pos (show nI 1 = 1 by decide)) rfl)
    rw [key, a1, Option.bind_some, hn_pf_q, m9]
  generalize hμ2 : hn_up μ1 0 12 0 = μ2 at c7 m9
  have f2 : ∀ x, x ≠ 0 → μ2 x = μ1 x := fun x hx => by rw [← hμ2, hn_up_ne hx]
  have f2a : ∀ x, x ≠ 0 → (x < 6 ∨ 18 < x) → μ2 x = μ x := fun x hx hy => by rw [f2 x hx, a2 x (by omega), hn_up_ne hx]
  have fm : ∀ x, 76 ≤ x → x ≤ 83 → hn_up μ2 72 11 (nI k) x = μ x := fun x h1 h2 => by rw [hn_up_ne (by omega), f2a x (by omega) (by omega)]
  obtain ⟨μ3, b1, b2, b3, b4⟩ := cm_rep (F := F) (a := 1 + k) (b := 0) (μ := hn_up μ2 72 11 (nI k)) (V := W k) hF (by omega) (rm_cong fm hw.2.1) hw.2.2.1.1
  have m11 : μ3 72 11 = nI k := by rw [b2 72 (by omega), hn_up_at]
  have c8 : fX8_back F μ2 = some (nI k, μ3) := by
    unfold fX8_back
    rw [f2a 72 (by omega) (by omega), j3, if_neg (show ¬ nI (k + 1) = 0 from nI_ne0 (by omega) (by omega)), hn_pf_q, nI_pred, hn_up_at, show (1 : Int32) + nI k = nI (1 + k) from nI_add 1 k, show fX8_copy F (nI (1 + k)) 0 (hn_up μ2 72 11 (nI k)) = some μ3 from b1, Option.bind_some, m11]
  have fx : ∀ x, x ≠ 72 → (x < 76 ∨ 83 < x) → μ3 x = μ2 x := fun x h1 h2 => by rw [b2 x h2, hn_up_ne h1]
  have f0 : ∀ i, i ≠ 9 → i ≠ 12 → μ2 0 i = μ 0 i := fun i hi hj => by rw [← hμ2, hn_up_off hj, a2 0 (by omega), hn_up_off hi]
  refine ⟨nI k, μ2, μ3, c7, c8, W k, D, S, o, hn_Ba_k (fun x h0 h1 h2 h3 => by rw [fx x h2 (by omega), f2a x h0 (by omega)]) (fun i h9 h12 => by rw [fx 0 (by decide) (by omega)]; exact f0 i h9 h12) (fun i hi => by rw [b2 72 (by omega), hn_up_off hi, f2a 72 (by omega) (by omega)]) ⟨?_, b3, hw.2.2.1⟩ ⟨k, W, by omega, ?_, m11, fun i hi => ?_⟩ hB, Or.inl ?_⟩
  · exact rc_cong (fun x h1 h2 => by rw [fx x (by omega) (by omega), f2 x (by omega)]) a3
  · rw [fx 0 (by decide) (by omega)]; exact m9
  · have g := j4 i (by omega)
    refine ⟨rc_cong (fun x h1 h2 => by rw [fx x (by omega) (by omega), f2a x (by omega) (by omega)]) g.1, b4 (1 + i) (W i) (by omega) g.2.2.1.1.1 g.2.2.1.1.2.1 g.2.2.1.1.2.2 (rm_cong fm g.2.1), g.2.2.1, hw.2.2.2.2 i (by omega), g.2.2.2.2⟩
  · rw [fx 0 (by decide) (by omega), ← hμ2, hn_up_at]
end ke
