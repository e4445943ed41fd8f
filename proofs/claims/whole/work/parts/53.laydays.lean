/-! the model's layDays: the same first and last days -/
theorem hn_ix2 (q : Nat) : (2 : Int32) * nI q = nI (2 * q) := by rw [show (2 : Int32) = nI 2 from rfl, pk_mul]
theorem hn_ix3 (q : Nat) : (3 : Int32) * nI q = nI (3 * q) := by rw [show (3 : Int32) = nI 3 from rfl, pk_mul]
theorem hn_ix4 (q : Nat) : (4 : Int32) * nI q = nI (4 * q) := by rw [show (4 : Int32) = nI 4 from rfl, pk_mul]
theorem hn_ix5 (q : Nat) : (5 : Int32) * nI q = nI (5 * q) := by rw [show (5 : Int32) = nI 5 from rfl, pk_mul]
theorem hn_ix6m (q : Nat) : (6 : Int32) * nI q = nI (6 * q) := by rw [show (6 : Int32) = nI 6 from rfl, pk_mul]
theorem hn_ix6r (q : Nat) : nI q * 6 = nI (6 * q) := by rw [show (6 : Int32) = nI 6 from rfl, pk_mul, Nat.mul_comm]
theorem hn_ix4r (q : Nat) : nI q * 4 = nI (4 * q) := by rw [show (4 : Int32) = nI 4 from rfl, pk_mul, Nat.mul_comm]
theorem hn_p1 (q : Nat) : nI q + 1 = nI (q + 1) := nI_1 q
theorem hn_p2 (q : Nat) : nI q + 2 = nI (q + 2) := by rw [show (2 : Int32) = nI 2 from rfl, nI_add]
theorem hn_p3 (q : Nat) : nI q + 3 = nI (q + 3) := by rw [show (3 : Int32) = nI 3 from rfl, nI_add]
theorem hn_p4 (q : Nat) : nI q + 4 = nI (q + 4) := by rw [show (4 : Int32) = nI 4 from rfl, nI_add]
theorem hn_p5 (q : Nat) : nI q + 5 = nI (q + 5) := by rw [show (5 : Int32) = nI 5 from rfl, nI_add]
theorem hn_rd_0 {α : Type} {μ : hn_M} {k n : Nat} {K : Int32 → Option α} (h : 0 < n) (hn : n < 2 ^ 31) : hn_rd μ k n 0 K = K (μ k 0) := by
  rw [show (0 : Int32) = nI 0 from rfl]; exact hn_rd_at h hn
section rm
variable {V : hn_Vw} {μ : hn_M}
theorem rm_n (h : repM μ 0 V) : μ 76 0 = nI (vN V) := h.1.1
theorem rm_p (h : repM μ 0 V) : μ 78 0 = nI (vP V) := h.1.2.1
theorem rm_k (h : repM μ 0 V) : μ 80 0 = nI (vK V) := h.1.2.2
theorem rm_s (h : repM μ 0 V) {s : Nat} (hs : s < vN V) : μ 77 (3 * s) = nI (vS V s).1 ∧ μ 77 (3 * s + 1) = nI (vS V s).2.1 ∧ (μ 77 (3 * s + 2)).toInt = (vS V s).2.2 := by
  have := h.2.1 s hs
  simpa only [Nat.mul_zero, Nat.zero_add] using this
theorem rm_q (h : repM μ 0 V) {q : Nat} (hq : q < vP V) : μ 79 (2 * q) = nI (vQ V q).1 ∧ μ 79 (2 * q + 1) = nI (vQ V q).2 := by
  have := h.2.2.1 q hq
  simpa only [Nat.mul_zero, Nat.zero_add] using this
theorem rm_y (h : repM μ 0 V) {j : Nat} (hj : j < vK V) : μ 81 (6 * j) = nI (vY V j).1 ∧ μ 81 (6 * j + 1) = nI (vY V j).2.1 ∧ μ 81 (6 * j + 2) = nI (vY V j).2.2.1 ∧ μ 81 (6 * j + 3) = nI (vY V j).2.2.2.1 ∧ μ 81 (6 * j + 4) = hn_b01 (vY V j).2.2.2.2.1 ∧ μ 81 (6 * j + 5) = hn_b01 (vY V j).2.2.2.2.2 := by
  have := h.2.2.2.1 j hj
  simpa only [Nat.mul_zero, Nat.zero_add] using this
theorem rm_e (h : repM μ 0 V) {t : Nat} (ht : t < 10) : (vE V t = none ∧ μ 82 (2 * t) = -1) ∨ ∃ a d, vE V t = some (a, d) ∧ μ 82 (2 * t) = nI a ∧ μ 82 (2 * t + 1) = nI d := by
  have := h.2.2.2.2.1 t ht
  simpa only [Nat.mul_zero, Nat.zero_add] using this
theorem rm_t (h : repM μ 0 V) {t : Nat} (ht : t < 10) : (μ 83 t).toInt = vT V t := by
  have := h.2.2.2.2.2 t ht
  simpa only [Nat.mul_zero, Nat.zero_add] using this
/-- only rows 76 to 83 count -/
theorem rm_cong {O : hn_M} {m : Nat} (hk : ∀ k, 76 ≤ k → k ≤ 83 → μ k = O k) (h : repM O m V) : repM μ m V := by
  unfold repM
  rw [hk 76 (by decide) (by decide), hk 77 (by decide) (by decide), hk 78 (by decide) (by decide), hk 79 (by decide) (by decide), hk 80 (by decide) (by decide), hk 81 (by decide) (by decide), hk 82 (by decide) (by decide), hk 83 (by decide) (by decide)]
  exact h
theorem rc_cong {O : hn_M} {c : Nat} (hk : ∀ k, c ≤ k → k ≤ c + 12 → μ k = O k) (h : repC O c V) : repC μ c V := by
  unfold repC
  rw [hk c (by omega) (by omega), hk (c + 1) (by omega) (by omega), hk (c + 2) (by omega) (by omega), hk (c + 3) (by omega) (by omega), hk (c + 4) (by omega) (by omega), hk (c + 5) (by omega) (by omega), hk (c + 6) (by omega) (by omega), hk (c + 7) (by omega) (by omega), hk (c + 8) (by omega) (by omega), hk (c + 9) (by omega) (by omega), hk (c + 10) (by omega) (by omega), hk (c + 11) (by omega) (by omega), hk (c + 12) (by omega) (by omega)]
  exact h
end rm
/-- the ways in the model's row 75 -/
abbrev hn_W (μ : hn_M) (D : Nat → Nat → Int) : Prop := ∀ a b, a < 6 → b < 6 → (μ 75 (6 * a + b)).toInt = fw_enc (D a b)
section ld
variable {V : hn_Vw} {D : Nat → Nat → Int} {O μ : hn_M} {F : Nat} {f l : Nat → Int} {B : Int} {l1 l2 : Int32} {ex : List (Nat × Nat × Int)}
theorem ld_way (hV : okV V D) (hM : repM μ 0 V) {s o : Nat} (hs : s < vN V) (ho : o < vN V) : fX8_wayOf μ (nI s) (nI o) = some (μ 75 (6 * (vS V s).1 + (vS V o).1)) := by
  have hn := hV.1
  have a1 := rm_s hM hs
  have a2 := rm_s hM ho
  have o1 := hV.2.1 _ hs
  have o2 := hV.2.1 _ ho
  unfold fX8_wayOf
  simp (disch := omega) only [hn_rd_at, hn_ix3, hn_ix6m, nI_add, a1.1, a2.1]
def ld_z (f l : Nat → Int) : Nat → Int
  | 0 => 0
  | n + 1 => ld_z f l n + (l n - f n)
theorem ld_z_le {f l f' l' : Nat → Int} {n : Nat} (h : ∀ s, s < n → f s ≤ f' s ∧ l' s ≤ l s) : ld_z f' l' n ≤ ld_z f l n := by
  induction n with
  | zero => exact Int.le_refl _
  | succ n ih =>
    have := ih (fun s hs => h s (by omega))
    have := h n (by omega)
    simp only [ld_z]; omega
theorem ld_z_lt {f l f' l' : Nat → Int} {n : Nat} (h : ∀ s, s < n → f s ≤ f' s ∧ l' s ≤ l s) (hx : ∃ s, s < n ∧ (f s < f' s ∨ l' s < l s)) : ld_z f' l' n < ld_z f l n := by
  induction n with
  | zero => obtain ⟨s, hs, _⟩ := hx; omega
  | succ n ih =>
    obtain ⟨s, hs, h1⟩ := hx
    have h2 := h n (by omega)
    simp only [ld_z]
    by_cases hsn : s = n
    · subst hsn
      have := ld_z_le (n := s) (fun t ht => h t (by omega))
      omega
    · have := ih (fun s hs => h s (by omega)) ⟨s, by omega, h1⟩
      omega
theorem ld_z_nn {f l : Nat → Int} {n : Nat} (h : ∀ s, s < n → f s ≤ l s) : 0 ≤ ld_z f l n := by
  induction n with
  | zero => exact Int.le_refl _
  | succ n ih =>
    have := ih (fun s hs => h s (by omega))
    have := h n (by omega)
    simp only [ld_z]; omega
theorem ld_z_ub {f l : Nat → Int} {n : Nat} (h : ∀ s, s < n → l s - f s ≤ 999) : ld_z f l n ≤ 999 * n := by
  induction n with
  | zero => exact Int.le_refl _
  | succ n ih =>
    have := ih (fun s hs => h s (by omega))
    have := h n (by omega)
    simp only [ld_z]; omega
def ld_at (V : hn_Vw) (μ : hn_M) (f l : Nat → Int) (B : Int) : Prop := ∀ s, s < vN V → (μ 89 s).toInt = f s ∧ (μ 90 s).toInt = l s ∧ 0 ≤ f s ∧ f s ≤ B ∧ -B ≤ l s ∧ l s ≤ 999
def ld_fr (O μ : hn_M) : Prop := (∀ k, k ≠ 72 → k ≠ 89 → k ≠ 90 → μ k = O k) ∧ ∀ i, i ≠ 22 → μ 72 i = O 72 i
theorem ld_fr1 (h : ld_fr O μ) {k i : Nat} {x : Int32} (hk : k = 89 ∨ k = 90) : ld_fr O (hn_up μ k i x) :=
  ⟨fun j a b c => by rw [hn_up_ne (by omega)]; exact h.1 j a b c, fun j hj => by rw [hn_up_ne (by omega)]; exact h.2 j hj⟩
theorem ld_fr2 (h : ld_fr O μ) {x : Int32} : ld_fr O (hn_up μ 72 22 x) :=
  ⟨fun j a b c => by rw [hn_up_ne (by omega)]; exact h.1 j a b c, fun j hj => by rw [hn_up_off hj]; exact h.2 j hj⟩
/-- what a push does to days -/
def ld_st (V : hn_Vw) (O : hn_M) (a e : Nat) (g : Int) (μ : hn_M) (f l : Nat → Int) (B : Int) (μ' : hn_M) (f' l' : Nat → Int) : Prop :=
  ld_fr O μ' ∧ ld_at V μ' f' l' (B + 4000) ∧ (∀ s, s < vN V → f s ≤ f' s ∧ l' s ≤ l s) ∧
  ((μ' 72 22 = μ 72 22 ∧ (∀ s, s < vN V → f' s = f s ∧ l' s = l s) ∧ f e + g ≤ f a ∧ l e + g ≤ l a) ∨ (μ' 72 22 = 1 ∧ ∃ s, s < vN V ∧ (f s < f' s ∨ l' s < l s))) ∧
  ∀ m : Nat → Int, m e + g ≤ m a → (∀ s, s < vN V → f s ≤ m s ∧ m s ≤ l s) → ∀ s, s < vN V → f' s ≤ m s ∧ m s ≤ l' s
theorem ld_push (hn : vN V ≤ 12) (hk : ld_fr O μ) (h : ld_at V μ f l B) (hB : 999 ≤ B ∧ B ≤ 1000000) {a e : Nat} (ha : a < vN V) (he : e < vN V) {g : Int32} (hg : 0 ≤ g.toInt ∧ g.toInt ≤ 4000) :
    ∃ μ' f' l', fX8_push (nI a) (nI e) g μ = some μ' ∧ ld_st V O a e g.toInt μ f l B μ' f' l' := by
  have xa := h a ha
  have xe := h e he
  have sf : (μ 89 e + g).toInt = f e + g.toInt := by rw [hn_addI (by omega) (by omega), xe.1]
  -- the second half, from any memory with the same row 90
  have key : ∀ (ν : hn_M) (f1 : Nat → Int), ld_fr O ν → ld_at V ν f1 l (B + 4000) → ∃ μ' l', fX8_push_36 (nI a) (nI e) g ν = some μ' ∧ ld_fr O μ' ∧ ld_at V μ' f1 l' (B + 4000) ∧ (∀ s, s < vN V → l' s ≤ l s) ∧
      ((μ' 72 22 = ν 72 22 ∧ (∀ s, s < vN V → l' s = l s) ∧ l e + g.toInt ≤ l a) ∨ (μ' 72 22 = 1 ∧ ∃ s, s < vN V ∧ l' s < l s)) ∧
      ∀ m : Nat → Int, m e + g.toInt ≤ m a → (∀ s, s < vN V → m s ≤ l s) → ∀ s, s < vN V → m s ≤ l' s := by
    intro ν f1 hk1 h1
    have ya := h1 a ha
    have ye := h1 e he
    have sl : (ν 90 a - g).toInt = l a - g.toInt := by rw [hn_subI (by omega) (by omega), ya.2.1]
    unfold fX8_push_36
    simp (disch := omega) only [hn_rd_at]
    by_cases hc : l e ≤ l a - g.toInt
    · rw [if_pos (by rw [hn_le, sl, ye.2.1]; exact hc)]
      exact ⟨ν, l, rfl, hk1, h1, fun s _ => Int.le_refl _, Or.inl ⟨rfl, fun s _ => rfl, by omega⟩, fun m _ hm => hm⟩
    · rw [if_neg (by rw [hn_le, sl, ye.2.1]; exact hc), hn_wr_at (by omega) (by decide)]
      refine ⟨_, dy_up l e (l a - g.toInt), rfl, ld_fr2 (ld_fr1 hk1 (Or.inr rfl)), fun s hs => ?_, fun s hs => ?_, Or.inr ⟨hn_up_at, e, he, ?_⟩, fun m hm1 hm s hs => ?_⟩
      · have ys := h1 s hs
        rw [hn_up_ne (by decide), hn_up_ne (by decide), hn_up_ne (by decide), hn_upk]
        unfold dy_up
        by_cases hse : s = e
        · rw [if_pos hse, if_pos hse, sl]
          have := xa.2.2.2.2
          exact ⟨ys.1, rfl, ys.2.2.1, ys.2.2.2.1, by omega, by omega⟩
        · rw [if_neg hse, if_neg hse]; exact ys
      · unfold dy_up
        by_cases hse : s = e
        · rw [if_pos hse, hse]; omega
        · rw [if_neg hse]; exact Int.le_refl _
      · unfold dy_up; rw [if_pos rfl]; omega
      · unfold dy_up
        by_cases hse : s = e
        · rw [if_pos hse, hse]; have := hm a ha; omega
        · rw [if_neg hse]; exact hm s hs
  unfold fX8_push
  simp (disch := omega) only [hn_rd_at]
  by_cases hc : f e + g.toInt ≤ f a
  · rw [if_pos (by rw [hn_le, sf, xa.1]; exact hc)]
    obtain ⟨μ', l', e1, e2, e3, e4, e5, e6⟩ := key μ f hk (fun s hs => by have := h s hs; exact ⟨this.1, this.2.1, this.2.2.1, by omega, by omega, this.2.2.2.2.2⟩)
    refine ⟨μ', f, l', e1, e2, e3, fun s hs => ⟨Int.le_refl _, e4 s hs⟩, ?_, fun m hm1 hm s hs => ⟨(hm s hs).1, e6 m hm1 (fun s hs => (hm s hs).2) s hs⟩⟩
    rcases e5 with ⟨a1, a2, a3⟩ | ⟨a1, s, a2, a3⟩
    · exact Or.inl ⟨a1, fun s hs => ⟨rfl, a2 s hs⟩, hc, a3⟩
    · exact Or.inr ⟨a1, s, a2, Or.inr a3⟩
  · rw [if_neg (by rw [hn_le, sf, xa.1]; exact hc), hn_wr_at (by omega) (by decide)]
    have h1 : ld_at V (hn_up (hn_up μ 89 a (μ 89 e + g)) 72 22 1) (dy_up f a (f e + g.toInt)) l (B + 4000) := by
      intro s hs
      have ys := h s hs
      rw [hn_up_ne (show (89 : Nat) ≠ 72 by decide), hn_up_ne (show (90 : Nat) ≠ 72 by decide), hn_up_ne (show (90 : Nat) ≠ 89 by decide), hn_upk]
      unfold dy_up
      by_cases hsa : s = a
      · rw [if_pos hsa, if_pos hsa, sf]
        have := xe.2.2
        exact ⟨rfl, ys.2.1, by omega, by omega, by omega, ys.2.2.2.2.2⟩
      · rw [if_neg hsa, if_neg hsa]
        exact ⟨ys.1, ys.2.1, ys.2.2.1, by omega, by omega, ys.2.2.2.2.2⟩
    obtain ⟨μ', l', e1, e2, e3, e4, e5, e6⟩ := key _ _ (ld_fr2 (ld_fr1 hk (Or.inl rfl))) h1
    have hu : ∀ s, f s ≤ dy_up f a (f e + g.toInt) s := by
      intro s
      unfold dy_up
      by_cases hsa : s = a
      · rw [if_pos hsa, hsa]; omega
      · rw [if_neg hsa]; exact Int.le_refl _
    have ha2 : dy_up f a (f e + g.toInt) a = f e + g.toInt := by unfold dy_up; rw [if_pos rfl]
    refine ⟨μ', dy_up f a (f e + g.toInt), l', e1, e2, e3, fun s hs => ⟨hu s, e4 s hs⟩, Or.inr ⟨?_, a, ha, Or.inl (by rw [ha2]; omega)⟩, fun m hm1 hm s hs => ⟨?_, e6 m hm1 (fun s hs => (hm s hs).2) s hs⟩⟩
    · rcases e5 with ⟨a1, _, _⟩ | ⟨a1, _⟩
      · rw [a1]; exact hn_up_at
      · exact a1
    · unfold dy_up
      by_cases hsa : s = a
      · rw [if_pos hsa, hsa]; have := (hm e he).1; omega
      · rw [if_neg hsa]; exact (hm s hs).1
theorem ld_let (hn : vN V ≤ 12) (hM : μ 76 0 = nI (vN V)) (h : ld_at V μ f l B) (hF : 13 ≤ F) : ∃ v, fX8_isLet F μ = some v ∧ ((v = 1 ∧ ∀ s, s < vN V → f s ≤ l s) ∨ (v = 0 ∧ ∃ s, s < vN V ∧ l s < f s)) := by
  obtain ⟨v, h1, h2⟩ := hn_loopE (fun n j s => fX8_isLet_4 F μ n s (nI j)) (vN V) (fun s => hn_bo s (some s)) (fun j s => (s = 1 ∧ ∀ t, t < j → f t ≤ l t) ∨ (s = 0 ∧ ∃ t, t < vN V ∧ l t < f t))
    (fun n s hi => by
      show fX8_isLet_4 F μ (n + 1) s (nI (vN V)) = _
      rw [fX8_isLet_4, hn_rd_0 (by decide) (by decide), hM, if_pos (by rw [hn_leN (by omega) (by omega)]; exact Nat.le_refl _)])
    (fun n j s hj hi => by
      have xj := h j hj
      show ∃ s', fX8_isLet_4 F μ (n + 1) s (nI j) = _ ∧ _
      rw [fX8_isLet_4, hn_rd_0 (by decide) (by decide), hM, if_neg (by rw [hn_leN (by omega) (by omega)]; omega)]
      rcases hi with ⟨rfl, hi⟩ | ⟨rfl, hi⟩
      · rw [if_neg (by decide), hn_rd_at (by omega) (by decide), hn_rd_at (by omega) (by decide)]
        by_cases hc : l j < f j
        · rw [if_pos (by rw [hn_lt, xj.1, xj.2.1]; exact hc)]
          refine ⟨0, ?_, Or.inr ⟨rfl, j, hj, hc⟩⟩
          unfold fX8_isLet_37 fX8_isLet_38
          rw [nI_1]
        · rw [if_neg (by rw [hn_lt, xj.1, xj.2.1]; exact hc)]
          refine ⟨1, ?_, Or.inl ⟨rfl, fun t ht => ?_⟩⟩
          · unfold fX8_isLet_38
            rw [nI_1]
          · by_cases htj : t = j
            · subst htj; omega
            · exact hi t (by omega)
      · rw [if_pos rfl]
        refine ⟨0, ?_, Or.inr ⟨rfl, hi⟩⟩
        unfold fX8_isLet_37 fX8_isLet_38
        rw [nI_1])
    (vN V) 0 F 1 (by omega) (by omega) (Or.inl ⟨rfl, fun t ht => by omega⟩)
  refine ⟨v, ?_, h2⟩
  have h1 : fX8_isLet_4 F μ F 1 0 = hn_bo v (some v) := h1
  unfold fX8_isLet
  rw [h1]
  unfold hn_bo
  rw [if_pos (h2.elim (fun z => Or.inr z.1) (fun z => Or.inl z.1))]
/-- the same as sp_mode, for the model's numbers -/
theorem ld_e (hV : okV V D) (hD : okD D) (hW : hn_W O D) {q : Nat} (hq : q < vP V) : (O 75 (6 * (vS V (vQ V q).2).1 + (vS V (vQ V q).1).1)).toInt = (sp_e V D q).2.2 ∧ 0 ≤ (sp_e V D q).2.2 ∧ (sp_e V D q).2.2 ≤ 3840 := by
  have oq := hV.2.2.1 q hq
  have o1 := hV.2.1 _ oq.1
  have o2 := hV.2.1 _ oq.2.1
  have b := hD _ _ o2.1 o1.1
  have w := hW _ _ o2.1 o1.1
  unfold fw_enc at w
  rw [if_pos oq.2.2.2] at w
  refine ⟨w, ?_, ?_⟩
  · exact b.1
  · show D _ _ ≤ 3840
    have := oq.2.2.2
    omega
/-- a pass over the pairs and the one more -/
theorem ld_pass (hV : okV V D) (hD : okD D) (hM : repM O 0 V) (hW : hn_W O D) (hm : sp_mode V l1 l2 ex) (hF : 31 ≤ F) (hk : ld_fr O μ) (h0 : μ 72 22 = 0) (h : ld_at V μ f l 999) (k197 : Int32 → Int32 → hn_M → Option (Int32 × hn_M)) :
    ∃ μ' f' l', fX8_layDays_218 F k197 F l1 l2 0 μ = k197 l1 l2 μ' ∧ ld_fr O μ' ∧ ld_at V μ' f' l' 100000 ∧ (∀ s, s < vN V → f s ≤ f' s ∧ l' s ≤ l s) ∧
    ((μ' 72 22 = 0 ∧ (∀ s, s < vN V → f' s = f s ∧ l' s = l s) ∧ ∀ q ∈ sp_E V D ++ ex, f q.2.1 + q.2.2 ≤ f q.1 ∧ l q.2.1 + q.2.2 ≤ l q.1) ∨ (μ' 72 22 = 1 ∧ ∃ s, s < vN V ∧ (f s < f' s ∨ l' s < l s))) ∧
    ∀ m : Nat → Int, (∀ q ∈ sp_E V D ++ ex, m q.2.1 + q.2.2 ≤ m q.1) → (∀ s, s < vN V → f s ≤ m s ∧ m s ≤ l s) → ∀ s, s < vN V → f' s ≤ m s ∧ m s ≤ l' s := by
  have hn := hV.1
  obtain ⟨μ1, h1, h2, f1, l1', h3, h4, h5, h6⟩ := hn_loopE (fun n q s => fX8_layDays_218 F k197 n l1 l2 (nI q) s) (vP V) (fun s => fX8_layDays_278 F k197 l1 l2 s)
    (fun q s => ld_fr O s ∧ ∃ f' l', ld_at V s f' l' (999 + 4000 * q) ∧ (∀ s, s < vN V → f s ≤ f' s ∧ l' s ≤ l s) ∧
      ((s 72 22 = 0 ∧ (∀ s, s < vN V → f' s = f s ∧ l' s = l s) ∧ ∀ i, i < q → f (vQ V i).2 + (sp_e V D i).2.2 ≤ f (vQ V i).1 ∧ l (vQ V i).2 + (sp_e V D i).2.2 ≤ l (vQ V i).1) ∨ (s 72 22 = 1 ∧ ∃ t, t < vN V ∧ (f t < f' t ∨ l' t < l t))) ∧
      ∀ m : Nat → Int, (∀ q ∈ sp_E V D ++ ex, m q.2.1 + q.2.2 ≤ m q.1) → (∀ s, s < vN V → f s ≤ m s ∧ m s ≤ l s) → ∀ s, s < vN V → f' s ≤ m s ∧ m s ≤ l' s)
    (fun n s hi => by
      show fX8_layDays_218 F k197 (n + 1) l1 l2 (nI (vP V)) s = _
      have e78 : s 78 0 = nI (vP V) := by rw [hi.1.1 78 (by decide) (by decide) (by decide)]; exact rm_p hM
      rw [fX8_layDays_218, hn_rd_0 (by decide) (by decide), e78, if_pos (by rw [hn_leN (by omega) (by omega)]; exact Nat.le_refl _)])
    (fun n q s hq hi => by
      obtain ⟨i1, f', l', i2, i3, i4, i5⟩ := hi
      have hMs : repM s 0 V := rm_cong (fun k a b => i1.1 k (by omega) (by omega) (by omega)) hM
      have oq := hV.2.2.1 q hq
      have rq := rm_q hMs hq
      have le := ld_e hV hD hW hq
      have w := ld_way hV hMs oq.2.1 oq.1
      have e75 : s 75 = O 75 := i1.1 75 (by decide) (by decide) (by decide)
      rw [e75] at w
      obtain ⟨μ', f2, l2', p1, p2, p3, p4, p5, p6⟩ := ld_push hn.1 i1 i2 ⟨by omega, by omega⟩ oq.1 oq.2.1 (g := O 75 (6 * (vS V (vQ V q).2).1 + (vS V (vQ V q).1).1)) (by omega)
      refine ⟨μ', ?_, p2, f2, l2', fun s hs => by have := p3 s hs; exact ⟨this.1, this.2.1, this.2.2.1, by omega, by omega, this.2.2.2.2.2⟩, fun s hs => by have a := p4 s hs; have b := i3 s hs; omega, ?_, fun m m1 m2 => p6 m ?_ (i5 m m1 m2)⟩
      · show fX8_layDays_218 F k197 (n + 1) l1 l2 (nI q) s = _
        rw [fX8_layDays_218]
        simp (disch := omega) only [hn_rd_0, hn_rd_at, hn_ix2, hn_p1, rm_p hMs, rq.1, rq.2, w, Option.bind_some, p1]
        rw [if_neg (by rw [hn_leN (by omega) (by omega)]; omega)]
      · rw [le.1] at p5
        rcases p5 with ⟨a1, a2, a3, a4⟩ | ⟨a1, t, a2, a3⟩
        · rcases i4 with ⟨b1, b2, b3⟩ | ⟨b1, t, b2, b3⟩
          · refine Or.inl ⟨by rw [a1, b1], fun s hs => by rw [(a2 s hs).1, (a2 s hs).2]; exact b2 s hs, fun i hi => ?_⟩
            by_cases hiq : i = q
            · subst hiq
              have c1 := b2 _ oq.1
              have c2 := b2 _ oq.2.1
              omega
            · exact b3 i (by omega)
          · exact Or.inr ⟨by rw [a1, b1], t, b2, by rw [(a2 t b2).1, (a2 t b2).2]; exact b3⟩
        · have := i3 t a2
          exact Or.inr ⟨a1, t, a2, by omega⟩
      · rw [le.1]
        exact m1 (sp_e V D q) (List.mem_append.mpr (Or.inl (List.mem_map.mpr ⟨q, List.mem_range.mpr hq, rfl⟩))))
    (vP V) 0 F μ (by omega) (by omega) ⟨hk, f, l, fun s hs => by have := h s hs; exact ⟨this.1, this.2.1, this.2.2.1, by omega, by omega, this.2.2.2.2.2⟩, fun s _ => ⟨Int.le_refl _, Int.le_refl _⟩, Or.inl ⟨h0, fun s _ => ⟨rfl, rfl⟩, fun i hi => by omega⟩, fun m _ hm => hm⟩
  have h1 : fX8_layDays_218 F k197 F l1 l2 0 μ = fX8_layDays_278 F k197 l1 l2 μ1 := h1
  rw [h1]
  have hE : ∀ i, i < vP V → sp_e V D i ∈ sp_E V D := fun i hi => List.mem_map.mpr ⟨i, List.mem_range.mpr hi, rfl⟩
  unfold fX8_layDays_278
  rcases hm with ⟨rfl, rfl⟩ | ⟨a, b, ha, hb, rfl, rfl, rfl⟩
  · rw [if_pos (by decide)]
    refine ⟨μ1, f1, l1', rfl, h2, fun s hs => by have := h3 s hs; exact ⟨this.1, this.2.1, this.2.2.1, by omega, by omega, this.2.2.2.2.2⟩, h4, ?_, h6⟩
    rcases h5 with ⟨a1, a2, a3⟩ | h5
    · refine Or.inl ⟨a1, a2, fun q hq => ?_⟩
      rw [List.append_nil] at hq
      obtain ⟨i, hi, rfl⟩ := List.mem_map.mp hq
      exact a3 i (List.mem_range.mp hi)
    · exact Or.inr h5
  · rw [if_neg (by rw [hn_lt, nI_toInt (by omega)]; show ¬ (a : Int) < 0; omega)]
    obtain ⟨μ', f2, l2', p1, p2, p3, p4, p5, p6⟩ := ld_push hn.1 h2 h3 ⟨by omega, by omega⟩ ha hb (g := 0) (by decide)
    have z0 : (0 : Int32).toInt = 0 := rfl
    rw [z0] at p5 p6
    rw [p1, Option.bind_some]
    refine ⟨μ', f2, l2', rfl, p2, fun s hs => by have := p3 s hs; exact ⟨this.1, this.2.1, this.2.2.1, by omega, by omega, this.2.2.2.2.2⟩, fun s hs => by have a := p4 s hs; have b := h4 s hs; omega, ?_, fun m m1 m2 => p6 m (m1 (a, b, 0) (by simp)) (h6 m m1 m2)⟩
    rcases p5 with ⟨a1, a2, a3, a4⟩ | ⟨a1, t, a2, a3⟩
    · rcases h5 with ⟨b1, b2, b3⟩ | ⟨b1, t, b2, b3⟩
      · refine Or.inl ⟨by rw [a1, b1], fun s hs => by rw [(a2 s hs).1, (a2 s hs).2]; exact b2 s hs, fun q hq => ?_⟩
        rcases List.mem_append.mp hq with hq | hq
        · obtain ⟨i, hi, rfl⟩ := List.mem_map.mp hq
          exact b3 i (List.mem_range.mp hi)
        · rw [List.mem_singleton.mp hq]
          have c1 := b2 a ha
          have c2 := b2 b hb
          show f b + 0 ≤ f a ∧ l b + 0 ≤ l a
          omega
      · exact Or.inr ⟨by rw [a1, b1], t, b2, by rw [(a2 t b2).1, (a2 t b2).2]; exact b3⟩
    · have := h4 t a2
      exact Or.inr ⟨a1, t, a2, by omega⟩
/-- what the model's layDays leaves -/
def ld_res (V : hn_Vw) (D : Nat → Nat → Int) (O : hn_M) (E : List (Nat × Nat × Int)) (v : Int32) (μ' : hn_M) : Prop := ld_fr O μ' ∧ ((v = 1 ∧ ∃ m M, sp_first V D E m ∧ sp_last V D E M ∧ ∀ s, s < vN V → (μ' 89 s).toInt = m s ∧ (μ' 90 s).toInt = M s) ∨ (v = 0 ∧ ¬ ∃ m, sp_sol V D E m))
theorem ld_main (hV : okV V D) (hD : okD D) (hM : repM O 0 V) (hW : hn_W O D) (hm : sp_mode V l1 l2 ex) (hF : 31 ≤ F) : ∀ (t n : Nat) (μ : hn_M) (f l : Nat → Int), t < n → ld_fr O μ → ld_at V μ f l 100000 → (∀ s, s < vN V → sp_lo V D (vK V) s ≤ f s ∧ l s ≤ sp_hi V s) → (∀ m, sp_sol V D (sp_E V D ++ ex) m → ∀ s, s < vN V → f s ≤ m s ∧ m s ≤ l s) →
    ((μ 72 22 = 0 ∧ ∀ q ∈ sp_E V D ++ ex, f q.2.1 + q.2.2 ≤ f q.1 ∧ l q.2.1 + q.2.2 ≤ l q.1) ∨ (μ 72 22 = 1 ∧ ((∀ s, s < vN V → f s ≤ l s) → ld_z f l (vN V) < t))) → ∃ v μ', fX8_layDays_197 F n l1 l2 μ = some (v, μ') ∧ ld_res V D O (sp_E V D ++ ex) v μ' := by
  have hn := hV.1
  intro t
  induction t with
  | zero =>
    intro n μ f l hnn hk h hb hs hc
    obtain ⟨n, rfl⟩ : ∃ n', n = n' + 1 := ⟨n - 1, by omega⟩
    have e76 : μ 76 0 = nI (vN V) := by rw [hk.1 76 (by decide) (by decide) (by decide)]; exact rm_n hM
    obtain ⟨v, v1, v2⟩ := ld_let (F := F) hn.1 e76 h (by omega)
    have e : fX8_layDays_197 F (n + 1) l1 l2 μ = some (v, μ) := by
      have e2 : fX8_layDays_292 F μ = some (v, μ) := by
        unfold fX8_layDays_292 hn_bo
        rw [v1, Option.bind_some, if_pos (v2.elim (fun z => Or.inr z.1) (fun z => Or.inl z.1))]
      rw [fX8_layDays_197]
      rcases hc with ⟨c1, c2⟩ | ⟨c1, c2⟩
      · rw [if_pos c1, e2]
      · rw [if_neg (by rw [c1]; decide), v1, Option.bind_some]
        rcases v2 with ⟨_, v3⟩ | ⟨v3, _⟩
        · have := ld_z_nn v3
          have := c2 v3
          omega
        · rw [if_pos v3, e2]
    refine ⟨v, μ, e, hk, ?_⟩
    rcases v2 with ⟨v3, v4⟩ | ⟨v3, s, v4, v5⟩
    · rcases hc with ⟨c1, c2⟩ | ⟨c1, c2⟩
      · refine Or.inl ⟨v3, f, l, ⟨⟨fun s hs => ?_, fun q hq => (c2 q hq).1⟩, fun d hd s h2 => (hs d hd s h2).1⟩, ⟨⟨fun s hs => ?_, fun q hq => (c2 q hq).2⟩, fun d hd s h2 => (hs d hd s h2).2⟩, fun s hs => ⟨(h s hs).1, (h s hs).2.1⟩⟩
        · have := hb s hs; have := v4 s hs; omega
        · have := hb s hs; have := v4 s hs; omega
      · have := ld_z_nn v4
        have := c2 v4
        omega
    · refine Or.inr ⟨v3, fun ⟨m, hm⟩ => ?_⟩
      have := hs m hm s v4
      omega
  | succ t ih =>
    intro n μ f l hnn hk h hb hs hc
    obtain ⟨n, rfl⟩ : ∃ n', n = n' + 1 := ⟨n - 1, by omega⟩
    have e76 : μ 76 0 = nI (vN V) := by rw [hk.1 76 (by decide) (by decide) (by decide)]; exact rm_n hM
    obtain ⟨v, v1, v2⟩ := ld_let (F := F) hn.1 e76 h (by omega)
    have e2 : fX8_layDays_292 F μ = some (v, μ) := by
      unfold fX8_layDays_292 hn_bo
      rw [v1, Option.bind_some, if_pos (v2.elim (fun z => Or.inr z.1) (fun z => Or.inl z.1))]
    rcases v2 with ⟨v3, v4⟩ | ⟨v3, s, v4, v5⟩
    · rcases hc with ⟨c1, c2⟩ | ⟨c1, c2⟩
      · refine ⟨v, μ, by rw [fX8_layDays_197, if_pos c1, e2], hk, Or.inl ⟨v3, f, l, ⟨⟨fun s hs => ?_, fun q hq => (c2 q hq).1⟩, fun d hd s h2 => (hs d hd s h2).1⟩, ⟨⟨fun s hs => ?_, fun q hq => (c2 q hq).2⟩, fun d hd s h2 => (hs d hd s h2).2⟩, fun s hs => ⟨(h s hs).1, (h s hs).2.1⟩⟩⟩
        · have := hb s hs; have := v4 s hs; omega
        · have := hb s hs; have := v4 s hs; omega
      · rw [fX8_layDays_197, if_neg (by rw [c1]; decide), v1, Option.bind_some, if_neg (by rw [v3]; decide)]
        obtain ⟨μ', f', l', p1, p2, p3, p4, p5, p6⟩ := ld_pass (F := F) (μ := hn_up μ 72 22 0) (f := f) (l := l) hV hD hM hW hm hF (ld_fr2 hk) hn_up_at (fun s hs => by
          have a := h s hs
          have b := v4 s hs
          rw [hn_up_ne (by decide), hn_up_ne (by decide)]
          exact ⟨a.1, a.2.1, a.2.2.1, by omega, by omega, a.2.2.2.2.2⟩) (fX8_layDays_197 F n)
        show ∃ v μ', fX8_layDays_218 F (fX8_layDays_197 F n) F l1 l2 0 (hn_up μ 72 22 0) = _ ∧ _
        rw [p1]
        refine ih n μ' f' l' (by omega) p2 p3 (fun s hs => by have a := hb s hs; have b := p4 s hs; omega) (fun m hm1 => p6 m hm1.2 (hs m hm1)) ?_
        rcases p5 with ⟨a1, a2, a3⟩ | ⟨a1, a2⟩
        · refine Or.inl ⟨a1, fun q hq => ?_⟩
          have b1 := a3 q hq
          have b2 := sp_modein hV hm q hq
          rw [(a2 _ b2.1).1, (a2 _ b2.1).2, (a2 _ b2.2).1, (a2 _ b2.2).2]
          exact b1
        · refine Or.inr ⟨a1, fun _ => ?_⟩
          have b1 := ld_z_lt p4 a2
          have b2 := c2 v4
          omega
    · refine ⟨v, μ, ?_, hk, Or.inr ⟨v3, fun ⟨m, hm⟩ => ?_⟩⟩
      · rw [fX8_layDays_197]
        by_cases c1 : μ 72 22 = 0
        · rw [if_pos c1, e2]
        · rw [if_neg c1, v1, Option.bind_some, if_pos v3, e2]
      · have := hs m hm s v4
        omega
end ld
