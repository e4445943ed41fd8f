/-! the class's spans -/
theorem dy_rq_ge (e : Nat → Nat × Nat × Int) (x : Nat → Int) (q s : Nat) : x s ≤ dy_rq e q x s := by
  induction q with
  | zero => exact Int.le_refl _
  | succ q ih => exact Int.le_trans ih (dy_r1_ge _ _ s)
abbrev sp_sol (V : hn_Vw) (D : Nat → Nat → Int) (E : List (Nat × Nat × Int)) (m : Nat → Int) : Prop := dy_sol (vN V) (sp_lo V D (vK V)) (sp_hi V) E m
def sp_first (V : hn_Vw) (D : Nat → Nat → Int) (E : List (Nat × Nat × Int)) (m : Nat → Int) : Prop := sp_sol V D E m ∧ ∀ d, sp_sol V D E d → ∀ s, s < vN V → m s ≤ d s
def sp_last (V : hn_Vw) (D : Nat → Nat → Int) (E : List (Nat × Nat × Int)) (m : Nat → Int) : Prop := sp_sol V D E m ∧ ∀ d, sp_sol V D E d → ∀ s, s < vN V → d s ≤ m s
section sp
variable {V : hn_Vw} {D : Nat → Nat → Int} {O μ : hn_M} {d F : Nat} {x : Nat → Int} {B : Int}
theorem sp_gap (hV : okV V D) (hD : okD D) (hC : repC O 6 V) (hDO : ∀ a b, a < 6 → b < 6 → pD O a b = D a b) (hk : ∀ k, k = 4 ∨ k = 7 ∨ k = 10 ∨ k = 11 → μ k = O k) {q : Nat} (hq : q < vP V) : ∃ g : Int32, fX3_gap μ (nI q) = some g ∧ g.toInt = (sp_e V D q).2.2 ∧ 0 ≤ g.toInt ∧ g.toInt ≤ 3840 := by
  obtain ⟨⟨c0, c4, c7⟩, cS, cQ, cY, cE, cT⟩ := hC
  have hn := hV.1
  have cq := cQ q hq
  have oq := hV.2.2.1 q hq
  have s1 := cS _ oq.1
  have s2 := cS _ oq.2.1
  have o1 := hV.2.1 _ oq.1
  have o2 := hV.2.1 _ oq.2.1
  have b := hD _ _ o2.1 o1.1
  refine ⟨O 4 (6 * (vS V (vQ V q).2).1 + (vS V (vQ V q).1).1), ?_, hDO _ _ o2.1 o1.1, ?_⟩
  · unfold fX3_gap fX2_days
    rw [hn_rd_at (by omega) (by decide), hk 11 (by decide), cq.2, hn_rd_at (by omega) (by decide), hk 7 (by decide), s2.1, hn_rd_at (by omega) (by decide), hk 10 (by decide), cq.1, hn_rd_at (by omega) (by decide), hk 7 (by decide), s1.1]
    rw [show nI (vS V (vQ V q).2).1 * 6 + nI (vS V (vQ V q).1).1 = nI (6 * (vS V (vQ V q).2).1 + (vS V (vQ V q).1).1) by rw [show (6 : Int32) = nI 6 from rfl, pk_mul, nI_add, Nat.mul_comm], hn_rd_at (by omega) (by decide), hk 4 (by decide)]
    rfl
  · have e : (O 4 (6 * (vS V (vQ V q).2).1 + (vS V (vQ V q).1).1)).toInt = D (vS V (vQ V q).2).1 (vS V (vQ V q).1).1 := hDO _ _ o2.1 o1.1
    rw [e]
    have := oq.2.2.2
    omega
theorem sp_raise (hV : okV V D) (hD : okD D) (hC : repC O 6 V) (hDO : ∀ a b, a < 6 → b < 6 → pD O a b = D a b) (hd : d = 47 ∨ d = 49) (hF : 31 ≤ F) (hk : ∀ k, k ≠ d → μ k = O k) (hB : B ≤ 2000000) (hx : ∀ s, s < vN V → (μ d s).toInt = x s ∧ 0 ≤ x s ∧ x s ≤ B) : ∃ w μ', fX3_raise F d μ = some (w, μ') ∧ (∀ k, k ≠ d → μ' k = O k) ∧ (∀ s, s < vN V → (μ' d s).toInt = dy_rd (sp_E V D) x s ∧ 0 ≤ dy_rd (sp_E V D) x s ∧ dy_rd (sp_E V D) x s ≤ B + 80000) ∧ ((w = 0 ∧ ∀ s, s < vN V → dy_rd (sp_E V D) x s = x s) ∨ (w = 1 ∧ ∃ s, s < vN V ∧ x s < dy_rd (sp_E V D) x s)) := by
  have hC0 := hC
  obtain ⟨⟨c0, c4, c7⟩, cS, cQ, cY, cE, cT⟩ := hC
  have hn := hV.1
  have hE : dy_rd (sp_E V D) x = dy_rq (sp_e V D) (vP V) x := dy_rq_rd _ _ _
  rw [hE]
  obtain ⟨⟨w, μ'⟩, h1, h2⟩ := hn_loopE (fun n q (s : Int32 × hn_M) => fX3_raise_5 F d n s.1 (nI q) s.2) (vP V) (fun s => hn_bo s.1 (some (s.1, s.2))) (fun q s => (∀ k, k ≠ d → s.2 k = O k) ∧ (∀ t, t < vN V → (s.2 d t).toInt = dy_rq (sp_e V D) q x t ∧ 0 ≤ dy_rq (sp_e V D) q x t ∧ dy_rq (sp_e V D) q x t ≤ B + 4000 * q) ∧ ((s.1 = 0 ∧ ∀ t, t < vN V → dy_rq (sp_e V D) q x t = x t) ∨ (s.1 = 1 ∧ ∃ t, t < vN V ∧ x t < dy_rq (sp_e V D) q x t)))
    (fun n s hi => by
      show fX3_raise_5 F d (n + 1) s.1 (nI (vP V)) s.2 = _
      have e6 : s.2 6 = O 6 := hi.1 6 (by omega)
      rw [fX3_raise_5, e6, c4, if_pos (by rw [hn_leN (by omega) (by omega)]; exact Nat.le_refl _)])
    (fun n q s hq hi => by
      obtain ⟨i1, i2, i3⟩ := hi
      have e6 : s.2 6 = O 6 := i1 6 (by omega)
      have e10 : s.2 10 = O 10 := i1 10 (by omega)
      have e11 : s.2 11 = O 11 := i1 11 (by omega)
      obtain ⟨g, g1, g2, g3, g4⟩ := sp_gap (μ := s.2) hV hD hC0 hDO (fun k hk => i1 k (by omega)) hq
      have cq := cQ q hq
      have oq := hV.2.2.1 q hq
      have xe := i2 _ oq.2.1
      have xl := i2 _ oq.1
      have sm : (s.2 d (vQ V q).2 + g).toInt = dy_rq (sp_e V D) q x (vQ V q).2 + (sp_e V D q).2.2 := by rw [hn_addI (by omega) (by omega), xe.1, g2]
      show ∃ s' : Int32 × hn_M, fX3_raise_5 F d (n + 1) s.1 (nI q) s.2 = _ ∧ _
      rw [fX3_raise_5, e6, c4, if_neg (by rw [hn_leN (by omega) (by omega)]; omega), hn_rd_at (by omega) (by decide), e11, cq.2, hn_rd_at (by omega) (by decide), g1, Option.bind_some, hn_rd_at (by omega) (by decide), hn_rd_at (by omega) (by decide), e10, cq.1, hn_rd_at (by omega) (by decide), hn_wr_at (by omega) (by decide)]
      by_cases hlt : dy_rq (sp_e V D) q x (vQ V q).1 < dy_rq (sp_e V D) q x (vQ V q).2 + (sp_e V D q).2.2
      · rw [if_neg (by rw [hn_le, sm, xl.1]; omega)]
        have hr : dy_rq (sp_e V D) (q + 1) x = dy_up (dy_rq (sp_e V D) q x) (vQ V q).1 (dy_rq (sp_e V D) q x (vQ V q).2 + (sp_e V D q).2.2) := by
          show dy_r1 (dy_rq (sp_e V D) q x) (sp_e V D q) = _
          exact if_pos hlt
        refine ⟨(1, hn_up s.2 d (vQ V q).1 (s.2 d (vQ V q).2 + g)), ?_, fun k hk2 => by show hn_up s.2 d (vQ V q).1 (s.2 d (vQ V q).2 + g) k = O k; rw [hn_up_ne hk2]; exact i1 k hk2, fun t ht => ?_, Or.inr ⟨rfl, (vQ V q).1, oq.1, ?_⟩⟩
        · unfold fX3_raise_60
          rw [nI_1]
        · show (hn_up s.2 d (vQ V q).1 (s.2 d (vQ V q).2 + g) d t).toInt = _ ∧ _
          rw [hr, hn_upk]
          unfold dy_up
          by_cases htl : t = (vQ V q).1
          · rw [if_pos htl, if_pos htl, sm]; refine ⟨rfl, by omega, by omega⟩
          · rw [if_neg htl, if_neg htl]; have := i2 t ht; refine ⟨this.1, this.2.1, by omega⟩
        · rw [hr]
          unfold dy_up
          rw [if_pos rfl]
          have := dy_rq_ge (sp_e V D) x q (vQ V q).1
          omega
      · rw [if_pos (by rw [hn_le, sm, xl.1]; omega)]
        have hr : dy_rq (sp_e V D) (q + 1) x = dy_rq (sp_e V D) q x := by
          show dy_r1 (dy_rq (sp_e V D) q x) (sp_e V D q) = _
          exact if_neg hlt
        refine ⟨s, ?_, i1, fun t ht => ?_, ?_⟩
        · unfold fX3_raise_60
          rw [nI_1]
        · rw [hr]; have := i2 t ht; refine ⟨this.1, this.2.1, by omega⟩
        · rw [hr]; exact i3)
    (vP V) 0 F (0, μ) (by omega) (by omega) ⟨hk, fun t ht => by have := hx t ht; exact ⟨this.1, this.2.1, by show x t ≤ _; omega⟩, Or.inl ⟨rfl, fun t _ => rfl⟩⟩
  obtain ⟨i1, i2, i3⟩ := h2
  refine ⟨w, μ', ?_, i1, fun s hs => ?_, i3⟩
  · refine Eq.trans h1 ?_
    show hn_bo w (some (w, μ')) = _
    unfold hn_bo
    rw [if_pos (i3.elim (fun z => Or.inl z.1) (fun z => Or.inr z.1))]
  · have := i2 s hs
    exact ⟨this.1, this.2.1, by omega⟩
theorem sp_ceil (hV : okV V D) (hC : repC O 6 V) (h9 : μ 9 = O 9) {s : Nat} (hs : s < vN V) : ∃ z : Int32, fX3_ceiling μ (nI s) = some z ∧ z.toInt = sp_hi V s := by
  have hn := hV.1
  have cs := hC.2.1 s hs
  unfold fX3_ceiling sp_hi
  rw [hn_rd_at (by omega) (by decide), hn_rd_at (by omega) (by decide), h9]
  have z : (O 9 s = -1) = ((vS V s).2.2 = -1) := by rw [hn_eq_i, cs.2.2]; rfl
  by_cases h1 : (vS V s).2.2 = -1
  · rw [if_pos (by rw [z]; exact h1), if_pos h1]; exact ⟨999, rfl, rfl⟩
  · rw [if_neg (by rw [z]; exact h1), if_neg h1]; exact ⟨O 9 s, rfl, cs.2.2⟩
theorem sp_below (hV : okV V D) (hC : repC O 6 V) (hk : ∀ k, k ≠ d → μ k = O k) (hd : d = 47 ∨ d = 49) (hx : ∀ s, s < vN V → (μ d s).toInt = x s) : ∀ (r j n : Nat), j + r = vN V → r < n → ∃ v : Int32, fX3_staysBelow_2 F d μ n (nI j) = some v ∧ ((v = 1 ∧ ∀ s, j ≤ s → s < vN V → x s ≤ sp_hi V s) ∨ (v = 0 ∧ ∃ s, s < vN V ∧ sp_hi V s < x s)) := by
  have hn := hV.1
  have e6 : μ 6 = O 6 := hk 6 (by omega)
  intro r
  induction r with
  | zero =>
    intro j n hj hr
    obtain ⟨n, rfl⟩ : ∃ n', n = n' + 1 := ⟨n - 1, by omega⟩
    refine ⟨1, ?_, Or.inl ⟨rfl, fun s h1 h2 => by omega⟩⟩
    rw [fX3_staysBelow_2, e6, hC.1.1, if_pos (by rw [hn_leN (by omega) (by omega)]; omega)]
  | succ r ih =>
    intro j n hj hr
    obtain ⟨n, rfl⟩ : ∃ n', n = n' + 1 := ⟨n - 1, by omega⟩
    obtain ⟨z, z1, z2⟩ := sp_ceil hV hC (hk 9 (by omega)) (s := j) (by omega)
    have hxj := hx j (by omega)
    rw [fX3_staysBelow_2, e6, hC.1.1, if_neg (by rw [hn_leN (by omega) (by omega)]; omega), hn_rd_at (by omega) (by decide), z1, Option.bind_some]
    by_cases hle : x j ≤ sp_hi V j
    · rw [if_pos (by rw [hn_le, hxj, z2]; exact hle), nI_1]
      obtain ⟨v, v1, v2⟩ := ih (j + 1) n (by omega) (by omega)
      refine ⟨v, v1, ?_⟩
      rcases v2 with ⟨a, b⟩ | b
      · refine Or.inl ⟨a, fun s h1 h2 => ?_⟩
        by_cases hs : s = j
        · rw [hs]; exact hle
        · exact b s (by omega) h2
      · exact Or.inr b
    · rw [if_neg (by rw [hn_le, hxj, z2]; exact hle)]
      exact ⟨0, rfl, Or.inr ⟨rfl, j, by omega, by omega⟩⟩
end sp
