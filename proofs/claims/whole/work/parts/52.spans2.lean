/-! the class's spans: rises, sink, reckon, canBeNoEarlier -/
section sp2
variable {V : hn_Vw} {D : Nat → Nat → Int} {O μ : hn_M} {d F : Nat} {x : Nat → Int} {B : Int} {l4 l5 : Int32} {ex : List (Nat × Nat × Int)}
/-- with or without one more sheet that is to be no earlier than another -/
def sp_mode (V : hn_Vw) (l4 l5 : Int32) (ex : List (Nat × Nat × Int)) : Prop := (l4 = -1 ∧ ex = []) ∨ ∃ a b, a < vN V ∧ b < vN V ∧ l4 = nI a ∧ l5 = nI b ∧ ex = [(a, b, 0)]
theorem sp_modein (hV : okV V D) (hm : sp_mode V l4 l5 ex) : dy_in (vN V) (sp_E V D ++ ex) := by
  intro q hq
  rcases List.mem_append.mp hq with h | h
  · exact sp_in hV q h
  · rcases hm with ⟨_, rfl⟩ | ⟨a, b, ha, hb, _, _, rfl⟩
    · cases h
    · rw [List.mem_singleton.mp h]; exact ⟨ha, hb⟩
theorem sp_rstep (hV : okV V D) (hD : okD D) (hC : repC O 6 V) (hDO : ∀ a b, a < 6 → b < 6 → pD O a b = D a b) (hd : d = 47 ∨ d = 49) (hF : 31 ≤ F) (hm : sp_mode V l4 l5 ex) (hk : ∀ k, k ≠ d → μ k = O k) (hB : B ≤ 2000000) (hx : ∀ s, s < vN V → (μ d s).toInt = x s ∧ 0 ≤ x s ∧ x s ≤ B) {r n : Nat} (hr : r ≤ 12) : ∃ w μ', fX3_rises_6 F d (n + 1) l4 l5 1 (nI r) μ = fX3_rises_6 F d n l4 l5 w (nI (r + 1)) μ' ∧ (∀ k, k ≠ d → μ' k = O k) ∧ (∀ s, s < vN V → (μ' d s).toInt = dy_rd (sp_E V D ++ ex) x s ∧ 0 ≤ dy_rd (sp_E V D ++ ex) x s ∧ dy_rd (sp_E V D ++ ex) x s ≤ B + 80000) ∧ ((w = 0 ∧ ∀ s, s < vN V → dy_rd (sp_E V D ++ ex) x s = x s) ∨ (w = 1 ∧ ∃ s, s < vN V ∧ x s < dy_rd (sp_E V D ++ ex) x s)) := by
  have hn := hV.1
  obtain ⟨w, μ', h1, h2, h3, h4⟩ := sp_raise hV hD hC hDO hd hF hk hB hx
  rw [fX3_rises_6, if_neg (by rw [show (12 : Int32) = nI 12 from rfl]; exact nI_nlt hr (by decide)), if_neg (by decide), h1, Option.bind_some]
  rcases hm with ⟨rfl, rfl⟩ | ⟨a, b, ha, hb, rfl, rfl, rfl⟩
  · rw [if_pos rfl, List.append_nil]
    refine ⟨w, μ', ?_, h2, h3, h4⟩
    unfold fX3_rises_54
    rw [nI_1]
  · rw [if_neg (by rw [hn_eq_i, nI_toInt (by omega)]; show ¬ (a : Int) = -1; omega)]
    have xa := h3 a ha
    have xb := h3 b hb
    have hE : dy_rd (sp_E V D ++ [(a, b, 0)]) x = dy_r1 (dy_rd (sp_E V D) x) (a, b, 0) := by unfold dy_rd; rw [List.foldl_append]; rfl
    simp only
    rw [hn_rd_at (by omega) (by decide), hn_rd_at (by omega) (by decide)]
    by_cases hlt : dy_rd (sp_E V D) x a < dy_rd (sp_E V D) x b + 0
    · rw [if_neg (by rw [hn_le, xa.1, xb.1]; omega)]
      have hr : dy_rd (sp_E V D ++ [(a, b, 0)]) x = dy_up (dy_rd (sp_E V D) x) a (dy_rd (sp_E V D) x b + 0) := by rw [hE]; exact if_pos hlt
      refine ⟨1, hn_up μ' d a (μ' d b), ?_, fun k hk2 => by rw [hn_up_ne hk2]; exact h2 k hk2, fun t ht => ?_, Or.inr ⟨rfl, a, ha, ?_⟩⟩
      · rw [hn_rd_at (by omega) (by decide), hn_wr_at (by omega) (by decide)]
        unfold fX3_rises_54
        rw [nI_1]
      · rw [hr, hn_upk]
        unfold dy_up
        by_cases hta : t = a
        · rw [if_pos hta, if_pos hta, xb.1]; refine ⟨by omega, by omega, by omega⟩
        · rw [if_neg hta, if_neg hta]; exact h3 t ht
      · rw [hr]
        unfold dy_up
        rw [if_pos rfl]
        have := dy_rd_ge (sp_E V D) x a
        omega
    · rw [if_pos (by rw [hn_le, xa.1, xb.1]; omega)]
      have hr : dy_rd (sp_E V D ++ [(a, b, 0)]) x = dy_rd (sp_E V D) x := by rw [hE]; exact if_neg hlt
      rw [hr]
      refine ⟨w, μ', ?_, h2, h3, h4⟩
      unfold fX3_rises_54
      rw [nI_1]
theorem sp_rises (hV : okV V D) (hD : okD D) (hC : repC O 6 V) (hDO : ∀ a b, a < 6 → b < 6 → pD O a b = D a b) (hd : d = 47 ∨ d = 49) (hF : 31 ≤ F) (hm : sp_mode V l4 l5 ex) : ∀ (t r n : Nat) (μ : hn_M), r + t = 13 → t + 1 < n → (∀ k, k ≠ d → μ k = O k) → (∀ s, s < vN V → (μ d s).toInt = dy_it (sp_E V D ++ ex) r (sp_lo V D (vK V)) s ∧ 0 ≤ dy_it (sp_E V D ++ ex) r (sp_lo V D (vK V)) s ∧ dy_it (sp_E V D ++ ex) r (sp_lo V D (vK V)) s ≤ 4840 + 80000 * r) → (r = 0 ∨ ∃ s, s < vN V ∧ dy_it (sp_E V D ++ ex) (r - 1) (sp_lo V D (vK V)) s < dy_it (sp_E V D ++ ex) r (sp_lo V D (vK V)) s) →
    ∃ v μ', fX3_rises_6 F d n l4 l5 1 (nI r) μ = some (v, μ') ∧ (∀ k, k ≠ d → μ' k = O k) ∧ ((v = 1 ∧ ∃ m, sp_first V D (sp_E V D ++ ex) m ∧ ∀ s, s < vN V → (μ' d s).toInt = m s) ∨ (v = 0 ∧ ¬ ∃ m, sp_sol V D (sp_E V D ++ ex) m)) := by
  have hn := hV.1
  have hE := sp_modein hV hm
  intro t
  induction t with
  | zero =>
    intro r n μ hr hn2 hk hx hs
    obtain ⟨n, rfl⟩ : ∃ n', n = n' + 1 := ⟨n - 1, by omega⟩
    have er : r = 13 := by omega
    subst er
    refine ⟨0, μ, ?_, hk, Or.inr ⟨rfl, ?_⟩⟩
    · rw [fX3_rises_6, if_pos (show (12 : Int32) < nI 13 from by decide)]
      unfold fX3_rises_60
      rw [if_neg (by decide)]
    · intro hex
      obtain ⟨m, m1, m2⟩ := dy_min hE hex
      obtain ⟨s, s1, s2⟩ := hs.resolve_left (by decide)
      have a1 := dy_done hE m1 m2 12 (by omega) s s1
      have a2 := dy_done hE m1 m2 13 (by omega) s s1
      have s2 : dy_it (sp_E V D ++ ex) 12 (sp_lo V D (vK V)) s < dy_it (sp_E V D ++ ex) 13 (sp_lo V D (vK V)) s := s2
      omega
  | succ t ih =>
    intro r n μ hr hn2 hk hx hs
    obtain ⟨n, rfl⟩ : ∃ n', n = n' + 1 := ⟨n - 1, by omega⟩
    obtain ⟨w, μ', h1, h2, h3, h4⟩ := sp_rstep (n := n) hV hD hC hDO hd hF hm hk (B := 4840 + 80000 * r) (by omega) hx (r := r) (by omega)
    rw [h1]
    rcases h4 with ⟨rfl, h4⟩ | ⟨rfl, h4⟩
    · obtain ⟨n, rfl⟩ : ∃ n', n = n' + 1 := ⟨n - 1, by omega⟩
      have e1 : fX3_rises_6 F d (n + 1) l4 l5 0 (nI (r + 1)) μ' = fX3_rises_60 F d 0 μ' := by
        rw [fX3_rises_6]
        by_cases hc : (12 : Int32) < nI (r + 1)
        · rw [if_pos hc]
        · rw [if_neg hc, if_pos rfl]
      rw [e1]
      unfold fX3_rises_60 fX3_staysBelow
      rw [if_pos rfl]
      have hrow : ∀ s, s < vN V → (μ' d s).toInt = dy_it (sp_E V D ++ ex) r (sp_lo V D (vK V)) s := fun s hs => by rw [(h3 s hs).1, h4 s hs]
      obtain ⟨v, v1, v2⟩ := sp_below (F := F) hV hC h2 hd hrow (vN V) 0 F (by omega) (by omega)
      have st := dy_stop (hi := sp_hi V) hE (fun s hs => dy_it_ge (sp_E V D ++ ex) (sp_lo V D (vK V)) r s) (fun m hm2 s hs => dy_it_le hE hm2.2 (fun s hs => (hm2.1 s hs).1) r s hs) (dy_fix hE h4)
      have v1 : fX3_staysBelow_2 F d μ' F 0 = some v := v1
      rw [v1, Option.bind_some]
      rcases v2 with ⟨rfl, v2⟩ | ⟨rfl, s, s1, s2⟩
      · rw [if_neg (by decide)]
        have hle : ∀ s, s < vN V → dy_it (sp_E V D ++ ex) r (sp_lo V D (vK V)) s ≤ sp_hi V s := fun s hs => v2 s (Nat.zero_le _) hs
        exact ⟨1, μ', rfl, h2, Or.inl ⟨rfl, _, ⟨st.2 hle, fun m hm2 s hs => dy_it_le hE hm2.2 (fun s hs => (hm2.1 s hs).1) r s hs⟩, hrow⟩⟩
      · rw [if_pos rfl]
        refine ⟨0, μ', rfl, h2, Or.inr ⟨rfl, fun hex => ?_⟩⟩
        have := st.1.mpr hex s s1
        omega
    · exact ih (r + 1) n μ' (by omega) (by omega) h2 (fun s hs => by have := h3 s hs; refine ⟨this.1, this.2.1, ?_⟩; have h := this.2.2; show dy_rd (sp_E V D ++ ex) (dy_it (sp_E V D ++ ex) r (sp_lo V D (vK V))) s ≤ _; omega) (Or.inr h4)
/-- floors and rounds together, in a row d -/
theorem sp_can (hV : okV V D) (hD : okD D) (hC : repC O 6 V) (hDO : ∀ a b, a < 6 → b < 6 → pD O a b = D a b) (hd : d = 47 ∨ d = 49) (hF : 31 ≤ F) (hm : sp_mode V l4 l5 ex) : ∃ μ1 v μ', fX3_layFloors F d O = some μ1 ∧ fX3_rises F d l4 l5 μ1 = some (v, μ') ∧ (∀ k, k ≠ d → μ' k = O k) ∧ ((v = 1 ∧ ∃ m, sp_first V D (sp_E V D ++ ex) m ∧ ∀ s, s < vN V → (μ' d s).toInt = m s) ∨ (v = 0 ∧ ¬ ∃ m, sp_sol V D (sp_E V D ++ ex) m)) := by
  obtain ⟨μ1, h1, h2, h3⟩ := sp_floors hV hD hC hDO hd hF
  obtain ⟨v, μ', h4, h5, h6⟩ := sp_rises hV hD hC hDO hd hF hm 13 0 F μ1 (by omega) (by omega) h2 (fun s hs => by have := sp_lo_b hV hD (vK V) (Nat.le_refl _) s hs; exact ⟨h3 s hs, this.1, by show sp_lo V D (vK V) s ≤ _; omega⟩) (Or.inl rfl)
  exact ⟨μ1, v, μ', h1, h4, h5, h6⟩
theorem sp_canBe (hV : okV V D) (hD : okD D) (hC : repC O 6 V) (hDO : ∀ a b, a < 6 → b < 6 → pD O a b = D a b) (hF : 31 ≤ F) {a b : Nat} (ha : a < vN V) (hb : b < vN V) : ∃ v μ', fX3_canBeNoEarlier F (nI a) (nI b) O = some (v, μ') ∧ (∀ k, k ≠ 49 → μ' k = O k) ∧ ((v = 1 ∧ ∃ m, sp_sol V D (sp_E V D ++ [(a, b, 0)]) m) ∨ (v = 0 ∧ ¬ ∃ m, sp_sol V D (sp_E V D ++ [(a, b, 0)]) m)) := by
  obtain ⟨μ1, v, μ', h1, h2, h3, h4⟩ := sp_can (d := 49) (l4 := nI a) (l5 := nI b) hV hD hC hDO (Or.inr rfl) hF (Or.inr ⟨a, b, ha, hb, rfl, rfl, rfl⟩)
  refine ⟨v, μ', ?_, h3, h4.imp (fun ⟨z, m, m1, _⟩ => ⟨z, m, m1.1⟩) id⟩
  unfold fX3_canBeNoEarlier
  rw [h1, Option.bind_some, h2, Option.bind_some]
  unfold hn_bo
  rw [if_pos (h4.elim (fun z => Or.inr z.1) (fun z => Or.inl z.1))]
/-! ceilings sink: the negated system -/
def sk_e (V : hn_Vw) (D : Nat → Nat → Int) (q : Nat) : Nat × Nat × Int := ((vQ V q).2, (vQ V q).1, (sp_e V D q).2.2)
def sk_E (V : hn_Vw) (D : Nat → Nat → Int) : List (Nat × Nat × Int) := (List.range (vP V)).map (sk_e V D)
theorem sk_in (h : okV V D) : dy_in (vN V) (sk_E V D) := by
  intro q hq
  obtain ⟨i, hi, rfl⟩ := List.mem_map.mp hq
  have := h.2.2.1 i (List.mem_range.mp hi)
  exact ⟨this.2.1, this.1⟩
theorem sk_neg (m : Nat → Int) : dy_sol (vN V) (fun s => - sp_hi V s) (fun s => - sp_lo V D (vK V) s) (sk_E V D) (fun s => - m s) ↔ sp_sol V D (sp_E V D) m := by
  constructor
  · intro h
    refine ⟨fun s hs => by have := h.1 s hs; simp only at this; omega, fun q hq => ?_⟩
    obtain ⟨i, hi, rfl⟩ := List.mem_map.mp hq
    have := h.2 (sk_e V D i) (List.mem_map.mpr ⟨i, hi, rfl⟩)
    have this : - m (vQ V i).1 + (sp_e V D i).2.2 ≤ - m (vQ V i).2 := this
    show m (vQ V i).2 + (sp_e V D i).2.2 ≤ m (vQ V i).1
    omega
  · intro h
    refine ⟨fun s hs => by have := h.1 s hs; simp only; omega, fun q hq => ?_⟩
    obtain ⟨i, hi, rfl⟩ := List.mem_map.mp hq
    have := h.2 (sp_e V D i) (List.mem_map.mpr ⟨i, hi, rfl⟩)
    have this : m (vQ V i).2 + (sp_e V D i).2.2 ≤ m (vQ V i).1 := this
    show - m (vQ V i).1 + (sp_e V D i).2.2 ≤ - m (vQ V i).2
    omega
theorem sk_neg2 (m : Nat → Int) : dy_sol (vN V) (fun s => - sp_hi V s) (fun s => - sp_lo V D (vK V) s) (sk_E V D) m ↔ sp_sol V D (sp_E V D) (fun s => - m s) := by
  rw [← sk_neg]
  have : (fun s => - (fun s => - m s) s) = m := by funext s; simp
  rw [this]
/-- one round of sink -/
theorem sk_round (hV : okV V D) (hD : okD D) (hC : repC O 6 V) (hDO : ∀ a b, a < 6 → b < 6 → pD O a b = D a b) (hF : 31 ≤ F) (hk : ∀ k, k ≠ 48 → μ k = O k) (hB : B ≤ 2000000) (hx : ∀ s, s < vN V → (μ 48 s).toInt = - x s ∧ -1000 ≤ x s ∧ x s ≤ B) (k2 : Int32 → hn_M → Option hn_M) (l3 : Int32) : ∃ μ', fX3_sink_11 F k2 F l3 0 μ = k2 (l3 + 1) μ' ∧ (∀ k, k ≠ 48 → μ' k = O k) ∧ ∀ s, s < vN V → (μ' 48 s).toInt = - dy_rd (sk_E V D) x s ∧ -1000 ≤ dy_rd (sk_E V D) x s ∧ dy_rd (sk_E V D) x s ≤ B + 80000 := by
  have hC0 := hC
  obtain ⟨⟨c0, c4, c7⟩, cS, cQ, cY, cE, cT⟩ := hC
  have hn := hV.1
  have hE : dy_rd (sk_E V D) x = dy_rq (sk_e V D) (vP V) x := dy_rq_rd _ _ _
  rw [hE]
  obtain ⟨μ', h1, h2⟩ := hn_loopE (fun n q s => fX3_sink_11 F k2 n l3 (nI q) s) (vP V) (fun s => k2 (l3 + 1) s) (fun q s => (∀ k, k ≠ 48 → s k = O k) ∧ ∀ t, t < vN V → (s 48 t).toInt = - dy_rq (sk_e V D) q x t ∧ -1000 ≤ dy_rq (sk_e V D) q x t ∧ dy_rq (sk_e V D) q x t ≤ B + 4000 * q)
    (fun n s hi => by
      show fX3_sink_11 F k2 (n + 1) l3 (nI (vP V)) s = _
      have e6 : s 6 = O 6 := hi.1 6 (by omega)
      rw [fX3_sink_11, e6, c4, if_pos (by rw [hn_leN (by omega) (by omega)]; exact Nat.le_refl _)]
      rfl)
    (fun n q s hq hi => by
      obtain ⟨i1, i2⟩ := hi
      have e6 : s 6 = O 6 := i1 6 (by omega)
      have e10 : s 10 = O 10 := i1 10 (by omega)
      have e11 : s 11 = O 11 := i1 11 (by omega)
      obtain ⟨g, g1, g2, g3, g4⟩ := sp_gap (μ := s) hV hD hC0 hDO (fun k hk => i1 k (by omega)) hq
      have cq := cQ q hq
      have oq := hV.2.2.1 q hq
      have xe := i2 _ oq.2.1
      have xl := i2 _ oq.1
      have sm : (s 48 (vQ V q).1 - g).toInt = - dy_rq (sk_e V D) q x (vQ V q).1 - (sp_e V D q).2.2 := by rw [hn_subI (by omega) (by omega), xl.1, g2]
      refine ⟨hn_up s 48 (vQ V q).2 (if s 48 (vQ V q).1 - g < s 48 (vQ V q).2 then s 48 (vQ V q).1 - g else s 48 (vQ V q).2), ?_, fun k hk2 => by rw [hn_up_ne hk2]; exact i1 k hk2, fun t ht => ?_⟩
      · show fX3_sink_11 F k2 (n + 1) l3 (nI q) s = _
        rw [fX3_sink_11, e6, c4, if_neg (by rw [hn_leN (by omega) (by omega)]; omega), hn_rd_at (by omega) (by decide), e10, cq.1, hn_rd_at (by omega) (by decide), g1, Option.bind_some, hn_rd_at (by omega) (by decide), e11, cq.2, hn_rd_at (by omega) (by decide), hn_wr_at (by omega) (by decide), nI_1]
      · rw [hn_upk]
        show _ = - dy_r1 (dy_rq (sk_e V D) q x) (sk_e V D q) t ∧ -1000 ≤ dy_r1 (dy_rq (sk_e V D) q x) (sk_e V D q) t ∧ dy_r1 (dy_rq (sk_e V D) q x) (sk_e V D q) t ≤ _
        have ht2 := i2 t ht
        by_cases hlt : dy_rq (sk_e V D) q x (vQ V q).2 < dy_rq (sk_e V D) q x (vQ V q).1 + (sp_e V D q).2.2
        · have hr : dy_r1 (dy_rq (sk_e V D) q x) (sk_e V D q) = dy_up (dy_rq (sk_e V D) q x) (vQ V q).2 (dy_rq (sk_e V D) q x (vQ V q).1 + (sp_e V D q).2.2) := if_pos hlt
          rw [hr]
          unfold dy_up
          by_cases hte : t = (vQ V q).2
          · rw [if_pos hte, if_pos hte, if_pos (by rw [hn_lt, sm, xe.1]; omega), sm]
            refine ⟨by omega, by omega, by omega⟩
          · rw [if_neg hte, if_neg hte]; refine ⟨ht2.1, ht2.2.1, by omega⟩
        · have hr : dy_r1 (dy_rq (sk_e V D) q x) (sk_e V D q) = dy_rq (sk_e V D) q x := if_neg hlt
          rw [hr]
          by_cases hte : t = (vQ V q).2
          · rw [if_pos hte, if_neg (by rw [hn_lt, sm, xe.1]; omega), hte]
            refine ⟨xe.1, xe.2.1, by omega⟩
          · rw [if_neg hte]; refine ⟨ht2.1, ht2.2.1, by omega⟩)
    (vP V) 0 F μ (by omega) (by omega) ⟨hk, fun t ht => by have := hx t ht; exact ⟨this.1, this.2.1, by show x t ≤ _; omega⟩⟩
  refine ⟨μ', h1, h2.1, fun s hs => ?_⟩
  have := h2.2 s hs
  exact ⟨this.1, this.2.1, by omega⟩
/-- what Spans.reckon leaves -/
theorem sp_reckon (hV : okV V D) (hD : okD D) (hC : repC O 6 V) (hDO : ∀ a b, a < 6 → b < 6 → pD O a b = D a b) (hF : 31 ≤ F) : ∃ μ', fX3_reckon F O = some μ' ∧ (∀ k, k ≠ 46 → k ≠ 47 → k ≠ 48 → μ' k = O k) ∧ ((μ' 46 3 = 0 ∧ ∃ m M, sp_first V D (sp_E V D) m ∧ sp_last V D (sp_E V D) M ∧ ∀ s, s < vN V → (μ' 47 s).toInt = m s ∧ (μ' 48 s).toInt = M s) ∨ (μ' 46 3 = 1 ∧ ¬ ∃ m, sp_sol V D (sp_E V D) m)) := by
  have hn := hV.1
  obtain ⟨μ1, v, μ2, h1, h2, h3, h4⟩ := sp_can (d := 47) (l4 := -1) (l5 := -1) (ex := []) hV hD hC hDO (Or.inl rfl) hF (Or.inl ⟨rfl, rfl⟩)
  rw [List.append_nil] at h4
  unfold fX3_reckon
  rw [h1, Option.bind_some, h2, Option.bind_some]
  rcases h4 with ⟨rfl, m, m1, m2⟩ | ⟨rfl, hno⟩
  · rw [if_neg (show ¬ (1 : Int32) = 0 by decide)]
    unfold fX3_reckon_31 hn_bo hn_pf
    rw [if_pos (Or.inl rfl)]
    have e46 : hn_up μ2 46 3 0 46 3 = 0 := hn_up_at
    dsimp only
    rw [if_pos e46]
    -- ceilings
    have hk0 : ∀ k, k ≠ 46 → k ≠ 47 → hn_up μ2 46 3 0 k = O k := fun k a b => by rw [hn_up_ne a]; exact h3 k b
    have hC2 : repC (hn_up μ2 46 3 0) 6 V := by
      obtain ⟨c1, c2, c3, c4, c5, c6⟩ := hC
      unfold repC
      rw [hk0 6 (by decide) (by decide), hk0 (6 + 1) (by decide) (by decide), hk0 (6 + 2) (by decide) (by decide), hk0 (6 + 3) (by decide) (by decide), hk0 (6 + 4) (by decide) (by decide), hk0 (6 + 5) (by decide) (by decide), hk0 (6 + 6) (by decide) (by decide), hk0 (6 + 7) (by decide) (by decide), hk0 (6 + 8) (by decide) (by decide), hk0 (6 + 9) (by decide) (by decide), hk0 (6 + 10) (by decide) (by decide), hk0 (6 + 11) (by decide) (by decide), hk0 (6 + 12) (by decide) (by decide)]
      exact ⟨c1, c2, c3, c4, c5, c6⟩
    have hDO2 : ∀ a b, a < 6 → b < 6 → pD (hn_up μ2 46 3 0) a b = D a b := by
      intro a b ha hb
      unfold pD
      rw [hk0 4 (by decide) (by decide)]
      exact hDO a b ha hb
    generalize hO2 : hn_up μ2 46 3 0 = O2 at hC2 hDO2 hk0 e46
    have m3 : ∀ s, s < vN V → (O2 47 s).toInt = m s := fun s hs => by rw [← hO2, hn_up_ne (by decide)]; exact m2 s hs
    obtain ⟨μ3, f1, f2⟩ := hn_loopE (fun n j s => fX3_layCeilings_2 F n (nI j) s) (vN V) some (fun j s => (∀ k, k ≠ 48 → s k = O2 k) ∧ ∀ t, t < j → (s 48 t).toInt = sp_hi V t)
      (fun n s hi => by
        show fX3_layCeilings_2 F (n + 1) (nI (vN V)) s = _
        rw [fX3_layCeilings_2, hi.1 6 (by decide), hC2.1.1, if_pos (by rw [hn_leN (by omega) (by omega)]; exact Nat.le_refl _)])
      (fun n j s hj hi => by
        obtain ⟨z, z1, z2⟩ := sp_ceil (μ := s) hV hC2 (hi.1 9 (by decide)) hj
        refine ⟨hn_up s 48 j z, ?_, fun k hk => by rw [hn_up_ne hk]; exact hi.1 k hk, fun t ht => ?_⟩
        · show fX3_layCeilings_2 F (n + 1) (nI j) s = _
          rw [fX3_layCeilings_2, hi.1 6 (by decide), hC2.1.1, if_neg (by rw [hn_leN (by omega) (by omega)]; omega), z1, Option.bind_some, hn_wr_at (by omega) (by decide), nI_1]
        · rw [hn_upk]
          by_cases htj : t = j
          · subst htj; rw [if_pos rfl]; exact z2
          · rw [if_neg htj]; exact hi.2 t (by omega))
      (vN V) 0 F O2 (by omega) (by omega) ⟨fun k _ => rfl, fun t ht => by omega⟩
    have f1 : fX3_layCeilings F O2 = some μ3 := f1
    rw [f1, Option.bind_some]
    have hhi : ∀ s, s < vN V → -1 ≤ sp_hi V s ∧ sp_hi V s ≤ 999 := by
      intro s hs
      have := hV.2.1 s hs
      unfold sp_hi
      by_cases h : (vS V s).2.2 = -1
      · rw [if_pos h]; omega
      · rw [if_neg h]; omega
    -- sinking
    obtain ⟨μ4, g1, g2⟩ := hn_loopE (fun n j s => fX3_sink_2 F n (nI j) s) 12 some (fun j s => (∀ k, k ≠ 48 → s k = O2 k) ∧ ∀ t, t < vN V → (s 48 t).toInt = - dy_it (sk_E V D) j (fun s => - sp_hi V s) t ∧ -1000 ≤ dy_it (sk_E V D) j (fun s => - sp_hi V s) t ∧ dy_it (sk_E V D) j (fun s => - sp_hi V s) t ≤ 1 + 80000 * j)
      (fun n s _ => by
        show fX3_sink_2 F (n + 1) (nI 12) s = _
        rw [fX3_sink_2, if_pos (show (12 : Int32) ≤ nI 12 from by decide)])
      (fun n j s hj hi => by
        obtain ⟨s', e1, e2, e3⟩ := sk_round (B := 1 + 80000 * j) hV hD hC2 hDO2 hF hi.1 (by omega) hi.2 (fX3_sink_2 F n) (nI j)
        refine ⟨s', ?_, e2, fun t ht => ?_⟩
        · show fX3_sink_2 F (n + 1) (nI j) s = _
          rw [fX3_sink_2, if_neg (show ¬ (12 : Int32) ≤ nI j from hn_ge (b := 12) hj (by decide)), e1, nI_1]
        · have := e3 t ht
          refine ⟨this.1, this.2.1, ?_⟩
          show dy_rd (sk_E V D) (dy_it (sk_E V D) j fun s => - sp_hi V s) t ≤ _
          omega)
      12 0 F μ3 (by omega) (by omega) ⟨f2.1, fun t ht => ⟨by rw [f2.2 t ht]; show sp_hi V t = - - sp_hi V t; omega, by have h9 := hhi t ht; show -1000 ≤ - sp_hi V t; omega, by have h9 := hhi t ht; show - sp_hi V t ≤ _; omega⟩⟩
    have g1 : fX3_sink F μ3 = some μ4 := g1
    rw [g1, Option.bind_some]
    refine ⟨μ4, rfl, fun k k1 k2 k3 => by rw [g2.1 k k3]; exact hk0 k k1 k2, Or.inl ⟨by rw [g2.1 46 (by decide)]; exact e46, m, fun s => - dy_it (sk_E V D) 12 (fun s => - sp_hi V s) s, m1, ?_, fun s hs => ⟨by rw [g2.1 47 (by decide)]; exact m3 s hs, (g2.2 s hs).1⟩⟩⟩
    obtain ⟨M, M1, M2⟩ := dy_min (n := vN V) (lo := fun s => - sp_hi V s) (hi := fun s => - sp_lo V D (vK V) s) (E := sk_E V D) (sk_in hV) ⟨fun s => - m s, (sk_neg m).mpr m1.1⟩
    have hd := dy_done (sk_in hV) M1 M2 12 (by omega)
    have hs1 : sp_sol V D (sp_E V D) (fun s => - M s) := (sk_neg2 M).mp M1
    refine ⟨⟨fun s hs => ?_, fun q hq => ?_⟩, fun d2 hd2 s hs => ?_⟩
    · have := hs1.1 s hs
      simp only at this ⊢
      rw [hd s hs]; exact this
    · have hq2 := sp_in hV q hq
      have := hs1.2 q hq
      simp only at this ⊢
      rw [hd _ hq2.1, hd _ hq2.2]; exact this
    · have := M2 _ ((sk_neg d2).mpr hd2) s hs
      simp only at this ⊢
      rw [hd s hs]; omega
  · rw [if_pos rfl]
    unfold fX3_reckon_31 hn_bo hn_pf
    rw [if_pos (Or.inr rfl)]
    have e46 : hn_up μ2 46 3 1 46 3 = 1 := hn_up_at
    dsimp only
    rw [if_neg (by rw [e46]; decide)]
    exact ⟨_, rfl, fun k k1 k2 k3 => by rw [hn_up_ne k1]; exact h3 k k2, Or.inr ⟨e46, hno⟩⟩
end sp2
