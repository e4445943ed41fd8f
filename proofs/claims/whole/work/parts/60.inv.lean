/-! what holds between two calls, for the class's cells and the model's -/
def iP (μ : hn_M) (D S : Nat → Nat → Int) : Prop := (∀ a b, a < 6 → b < 6 → pD μ a b = D a b ∧ pS μ a b = S a b) ∧ sl_W (pL μ) (pM μ) D S ∧ (∀ i, i < 36 → μ 73 i = μ 2 i ∧ μ 74 i = μ 3 i) ∧ hn_W μ D ∧ μ 1 4 = nI (dy_cnt (fun i => ¬ μ 2 i = 0) 36)
def iV (μ : hn_M) (V : hn_Vw) (D : Nat → Nat → Int) : Prop := repC μ 6 V ∧ repM μ 0 V ∧ okV V D
def iK (μ : hn_M) (V : hn_Vw) (D : Nat → Nat → Int) : Prop := ∃ (k : Nat) (W : Nat → hn_Vw), k ≤ 2 ∧ μ 0 9 = nI k ∧ μ 72 11 = nI k ∧ ∀ i, i < k → repC μ (20 + 13 * i) (W i) ∧ repM μ (1 + i) (W i) ∧ okV (W i) D ∧ vN (W i) ≤ vN V ∧ ∀ j, j ≤ i → vN (W j) ≤ vN (W i)
def iF (μ : hn_M) (o : Nat) : Prop := o ≤ 40 ∧ μ 0 10 = nI o ∧ μ 72 12 = nI o ∧ ∃ c, c < 6 ∧ μ 0 11 = nI c ∧ μ 72 13 = nI c
def hn_sx (b : Nat) : Int32 := if b < 128 then nI b else nI b - 256
def iT (μ : hn_M) : Prop := ∃ n, n ≤ 200 ∧ μ 54 1 = nI n ∧ μ 72 14 = nI n ∧ ∀ i, i < n → ∃ b, b < 256 ∧ μ 84 i = nI b ∧ μ 55 i = hn_sx b
/-- items: kind, whose, how much, since, until -/
abbrev hn_It : Type := Nat → Nat × Nat × Nat × Nat × Nat
def hn_lett (k : Nat) : Nat := if k = 0 then 119 else if k = 1 then 118 else if k = 2 then 111 else if k = 3 then 98 else if k = 4 then 120 else 110
def repI (μ : hn_M) (t n : Nat) (It : hn_It) : Prop := μ t 6 = nI n ∧ ∀ i, i < n → μ (t + 1) i = nI (It i).1 ∧ μ (t + 2) i = nI (It i).2.1 ∧ μ (t + 3) i = nI (It i).2.2.1 ∧ μ (t + 4) i = nI (It i).2.2.2.1 ∧ μ (t + 5) i = nI (It i).2.2.2.2
def repJ (μ : hn_M) (x n : Nat) (It : hn_It) : Prop := μ 85 x = nI n ∧ ∀ i, i < n → μ 86 (200 * x + 5 * i) = nI (hn_lett (It i).1) ∧ μ 86 (200 * x + 5 * i + 1) = nI (It i).2.1 ∧ μ 86 (200 * x + 5 * i + 2) = nI (It i).2.2.1 ∧ μ 86 (200 * x + 5 * i + 3) = nI (It i).2.2.2.1 ∧ μ 86 (200 * x + 5 * i + 4) = nI (It i).2.2.2.2
def okI (n : Nat) (It : hn_It) : Prop := n ≤ 40 ∧ ∀ i, i < n → (It i).1 < 6 ∧ (It i).2.1 < 1000 ∧ (It i).2.2.1 < 1000 ∧ (It i).2.2.2.1 < 1000 ∧ (It i).2.2.2.2 < 1000 ∧ (2 ≤ (It i).1 → (It i).1 ≤ 4 → (It i).2.1 = 0)
def iI (μ : hn_M) : Prop := ∃ (t u n : Nat) (It : hn_It), ((t = 58 ∧ u = 65) ∨ (t = 65 ∧ u = 58)) ∧ μ 0 7 = nI t ∧ μ 0 8 = nI u ∧ repI μ t n It ∧ repJ μ 1 n It ∧ okI n It
def iW (μ : hn_M) : Prop := ∀ i, i < 24 → μ 57 i = μ 87 i ∧ -1000 ≤ (μ 57 i).toInt ∧ (μ 57 i).toInt ≤ 1000
/-- what a settled class holds of spans and tree -/
def sS (μ : hn_M) (V : hn_Vw) (D : Nat → Nat → Int) (o : Nat) : Prop := (μ 46 3 = 1 ∧ ¬ ∃ m, sp_sol V D (sp_E V D) m) ∨ (μ 46 3 = 0 ∧ ∃ m M, sp_first V D (sp_E V D) m ∧ sp_last V D (sp_E V D) M ∧ (∀ s, s < vN V → (μ 47 s).toInt = m s ∧ (μ 48 s).toInt = M s) ∧ ∀ a, a < vK V → μ 51 a = te1 (ts V D m M o a) ∧ μ 52 a = nI (tk (ts V D m M o) 11 a).1 ∧ μ 53 a = nI (tk (ts V D m M o) 11 a).2)
def iS (μ : hn_M) (V : hn_Vw) (D : Nat → Nat → Int) (o : Nat) : Prop := μ 0 12 = 0 ∨ (μ 0 12 = 1 ∧ sS μ V D o)
def hn_Ba (μ : hn_M) (V : hn_Vw) (D S : Nat → Nat → Int) (o : Nat) : Prop := iP μ D S ∧ iV μ V D ∧ iK μ V D ∧ iF μ o ∧ iT μ ∧ iI μ ∧ iW μ
def hn_Inv (μ : hn_M) : Prop := ∃ V D S o, hn_Ba μ V D S o ∧ iS μ V D o
section inv
variable {μ ν : hn_M} {V : hn_Vw} {D S : Nat → Nat → Int} {o F : Nat}
theorem iP_c (h : ∀ k, (1 ≤ k ∧ k ≤ 5) ∨ (73 ≤ k ∧ k ≤ 75) → ν k = μ k) (i : iP μ D S) : iP ν D S := by
  have e1 := h 1 (by omega)
  have e2 := h 2 (by omega)
  have e3 := h 3 (by omega)
  have e4 := h 4 (by omega)
  have e5 := h 5 (by omega)
  have e6 := h 73 (by omega)
  have e7 := h 74 (by omega)
  have e8 := h 75 (by omega)
  obtain ⟨i1, i2, i3, i4, i5⟩ := i
  have p1 : pL ν = pL μ := by funext a b; unfold pL; rw [e2]
  have p2 : pM ν = pM μ := by funext a b; unfold pM; rw [e3]
  refine ⟨fun a b ha hb => ?_, by rw [p1, p2]; exact i2, by rw [e6, e2, e7, e3]; exact i3, fun a b ha hb => by rw [e8]; exact i4 a b ha hb, by rw [e1, e2]; exact i5⟩
  unfold pD pS
  rw [e4, e5]
  exact i1 a b ha hb
theorem iV_c (h : ∀ k, (6 ≤ k ∧ k ≤ 18) ∨ (76 ≤ k ∧ k ≤ 83) → ν k = μ k) (i : iV μ V D) : iV ν V D :=
  ⟨rc_cong (fun k a b => h k (by omega)) i.1, rm_cong (fun k a b => h k (by omega)) i.2.1, i.2.2⟩
theorem iK_c (h9 : ν 0 9 = μ 0 9) (h11 : ν 72 11 = μ 72 11) (h : ∀ k, (20 ≤ k ∧ k ≤ 45) ∨ (76 ≤ k ∧ k ≤ 83) → ν k = μ k) (i : iK μ V D) : iK ν V D := by
  obtain ⟨k, W, i1, i2, i3, i4⟩ := i
  refine ⟨k, W, i1, by rw [h9]; exact i2, by rw [h11]; exact i3, fun j hj => ?_⟩
  have := i4 j hj
  exact ⟨rc_cong (fun k a b => h k (by omega)) this.1, rm_cong (fun k a b => h k (by omega)) this.2.1, this.2.2⟩
theorem iF_c (h0 : ν 0 10 = μ 0 10 ∧ ν 0 11 = μ 0 11) (h1 : ν 72 12 = μ 72 12 ∧ ν 72 13 = μ 72 13) (i : iF μ o) : iF ν o := by
  unfold iF
  rw [h0.1, h0.2, h1.1, h1.2]
  exact i
theorem iT_c (h0 : ν 54 = μ 54 ∧ ν 55 = μ 55 ∧ ν 84 = μ 84) (h1 : ν 72 14 = μ 72 14) (i : iT μ) : iT ν := by
  unfold iT
  rw [h0.1, h0.2.1, h0.2.2, h1]
  exact i
theorem iI_c (h0 : ν 0 7 = μ 0 7 ∧ ν 0 8 = μ 0 8) (h : ∀ k, (58 ≤ k ∧ k ≤ 71) ∨ (85 ≤ k ∧ k ≤ 86) → ν k = μ k) (i : iI μ) : iI ν := by
  obtain ⟨t, u, n, It, i1, i2, i3, i4, i5, i6⟩ := i
  refine ⟨t, u, n, It, i1, by rw [h0.1]; exact i2, by rw [h0.2]; exact i3, ?_, ?_, i6⟩
  · unfold repI
    rw [h t (by omega), h (t + 1) (by omega), h (t + 2) (by omega), h (t + 3) (by omega), h (t + 4) (by omega), h (t + 5) (by omega)]
    exact i4
  · unfold repJ
    rw [h 85 (by omega), h 86 (by omega)]
    exact i5
theorem iW_c (h0 : ν 57 = μ 57 ∧ ν 87 = μ 87) (i : iW μ) : iW ν := by
  unfold iW
  rw [h0.1, h0.2]
  exact i
theorem sS_c (h : ν 46 3 = μ 46 3 ∧ ν 47 = μ 47 ∧ ν 48 = μ 48 ∧ ν 51 = μ 51 ∧ ν 52 = μ 52 ∧ ν 53 = μ 53) (i : sS μ V D o) : sS ν V D o := by
  unfold sS
  rw [h.1, h.2.1, h.2.2.1, h.2.2.2.1, h.2.2.2.2.1, h.2.2.2.2.2]
  exact i
theorem iS_c (h0 : ν 0 12 = μ 0 12) (h : ν 46 3 = μ 46 3 ∧ ν 47 = μ 47 ∧ ν 48 = μ 48 ∧ ν 51 = μ 51 ∧ ν 52 = μ 52 ∧ ν 53 = μ 53) (i : iS μ V D o) : iS ν V D o := by
  unfold iS
  rw [h0]
  exact i.imp id (fun z => ⟨z.1, sS_c h z.2⟩)
/-- a query leaves all but scratch -/
def qfr (μ ν : hn_M) : Prop := (∀ k, k ≠ 0 → ¬ (46 ≤ k ∧ k ≤ 53) → k ≠ 72 → ¬ (88 ≤ k ∧ k ≤ 92) → ν k = μ k) ∧ (∀ i, i ≠ 12 → ν 0 i = μ 0 i) ∧ (∀ i, i ≠ 22 → i ≠ 24 → ν 72 i = μ 72 i)
theorem qfr_rfl : qfr μ μ := ⟨fun _ _ _ _ _ => rfl, fun _ _ => rfl, fun _ _ _ => rfl⟩
theorem qfr_trans {ξ : hn_M} (h1 : qfr μ ν) (h2 : qfr ν ξ) : qfr μ ξ := ⟨fun k a b c d => (h2.1 k a b c d).trans (h1.1 k a b c d), fun i a => (h2.2.1 i a).trans (h1.2.1 i a), fun i a b => (h2.2.2 i a b).trans (h1.2.2 i a b)⟩
theorem hn_Ba_q (h : qfr μ ν) (i : hn_Ba μ V D S o) : hn_Ba ν V D S o := by
  obtain ⟨i1, i2, i3, i4, i5, i6, i7⟩ := i
  obtain ⟨h1, h2, h3⟩ := h
  exact ⟨iP_c (fun k hk => h1 k (by omega) (by omega) (by omega) (by omega)) i1, iV_c (fun k hk => h1 k (by omega) (by omega) (by omega) (by omega)) i2,
    iK_c (h2 9 (by decide)) (h3 11 (by decide) (by decide)) (fun k hk => h1 k (by omega) (by omega) (by omega) (by omega)) i3,
    iF_c ⟨h2 10 (by decide), h2 11 (by decide)⟩ ⟨h3 12 (by decide) (by decide), h3 13 (by decide) (by decide)⟩ i4,
    iT_c ⟨h1 54 (by omega) (by omega) (by omega) (by omega), h1 55 (by omega) (by omega) (by omega) (by omega), h1 84 (by omega) (by omega) (by omega) (by omega)⟩ (h3 14 (by decide) (by decide)) i5,
    iI_c ⟨h2 7 (by decide), h2 8 (by decide)⟩ (fun k hk => h1 k (by omega) (by omega) (by omega) (by omega)) i6,
    iW_c ⟨h1 57 (by omega) (by omega) (by omega) (by omega), h1 87 (by omega) (by omega) (by omega) (by omega)⟩ i7⟩
theorem iP_D (h : iP μ D S) : okD D := fun a b ha hb => ⟨(h.2.1.1 a b ha hb).1, (h.2.1.1 a b ha hb).2.1⟩
theorem iP_O (h : iP μ D S) : ∀ a b, a < 6 → b < 6 → pD μ a b = D a b := fun a b ha hb => (h.1 a b ha hb).1
theorem sp_bd (hV : okV V D) (hD : okD D) {E : List (Nat × Nat × Int)} {m : Nat → Int} (h : sp_sol V D E m) : ∀ s, s < vN V → 0 ≤ m s ∧ m s ≤ 999 := by
  intro s hs
  have a := h.1 s hs
  have b := sp_lo_b hV hD (vK V) (Nat.le_refl _) s hs
  have c := hV.2.1 s hs
  unfold sp_hi at a
  by_cases hc : (vS V s).2.2 = -1
  · rw [if_pos hc] at a; omega
  · rw [if_neg hc] at a; omega
theorem sp_uniq {E : List (Nat × Nat × Int)} {m m' : Nat → Int} (h : sp_first V D E m) (h' : sp_first V D E m') : ∀ s, s < vN V → m' s = m s := fun s hs => by
  have a := h.2 m' h'.1 s hs
  have b := h'.2 m h.1 s hs
  omega
theorem sp_uniqL {E : List (Nat × Nat × Int)} {m m' : Nat → Int} (h : sp_last V D E m) (h' : sp_last V D E m') : ∀ s, s < vN V → m' s = m s := fun s hs => by
  have a := h.2 m' h'.1 s hs
  have b := h'.2 m h.1 s hs
  omega
/-- isQuarrel settles -/
theorem q_settle (hB : hn_Ba μ V D S o) (hS : iS μ V D o) (hF : 31 ≤ F) : ∃ v ν, fX7_isQuarrel F μ = some (v, ν) ∧ qfr μ ν ∧ ν 0 12 = 1 ∧ v = ν 46 3 ∧ sS ν V D o := by
  obtain ⟨i1, i2, i3, i4, i5, i6, i7⟩ := hB
  have hD := iP_D i1
  have hbo : ∀ (ξ : hn_M), sS ξ V D o → (ξ 46 3 = 0 ∨ ξ 46 3 = 1) := fun ξ h => h.elim (fun z => Or.inr z.1) (fun z => Or.inl z.1)
  unfold fX7_isQuarrel
  by_cases h0 : μ 0 12 = 0
  · rw [if_pos h0]
    obtain ⟨μ1, r1, r2, r3⟩ := sp_reckon (F := F) i2.2.2 hD i2.1 (iP_O i1) hF
    rw [r1, Option.bind_some]
    rcases r3 with ⟨a0, m, M, a1, a2, a3⟩ | ⟨a0, a1⟩
    · rw [if_pos a0, r2 0 (by decide) (by decide) (by decide), i4.2.1]
      have hC1 : repC μ1 6 V := rc_cong (fun k a b => r2 k (by omega) (by omega) (by omega)) i2.1
      have hO1 : ∀ a b, a < 6 → b < 6 → pD μ1 a b = D a b := fun a b ha hb => by unfold pD; rw [r2 4 (by decide) (by decide) (by decide)]; exact iP_O i1 a b ha hb
      obtain ⟨μ2, g1, g2, g3⟩ := tr_grow (F := F) (o := o) i2.2.2 hD hC1 hO1 a3 (sp_bd i2.2.2 hD a1.1) i4.1 hF
      rw [g1, Option.bind_some]
      have hs : sS (hn_up μ2 0 12 1) V D o := sS_c ⟨by rw [hn_up_ne (by decide)], hn_up_ne (by decide), hn_up_ne (by decide), hn_up_ne (by decide), hn_up_ne (by decide), hn_up_ne (by decide)⟩ (show sS μ2 V D o from Or.inr ⟨by rw [g2 46 (by decide) (by decide) (by decide)]; exact a0, m, M, a1, a2, by rw [g2 47 (by decide) (by decide) (by decide), g2 48 (by decide) (by decide) (by decide)]; exact a3, g3⟩)
      refine ⟨_, hn_up μ2 0 12 1, ?_, ⟨fun k k0 k1 k2 k3 => ?_, fun i hi => ?_, fun i hi hj => ?_⟩, hn_up_at, rfl, hs⟩
      · unfold fX7_isQuarrel_55 hn_pf hn_bo
        exact if_pos (hbo _ hs)
      · rw [hn_up_ne k0, g2 k (by omega) (by omega) (by omega), r2 k (by omega) (by omega) (by omega)]
      · rw [hn_up_off hi, g2 0 (by decide) (by decide) (by decide), r2 0 (by decide) (by decide) (by decide)]
      · rw [hn_up_ne (by decide), g2 72 (by decide) (by decide) (by decide), r2 72 (by decide) (by decide) (by decide)]
    · rw [if_neg (by rw [a0]; decide)]
      have hs : sS (hn_up μ1 0 12 1) V D o := sS_c ⟨by rw [hn_up_ne (by decide)], hn_up_ne (by decide), hn_up_ne (by decide), hn_up_ne (by decide), hn_up_ne (by decide), hn_up_ne (by decide)⟩ (show sS μ1 V D o from Or.inl ⟨a0, a1⟩)
      refine ⟨_, hn_up μ1 0 12 1, ?_, ⟨fun k k0 k1 k2 k3 => ?_, fun i hi => ?_, fun i hi hj => ?_⟩, hn_up_at, rfl, hs⟩
      · unfold fX7_isQuarrel_55 hn_pf hn_bo
        exact if_pos (hbo _ hs)
      · rw [hn_up_ne k0, r2 k (by omega) (by omega) (by omega)]
      · rw [hn_up_off hi, r2 0 (by decide) (by decide) (by decide)]
      · rw [hn_up_ne (by decide), r2 72 (by decide) (by decide) (by decide)]
  · rcases hS with h | ⟨h1, h2⟩
    · exact absurd h h0
    · rw [if_neg h0]
      unfold hn_bo
      rw [if_pos (hbo _ h2)]
      exact ⟨_, μ, rfl, qfr_rfl, h1, rfl, h2⟩
/-- what both sides then know -/
def qok (V : hn_Vw) (D : Nat → Nat → Int) (o : Nat) (m M : Nat → Int) (μ ν : hn_M) : Prop :=
  sp_first V D (sp_E V D) m ∧ sp_last V D (sp_E V D) M ∧ (∀ s, s < vN V → 0 ≤ m s ∧ m s ≤ 999 ∧ 0 ≤ M s ∧ M s ≤ 999) ∧
  (∀ s, s < vN V → (μ 47 s).toInt = m s ∧ (μ 48 s).toInt = M s ∧ (ν 89 s).toInt = m s ∧ (ν 90 s).toInt = M s) ∧
  ∀ a, a < vK V → μ 51 a = te1 (ts V D m M o a) ∧ μ 52 a = nI (tk (ts V D m M o) 11 a).1 ∧ μ 53 a = nI (tk (ts V D m M o) 11 a).2
theorem ld_fr_q (h : ld_fr μ ν) : qfr μ ν := ⟨fun k a b c d => h.1 k c (by omega) (by omega), fun i _ => by rw [h.1 0 (by decide) (by decide) (by decide)], fun i a _ => h.2 i a⟩
theorem q_days (hB : hn_Ba μ V D S o) (hS : iS μ V D o) (hF : 12000 ≤ F) : ∃ μ1 μ2, hn_Ba μ1 V D S o ∧ hn_Ba μ2 V D S o ∧ iS μ2 V D o ∧ qfr μ μ1 ∧ ld_fr μ1 μ2 ∧ ((fX7_isQuarrel F μ = some (1, μ1) ∧ fX8_areDays F μ1 = some (0, μ2)) ∨ (fX7_isQuarrel F μ = some (0, μ1) ∧ fX8_areDays F μ1 = some (1, μ2) ∧ ∃ m M, qok V D o m M μ1 μ2)) := by
  obtain ⟨v, μ1, q1, q2, q3, q4, q5⟩ := q_settle hB hS (F := F) (by omega)
  have hB1 := hn_Ba_q q2 hB
  obtain ⟨i1, i2, i3, i4, i5, i6, i7⟩ := hB1
  have hD := iP_D i1
  obtain ⟨v', μ2, d1, d2, d3⟩ := ld_are (F := F) i2.2.2 hD i2.2.1 i1.2.2.2.1 hF
  have hB1 := hn_Ba_q q2 hB
  have fr : ∀ k, k < 72 → μ2 k = μ1 k := fun k hk => d2.1 k (by omega) (by omega) (by omega)
  refine ⟨μ1, μ2, hB1, hn_Ba_q (ld_fr_q d2) hB1, Or.inr ⟨by rw [fr 0 (by decide)]; exact q3, sS_c ⟨by rw [fr 46 (by decide)], fr 47 (by decide), fr 48 (by decide), fr 51 (by decide), fr 52 (by decide), fr 53 (by decide)⟩ q5⟩, q2, d2, ?_⟩
  rcases q5 with ⟨a0, a1⟩ | ⟨a0, m, M, a1, a2, a3, a4⟩
  · left
    rw [a0] at q4
    rw [q4] at q1
    refine ⟨q1, ?_⟩
    rcases d3 with ⟨_, m, M, b1, _⟩ | ⟨b1, _⟩
    · exact absurd ⟨m, b1.1⟩ a1
    · rw [b1] at d1; exact d1
  · right
    rw [a0] at q4
    rw [q4] at q1
    refine ⟨q1, ?_⟩
    rcases d3 with ⟨b0, m', M', b1, b2, b3⟩ | ⟨_, b1⟩
    · rw [b0] at d1
      refine ⟨d1, m, M, a1, a2, fun s hs => ?_, fun s hs => ?_, a4⟩
      · have x := sp_bd i2.2.2 hD a1.1 s hs
        have y := sp_bd i2.2.2 hD a2.1 s hs
        exact ⟨x.1, x.2, y.1, y.2⟩
      · rw [(b3 s hs).1, (b3 s hs).2, sp_uniq a1 b1 s hs, sp_uniqL a2 b2 s hs]
        exact ⟨(a3 s hs).1, (a3 s hs).2, rfl, rfl⟩
    · exact absurd ⟨m, a1.1⟩ b1
theorem q_treeF (hB : hn_Ba μ V D S o) (hS : iS μ V D o) (hF : 12000 ≤ F) : ∃ μ1 μ2, qfr μ1 μ2 ∧ hn_Ba μ1 V D S o ∧ hn_Ba μ2 V D S o ∧ iS μ2 V D o ∧ ((fX7_isQuarrel F μ = some (1, μ1) ∧ fX8_layTree F μ1 = some (0, μ2)) ∨ (fX7_isQuarrel F μ = some (0, μ1) ∧ fX8_layTree F μ1 = some (1, μ2) ∧ ∃ m M, qok V D o m M μ1 μ2 ∧ ∀ a, a < vK V → μ2 91 a = te4 (ts V D m M o a))) := by
  obtain ⟨μ1, μ2, b1, b2, b3, b4, b5, b6⟩ := q_days hB hS hF
  rcases b6 with ⟨c1, c2⟩ | ⟨c1, c2, m, M, c3⟩
  · refine ⟨μ1, μ2, ld_fr_q b5, b1, b2, b3, Or.inl ⟨c1, ?_⟩⟩
    unfold fX8_layTree
    rw [c2, Option.bind_some]
    exact if_pos rfl
  · obtain ⟨i1, i2, i3, i4, i5, i6, i7⟩ := b2
    obtain ⟨μ3, t1, t2, t3⟩ := tr_lay (F := F) (o := o) i2.2.2 (iP_D i1) i2.2.1 i1.2.2.2.1 (fun s hs => ⟨(c3.2.2.2.1 s hs).2.2.1, (c3.2.2.2.1 s hs).2.2.2⟩) (fun s hs => ⟨(c3.2.2.1 s hs).1, (c3.2.2.1 s hs).2.1⟩) i4.1 i4.2.2.1 (by omega)
    have fq : qfr μ2 μ3 := ⟨fun k a b c d => t2 k (by omega), fun i _ => by rw [t2 0 (by decide)], fun i _ _ => by rw [t2 72 (by decide)]⟩
    refine ⟨μ1, μ3, qfr_trans (ld_fr_q b5) fq, b1, hn_Ba_q fq ⟨i1, i2, i3, i4, i5, i6, i7⟩, iS_c (by rw [t2 0 (by decide)]) ⟨by rw [t2 46 (by decide)], t2 47 (by decide), t2 48 (by decide), t2 51 (by decide), t2 52 (by decide), t2 53 (by decide)⟩ b3, Or.inr ⟨c1, ?_, m, M, ?_, t3⟩⟩
    · unfold fX8_layTree
      rw [c2, Option.bind_some]
      rw [if_neg (show ¬ (1 : Int32) = 0 by decide)]
      exact t1
    · obtain ⟨d1, d2, d3, d4, d5⟩ := c3
      exact ⟨d1, d2, d3, fun s hs => by rw [t2 89 (by decide), t2 90 (by decide)]; exact d4 s hs, d5⟩
theorem q_tree (hB : hn_Ba μ V D S o) (hS : iS μ V D o) (hF : 12000 ≤ F) : ∃ μ1 μ2, hn_Ba μ1 V D S o ∧ hn_Ba μ2 V D S o ∧ iS μ2 V D o ∧ ((fX7_isQuarrel F μ = some (1, μ1) ∧ fX8_layTree F μ1 = some (0, μ2)) ∨ (fX7_isQuarrel F μ = some (0, μ1) ∧ fX8_layTree F μ1 = some (1, μ2) ∧ ∃ m M, qok V D o m M μ1 μ2 ∧ ∀ a, a < vK V → μ2 91 a = te4 (ts V D m M o a))) := by
  obtain ⟨μ1, μ2, _, h⟩ := q_treeF hB hS hF
  exact ⟨μ1, μ2, h⟩
/-! ranges at calls -/
theorem hn_in8' {x y : Int32} {lo : Int64} {a b : Int} (ha : lo.toInt = a) (hb : y.toInt = b) : fX8_in x.toInt64 lo y.toInt64 = some (hn_bi x a b) := hn_in8 x ha (by rw [Int32.toInt_toInt64]; exact hb)
theorem nI_m1 {n : Nat} (h : n < 2 ^ 31) : (nI n - 1).toInt = (n : Int) - 1 := by
  have := nI_toInt h
  rw [hn_subI (by rw [this]; show _ ≤ (n : Int) - 1; omega) (by rw [this]; show (n : Int) - 1 < _; omega), this]
  rfl
theorem hn_sheet7 (hC : μ 6 0 = nI (vN V)) (hn : vN V ≤ 12) (x : Int32) : fX7_isSheet μ x = some (hn_bi x 0 ((vN V : Int) - 1)) := by
  unfold fX7_isSheet hn_bi
  rw [hC]
  simp only [hn_lt, hn_le, nI_toInt (show vN V < 2 ^ 31 by omega), show (0 : Int32).toInt = 0 from rfl]
  by_cases h1 : x.toInt < 0
  · rw [if_pos h1, if_neg (by omega)]
  · by_cases h2 : (vN V : Int) ≤ x.toInt
    · rw [if_neg h1, if_pos h2, if_neg (by omega)]
    · rw [if_neg h1, if_neg h2, if_pos (by omega)]
theorem hn_say7 (hC : μ 6 7 = nI (vK V)) (hn : vK V ≤ 30) (x : Int32) : fX7_isSaying μ x = some (hn_bi x 0 ((vK V : Int) - 1)) := by
  unfold fX7_isSaying hn_bi
  rw [hC]
  simp only [hn_lt, hn_le, nI_toInt (show vK V < 2 ^ 31 by omega), show (0 : Int32).toInt = 0 from rfl]
  by_cases h1 : x.toInt < 0
  · rw [if_pos h1, if_neg (by omega)]
  · by_cases h2 : (vK V : Int) ≤ x.toInt
    · rw [if_neg h1, if_pos h2, if_neg (by omega)]
    · rw [if_neg h1, if_neg h2, if_pos (by omega)]
theorem hn_sheet8 (hM : μ 76 0 = nI (vN V)) (hn : vN V ≤ 12) (x : Int32) : fX8_isSheet μ x = some (hn_bi x 0 ((vN V : Int) - 1)) := by
  unfold fX8_isSheet
  rw [hn_rd_0 (by decide) (by decide), hM, hn_in8' (a := 0) rfl (nI_m1 (by omega)), Option.bind_some, hn_bi_bo]
theorem hn_say8 (hM : μ 80 0 = nI (vK V)) (hn : vK V ≤ 30) (x : Int32) : fX8_isSaying μ x = some (hn_bi x 0 ((vK V : Int) - 1)) := by
  unfold fX8_isSaying
  rw [hn_rd_0 (by decide) (by decide), hM, hn_in8' (a := 0) rfl (nI_m1 (by omega)), Option.bind_some, hn_bi_bo]
theorem hn_ix {x : Int32} {n : Nat} (h : 0 ≤ x.toInt ∧ x.toInt ≤ (n : Int) - 1) : ∃ j, j < n ∧ x = nI j := by
  obtain ⟨j, hj, he⟩ := hn_nat h.1
  exact ⟨j, by omega, hj⟩
end inv
