/-! quarrel, banned, belief -/
def it_fs (P : Nat → Prop) [DecidablePred P] : Nat → Nat → Option Nat
  | 0, _ => none
  | d + 1, j => if P j then some j else it_fs P d (j + 1)
abbrev it_dis (It : hn_It) (i j : Nat) : Prop := ¬ (It i).1 = 5 ∧ (It i).1 = (It j).1 ∧ (It i).2.1 = (It j).2.1 ∧ (It i).2.2.2.1 = (It j).2.2.2.1 ∧ ¬ (It i).2.2.1 = (It j).2.2.1
section be
variable {μ ν : hn_M} {V : hn_Vw} {D S : Nat → Nat → Int} {o F t n : Nat} {It : hn_It}
theorem qu_dis (hr : repI μ t n It) (ok : okI n It) {i j : Nat} (hi : i < n) (hj : j < n) : fX0_disagree t μ (nI i) (nI j) = some (if it_dis It i j then 1 else 0) := by
  have on := ok.1
  have ri := hr.2 i hi
  have rj := hr.2 j hj
  have oi := ok.2 i hi
  have oj := ok.2 j hj
  unfold fX0_disagree
  rw [hn_rd_at (by omega) (by decide), ri.1, hn_rd_at (by omega) (by decide), hn_rd_at (by omega) (by decide), ri.1, rj.1, hn_rd_at (by omega) (by decide), hn_rd_at (by omega) (by decide), ri.2.1, rj.2.1, hn_rd_at (by omega) (by decide), hn_rd_at (by omega) (by decide), ri.2.2.2.1, rj.2.2.2.1, hn_rd_at (by omega) (by decide), hn_rd_at (by omega) (by decide), ri.2.2.1, rj.2.2.1]
  by_cases c0 : (It i).1 = 5
  · rw [if_pos (by rw [c0]; rfl), if_neg (fun z => z.1 c0)]
  rw [if_neg (by rw [show (5 : Int32) = nI 5 from rfl, nI_eq (by omega) (by decide)]; exact c0)]
  by_cases c1 : (It i).1 = (It j).1
  rotate_left 1
  · rw [if_neg (by rw [nI_eq (by omega) (by omega)]; exact c1), if_neg (fun z => c1 z.2.1)]
  rw [if_pos (by rw [c1])]
  by_cases c2 : (It i).2.1 = (It j).2.1
  rotate_left 1
  · rw [if_neg (by rw [nI_eq (by omega) (by omega)]; exact c2), if_neg (fun z => c2 z.2.2.1)]
  rw [if_pos (by rw [c2])]
  by_cases c3 : (It i).2.2.2.1 = (It j).2.2.2.1
  rotate_left 1
  · rw [if_neg (by rw [nI_eq (by omega) (by omega)]; exact c3), if_neg (fun z => c3 z.2.2.2.1)]
  rw [if_pos (by rw [c3])]
  by_cases c4 : (It i).2.2.1 = (It j).2.2.1
  · rw [if_pos (by rw [c4]), if_neg (fun z => z.2.2.2.2 c4)]
  · rw [if_neg (by rw [nI_eq (by omega) (by omega)]; exact c4), if_pos ⟨c0, c1, c2, c3, c4⟩]
/-- what the inner loop answers -/
def qu_ans (k2 : Int32 → Option Int32) (i : Nat) : Option Nat → Option Int32
  | none => k2 (nI (i + 1))
  | some j => some (100 * nI i + nI j)
theorem qu_in7 (hr : repI μ t n It) (ok : okI n It) (k2 : Int32 → Option Int32) {i : Nat} (hi : i < n) : ∀ d j fu, j + d = n → d < fu → fX0_firstQuarrel_14 F t μ k2 fu (nI i) (nI j) = qu_ans k2 i (it_fs (it_dis It i) d j) := by
  have on := ok.1
  intro d
  induction d with
  | zero =>
    intro j fu hj hf
    obtain ⟨fu, rfl⟩ : ∃ n', fu = n' + 1 := ⟨fu - 1, by omega⟩
    rw [fX0_firstQuarrel_14, hr.1, if_pos (by rw [hn_leN (by omega) (by omega)]; omega)]
    unfold fX0_firstQuarrel_44
    rw [nI_1]
    rfl
  | succ d ih =>
    intro j fu hj hf
    obtain ⟨fu, rfl⟩ : ∃ n', fu = n' + 1 := ⟨fu - 1, by omega⟩
    rw [fX0_firstQuarrel_14, hr.1, if_neg (by rw [hn_leN (by omega) (by omega)]; omega), qu_dis hr ok hi (by omega), Option.bind_some, nI_1]
    simp only [it_fs]
    by_cases h : it_dis It i j
    · rw [if_pos h, if_pos h, if_neg (show ¬ (1 : Int32) = 0 by decide)]
      rfl
    · rw [if_neg h, if_neg h, if_pos (show (0 : Int32) = 0 from rfl)]
      exact ih (j + 1) fu (by omega) (by omega)
theorem rj_n2 {α : Type} (hr : repJ μ 1 n It) {K : Int32 → Option α} : hn_rd μ 85 2 1 K = K (nI n) := by
  rw [show (1 : Int32) = nI 1 from rfl, hn_rd_at (by decide) (by decide), hr.1]
theorem qu_in8 (hr : repJ μ 1 n It) (ok : okI n It) (k2 : Int32 → Option Int32) {i : Nat} (hi : i < n) : ∀ d j fu, j + d = n → d < fu → fX8_quarrel_16 F μ k2 fu (nI i) (nI j) = qu_ans k2 i (it_fs (it_dis It i) d j) := by
  have on := ok.1
  intro d
  induction d with
  | zero =>
    intro j fu hj hf
    obtain ⟨fu, rfl⟩ : ∃ n', fu = n' + 1 := ⟨fu - 1, by omega⟩
    rw [fX8_quarrel_16, rj_n2 hr, if_pos (by rw [hn_leN (by omega) (by omega)]; omega)]
    unfold fX8_quarrel_155
    rw [nI_1]
    rfl
  | succ d ih =>
    intro j fu hj hf
    obtain ⟨fu, rfl⟩ : ∃ n', fu = n' + 1 := ⟨fu - 1, by omega⟩
    have hjn : j < n := by omega
    have ri := rj_i hr hi
    have rj := rj_i hr hjn
    have oi := ok.2 i hi
    have oj := ok.2 j hjn
    have lb := hn_lett_b (It i).1
    have lb2 := hn_lett_b (It j).1
    have ih := ih (j + 1) fu (by omega) (by omega)
    rw [fX8_quarrel_16, rj_n2 hr, if_neg (by rw [hn_leN (by omega) (by omega)]; omega), hn_ix5 i, hn_ix5 j, hn_200, hn_200]
    unfold fX8_quarrel_114 fX8_quarrel_115 fX8_quarrel_149 fX8_quarrel_142
    rw [nI_1 j, ih, hn_p1, hn_p1, hn_p2, hn_p2, hn_p3, hn_p3, hn_rd_at (by omega) (by decide), ri.1, if_pos (show (0 : Int32) = 0 from rfl), if_neg (show ¬ (1 : Int32) = 0 by decide), hn_rd_at (by omega) (by decide), hn_rd_at (by omega) (by decide), ri.1, rj.1, hn_rd_at (by omega) (by decide), hn_rd_at (by omega) (by decide), ri.2.1, rj.2.1, hn_rd_at (by omega) (by decide), hn_rd_at (by omega) (by decide), ri.2.2.2.1, rj.2.2.2.1, hn_rd_at (by omega) (by decide), hn_rd_at (by omega) (by decide), ri.2.2.1, rj.2.2.1]
    simp only [it_fs]
    by_cases c0 : (It i).1 = 5
    · rw [if_pos (by rw [c0]; rfl), if_neg (show ¬ it_dis It i j from fun z => z.1 c0)]
    rw [if_neg (by rw [show (110 : Int32) = nI (hn_lett 5) from rfl, nI_eq (by omega) (by decide), hn_lett_inj oi.1 (by decide)]; exact c0)]
    by_cases c1 : (It i).1 = (It j).1
    rotate_left 1
    · rw [if_neg (by rw [nI_eq (by omega) (by omega), hn_lett_inj oi.1 oj.1]; exact c1), if_neg (show ¬ it_dis It i j from fun z => c1 z.2.1)]
    rw [if_pos (by rw [c1])]
    by_cases c2 : (It i).2.1 = (It j).2.1
    rotate_left 1
    · rw [if_neg (by rw [nI_eq (by omega) (by omega)]; exact c2), if_neg (show ¬ it_dis It i j from fun z => c2 z.2.2.1)]
    rw [if_pos (by rw [c2])]
    by_cases c3 : (It i).2.2.2.1 = (It j).2.2.2.1
    rotate_left 1
    · rw [if_neg (by rw [nI_eq (by omega) (by omega)]; exact c3), if_neg (show ¬ it_dis It i j from fun z => c3 z.2.2.2.1)]
    rw [if_pos (by rw [c3])]
    by_cases c4 : (It i).2.2.1 = (It j).2.2.1
    · rw [if_pos (by rw [c4]), if_neg (show ¬ it_dis It i j from fun z => z.2.2.2.2 c4)]
    · rw [if_neg (by rw [nI_eq (by omega) (by omega)]; exact c4), if_pos (show it_dis It i j from ⟨c0, c1, c2, c3, c4⟩)]
      rfl
theorem c_quarrel (hF : 12000 ≤ F) : hn_cP (fun μ => fX7_quarrel F μ) (fun μ => fX8_quarrel F μ) := by
  intro μ ⟨V, D, S, o, hB, hS⟩
  obtain ⟨t, u, n, It, t0, t1, t2, t3, t4, t5⟩ := hB.2.2.2.2.2.1
  have on := t5.1
  show ∃ r, fX7_quarrel F μ = some r ∧ fX8_quarrel F μ = some r
  unfold fX7_quarrel
  rw [t1, hn_itk (t0.imp (fun z => z.1) (fun z => z.1))]
  obtain ⟨a, b, e1, e2, e3⟩ := hn_two (fun fu j (_ : Unit) => fX0_firstQuarrel_2 F t μ fu (nI j)) (fun fu j (_ : Unit) => fX8_quarrel_2 F μ fu (nI j)) (fun a b => a = b) n
    (fun p q _ => ⟨-4, -4, by
      show fX0_firstQuarrel_2 F t μ (p + 1) (nI n) = _
      rw [fX0_firstQuarrel_2, t3.1, if_pos (by rw [hn_leN (by omega) (by omega)]; exact Nat.le_refl _)], by
      show fX8_quarrel_2 F μ (q + 1) (nI n) = _
      rw [fX8_quarrel_2, rj_n2 t4, if_pos (by rw [hn_leN (by omega) (by omega)]; exact Nat.le_refl _)], rfl⟩)
    (fun j _ hj => by
      have s7 : ∀ p, fX0_firstQuarrel_2 F t μ (p + 1) (nI j) = qu_ans (fX0_firstQuarrel_2 F t μ p) j (it_fs (it_dis It j) (n - (j + 1)) (j + 1)) := fun p => by
        rw [fX0_firstQuarrel_2, t3.1, if_neg (by rw [hn_leN (by omega) (by omega)]; omega), nI_1, qu_in7 t3 t5 _ hj (n - (j + 1)) (j + 1) F (by omega) (by omega)]
      have s8 : ∀ p, fX8_quarrel_2 F μ (p + 1) (nI j) = qu_ans (fX8_quarrel_2 F μ p) j (it_fs (it_dis It j) (n - (j + 1)) (j + 1)) := fun p => by
        rw [fX8_quarrel_2, rj_n2 t4, if_neg (by rw [hn_leN (by omega) (by omega)]; omega), nI_1, qu_in8 t4 t5 _ hj (n - (j + 1)) (j + 1) F (by omega) (by omega)]
      show (∀ p q, ∃ a b, fX0_firstQuarrel_2 F t μ (p + 1) (nI j) = some a ∧ fX8_quarrel_2 F μ (q + 1) (nI j) = some b ∧ a = b) ∨ (∃ s' : Unit, (∀ p, fX0_firstQuarrel_2 F t μ (p + 1) (nI j) = fX0_firstQuarrel_2 F t μ p (nI (j + 1))) ∧ ∀ q, fX8_quarrel_2 F μ (q + 1) (nI j) = fX8_quarrel_2 F μ q (nI (j + 1)))
      cases h : it_fs (it_dis It j) (n - (j + 1)) (j + 1) with
      | none => exact Or.inr ⟨(), fun p => by rw [s7, h]; rfl, fun p => by rw [s8, h]; rfl⟩
      | some j' => exact Or.inl (fun p q => ⟨100 * nI j + nI j', 100 * nI j + nI j', by rw [s7, h]; rfl, by rw [s8, h]; rfl, rfl⟩))
    n 0 F F () (by omega) (by omega) (by omega)
  have e1 : fX0_firstQuarrel F t μ = some a := e1
  have e2 : fX8_quarrel F μ = some b := e2
  rw [e1, e2, e3]
  exact ⟨b, rfl, rfl⟩
/-- an item that forbids a thing there, over days -/
abbrev it_bn (It : hn_It) (a th : Nat) (f l : Int) (i : Nat) : Prop := (It i).1 = 5 ∧ (It i).2.1 = a ∧ (It i).2.2.1 = th ∧ ((It i).2.2.2.1 : Int) ≤ l ∧ f ≤ ((It i).2.2.2.2 : Int)
theorem bn_class (hr : repI μ t n It) (ok : okI n It) {a th : Nat} (ha : a < 6) (hth : th < 10) {lf ll : Int32} : ∀ d j fu, j + d = n → d < fu → (∀ i, i < j → ¬ it_bn It a th lf.toInt ll.toInt i) → ∃ v, fX0_forbids_3 F t μ fu (nI a) (nI th) lf ll (nI j) = some v ∧ ((v = 1 ∧ ∃ i, i < n ∧ it_bn It a th lf.toInt ll.toInt i) ∨ (v = 0 ∧ ¬ ∃ i, i < n ∧ it_bn It a th lf.toInt ll.toInt i)) := by
  have on := ok.1
  intro d
  induction d with
  | zero =>
    intro j fu hj hf hno
    obtain ⟨fu, rfl⟩ : ∃ n', fu = n' + 1 := ⟨fu - 1, by omega⟩
    refine ⟨0, ?_, Or.inr ⟨rfl, fun ⟨i, hi, hb⟩ => hno i (by omega) hb⟩⟩
    rw [fX0_forbids_3, hr.1, if_pos (by rw [hn_leN (by omega) (by omega)]; omega)]
  | succ d ih =>
    intro j fu hj hf hno
    obtain ⟨fu, rfl⟩ : ∃ n', fu = n' + 1 := ⟨fu - 1, by omega⟩
    have hjn : j < n := by omega
    have r := hr.2 j hjn
    have oo := ok.2 j hjn
    have next : ¬ it_bn It a th lf.toInt ll.toInt j → ∃ v, fX0_forbids_3 F t μ fu (nI a) (nI th) lf ll (nI (j + 1)) = some v ∧ ((v = 1 ∧ ∃ i, i < n ∧ it_bn It a th lf.toInt ll.toInt i) ∨ (v = 0 ∧ ¬ ∃ i, i < n ∧ it_bn It a th lf.toInt ll.toInt i)) := fun hz => ih (j + 1) fu (by omega) (by omega) (fun i hi => by
      by_cases hij : i = j
      · rw [hij]; exact hz
      · exact hno i (by omega))
    rw [fX0_forbids_3, hr.1, if_neg (by rw [hn_leN (by omega) (by omega)]; omega), hn_rd_at (by omega) (by decide), r.1, hn_rd_at (by omega) (by decide), r.2.1, hn_rd_at (by omega) (by decide), r.2.2.1, hn_rd_at (by omega) (by decide), r.2.2.2.1, hn_rd_at (by omega) (by decide), r.2.2.2.2]
    unfold fX0_forbids_70
    rw [nI_1]
    by_cases c0 : (It j).1 = 5
    rotate_left 1
    · rw [if_neg (by rw [show (5 : Int32) = nI 5 from rfl, nI_eq (by omega) (by decide)]; exact c0)]
      exact next (fun z => c0 z.1)
    rw [if_pos (by rw [c0]; rfl)]
    by_cases c1 : (It j).2.1 = a
    rotate_left 1
    · rw [if_neg (by rw [nI_eq (by omega) (by omega)]; exact c1)]
      exact next (fun z => c1 z.2.1)
    rw [if_pos (by rw [c1])]
    by_cases c2 : (It j).2.2.1 = th
    rotate_left 1
    · rw [if_neg (by rw [nI_eq (by omega) (by omega)]; exact c2)]
      exact next (fun z => c2 z.2.2.1)
    rw [if_pos (by rw [c2])]
    by_cases c3 : ((It j).2.2.2.1 : Int) ≤ ll.toInt
    rotate_left 1
    · rw [if_pos (by rw [hn_lt, nI_toInt (by omega)]; omega)]
      exact next (fun z => c3 z.2.2.2.1)
    rw [if_neg (by rw [hn_lt, nI_toInt (by omega)]; omega)]
    by_cases c4 : lf.toInt ≤ ((It j).2.2.2.2 : Int)
    rotate_left 1
    · rw [if_pos (by rw [hn_lt, nI_toInt (by omega)]; omega)]
      exact next (fun z => c4 z.2.2.2.2)
    rw [if_neg (by rw [hn_lt, nI_toInt (by omega)]; omega)]
    exact ⟨1, rfl, Or.inl ⟨rfl, j, hjn, c0, c1, c2, c3, c4⟩⟩
theorem bn_model (hB : hn_Ba μ V D S o) (hr : repJ μ 1 n It) (ok : okI n It) (hF : 12000 ≤ F) {s : Nat} (hs : s < vK V) : ∃ v, fX8_isBanned F μ (nI s) = some v ∧ ((v = 1 ∧ ∃ i, i < n ∧ it_bn It (vS V (vY V s).1).1 (vY V s).2.1 (μ 89 (vY V s).1).toInt (μ 90 (vY V s).1).toInt i) ∨ (v = 0 ∧ ¬ ∃ i, i < n ∧ it_bn It (vS V (vY V s).1).1 (vY V s).2.1 (μ 89 (vY V s).1).toInt (μ 90 (vY V s).1).toInt i)) := by
  have on := ok.1
  have hV := hB.2.1.2.2
  have hn := hV.1
  have oy := hV.2.2.2.1 s hs
  have os := hV.2.1 _ oy.1
  have ry := rm_y hB.2.1.2.1 hs
  have rs := rm_s hB.2.1.2.1 oy.1
  obtain ⟨v, h1, h2⟩ := hn_loopE (fun fu j a => fX8_isBanned_15 F μ fu (nI s) (nI (vY V s).1) a (nI j)) n (fun a => hn_bo a (some a)) (fun j a => (a = 1 ∧ ∃ i, i < n ∧ it_bn It (vS V (vY V s).1).1 (vY V s).2.1 (μ 89 (vY V s).1).toInt (μ 90 (vY V s).1).toInt i) ∨ (a = 0 ∧ ∀ i, i < j → ¬ it_bn It (vS V (vY V s).1).1 (vY V s).2.1 (μ 89 (vY V s).1).toInt (μ 90 (vY V s).1).toInt i))
    (fun fu a _ => by
      show fX8_isBanned_15 F μ (fu + 1) _ _ a (nI n) = _
      rw [fX8_isBanned_15, rj_n2 hr, if_pos (by rw [hn_leN (by omega) (by omega)]; exact Nat.le_refl _)])
    (fun fu j a hj hi => by
      show ∃ a', fX8_isBanned_15 F μ (fu + 1) _ _ a (nI j) = fX8_isBanned_15 F μ fu _ _ a' (nI (j + 1)) ∧ _
      have r := rj_i hr hj
      have oo := ok.2 j hj
      have lb := hn_lett_b (It j).1
      rw [fX8_isBanned_15, rj_n2 hr, if_neg (by rw [hn_leN (by omega) (by omega)]; omega), hn_ix5, hn_200, hn_p1, hn_p2, hn_rd_at (by omega) (by decide), r.1, hn_rd_at (by omega) (by decide), r.2.1, hn_ix3, hn_rd_at (by omega) (by decide), rs.1, hn_rd_at (by omega) (by decide), r.2.2.1, hn_ix6m, hn_p1, hn_rd_at (by omega) (by decide), ry.2.1]
      unfold fX8_isBanned_95 fX8_isBanned_96 fX8_isBanned_143 fX8_isBanned_147 fX8_isBanned_148
      rw [nI_1, hn_p3, hn_p4, hn_rd_at (by omega) (by decide), r.2.2.2.1, hn_rd_at (by omega) (by decide), hn_rd_at (by omega) (by decide), r.2.2.2.2, hn_rd_at (by omega) (by decide)]
      rcases hi with ⟨rfl, hi⟩ | ⟨rfl, hi⟩
      · refine ⟨1, ?_, Or.inl ⟨rfl, hi⟩⟩
        simp only [if_neg (show ¬ (1 : Int32) = 0 by decide)]
        by_cases c0 : nI (hn_lett (It j).1) = 110
        · rw [if_pos c0]
          by_cases c1 : nI (It j).2.1 = nI (vS V (vY V s).1).1
          · rw [if_pos c1]
            by_cases c2 : nI (It j).2.2.1 = nI (vY V s).2.1
            · rw [if_pos c2]
            · rw [if_neg c2]
          · rw [if_neg c1]
        · rw [if_neg c0]
      · simp only [if_true, if_neg (show ¬ (1 : Int32) = 0 by decide)]
        have next : ¬ it_bn It (vS V (vY V s).1).1 (vY V s).2.1 (μ 89 (vY V s).1).toInt (μ 90 (vY V s).1).toInt j → ∃ a', fX8_isBanned_15 F μ fu (nI s) (nI (vY V s).1) 0 (nI (j + 1)) = fX8_isBanned_15 F μ fu (nI s) (nI (vY V s).1) a' (nI (j + 1)) ∧ ((a' = 1 ∧ ∃ i, i < n ∧ it_bn It (vS V (vY V s).1).1 (vY V s).2.1 (μ 89 (vY V s).1).toInt (μ 90 (vY V s).1).toInt i) ∨ (a' = 0 ∧ ∀ i, i < j + 1 → ¬ it_bn It (vS V (vY V s).1).1 (vY V s).2.1 (μ 89 (vY V s).1).toInt (μ 90 (vY V s).1).toInt i)) := fun hz => ⟨0, rfl, Or.inr ⟨rfl, fun i hi2 => by
          by_cases hij : i = j
          · rw [hij]; exact hz
          · exact hi i (by omega)⟩⟩
        by_cases c0 : (It j).1 = 5
        rotate_left 1
        · rw [if_neg (by rw [show (110 : Int32) = nI (hn_lett 5) from rfl, nI_eq (by omega) (by decide), hn_lett_inj oo.1 (by decide)]; exact c0)]
          exact next (fun z => c0 z.1)
        rw [if_pos (by rw [c0]; rfl)]
        by_cases c1 : (It j).2.1 = (vS V (vY V s).1).1
        rotate_left 1
        · rw [if_neg (by rw [nI_eq (by omega) (by omega)]; exact c1)]
          exact next (fun z => c1 z.2.1)
        rw [if_pos (by rw [c1])]
        by_cases c2 : (It j).2.2.1 = (vY V s).2.1
        rotate_left 1
        · rw [if_neg (by rw [nI_eq (by omega) (by omega)]; exact c2)]
          exact next (fun z => c2 z.2.2.1)
        rw [if_pos (by rw [c2])]
        by_cases c3 : ((It j).2.2.2.1 : Int) ≤ (μ 90 (vY V s).1).toInt
        rotate_left 1
        · rw [if_pos (by rw [hn_lt, nI_toInt (by omega)]; omega)]
          exact next (fun z => c3 z.2.2.2.1)
        rw [if_neg (by rw [hn_lt, nI_toInt (by omega)]; omega)]
        by_cases c4 : (μ 89 (vY V s).1).toInt ≤ ((It j).2.2.2.2 : Int)
        rotate_left 1
        · rw [if_pos (by rw [hn_lt, nI_toInt (by omega)]; omega)]
          exact next (fun z => c4 z.2.2.2.2)
        rw [if_neg (by rw [hn_lt, nI_toInt (by omega)]; omega)]
        exact ⟨1, rfl, Or.inl ⟨rfl, j, hj, c0, c1, c2, c3, c4⟩⟩)
    n 0 F 0 (by omega) (by omega) (Or.inr ⟨rfl, fun i hi => by omega⟩)
  refine ⟨v, ?_, h2.imp id (fun z => ⟨z.1, fun ⟨i, hi, hb⟩ => z.2 i hi hb⟩)⟩
  unfold fX8_isBanned
  rw [hn_ix6m, hn_rd_at (by omega) (by decide), ry.1]
  have h1 : fX8_isBanned_15 F μ F (nI s) (nI (vY V s).1) 0 0 = hn_bo v (some v) := h1
  rw [h1]
  unfold hn_bo
  rw [if_pos (h2.elim (fun z => Or.inr z.1) (fun z => Or.inl z.1))]
theorem c_banned (hF : 12000 ≤ F) (x : Int32) : hn_cM (fun μ => fX7_banned F x μ) (fun μ => fX8_banned F x μ) := by
  intro μ ⟨V, D, S, o, hB, hS⟩
  have hI : hn_Inv μ := ⟨V, D, S, o, hB, hS⟩
  have hn := hn_bN hB
  show ∃ r μ1 μ2, fX7_banned F x μ = some (r, μ1) ∧ fX8_banned F x μ1 = some (r, μ2) ∧ _
  unfold fX7_banned fX8_banned
  by_cases hx : -1 ≤ x
  rotate_left 1
  · exact ⟨-1, μ, μ, by rw [if_neg hx], by rw [if_neg hx], hI⟩
  rw [if_pos hx]
  obtain ⟨μ1, μ2, b1, b2, b3, b4, b5, b6⟩ := q_days hB hS hF
  have hI2 : hn_Inv μ2 := ⟨V, D, S, o, b2, b3⟩
  have hV := hB.2.1.2.2
  rcases b6 with ⟨e1, e2⟩ | ⟨e1, e2, m, M, q⟩
  · exact ⟨-2, μ1, μ2, by rw [e1]; rfl, by rw [if_pos hx, e2]; rfl, hI2⟩
  obtain ⟨t, u, n, It, t0, t1, t2, t3, t4, t5⟩ := b1.2.2.2.2.2.1
  have t4' : repJ μ2 1 n It := by unfold repJ; rw [b5.1 85 (by decide) (by decide) (by decide), b5.1 86 (by decide) (by decide) (by decide)]; exact t4
  -- each saying is banned here as there
  have same : ∀ s, s < vK V → ∃ v, fX7_isForbidden F μ1 (nI s) = some v ∧ fX8_isBanned F μ2 (nI s) = some v := by
    intro s hs
    have oy := hV.2.2.2.1 s hs
    have os := hV.2.1 _ oy.1
    have cy := b1.2.1.1.2.2.2.1 s hs
    have on := t5.1
    have qs := q.2.2.2.1 _ oy.1
    obtain ⟨v, f1, f2⟩ := bn_class (F := F) t3 t5 os.1 oy.2.1 (lf := μ1 47 (vY V s).1) (ll := μ1 48 (vY V s).1) n 0 F (by omega) (by omega) (fun i hi => by omega)
    obtain ⟨w, g1, g2⟩ := bn_model b2 t4' t5 hF hs
    have f1 : fX0_forbids F t μ1 (nI (vS V (vY V s).1).1) (nI (vY V s).2.1) (μ1 47 (vY V s).1) (μ1 48 (vY V s).1) = some v := f1
    have vw : w = v := by
      rw [qs.2.2.1, qs.2.2.2, ← qs.1, ← qs.2.1] at g2
      rcases f2 with ⟨a1, a2⟩ | ⟨a1, a2⟩
      · rcases g2 with ⟨c1, c2⟩ | ⟨c1, c2⟩
        · rw [a1, c1]
        · exact absurd a2 c2
      · rcases g2 with ⟨c1, c2⟩ | ⟨c1, c2⟩
        · exact absurd c2 a2
        · rw [a1, c1]
    refine ⟨v, ?_, by rw [g1, vw]⟩
    unfold fX7_isForbidden
    rw [hn_rd_at (by omega) (by decide), show μ1 12 s = _ from cy.1, t1, hn_itk (t0.imp (fun z => z.1) (fun z => z.1)), hn_rd_at (by omega) (by decide), show μ1 7 _ = _ from (b1.2.1.1.2.1 _ oy.1).1, hn_rd_at (by omega) (by decide), show μ1 13 s = _ from cy.2.1, hn_rd_at (by omega) (by decide), hn_rd_at (by omega) (by decide), f1, Option.bind_some]
    unfold hn_bo
    rw [if_pos (f2.elim (fun z => Or.inr z.1) (fun z => Or.inl z.1))]
  obtain ⟨a, b, f1, f2, f3⟩ := hn_two (fun fu j s => fX7_banned_21 F fu x s (nI j) μ1) (fun fu j s => fX8_banned_21 F fu x s (nI j) μ2) (fun a b => a.1 = b.1 ∧ a.2 = μ1 ∧ b.2 = μ2) (vK V)
    (fun p k s => by
      have z1 : (-1 : Int32).toInt = -1 := rfl
      have hx' := hx
      rw [hn_le, z1] at hx'
      show ∃ a b, fX7_banned_21 F (p + 1) x s (nI (vK V)) μ1 = some a ∧ fX8_banned_21 F (k + 1) x s (nI (vK V)) μ2 = some b ∧ _
      rw [fX7_banned_21, hn_cK7 b1, if_pos (by rw [hn_leN (by omega) (by omega)]; exact Nat.le_refl _), fX8_banned_21, hn_rd_0 (by decide) (by decide), hn_cK8 b2, if_pos (by rw [hn_leN (by omega) (by omega)]; exact Nat.le_refl _)]
      unfold fX7_banned_59 fX8_banned_55
      by_cases hm : x = -1
      · rw [if_pos hm, if_neg (by rw [hm]; decide)]
        exact ⟨(s, μ1), (s, μ2), rfl, rfl, rfl, rfl, rfl⟩
      · have : ¬ x.toInt = -1 := fun z => hm (hn_eq_i.mpr (by rw [z]; rfl))
        rw [if_neg hm, if_pos (by rw [hn_le]; show (0 : Int) ≤ _; omega)]
        exact ⟨(-4, μ1), (-4, μ2), rfl, rfl, rfl, rfl, rfl⟩)
    (fun j s hj => by
      obtain ⟨v, v1, v2⟩ := same j hj
      have s7 : ∀ p, fX7_banned_21 F (p + 1) x s (nI j) μ1 = if v = 0 then fX7_banned_21 F p x s (nI (j + 1)) μ1 else if s = x then some (nI j, μ1) else fX7_banned_21 F p x (s + 1) (nI (j + 1)) μ1 := fun p => by
        rw [fX7_banned_21, hn_cK7 b1, if_neg (by rw [hn_leN (by omega) (by omega)]; omega), v1, Option.bind_some]
        unfold fX7_banned_53
        rw [nI_1]
      have s8 : ∀ p, fX8_banned_21 F (p + 1) x s (nI j) μ2 = if v = 0 then fX8_banned_21 F p x s (nI (j + 1)) μ2 else if s = x then some (nI j, μ2) else fX8_banned_21 F p x (s + 1) (nI (j + 1)) μ2 := fun p => by
        rw [fX8_banned_21, hn_rd_0 (by decide) (by decide), hn_cK8 b2, if_neg (by rw [hn_leN (by omega) (by omega)]; omega), v2, Option.bind_some]
        unfold fX8_banned_49
        rw [nI_1]
      show (∀ p k, ∃ a b, fX7_banned_21 F (p + 1) x s (nI j) μ1 = some a ∧ fX8_banned_21 F (k + 1) x s (nI j) μ2 = some b ∧ (a.1 = b.1 ∧ a.2 = μ1 ∧ b.2 = μ2)) ∨ (∃ s', (∀ p, fX7_banned_21 F (p + 1) x s (nI j) μ1 = fX7_banned_21 F p x s' (nI (j + 1)) μ1) ∧ ∀ k, fX8_banned_21 F (k + 1) x s (nI j) μ2 = fX8_banned_21 F k x s' (nI (j + 1)) μ2)
      by_cases hv : v = 0
      · exact Or.inr ⟨s, fun p => by rw [s7, if_pos hv], fun p => by rw [s8, if_pos hv]⟩
      · by_cases hs : s = x
        · exact Or.inl (fun p k => ⟨(nI j, μ1), (nI j, μ2), by rw [s7, if_neg hv, if_pos hs], by rw [s8, if_neg hv, if_pos hs], rfl, rfl, rfl⟩)
        · exact Or.inr ⟨s + 1, fun p => by rw [s7, if_neg hv, if_neg hs], fun p => by rw [s8, if_neg hv, if_neg hs]⟩)
    (vK V) 0 F F 0 (by omega) (by omega) (by omega)
  obtain ⟨a1, a2⟩ := a
  obtain ⟨c1, c2⟩ := b
  obtain ⟨g1, g2, g3⟩ := f3
  have g1 : a1 = c1 := g1
  have g2 : a2 = μ1 := g2
  have g3 : c2 = μ2 := g3
  subst g1 g2 g3
  exact ⟨a1, a2, c2, by rw [e1, Option.bind_some]; exact f1, by rw [if_pos hx, e2, Option.bind_some]; exact f2, hI2⟩
end be
