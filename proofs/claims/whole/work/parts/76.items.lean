/-! items in force: holding, amountOn; why, rule, quarrel -/
theorem hn_two {σ α β : Type} (f : Nat → Nat → σ → Option α) (g : Nat → Nat → σ → Option β) (R : α → β → Prop) (N : Nat)
    (hend : ∀ n k s, ∃ a b, f (n + 1) N s = some a ∧ g (k + 1) N s = some b ∧ R a b)
    (hstep : ∀ j s, j < N → (∀ n k, ∃ a b, f (n + 1) j s = some a ∧ g (k + 1) j s = some b ∧ R a b) ∨ (∃ s', (∀ n, f (n + 1) j s = f n (j + 1) s') ∧ ∀ k, g (k + 1) j s = g k (j + 1) s')) :
    ∀ d j n k s, j + d = N → d < n → d < k → ∃ a b, f n j s = some a ∧ g k j s = some b ∧ R a b := by
  intro d
  induction d with
  | zero =>
    intro j n k s hj hn hk
    obtain ⟨n, rfl⟩ : ∃ n', n = n' + 1 := ⟨n - 1, by omega⟩
    obtain ⟨k, rfl⟩ : ∃ k', k = k' + 1 := ⟨k - 1, by omega⟩
    have : j = N := by omega
    subst this
    exact hend n k s
  | succ d ih =>
    intro j n k s hj hn hk
    obtain ⟨n, rfl⟩ : ∃ n', n = n' + 1 := ⟨n - 1, by omega⟩
    obtain ⟨k, rfl⟩ : ∃ k', k = k' + 1 := ⟨k - 1, by omega⟩
    rcases hstep j s (by omega) with h | ⟨s', h1, h2⟩
    · exact h n k
    · rw [h1, h2]
      exact ih (j + 1) n k s' (by omega) (by omega) (by omega)
theorem hn_lett_inj {a b : Nat} (ha : a < 6) (hb : b < 6) : hn_lett a = hn_lett b ↔ a = b := by
  have : ∀ a b : Fin 6, (hn_lett a.val = hn_lett b.val ↔ a.val = b.val) := by decide
  exact this ⟨a, ha⟩ ⟨b, hb⟩
theorem hn_lett_b (k : Nat) : hn_lett k < 200 := by
  unfold hn_lett
  by_cases h0 : k = 0
  · rw [if_pos h0]; omega
  rw [if_neg h0]
  by_cases h1 : k = 1
  · rw [if_pos h1]; omega
  rw [if_neg h1]
  by_cases h2 : k = 2
  · rw [if_pos h2]; omega
  rw [if_neg h2]
  by_cases h3 : k = 3
  · rw [if_pos h3]; omega
  rw [if_neg h3]
  by_cases h4 : k = 4
  · rw [if_pos h4]; omega
  rw [if_neg h4]; omega
def it_wy (P : Nat → Prop) [DecidablePred P] : Nat → Option Nat
  | 0 => none
  | k + 1 => if P k then some k else it_wy P k
theorem it_wy_lt (P : Nat → Prop) [DecidablePred P] (k : Nat) : ∀ i, it_wy P k = some i → i < k := by
  induction k with
  | zero => intro i h; cases h
  | succ k ih =>
    intro i
    simp only [it_wy]
    by_cases h : P k
    · rw [if_pos h]; intro z; cases z; omega
    · rw [if_neg h]; intro z; have := ih i z; omega
abbrev it_P (It : hn_It) (what : Nat) (l2 : Int32) (dd i : Nat) : Prop := (It i).1 = what ∧ (2 ≤ what ∨ nI (It i).2.1 = l2) ∧ (It i).2.2.2.1 ≤ dd
def it_df (what : Nat) : Int32 := if what = 0 then 10 else if what = 1 then 0 else if what = 2 then 999 else if what = 3 then 20 else 1
def it_am (It : hn_It) (n what : Nat) (l2 : Int32) (dd : Nat) : Int32 := match it_wy (it_P It what l2 dd) n with
  | none => it_df what
  | some i => nI (It i).2.2.1
section it
variable {μ ν : hn_M} {V : hn_Vw} {D S : Nat → Nat → Int} {o F t n : Nat} {It : hn_It}
theorem hn_m1a (x : Int32) : x + (-1) = x - 1 := (Int32.sub_eq_add_neg x 1).symm
theorem it_hold (hr : repI μ t n It) (ok : okI n It) (hF : 12000 ≤ F) {what dd : Nat} (hw : what ≤ 4) (hd : dd < 1000) (l2 : Int32) : fX0_holding F t μ (nI what) l2 (nI dd) = some (te4 (it_wy (it_P It what l2 dd) n)) := by
  -- whose it must be
  have key : ∀ (s0 : Int32), (∀ i, i < n → (It i).1 = what → (nI (It i).2.1 = s0 ↔ (2 ≤ what ∨ nI (It i).2.1 = l2))) → ∀ k fu, k ≤ n → k < fu → fX0_holding_20 F t μ fu (nI what) (nI dd) s0 (nI k - 1) = some (te4 (it_wy (it_P It what l2 dd) k)) := by
    intro s0 hs k
    induction k with
    | zero =>
      intro fu _ hf
      obtain ⟨fu, rfl⟩ : ∃ n', fu = n' + 1 := ⟨fu - 1, by omega⟩
      rw [fX0_holding_20, if_pos (by decide)]
      rfl
    | succ k ih =>
      intro fu hk hf
      obtain ⟨fu, rfl⟩ : ∃ n', fu = n' + 1 := ⟨fu - 1, by omega⟩
      have r := hr.2 k (by omega)
      have oo := ok.2 k (by omega)
      have on := ok.1
      have ih := ih fu (by omega) (by omega)
      rw [fX0_holding_20, nI_pred, if_neg (nI_pos (by omega)), hn_rd_at (by omega) (by decide), hn_rd_at (by omega) (by decide), hn_rd_at (by omega) (by decide), r.1, r.2.1, r.2.2.2.1]
      unfold fX0_holding_62
      rw [hn_m1a, ih]
      simp only [it_wy]
      by_cases c1 : (It k).1 = what
      rotate_left 1
      · rw [if_neg (by rw [nI_eq (by omega) (by omega)]; exact c1), if_neg (show ¬ it_P It what l2 dd k from fun z => c1 z.1)]
      rw [if_pos (by rw [c1])]
      have hs := hs k (by omega) c1
      by_cases c2 : nI (It k).2.1 = s0
      rotate_left 1
      · rw [if_neg c2, if_neg (show ¬ it_P It what l2 dd k from fun z => c2 (hs.mpr z.2.1))]
      rw [if_pos c2]
      by_cases c3 : (It k).2.2.2.1 ≤ dd
      · rw [if_neg (nI_nlt c3 (by omega)), if_pos (show it_P It what l2 dd k from ⟨c1, hs.mp c2, c3⟩)]
        rfl
      · rw [if_pos (nI_lt (by omega) (by omega)), if_neg (show ¬ it_P It what l2 dd k from fun z => c3 z.2.2)]
  unfold fX0_holding fX0_holding_10
  rw [hr.1]
  have on := ok.1
  by_cases h1 : what ≤ 1
  · rw [if_pos (show nI what ≤ 1 from nI_le (b := 1) h1 (by decide))]
    exact key l2 (fun i hi hk => ⟨fun z => Or.inr z, fun z => z.elim (fun y => by omega) id⟩) n F (Nat.le_refl _) (by omega)
  · rw [if_neg (show ¬ nI what ≤ 1 from by rw [show (1 : Int32) = nI 1 from rfl, hn_leN (by omega) (by decide)]; exact h1)]
    exact key 0 (fun i hi hk => ⟨fun _ => Or.inl (by omega), fun _ => by rw [(ok.2 i hi).2.2.2.2.2 (by omega) (by omega)]; rfl⟩) n F (Nat.le_refl _) (by omega)
theorem it_lett {what : Nat} (hw : what ≤ 4) : fX8_letterOf (nI what) = some (nI (hn_lett what)) := by
  have : ∀ w : Fin 5, fX8_letterOf (nI w.val) = some (nI (hn_lett w.val)) := by decide +kernel
  exact this ⟨what, by omega⟩
theorem hn_200 (k : Nat) : (200 : Int32) + nI k = nI (200 + k) := by rw [show (200 : Int32) = nI 200 from rfl, nI_add]
theorem hn_202 (k : Nat) : (202 : Int32) + nI k = nI (202 + k) := by rw [show (202 : Int32) = nI 202 from rfl, nI_add]
theorem rj_n (hr : repJ μ 1 n It) : hn_rd μ 85 2 1 = fun (K : Int32 → Option Int32) => K (nI n) := by
  funext K
  rw [show (1 : Int32) = nI 1 from rfl, hn_rd_at (by decide) (by decide), hr.1]
theorem rj_i (hr : repJ μ 1 n It) {i : Nat} (hi : i < n) : μ 86 (200 + 5 * i) = nI (hn_lett (It i).1) ∧ μ 86 (200 + 5 * i + 1) = nI (It i).2.1 ∧ μ 86 (200 + 5 * i + 2) = nI (It i).2.2.1 ∧ μ 86 (200 + 5 * i + 3) = nI (It i).2.2.2.1 ∧ μ 86 (200 + 5 * i + 4) = nI (It i).2.2.2.2 := hr.2 i hi
theorem it_why (hr : repJ μ 1 n It) (ok : okI n It) (hF : 12000 ≤ F) {what dd : Nat} (hw : what ≤ 4) (hd : dd < 1000) (l2 : Int32) : fX8_whyOf F μ (nI what) l2 (nI dd) = some (te4 (it_wy (it_P It what l2 dd) n)) := by
  have on := ok.1
  obtain ⟨s, h1, h2⟩ := hn_loopE (fun fu j s => fX8_whyOf_7 F μ fu (nI what) l2 (nI dd) s (nI j)) n some (fun j s => s = te4 (it_wy (it_P It what l2 dd) j))
    (fun fu s _ => by
      show fX8_whyOf_7 F μ (fu + 1) _ _ _ s (nI n) = _
      rw [fX8_whyOf_7, rj_n hr]
      exact if_pos (by rw [hn_leN (by omega) (by omega)]; exact Nat.le_refl _))
    (fun fu j s hj hi => by
      show ∃ s', fX8_whyOf_7 F μ (fu + 1) _ _ _ s (nI j) = _ ∧ _
      have r := rj_i hr hj
      have oo := ok.2 j hj
      have lb := hn_lett_b (It j).1
      have lb2 := hn_lett_b what
      rw [fX8_whyOf_7, rj_n hr]
      dsimp only
      rw [if_neg (by rw [hn_leN (by omega) (by omega)]; omega), hn_ix5, hn_200, hn_rd_at (by omega) (by decide), r.1, it_lett hw, Option.bind_some, hn_p1, hn_rd_at (by omega) (by decide), r.2.1]
      unfold fX8_whyOf_60
      rw [hn_p3, hn_rd_at (by omega) (by decide), r.2.2.2.1]
      unfold fX8_whyOf_77 fX8_whyOf_78 fX8_whyOf_92
      rw [nI_1, if_pos (show (0 : Int32) = 0 from rfl), if_neg (show ¬ (1 : Int32) = 0 by decide)]
      simp only [it_wy]
      by_cases c1 : (It j).1 = what
      rotate_left 1
      · rw [if_neg (by rw [nI_eq (by omega) (by omega), hn_lett_inj oo.1 (by omega)]; exact c1), if_neg (show ¬ it_P It what l2 dd j from fun z => c1 z.1)]
        exact ⟨s, rfl, hi⟩
      rw [if_pos (by rw [c1])]
      have c23 : ∀ (A B : Option Int32), (if (1 : Int32) < nI what then A else if nI (It j).2.1 = l2 then A else B) = if (2 ≤ what ∨ nI (It j).2.1 = l2) then A else B := by
        intro A B
        by_cases w2 : 2 ≤ what
        · rw [if_pos (show (1 : Int32) < nI what from nI_lt (a := 1) (by omega) (by omega)), if_pos (Or.inl w2)]
        · rw [if_neg (show ¬ (1 : Int32) < nI what by rw [show (1 : Int32) = nI 1 from rfl]; exact nI_nlt (by omega) (by decide))]
          by_cases c2 : nI (It j).2.1 = l2
          · rw [if_pos c2, if_pos (Or.inr c2)]
          · rw [if_neg c2, if_neg (fun z => z.elim w2 c2)]
      rw [c23]
      by_cases c2 : 2 ≤ what ∨ nI (It j).2.1 = l2
      rotate_left 1
      · rw [if_neg c2, if_neg (show ¬ it_P It what l2 dd j from fun z => c2 z.2.1)]
        exact ⟨s, rfl, hi⟩
      rw [if_pos c2]
      by_cases c3 : (It j).2.2.2.1 ≤ dd
      · rw [if_neg (nI_nlt c3 (by omega)), if_pos (show it_P It what l2 dd j from ⟨c1, c2, c3⟩)]
        exact ⟨nI j, rfl, rfl⟩
      · rw [if_pos (nI_lt (by omega) (by omega)), if_neg (show ¬ it_P It what l2 dd j from fun z => c3 z.2.2)]
        exact ⟨s, rfl, hi⟩)
    n 0 F (-4) (by omega) (by omega) rfl
  rw [← h2]
  exact h1
theorem te4_m4 {x : Option Nat} (h : ∀ b, x = some b → b < 2 ^ 31) : te4 x = -4 ↔ x = none := by
  cases x with
  | none => exact ⟨fun _ => rfl, fun _ => rfl⟩
  | some b =>
    refine ⟨fun z => ?_, fun z => by cases z⟩
    have z : nI b = -4 := z
    have e : (nI b).toInt = -4 := by rw [z]; rfl
    rw [nI_toInt (h b rfl)] at e
    omega
theorem it_amC (hr : repI μ t n It) (ok : okI n It) (hF : 12000 ≤ F) {what dd : Nat} (hw : what ≤ 4) (hd : dd < 1000) (l2 : Int32) : fX0_amountOn F t μ (nI what) l2 (nI dd) = some (it_am It n what l2 dd) := by
  unfold fX0_amountOn it_am
  have on := ok.1
  rw [it_hold hr ok hF hw hd l2, Option.bind_some]
  cases h : it_wy (it_P It what l2 dd) n with
  | none =>
    rw [if_pos (show te4 none = -4 from rfl), hn_rs_at (by omega) (by decide)]
    have : ∀ w : Fin 5, hn_out w.val = it_df w.val := by decide +kernel
    rw [this ⟨what, by omega⟩]
  | some i =>
    have hi := it_wy_lt _ _ _ h
    rw [if_neg (fun z => by have := (te4_m4 (x := some i) (fun b hb => by cases hb; omega)).mp z; cases this)]
    show hn_rd μ (t + 3) 40 (nI i) _ = _
    rw [hn_rd_at (by omega) (by decide), (hr.2 i hi).2.2.1]
theorem it_amM (hr : repJ μ 1 n It) (ok : okI n It) (hF : 12000 ≤ F) {what dd : Nat} (hw : what ≤ 4) (hd : dd < 1000) (l2 : Int32) : fX8_ruleOf F μ (nI what) l2 (nI dd) = some (it_am It n what l2 dd) := by
  unfold fX8_ruleOf it_am
  have on := ok.1
  rw [it_why hr ok hF hw hd l2, Option.bind_some]
  cases h : it_wy (it_P It what l2 dd) n with
  | none =>
    rw [if_pos (show te4 none = -4 from rfl)]
    have : ∀ w : Fin 5, (if nI w.val = 0 then some (10 : Int32) else if nI w.val = 1 then some 0 else if nI w.val = 2 then some 999 else if nI w.val = 3 then some 20 else some 1) = some (it_df w.val) := by decide +kernel
    exact this ⟨what, by omega⟩
  | some i =>
    have hi := it_wy_lt _ _ _ h
    rw [if_neg (fun z => by have := (te4_m4 (x := some i) (fun b hb => by cases hb; omega)).mp z; cases this)]
    show hn_rd μ 86 400 (202 + 5 * nI i) _ = _
    rw [hn_ix5, hn_202, hn_rd_at (by omega) (by decide), show 202 + 5 * i = 200 + 5 * i + 2 by omega, (rj_i hr hi).2.2.1]
/-- a rule that may be asked -/
abbrev it_ask (x y w : Int32) : Prop := (0 ≤ x.toInt ∧ x.toInt ≤ 4) ∧ (x.toInt = 0 → 0 ≤ y.toInt ∧ y.toInt ≤ 5) ∧ (x.toInt = 1 → 0 ≤ y.toInt ∧ y.toInt ≤ 7) ∧ (0 ≤ w.toInt ∧ w.toInt ≤ 999)
theorem it_ask7 (x y w : Int32) {α : Type} (A B : Option α) : ((fX7_isRule x y).bind fun v1 => if v1 = 0 then A else (fX7_isDay w).bind fun v2 => if v2 = 0 then A else B) = if it_ask x y w then B else A := by
  have e0 : (x = 0) ↔ x.toInt = 0 := by rw [hn_eq_i]; exact Iff.rfl
  have e1 : (x = 1) ↔ x.toInt = 1 := by rw [hn_eq_i]; exact Iff.rfl
  rw [hn_day7]
  unfold fX7_isRule
  rw [hn_town7, hn_writer7]
  by_cases x0 : x = 0
  · rw [if_pos x0, Option.bind_some, hn_bi_bo]
    by_cases h2 : 0 ≤ y.toInt ∧ y.toInt ≤ 5
    · rw [hn_ckt h2]
      by_cases h3 : 0 ≤ w.toInt ∧ w.toInt ≤ 999
      · rw [hn_ckt h3, if_pos ⟨by have := e0.mp x0; omega, fun _ => h2, fun z => by have := e0.mp x0; omega, h3⟩]
      · rw [hn_ckf h3, if_neg (fun z => h3 z.2.2.2)]
    · rw [hn_ckf h2, if_neg (fun z => h2 (z.2.1 (e0.mp x0)))]
  rw [if_neg x0]
  by_cases x1 : x = 1
  · rw [if_pos x1, Option.bind_some, hn_bi_bo]
    by_cases h2 : 0 ≤ y.toInt ∧ y.toInt ≤ 7
    · rw [hn_ckt h2]
      by_cases h3 : 0 ≤ w.toInt ∧ w.toInt ≤ 999
      · rw [hn_ckt h3, if_pos ⟨by have := e1.mp x1; omega, fun z => by have := e1.mp x1; omega, fun _ => h2, h3⟩]
      · rw [hn_ckf h3, if_neg (fun z => h3 z.2.2.2)]
    · rw [hn_ckf h2, if_neg (fun z => h2 (z.2.2.1 (e1.mp x1)))]
  rw [if_neg x1]
  have n0 : ¬ x.toInt = 0 := fun z => x0 (e0.mpr z)
  have n1 : ¬ x.toInt = 1 := fun z => x1 (e1.mpr z)
  by_cases h2 : x.toInt ≤ 1
  · rw [if_pos (show x ≤ 1 by rw [hn_le]; exact h2), if_neg (fun z => by have := z.1; omega)]
    rfl
  rw [if_neg (show ¬ x ≤ 1 by rw [hn_le]; exact h2)]
  by_cases h3 : 5 ≤ x.toInt
  · rw [if_pos (show (5 : Int32) ≤ x by rw [hn_le]; exact h3), if_neg (fun z => by have := z.1; omega)]
    rfl
  rw [if_neg (show ¬ (5 : Int32) ≤ x by rw [hn_le]; exact h3), Option.bind_some, if_neg (show ¬ (1 : Int32) = 0 by decide)]
  by_cases h4 : 0 ≤ w.toInt ∧ w.toInt ≤ 999
  · rw [hn_ckt h4, if_pos ⟨by omega, fun z => absurd z n0, fun z => absurd z n1, h4⟩]
  · rw [hn_ckf h4, if_neg (fun z => h4 z.2.2.2)]
theorem it_ask8 (x y w : Int32) {α : Type} (A B : Option α) : ((fX8_isAsked x y w).bind fun v1 => if v1 = 0 then A else B) = if it_ask x y w then B else A := by
  have e0 : (x = 0) ↔ x.toInt = 0 := by rw [hn_eq_i]; exact Iff.rfl
  have e39 : fX8_isAsked_39 w = some (if 0 ≤ w.toInt ∧ w.toInt ≤ 999 then 1 else 0) := by
    unfold fX8_isAsked_39
    rw [hn_day8]
    by_cases h : 0 ≤ w.toInt ∧ w.toInt ≤ 999
    · rw [hn_ckt h, if_pos h]
    · rw [hn_ckf h, if_neg h]
  have fin : ∀ (c : Prop) (_ : Decidable c), ((some (if c then (1 : Int32) else 0)).bind fun v1 => if v1 = 0 then A else B) = if c then B else A := by
    intro c dc
    by_cases h : c
    · rw [if_pos h, if_pos h]; rfl
    · rw [if_neg h, if_neg h]; rfl
  unfold fX8_isAsked
  rw [hn_in8 x (a := 0) (b := 4) rfl rfl]
  by_cases h1 : 0 ≤ x.toInt ∧ x.toInt ≤ 4
  rotate_left 1
  · rw [hn_ckf h1, if_neg (fun z => h1 z.1)]; rfl
  rw [hn_ckt h1]
  by_cases h2 : 1 < x.toInt
  · rw [if_pos (show (1 : Int32) < x by rw [hn_lt]; exact h2), e39, fin]
    by_cases h3 : 0 ≤ w.toInt ∧ w.toInt ≤ 999
    · rw [if_pos h3, if_pos ⟨h1, fun z => by omega, fun z => by omega, h3⟩]
    · rw [if_neg h3, if_neg (fun z => h3 z.2.2.2)]
  rw [if_neg (show ¬ (1 : Int32) < x by rw [hn_lt]; exact h2)]
  unfold fX8_isAsked_33
  rw [hn_in8 y (a := 0) (b := 5) rfl rfl, hn_in8 y (a := 0) (b := 7) rfl rfl, e39]
  by_cases x0 : x = 0
  · rw [if_pos x0]
    by_cases h3 : 0 ≤ y.toInt ∧ y.toInt ≤ 5
    · rw [hn_ckt h3, fin]
      by_cases h4 : 0 ≤ w.toInt ∧ w.toInt ≤ 999
      · rw [if_pos h4, if_pos ⟨h1, fun _ => h3, fun z => by have := e0.mp x0; omega, h4⟩]
      · rw [if_neg h4, if_neg (fun z => h4 z.2.2.2)]
    · rw [hn_ckf h3, if_neg (fun z => h3 (z.2.1 (e0.mp x0)))]; rfl
  · rw [if_neg x0]
    have n0 : ¬ x.toInt = 0 := fun z => x0 (e0.mpr z)
    by_cases h3 : 0 ≤ y.toInt ∧ y.toInt ≤ 7
    · rw [hn_ckt h3, fin]
      by_cases h4 : 0 ≤ w.toInt ∧ w.toInt ≤ 999
      · rw [if_pos h4, if_pos ⟨h1, fun z => absurd z n0, fun _ => h3, h4⟩]
      · rw [if_neg h4, if_neg (fun z => h4 z.2.2.2)]
    · rw [hn_ckf h3, if_neg (fun z => h3 (z.2.2.1 (by omega)))]; rfl
theorem c_rule (hF : 12000 ≤ F) (x y w : Int32) : hn_cP (fun μ => fX7_rule F μ x y w) (fun μ => fX8_rule F μ x y w) := by
  intro μ ⟨V, D, S, o, hB, hS⟩
  obtain ⟨t, u, n, It, t0, t1, t2, t3, t4, t5⟩ := hB.2.2.2.2.2.1
  show ∃ r, fX7_rule F μ x y w = some r ∧ fX8_rule F μ x y w = some r
  unfold fX7_rule fX8_rule
  rw [it_ask7, it_ask8, t1]
  by_cases h : it_ask x y w
  rotate_left 1
  · rw [if_neg h, if_neg h]; exact ⟨_, rfl, rfl⟩
  obtain ⟨what, hw, rfl⟩ := hn_ix' 5 (by decide) h.1
  obtain ⟨dd, hd, rfl⟩ := hn_ix' 1000 (by decide) h.2.2.2
  rw [if_pos h, if_pos h, hn_itk (t0.imp (fun z => z.1) (fun z => z.1)), it_amC t3 t5 hF (by omega) hd, it_amM t4 t5 hF (by omega) hd]
  exact ⟨_, rfl, rfl⟩
theorem c_why (hF : 12000 ≤ F) (x y w : Int32) : hn_cP (fun μ => fX7_why F μ x y w) (fun μ => fX8_why F μ x y w) := by
  intro μ ⟨V, D, S, o, hB, hS⟩
  obtain ⟨t, u, n, It, t0, t1, t2, t3, t4, t5⟩ := hB.2.2.2.2.2.1
  show ∃ r, fX7_why F μ x y w = some r ∧ fX8_why F μ x y w = some r
  unfold fX7_why fX8_why
  rw [it_ask7, it_ask8, t1]
  by_cases h : it_ask x y w
  rotate_left 1
  · rw [if_neg h, if_neg h]; exact ⟨_, rfl, rfl⟩
  obtain ⟨what, hw, rfl⟩ := hn_ix' 5 (by decide) h.1
  obtain ⟨dd, hd, rfl⟩ := hn_ix' 1000 (by decide) h.2.2.2
  rw [if_pos h, if_pos h, hn_itk (t0.imp (fun z => z.1) (fun z => z.1)), it_hold t3 t5 hF (by omega) hd, it_why t4 t5 hF (by omega) hd]
  exact ⟨_, rfl, rfl⟩
end it
