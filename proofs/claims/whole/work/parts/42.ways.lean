/-! ways: least days, and of those the most slow ones: the rounds over all towns -/
/-- (d, s) is no worse than (d', s') -/
def fw_le (d s d' s' : Int) : Prop := d < d' ∨ (d = d' ∧ s' ≤ s)
abbrev fw_hit (D S : Nat → Nat → Int) (v a b : Nat) : Prop := D a v + D v b < 1000000 ∧ (D a v + D v b < D a b ∨ (D a v + D v b = D a b ∧ S a b < S a v + S v b))
def fw_d (D S : Nat → Nat → Int) (v a b : Nat) : Int := if fw_hit D S v a b then D a v + D v b else D a b
def fw_s (D S : Nat → Nat → Int) (v a b : Nat) : Int := if fw_hit D S v a b then S a v + S v b else S a b
/-- what holds when the towns below k have been gone through; B bounds the days -/
def fw_ok (L M D S : Nat → Nat → Int) (k : Nat) (B : Int) : Prop :=
  (∀ a b, a < 6 → b < 6 → 0 ≤ D a b ∧ (D a b ≤ B ∨ D a b = 1000000) ∧ 0 ≤ S a b ∧ S a b ≤ B) ∧
  (∀ a, a < 6 → D a a = 0 ∧ S a a = 0) ∧
  (∀ a b, a < 6 → b < 6 → a ≠ b → 1 ≤ D a b) ∧
  (∀ a v b, a < 6 → v < k → b < 6 → D a v < 1000000 → D v b < 1000000 → fw_le (D a b) (S a b) (D a v + D v b) (S a v + S v b)) ∧
  (∀ a b, a < 6 → b < 6 → 0 < L a b → fw_le (D a b) (S a b) (L a b) (M a b)) ∧
  (∀ a b, a < 6 → b < 6 → a ≠ b → D a b < 1000000 → ∃ c, c < 6 ∧ 0 < L c b ∧ D a c < 1000000 ∧ fw_le (D a c + L c b) (S a c + M c b) (D a b) (S a b))
theorem fw_step {L M D S : Nat → Nat → Int} {k : Nat} {B : Int} (hk : k < 6) (hB : 0 ≤ B) (hB2 : B < 400000) (h : fw_ok L M D S k B) : fw_ok L M (fw_d D S k) (fw_s D S k) (k + 1) (2 * B) := by
  obtain ⟨h0, h1, h2, h3, h4, h5⟩ := h
  -- the new entries: no worse than the old, no worse than through k; one of both
  have n1 : ∀ a b, fw_le (fw_d D S k a b) (fw_s D S k a b) (D a b) (S a b) := by
    intro a b
    unfold fw_d fw_s fw_le
    by_cases h : fw_hit D S k a b
    · rw [if_pos h, if_pos h]; unfold fw_hit at h; omega
    · rw [if_neg h, if_neg h]; omega
  have n2 : ∀ a b, a < 6 → b < 6 → D a k < 1000000 → D k b < 1000000 → fw_le (fw_d D S k a b) (fw_s D S k a b) (D a k + D k b) (S a k + S k b) := by
    intro a b ha hb g1 g2
    have e1 := h0 a k ha hk
    have e2 := h0 k b hk hb
    unfold fw_d fw_s fw_le
    by_cases h : fw_hit D S k a b
    · rw [if_pos h, if_pos h]; omega
    · rw [if_neg h, if_neg h]; unfold fw_hit at h; omega
  have n3 : ∀ a b, a < 6 → b < 6 → (fw_d D S k a b = D a b ∧ fw_s D S k a b = S a b) ∨ (D a k < 1000000 ∧ D k b < 1000000 ∧ fw_d D S k a b = D a k + D k b ∧ fw_s D S k a b = S a k + S k b) := by
    intro a b ha hb
    have e1 := h0 a k ha hk
    have e2 := h0 k b hk hb
    unfold fw_d fw_s
    by_cases h : fw_hit D S k a b
    · rw [if_pos h, if_pos h]; unfold fw_hit at h; right; refine ⟨by omega, by omega, rfl, rfl⟩
    · rw [if_neg h, if_neg h]; exact Or.inl ⟨rfl, rfl⟩
  have hkk := h1 k hk
  have n4 : ∀ a, a < 6 → fw_d D S k a k = D a k ∧ fw_s D S k a k = S a k := by
    intro a ha
    unfold fw_d fw_s
    have h : ¬ fw_hit D S k a k := by unfold fw_hit; omega
    rw [if_neg h, if_neg h]; exact ⟨rfl, rfl⟩
  have n5 : ∀ b, b < 6 → fw_d D S k k b = D k b ∧ fw_s D S k k b = S k b := by
    intro b hb
    unfold fw_d fw_s
    have h : ¬ fw_hit D S k k b := by unfold fw_hit; omega
    rw [if_neg h, if_neg h]; exact ⟨rfl, rfl⟩
  have n6 : ∀ a, a < 6 → fw_d D S k a a = 0 ∧ fw_s D S k a a = 0 := by
    intro a ha
    by_cases hak : a = k
    · subst hak; have := n4 a ha; have := h1 a ha; omega
    · have g1 := h2 a k ha hk hak
      have g2 := h2 k a hk ha (fun z => hak z.symm)
      have g3 := h1 a ha
      unfold fw_d fw_s
      have h : ¬ fw_hit D S k a a := by unfold fw_hit; omega
      rw [if_neg h, if_neg h]; exact g3
  refine ⟨?_, n6, ?_, ?_, ?_, ?_⟩
  · intro a b ha hb
    have e0 := h0 a b ha hb
    have e1 := h0 a k ha hk
    have e2 := h0 k b hk hb
    rcases n3 a b ha hb with ⟨g1, g2⟩ | ⟨g1, g2, g3, g4⟩
    · rw [g1, g2]; omega
    · rw [g3, g4]; omega
  · intro a b ha hb hab
    have e1 := h0 a k ha hk
    have e2 := h0 k b hk hb
    rcases n3 a b ha hb with ⟨g1, g2⟩ | ⟨g1, g2, g3, g4⟩
    · rw [g1]; exact h2 a b ha hb hab
    · rw [g3]
      by_cases hak : a = k
      · have := h2 k b hk hb (by omega); omega
      · have := h2 a k ha hk hak; omega
  · intro a v b ha hv hb g1 g2
    by_cases hvk : v = k
    · subst hvk
      have e1 := n4 a ha
      have e2 := n5 b hb
      have e3 := n2 a b ha hb (by omega) (by omega)
      unfold fw_le at e3 ⊢
      omega
    · have hv' : v < k := by omega
      have hv6 : v < 6 := by omega
      have c0 := n1 a b
      have b1 := h0 a v ha hv6
      have b2 := h0 v b hv6 hb
      have b3 := h0 a k ha hk
      have b4 := h0 k b hk hb
      have b5 := h0 k v hk hv6
      have b6 := h0 v k hv6 hk
      rcases n3 a v ha hv6 with ⟨p1, p2⟩ | ⟨p1, p2, p3, p4⟩
      · rcases n3 v b hv6 hb with ⟨q1, q2⟩ | ⟨q1, q2, q3, q4⟩
        · have c1 := h3 a v b ha hv' hb (by omega) (by omega)
          unfold fw_le at *
          omega
        · have c1 := h3 a v k ha hv' hk (by omega) q1
          have c2 : D a k < 1000000 := by unfold fw_le at c1; omega
          have c3 := n2 a b ha hb c2 q2
          unfold fw_le at *
          omega
      · rcases n3 v b hv6 hb with ⟨q1, q2⟩ | ⟨q1, q2, q3, q4⟩
        · have c1 := h3 k v b hk hv' hb p2 (by omega)
          have c2 : D k b < 1000000 := by unfold fw_le at c1; omega
          have c3 := n2 a b ha hb p1 c2
          unfold fw_le at *
          omega
        · have c1 := h3 k v k hk hv' hk p2 q1
          have c3 := n2 a b ha hb p1 q2
          unfold fw_le at *
          omega
  · intro a b ha hb hl
    have e1 := n1 a b
    have e2 := h4 a b ha hb hl
    unfold fw_le at *
    omega
  · intro a b ha hb hab hd
    have b3 := h0 a k ha hk
    have b4 := h0 k b hk hb
    rcases n3 a b ha hb with ⟨g1, g2⟩ | ⟨g1, g2, g3, g4⟩
    · obtain ⟨c, c1, c2, c3, c4⟩ := h5 a b ha hb hab (by omega)
      have e1 := n1 a c
      have e2 := h0 a c ha c1
      refine ⟨c, c1, c2, by unfold fw_le at e1; omega, ?_⟩
      unfold fw_le at *
      omega
    · by_cases hkb : k = b
      · subst hkb
        have e9 := n4 a ha
        obtain ⟨c, c1, c2, c3, c4⟩ := h5 a k ha hk hab (by omega)
        have e1 := n1 a c
        refine ⟨c, c1, c2, by unfold fw_le at e1; omega, ?_⟩
        unfold fw_le at *
        omega
      · obtain ⟨c, c1, c2, c3, c4⟩ := h5 k b hk hb hkb g2
        have e1 := n2 a c ha c1 g1 c3
        have e2 := h0 k c hk c1
        refine ⟨c, c1, c2, by unfold fw_le at e1; omega, ?_⟩
        unfold fw_le at *
        omega
/-- the start: posts themselves -/
theorem fw_start {L M D S : Nat → Nat → Int} (hL : ∀ a b, a < 6 → b < 6 → (L a b = 0 ∧ M a b = 0) ∨ (a ≠ b ∧ 1 ≤ L a b ∧ L a b ≤ M a b ∧ M a b ≤ 60)) (hD : ∀ a b, a < 6 → b < 6 → D a b = if a = b then 0 else if 0 < L a b then L a b else 1000000) (hS : ∀ a b, a < 6 → b < 6 → S a b = M a b) : fw_ok L M D S 0 60 := by
  refine ⟨?_, ?_, ?_, ?_, ?_, ?_⟩
  · intro a b ha hb
    have e1 := hL a b ha hb
    rw [hD a b ha hb, hS a b ha hb]
    by_cases h1 : a = b
    · rw [if_pos h1]; omega
    · rw [if_neg h1]
      by_cases h2 : 0 < L a b
      · rw [if_pos h2]; omega
      · rw [if_neg h2]; omega
  · intro a ha
    have e1 := hL a a ha ha
    rw [hD a a ha ha, hS a a ha ha, if_pos rfl]
    omega
  · intro a b ha hb hab
    have e1 := hL a b ha hb
    rw [hD a b ha hb, if_neg hab]
    by_cases h2 : 0 < L a b
    · rw [if_pos h2]; omega
    · rw [if_neg h2]; omega
  · intro a v b _ hv; omega
  · intro a b ha hb hl
    have e1 := hL a b ha hb
    rw [hD a b ha hb, hS a b ha hb, if_neg (by omega), if_pos hl]
    unfold fw_le; omega
  · intro a b ha hb hab hd
    have e1 := hL a b ha hb
    rw [hD a b ha hb, if_neg hab] at hd
    by_cases h2 : 0 < L a b
    · refine ⟨a, ha, h2, ?_, ?_⟩
      · rw [hD a a ha ha, if_pos rfl]; omega
      · have e2 := hL a a ha ha
        rw [hD a a ha ha, if_pos rfl, hS a a ha ha, hD a b ha hb, if_neg hab, if_pos h2, hS a b ha hb]
        unfold fw_le; omega
    · rw [if_neg h2] at hd; omega
/-- the end: each way has a last post by which it is reached, just -/
theorem fw_end {L M D S : Nat → Nat → Int} {B : Int} (hB : B < 400000) (hL : ∀ a b, a < 6 → b < 6 → (L a b = 0 ∧ M a b = 0) ∨ (a ≠ b ∧ 1 ≤ L a b ∧ L a b ≤ M a b ∧ M a b ≤ 60)) (h : fw_ok L M D S 6 B) :
    (∀ a b c, a < 6 → b < 6 → c < 6 → 0 < L c b → D a c < 1000000 → D a b ≤ D a c + L c b ∧ (D a b = D a c + L c b → S a c + M c b ≤ S a b)) ∧
    (∀ a b, a < 6 → b < 6 → a ≠ b → D a b < 1000000 → ∃ c, c < 6 ∧ 0 < L c b ∧ D a c < 1000000 ∧ D a b = D a c + L c b ∧ S a b = S a c + M c b) := by
  obtain ⟨h0, h1, h2, h3, h4, h5⟩ := h
  have key : ∀ a b c, a < 6 → b < 6 → c < 6 → 0 < L c b → D a c < 1000000 → D a b ≤ D a c + L c b ∧ (D a b = D a c + L c b → S a c + M c b ≤ S a b) := by
    intro a b c ha hb hc hl hd
    have e1 := h4 c b hc hb hl
    have e2 := hL c b hc hb
    have e3 : D c b < 1000000 := by unfold fw_le at e1; omega
    have e4 := h3 a c b ha hc hb hd e3
    unfold fw_le at e1 e4
    omega
  refine ⟨key, ?_⟩
  intro a b ha hb hab hd
  obtain ⟨c, c1, c2, c3, c4⟩ := h5 a b ha hb hab hd
  have e1 := key a b c ha hb c1 c2 c3
  unfold fw_le at c4
  exact ⟨c, c1, c2, c3, by omega, by omega⟩
