/-! one item, by the model -/
section i8
variable {μ O : hn_M} {T : Nat → Nat} {N F t : Nat}
/-- what the model has told of an item -/
def tx_tl (μ : hn_M) (e : Nat × Nat × Nat × Nat × Nat) : Prop := μ 92 3 = nI e.2.2.2.2 ∧ ((2 ≤ e.1 ∧ e.1 ≤ 4 ∧ e.2.1 = 0 ∧ μ 92 0 = nI e.2.2.1 ∧ μ 92 1 = nI e.2.2.2.1) ∨ (¬ (2 ≤ e.1 ∧ e.1 ≤ 4) ∧ μ 92 0 = nI e.2.1 ∧ μ 92 1 = nI e.2.2.1 ∧ μ 92 2 = nI e.2.2.2.1))
/-- ranges of an item -/
def tx_io (e : Nat × Nat × Nat × Nat × Nat) : Prop := e.1 < 6 ∧ e.2.1 < 1000 ∧ e.2.2.1 < 1000 ∧ e.2.2.2.1 < 1000 ∧ e.2.2.2.2 < 1000 ∧ (2 ≤ e.1 → e.1 ≤ 4 → e.2.1 = 0)
theorem i8_nu (ok : tx_ok T N) (hF : 12000 ≤ F) {many : Nat} (hm : 1 ≤ many ∧ many ≤ 4) {p : Nat} (hM : tx_M μ T N) (hp : p < N) : ∃ w μ', fX8_numbers F (nI many) (hn_up μ 72 24 (nI (p + 1))) = some (w, μ') ∧ tx_frM μ μ' ∧ ((w = 0 ∧ tx_nu T N many many 0 (p + 1) tx_z = none) ∨ (w = 1 ∧ ∃ a' p', tx_nu T N many many 0 (p + 1) tx_z = some (a', p') ∧ μ' 72 24 = nI p' ∧ p' ≤ N ∧ ∀ j, j < 4 → μ' 92 j = nI (a' j))) :=
  it_nu (O := μ) ok hF hm ⟨by rw [hn_up_off (by decide)]; exact hM.1, by rw [hn_up_ne (by decide)]; exact hM.2⟩ hn_up_at (by omega) ⟨fun k k1 _ => hn_up_ne k1, fun i hi => hn_up_off hi⟩
theorem i8_2 (ok : tx_ok T N) (hF : 12000 ≤ F) {p : Nat} (hM : tx_M μ T N) (hp : p < N) {L h1 : Nat} (hk : tx_kd (T p) = some L) (hL : 2 ≤ L ∧ L ≤ 4) (e0 : tx_hi L 0 = none) (e1 : tx_hi L 1 = some h1) (e2 : tx_hi L 2 = some 999) (e3 : tx_hi L 3 = none) :
    ∃ w μ', fX8_numbers F 2 (hn_up μ 72 24 (nI (p + 1))) = some (w, μ') ∧ tx_frM μ μ' ∧ ((w = 0 ∧ tx_ps T N p = none) ∨ (w = 1 ∧ ∃ x y p', p + 5 ≤ p' ∧ p' ≤ N ∧ μ' 72 24 = nI p' ∧ x < 1000 ∧ y < 1000 ∧ μ' 92 0 = nI x ∧ μ' 92 1 = nI y ∧ μ' 92 3 = nI 0 ∧ tx_ps T N p = if x ≤ h1 ∧ ¬ (L = 3 ∧ x < 1) then some ((L, 0, x, y, 0), p') else none)) := by
  obtain ⟨w, μ', n1, n2, n3⟩ := i8_nu (F := F) (many := 2) ok hF (by omega) hM hp
  refine ⟨w, μ', n1, n2, ?_⟩
  have e5 : (if L = 5 then 3 else 2) = 2 := if_neg (by omega)
  rcases mo_2 (T := T) (N := N) L h1 e0 e1 e2 e3 (p + 1) with ⟨z1, z2⟩ | ⟨a, p', z1, z2, z3, z4, z5⟩
  · rcases n3 with ⟨g, _⟩ | ⟨_, a', q, y, _⟩
    · exact Or.inl ⟨g, ps_no hk (by rw [e5]; exact z2)⟩
    · rw [z1] at y; cases y
  · rcases n3 with ⟨_, y⟩ | ⟨g, a', q, y1, y2, y3, y4⟩
    · rw [z1] at y; cases y
    · rw [z1] at y1
      cases y1
      refine Or.inr ⟨g, a 0, a 1, p', by omega, y3, y2, z4 0 (by omega), z4 1 (by omega), y4 0 (by omega), y4 1 (by omega), by rw [y4 3 (by omega), z3], ?_⟩
      rcases z5 with ⟨c, b, d, d0, d1, d2, d3⟩ | ⟨c, d⟩
      · rw [ps_some hk (by rw [e5]; exact d), d0, d1, d2, d3]
        by_cases h3 : L = 3 ∧ a 0 < 1
        · rw [if_pos (Or.inl h3), if_neg (fun z => z.2 h3)]
        · rw [if_neg (fun z => z.elim h3 (fun z => by omega)), if_pos ⟨c, h3⟩]
      · rw [ps_no hk (by rw [e5]; exact d), if_neg (fun z => c z.1)]
theorem i8_3 (ok : tx_ok T N) (hF : 12000 ≤ F) {p : Nat} (hM : tx_M μ T N) (hp : p < N) {L h0 h1 : Nat} (hk : tx_kd (T p) = some L) (hL : L < 2) (e0 : tx_hi L 0 = some h0) (e1 : tx_hi L 1 = some h1) (e2 : tx_hi L 2 = some 999) (e3 : tx_hi L 3 = none) :
    ∃ w μ', fX8_numbers F 3 (hn_up μ 72 24 (nI (p + 1))) = some (w, μ') ∧ tx_frM μ μ' ∧ ((w = 0 ∧ tx_ps T N p = none) ∨ (w = 1 ∧ ∃ x y z p', p + 5 ≤ p' ∧ p' ≤ N ∧ μ' 72 24 = nI p' ∧ x < 1000 ∧ y < 1000 ∧ z < 1000 ∧ μ' 92 0 = nI x ∧ μ' 92 1 = nI y ∧ μ' 92 2 = nI z ∧ μ' 92 3 = nI 0 ∧ tx_ps T N p = if x ≤ h0 ∧ y ≤ h1 then some ((L, x, y, z, 0), p') else none)) := by
  obtain ⟨w, μ', n1, n2, n3⟩ := i8_nu (F := F) (many := 3) ok hF (by omega) hM hp
  refine ⟨w, μ', n1, n2, ?_⟩
  have e5 : (if L = 5 then 3 else 2) = 2 := if_neg (by omega)
  rcases mo_3 (T := T) (N := N) L h0 h1 e0 e1 e2 e3 (p + 1) with ⟨z1, z2⟩ | ⟨a, p', z1, z2, z3, z4, z5⟩
  · rcases n3 with ⟨g, _⟩ | ⟨_, a', q, y, _⟩
    · exact Or.inl ⟨g, ps_no hk (by rw [e5]; exact z2)⟩
    · rw [z1] at y; cases y
  · rcases n3 with ⟨_, y⟩ | ⟨g, a', q, y1, y2, y3, y4⟩
    · rw [z1] at y; cases y
    · rw [z1] at y1
      cases y1
      refine Or.inr ⟨g, a 0, a 1, a 2, p', by omega, y3, y2, z4 0 (by omega), z4 1 (by omega), z4 2 (by omega), y4 0 (by omega), y4 1 (by omega), y4 2 (by omega), by rw [y4 3 (by omega), z3], ?_⟩
      rcases z5 with ⟨c, c', b, d, d0, d1, d2, d3⟩ | ⟨c, d⟩
      · rw [ps_some hk (by rw [e5]; exact d), d0, d1, d2, d3, if_neg (fun z => by omega), if_pos ⟨c, c'⟩]
      · rw [ps_no hk (by rw [e5]; exact d), if_neg c]
theorem i8_4 (ok : tx_ok T N) (hF : 12000 ≤ F) {p : Nat} (hM : tx_M μ T N) (hp : p < N) (hk : tx_kd (T p) = some 5) :
    ∃ w μ', fX8_numbers F 4 (hn_up μ 72 24 (nI (p + 1))) = some (w, μ') ∧ tx_frM μ μ' ∧ ((w = 0 ∧ tx_ps T N p = none) ∨ (w = 1 ∧ ∃ x y z u p', p + 5 ≤ p' ∧ p' ≤ N ∧ μ' 72 24 = nI p' ∧ x < 1000 ∧ y < 1000 ∧ z < 1000 ∧ u < 1000 ∧ μ' 92 0 = nI x ∧ μ' 92 1 = nI y ∧ μ' 92 2 = nI z ∧ μ' 92 3 = nI u ∧ tx_ps T N p = if (x ≤ 5 ∧ y ≤ 9) ∧ z ≤ u then some ((5, x, y, z, u), p') else none)) := by
  obtain ⟨w, μ', n1, n2, n3⟩ := i8_nu (F := F) (many := 4) ok hF (by omega) hM hp
  refine ⟨w, μ', n1, n2, ?_⟩
  rcases mo_4 (T := T) (N := N) (p + 1) with ⟨z1, z2⟩ | ⟨a, p', z1, z2, z4, z5⟩
  · rcases n3 with ⟨g, _⟩ | ⟨_, a', q, y, _⟩
    · exact Or.inl ⟨g, ps_no hk z2⟩
    · rw [z1] at y; cases y
  · rcases n3 with ⟨_, y⟩ | ⟨g, a', q, y1, y2, y3, y4⟩
    · rw [z1] at y; cases y
    · rw [z1] at y1
      cases y1
      refine Or.inr ⟨g, a 0, a 1, a 2, a 3, p', by omega, y3, y2, z4 0 (by omega), z4 1 (by omega), z4 2 (by omega), z4 3 (by omega), y4 0 (by omega), y4 1 (by omega), y4 2 (by omega), y4 3 (by omega), ?_⟩
      rcases z5 with ⟨c, c', b, d, d0, d1, d2, d3⟩ | ⟨c, d⟩
      · rw [ps_some hk d, d0, d1, d2, d3]
        by_cases h3 : a 2 ≤ a 3
        · rw [if_neg (fun z => by omega), if_pos ⟨⟨c, c'⟩, h3⟩]
        · rw [if_pos (Or.inr ⟨rfl, by omega⟩), if_neg (fun z => h3 z.2)]
      · rw [ps_no hk d, if_neg (fun z => c z.1)]
/-- what an item says, once it is read -/
def tx_r8 (T : Nat → Nat) (N p : Nat) (μ : hn_M) (w : Int32) (μ' : hn_M) : Prop := tx_frM μ μ' ∧ ((w = 0 ∧ tx_ps T N p = none) ∨ (w = 1 ∧ ∃ e p', tx_ps T N p = some (e, p') ∧ p + 5 ≤ p' ∧ p' ≤ N ∧ μ' 72 24 = nI p' ∧ tx_io e ∧ T p = hn_lett e.1 ∧ tx_tl μ' e))
theorem it_8 (ok : tx_ok T N) (hF : 12000 ≤ F) (hM : tx_M μ T N) {p : Nat} (h24 : μ 72 24 = nI p) (hp : p < N) : ∃ w μ', fX8_item F μ = some (w, μ') ∧ tx_r8 T N p μ w μ' := by
  have on := ok.1
  have tb := ok.2 p hp
  have fr2 : tx_frM μ (hn_up μ 72 24 (nI (p + 1))) := ⟨fun k k1 _ => hn_up_ne k1, fun i hi => hn_up_off hi⟩
  unfold fX8_item hn_pf
  rw [h24, hn_rd_at (by omega) (by decide), hM.2 p hp, nI_1]
  dsimp only
  by_cases c98 : T p = 98
  · rw [if_pos (show nI (T p) = 98 by rw [c98]; rfl)]
    have hk : tx_kd (T p) = some 3 := by rw [c98]; rfl
    obtain ⟨w, μ', a1, a2, a3⟩ := i8_2 (F := F) ok hF hM hp hk (by omega) (h1 := 999) rfl rfl rfl rfl
    rw [a1, Option.bind_some]
    dsimp only
    rcases a3 with ⟨rfl, g⟩ | ⟨rfl, x, y, p', b1, b2, b3, b4, b5, b6, b7, b8, b9⟩
    · rw [if_pos (show (0 : Int32) = 0 from rfl)]
      exact ⟨0, μ', rfl, a2, Or.inl ⟨rfl, g⟩⟩
    · rw [if_neg (show ¬ (1 : Int32) = 0 by decide), hn_rd_0 (by decide) (by decide), b6]
      by_cases hx : x < 1
      · rw [if_pos (show nI x ≤ 0 by rw [show (0 : Int32) = nI 0 from rfl, hn_leN (by omega) (by decide)]; omega)]
        rw [if_neg (fun z => z.2 ⟨rfl, hx⟩)] at b9
        exact ⟨0, μ', rfl, a2, Or.inl ⟨rfl, b9⟩⟩
      · rw [if_neg (show ¬ nI x ≤ 0 by rw [show (0 : Int32) = nI 0 from rfl, hn_leN (by omega) (by decide)]; omega)]
        rw [if_pos ⟨by omega, fun z => hx z.2⟩] at b9
        exact ⟨1, μ', rfl, a2, Or.inr ⟨rfl, (3, 0, x, y, 0), p', b9, b1, b2, b3, ⟨by show 3 < 6; omega, by show 0 < 1000; omega, b4, b5, by show 0 < 1000; omega, fun _ _ => rfl⟩, c98, b8, Or.inl ⟨by show 2 ≤ 3; omega, by show 3 ≤ 4; omega, rfl, b6, b7⟩⟩⟩
  rw [if_neg (show ¬ nI (T p) = 98 by rw [show (98 : Int32) = nI 98 from rfl, nI_eq (by omega) (by decide)]; exact c98)]
  by_cases c110 : T p = 110
  · rw [if_pos (show nI (T p) = 110 by rw [c110]; rfl)]
    have hk : tx_kd (T p) = some 5 := by rw [c110]; rfl
    obtain ⟨w, μ', a1, a2, a3⟩ := i8_4 (F := F) ok hF hM hp hk
    rw [a1, Option.bind_some]
    dsimp only
    rcases a3 with ⟨rfl, g⟩ | ⟨rfl, x, y, z, u, p', b1, b2, b3, b4, b5, b6, b7, b8, b9, b10, b11, b12⟩
    · rw [if_pos (show (0 : Int32) = 0 from rfl)]
      exact ⟨0, μ', rfl, a2, Or.inl ⟨rfl, g⟩⟩
    · rw [if_neg (show ¬ (1 : Int32) = 0 by decide), hn_rd_0 (by decide) (by decide), b8, hn_town8]
      by_cases cx : x ≤ 5
      rotate_left 1
      · rw [hn_ckf (by rw [nI_toInt (by omega)]; omega)]
        rw [if_neg (fun q => cx q.1.1)] at b12
        exact ⟨0, μ', rfl, a2, Or.inl ⟨rfl, b12⟩⟩
      rw [hn_ckt (by rw [nI_toInt (by omega)]; omega), hn_rd_1 (by decide) (by decide), b9, hn_thing8]
      by_cases cy : y ≤ 9
      rotate_left 1
      · rw [hn_ckf (by rw [nI_toInt (by omega)]; omega)]
        rw [if_neg (fun q => cy q.1.2)] at b12
        exact ⟨0, μ', rfl, a2, Or.inl ⟨rfl, b12⟩⟩
      rw [hn_ckt (by rw [nI_toInt (by omega)]; omega), hn_rd_2 (by decide) (by decide), hn_rd_3 (by decide) (by decide), b10, b11]
      by_cases cz : z ≤ u
      · rw [if_neg (show ¬ nI u < nI z from nI_nlt cz (by omega))]
        rw [if_pos ⟨⟨cx, cy⟩, cz⟩] at b12
        exact ⟨1, μ', rfl, a2, Or.inr ⟨rfl, (5, x, y, z, u), p', b12, b1, b2, b3, ⟨by show 5 < 6; omega, b4, b5, b6, b7, fun _ q => absurd (show 5 ≤ 4 from q) (by omega)⟩, c110, b11, Or.inr ⟨fun q => absurd (show 5 ≤ 4 from q.2) (by omega), b8, b9, b10⟩⟩⟩
      · rw [if_pos (show nI u < nI z from nI_lt (by omega) (by omega))]
        rw [if_neg (fun q => cz q.2)] at b12
        exact ⟨0, μ', rfl, a2, Or.inl ⟨rfl, b12⟩⟩
  rw [if_neg (show ¬ nI (T p) = 110 by rw [show (110 : Int32) = nI 110 from rfl, nI_eq (by omega) (by decide)]; exact c110)]
  by_cases c111 : T p = 111
  · rw [if_pos (show nI (T p) = 111 by rw [c111]; rfl)]
    have hk : tx_kd (T p) = some 2 := by rw [c111]; rfl
    obtain ⟨w, μ', a1, a2, a3⟩ := i8_2 (F := F) ok hF hM hp hk (by omega) (h1 := 999) rfl rfl rfl rfl
    rw [a1, Option.bind_some]
    dsimp only
    rcases a3 with ⟨rfl, g⟩ | ⟨rfl, x, y, p', b1, b2, b3, b4, b5, b6, b7, b8, b9⟩
    · exact ⟨0, μ', rfl, a2, Or.inl ⟨rfl, g⟩⟩
    · rw [if_pos ⟨by omega, fun z => absurd z.1 (by omega)⟩] at b9
      exact ⟨1, μ', rfl, a2, Or.inr ⟨rfl, (2, 0, x, y, 0), p', b9, b1, b2, b3, ⟨by show 2 < 6; omega, by show 0 < 1000; omega, b4, b5, by show 0 < 1000; omega, fun _ _ => rfl⟩, c111, b8, Or.inl ⟨by show 2 ≤ 2; omega, by show 2 ≤ 4; omega, rfl, b6, b7⟩⟩⟩
  rw [if_neg (show ¬ nI (T p) = 111 by rw [show (111 : Int32) = nI 111 from rfl, nI_eq (by omega) (by decide)]; exact c111)]
  by_cases c118 : T p = 118
  · rw [if_pos (show nI (T p) = 118 by rw [c118]; rfl)]
    have hk : tx_kd (T p) = some 1 := by rw [c118]; rfl
    obtain ⟨w, μ', a1, a2, a3⟩ := i8_3 (F := F) ok hF hM hp hk (by omega) (h0 := 7) (h1 := 100) rfl rfl rfl rfl
    rw [a1, Option.bind_some]
    dsimp only
    rcases a3 with ⟨rfl, g⟩ | ⟨rfl, x, y, z, p', b1, b2, b3, b4, b5, b6, b8, b9, b10, b11, b12⟩
    · rw [if_pos (show (0 : Int32) = 0 from rfl)]
      exact ⟨0, μ', rfl, a2, Or.inl ⟨rfl, g⟩⟩
    · rw [if_neg (show ¬ (1 : Int32) = 0 by decide), hn_rd_0 (by decide) (by decide), b8, hn_in8 (nI x) (a := 0) (b := 7) rfl rfl]
      by_cases cx : x ≤ 7
      rotate_left 1
      · rw [hn_ckf (by rw [nI_toInt (by omega)]; omega)]
        rw [if_neg (fun q => cx q.1)] at b12
        exact ⟨0, μ', rfl, a2, Or.inl ⟨rfl, b12⟩⟩
      rw [hn_ckt (by rw [nI_toInt (by omega)]; omega), hn_rd_1 (by decide) (by decide), b9, hn_in8 (nI y) (a := 0) (b := 100) rfl rfl]
      by_cases cy : y ≤ 100
      rotate_left 1
      · rw [hn_ckf (by rw [nI_toInt (by omega)]; omega)]
        rw [if_neg (fun q => cy q.2)] at b12
        exact ⟨0, μ', rfl, a2, Or.inl ⟨rfl, b12⟩⟩
      rw [hn_ckt (by rw [nI_toInt (by omega)]; omega)]
      rw [if_pos ⟨cx, cy⟩] at b12
      exact ⟨1, μ', rfl, a2, Or.inr ⟨rfl, (1, x, y, z, 0), p', b12, b1, b2, b3, ⟨by show 1 < 6; omega, b4, b5, b6, by show 0 < 1000; omega, fun q => absurd (show 2 ≤ 1 from q) (by omega)⟩, c118, b11, Or.inr ⟨fun q => absurd (show 2 ≤ 1 from q.1) (by omega), b8, b9, b10⟩⟩⟩
  rw [if_neg (show ¬ nI (T p) = 118 by rw [show (118 : Int32) = nI 118 from rfl, nI_eq (by omega) (by decide)]; exact c118)]
  by_cases c119 : T p = 119
  · rw [if_pos (show nI (T p) = 119 by rw [c119]; rfl)]
    have hk : tx_kd (T p) = some 0 := by rw [c119]; rfl
    obtain ⟨w, μ', a1, a2, a3⟩ := i8_3 (F := F) ok hF hM hp hk (by omega) (h0 := 5) (h1 := 100) rfl rfl rfl rfl
    rw [a1, Option.bind_some]
    dsimp only
    rcases a3 with ⟨rfl, g⟩ | ⟨rfl, x, y, z, p', b1, b2, b3, b4, b5, b6, b8, b9, b10, b11, b12⟩
    · rw [if_pos (show (0 : Int32) = 0 from rfl)]
      exact ⟨0, μ', rfl, a2, Or.inl ⟨rfl, g⟩⟩
    · rw [if_neg (show ¬ (1 : Int32) = 0 by decide), hn_rd_0 (by decide) (by decide), b8, hn_town8]
      by_cases cx : x ≤ 5
      rotate_left 1
      · rw [hn_ckf (by rw [nI_toInt (by omega)]; omega)]
        rw [if_neg (fun q => cx q.1)] at b12
        exact ⟨0, μ', rfl, a2, Or.inl ⟨rfl, b12⟩⟩
      rw [hn_ckt (by rw [nI_toInt (by omega)]; omega), hn_rd_1 (by decide) (by decide), b9, hn_in8 (nI y) (a := 0) (b := 100) rfl rfl]
      by_cases cy : y ≤ 100
      rotate_left 1
      · rw [hn_ckf (by rw [nI_toInt (by omega)]; omega)]
        rw [if_neg (fun q => cy q.2)] at b12
        exact ⟨0, μ', rfl, a2, Or.inl ⟨rfl, b12⟩⟩
      rw [hn_ckt (by rw [nI_toInt (by omega)]; omega)]
      rw [if_pos ⟨cx, cy⟩] at b12
      exact ⟨1, μ', rfl, a2, Or.inr ⟨rfl, (0, x, y, z, 0), p', b12, b1, b2, b3, ⟨by show 0 < 6; omega, b4, b5, b6, by show 0 < 1000; omega, fun q => absurd (show 2 ≤ 0 from q) (by omega)⟩, c119, b11, Or.inr ⟨fun q => absurd (show 2 ≤ 0 from q.1) (by omega), b8, b9, b10⟩⟩⟩
  rw [if_neg (show ¬ nI (T p) = 119 by rw [show (119 : Int32) = nI 119 from rfl, nI_eq (by omega) (by decide)]; exact c119)]
  by_cases c120 : T p = 120
  · rw [if_pos (show nI (T p) = 120 by rw [c120]; rfl)]
    have hk : tx_kd (T p) = some 4 := by rw [c120]; rfl
    obtain ⟨w, μ', a1, a2, a3⟩ := i8_2 (F := F) ok hF hM hp hk (by omega) (h1 := 9) rfl rfl rfl rfl
    rw [a1, Option.bind_some]
    dsimp only
    rcases a3 with ⟨rfl, g⟩ | ⟨rfl, x, y, p', b1, b2, b3, b4, b5, b6, b7, b8, b9⟩
    · rw [if_pos (show (0 : Int32) = 0 from rfl)]
      exact ⟨0, μ', rfl, a2, Or.inl ⟨rfl, g⟩⟩
    · rw [if_neg (show ¬ (1 : Int32) = 0 by decide), hn_rd_0 (by decide) (by decide), b6]
      by_cases hx : x ≤ 9
      · rw [if_neg (show ¬ (10 : Int32) ≤ nI x by rw [show (10 : Int32) = nI 10 from rfl, hn_leN (by decide) (by omega)]; omega)]
        rw [if_pos ⟨hx, fun z => absurd z.1 (by omega)⟩] at b9
        exact ⟨1, μ', rfl, a2, Or.inr ⟨rfl, (4, 0, x, y, 0), p', b9, b1, b2, b3, ⟨by show 4 < 6; omega, by show 0 < 1000; omega, b4, b5, by show 0 < 1000; omega, fun _ _ => rfl⟩, c120, b8, Or.inl ⟨by show 2 ≤ 4; omega, by show 4 ≤ 4; omega, rfl, b6, b7⟩⟩⟩
      · rw [if_pos (show (10 : Int32) ≤ nI x by rw [show (10 : Int32) = nI 10 from rfl, hn_leN (by decide) (by omega)]; omega)]
        rw [if_neg (fun z => hx z.1)] at b9
        exact ⟨0, μ', rfl, a2, Or.inl ⟨rfl, b9⟩⟩
  rw [if_neg (show ¬ nI (T p) = 120 by rw [show (120 : Int32) = nI 120 from rfl, nI_eq (by omega) (by decide)]; exact c120)]
  refine ⟨0, _, rfl, fr2, Or.inl ⟨rfl, ps_none ?_⟩⟩
  unfold tx_kd
  rw [if_neg c119, if_neg c118, if_neg c111, if_neg c98, if_neg c120, if_neg c110]
end i8
