def hn_k0 : List (Option (Option Nat)) := [some (some 1), some (some 6), some (some 19), some (some 46), some (some 50), some (some 54), some (some 56), some none, some none, none, none, none, none]
def hn_k1 : List (Option (Option Nat)) := [some (some 2), some (some 3), some (some 4), some (some 5), none]
def hn_k6 : List (Option (Option Nat)) := [none, some (some 7), some (some 8), some (some 9), none, some (some 10), some (some 11), none, some (some 12), some (some 13), some (some 14), some (some 15), none, none, some (some 16), some (some 17), some (some 18)]
def hn_k20 : List (Option (Option Nat)) := [none, some (some 21), some (some 22), some (some 23), none, some (some 24), some (some 25), none, some (some 26), some (some 27), some (some 28), some (some 29), none, none, some (some 30), some (some 31), some (some 32)]
def hn_k33 : List (Option (Option Nat)) := [none, some (some 34), some (some 35), some (some 36), none, some (some 37), some (some 38), none, some (some 39), some (some 40), some (some 41), some (some 42), none, none, some (some 43), some (some 44), some (some 45)]
def hn_k46 : List (Option (Option Nat)) := [some (some 47), some (some 48), some (some 49), none]
def hn_k50 : List (Option (Option Nat)) := [some (some 51), some (some 52), some (some 53)]
def hn_k54 : List (Option (Option Nat)) := [some (some 55), none]
def hn_k56 : List (Option (Option Nat)) := [some (some 57)]
def hn_k58 : List (Option (Option Nat)) := [some (some 59), some (some 60), some (some 61), some (some 62), some (some 63), some (some 64), none, none]
def hn_k65 : List (Option (Option Nat)) := [some (some 66), some (some 67), some (some 68), some (some 69), some (some 70), some (some 71), none, none]
def hn_k72 : List (Option (Option Nat)) := [some (some 73), some (some 74), some (some 75), some (some 76), some (some 77), some (some 78), some (some 79), some (some 80), some (some 81), some (some 82), some (some 83), none, none, none, none, some (some 84), some (some 85), some (some 86), some (some 87), some (some 88), some (some 89), some (some 90), none, some (some 91), none, some (some 92)]
def hn_sh (k : Nat) : hn_S := match k with
  | 0 => .inr (.inr (.inl (7, hn_k0)))
  | 1 => .inr (.inr (.inl (2, hn_k1)))
  | 2 => .inl (false, 36)
  | 3 => .inl (false, 36)
  | 4 => .inl (false, 36)
  | 5 => .inl (false, 36)
  | 6 => .inr (.inr (.inl (1, hn_k6)))
  | 7 => .inl (false, 12)
  | 8 => .inl (false, 12)
  | 9 => .inl (false, 12)
  | 10 => .inl (false, 20)
  | 11 => .inl (false, 20)
  | 12 => .inl (false, 30)
  | 13 => .inl (false, 30)
  | 14 => .inl (false, 30)
  | 15 => .inl (false, 30)
  | 16 => .inl (false, 10)
  | 17 => .inl (false, 10)
  | 18 => .inl (false, 10)
  | 19 => .inr (.inl [20, 33])
  | 20 => .inr (.inr (.inl (1, hn_k20)))
  | 21 => .inl (false, 12)
  | 22 => .inl (false, 12)
  | 23 => .inl (false, 12)
  | 24 => .inl (false, 20)
  | 25 => .inl (false, 20)
  | 26 => .inl (false, 30)
  | 27 => .inl (false, 30)
  | 28 => .inl (false, 30)
  | 29 => .inl (false, 30)
  | 30 => .inl (false, 10)
  | 31 => .inl (false, 10)
  | 32 => .inl (false, 10)
  | 33 => .inr (.inr (.inl (1, hn_k33)))
  | 34 => .inl (false, 12)
  | 35 => .inl (false, 12)
  | 36 => .inl (false, 12)
  | 37 => .inl (false, 20)
  | 38 => .inl (false, 20)
  | 39 => .inl (false, 30)
  | 40 => .inl (false, 30)
  | 41 => .inl (false, 30)
  | 42 => .inl (false, 30)
  | 43 => .inl (false, 10)
  | 44 => .inl (false, 10)
  | 45 => .inl (false, 10)
  | 46 => .inr (.inr (.inl (3, hn_k46)))
  | 47 => .inl (false, 12)
  | 48 => .inl (false, 12)
  | 49 => .inl (false, 12)
  | 50 => .inr (.inr (.inl (5, hn_k50)))
  | 51 => .inl (false, 30)
  | 52 => .inl (false, 30)
  | 53 => .inl (false, 30)
  | 54 => .inr (.inr (.inl (4, hn_k54)))
  | 55 => .inl (true, 200)
  | 56 => .inr (.inr (.inl (6, hn_k56)))
  | 57 => .inl (false, 24)
  | 58 => .inr (.inr (.inl (0, hn_k58)))
  | 59 => .inl (false, 40)
  | 60 => .inl (false, 40)
  | 61 => .inl (false, 40)
  | 62 => .inl (false, 40)
  | 63 => .inl (false, 40)
  | 64 => .inl (false, 4)
  | 65 => .inr (.inr (.inl (0, hn_k65)))
  | 66 => .inl (false, 40)
  | 67 => .inl (false, 40)
  | 68 => .inl (false, 40)
  | 69 => .inl (false, 40)
  | 70 => .inl (false, 40)
  | 71 => .inl (false, 4)
  | 72 => .inr (.inr (.inl (8, hn_k72)))
  | 73 => .inl (false, 36)
  | 74 => .inl (false, 36)
  | 75 => .inl (false, 36)
  | 76 => .inl (false, 3)
  | 77 => .inl (false, 108)
  | 78 => .inl (false, 3)
  | 79 => .inl (false, 120)
  | 80 => .inl (false, 3)
  | 81 => .inl (false, 540)
  | 82 => .inl (false, 60)
  | 83 => .inl (false, 30)
  | 84 => .inl (false, 200)
  | 85 => .inl (false, 2)
  | 86 => .inl (false, 400)
  | 87 => .inl (false, 24)
  | 88 => .inl (false, 6)
  | 89 => .inl (false, 12)
  | 90 => .inl (false, 12)
  | 91 => .inl (false, 30)
  | _ => .inl (false, 4)
def hn_V (B : hn_B) (ks : List Nat) : Prop := ∀ k ∈ ks, k < hn_n B ∧ hn_sg B k = hn_sh k
def hn_nA : List Nat := List.range 93
def hn_nP : List Nat := [1, 2, 3, 4, 5]
def hn_nW : List Nat := [72, 73, 75]
theorem hn_V.P {B : hn_B} (h : hn_V B hn_nA) : hn_V B hn_nP := fun k hk => h k ((by decide : ∀ k ∈ hn_nP, k ∈ hn_nA) k hk)
theorem hn_V.W {B : hn_B} (h : hn_V B hn_nA) : hn_V B hn_nW := fun k hk => h k ((by decide : ∀ k ∈ hn_nW, k ∈ hn_nA) k hk)
def hn_kI (t : Nat) : List (Option (Option Nat)) := [some (some (t + 1)), some (some (t + 2)), some (some (t + 3)), some (some (t + 4)), some (some (t + 5)), some (some (t + 6)), none, none]
abbrev hn_tI (t : Nat) : Prop := t = 58 ∨ t = 65
theorem hn_Io {B : hn_B} {t : Nat} (hV : hn_V B hn_nA) (h : hn_tI t) : hn_isO B t 0 (hn_kI t) := by
  rcases h with rfl | rfl
  · exact hV 58 (by decide)
  · exact hV 65 (by decide)
theorem hn_Ia1 {B : hn_B} {t : Nat} (hV : hn_V B hn_nA) (h : hn_tI t) : hn_isA B (t + 1) false 40 := by
  rcases h with rfl | rfl
  · exact hV 59 (by decide)
  · exact hV 66 (by decide)
theorem hn_Ia2 {B : hn_B} {t : Nat} (hV : hn_V B hn_nA) (h : hn_tI t) : hn_isA B (t + 2) false 40 := by
  rcases h with rfl | rfl
  · exact hV 60 (by decide)
  · exact hV 67 (by decide)
theorem hn_Ia3 {B : hn_B} {t : Nat} (hV : hn_V B hn_nA) (h : hn_tI t) : hn_isA B (t + 3) false 40 := by
  rcases h with rfl | rfl
  · exact hV 61 (by decide)
  · exact hV 68 (by decide)
theorem hn_Ia4 {B : hn_B} {t : Nat} (hV : hn_V B hn_nA) (h : hn_tI t) : hn_isA B (t + 4) false 40 := by
  rcases h with rfl | rfl
  · exact hV 62 (by decide)
  · exact hV 69 (by decide)
theorem hn_Ia5 {B : hn_B} {t : Nat} (hV : hn_V B hn_nA) (h : hn_tI t) : hn_isA B (t + 5) false 40 := by
  rcases h with rfl | rfl
  · exact hV 63 (by decide)
  · exact hV 70 (by decide)
theorem hn_Ia6 {B : hn_B} {t : Nat} (hV : hn_V B hn_nA) (h : hn_tI t) : hn_isA B (t + 6) false 4 := by
  rcases h with rfl | rfl
  · exact hV 64 (by decide)
  · exact hV 71 (by decide)
def hn_kP (t : Nat) : List (Option (Option Nat)) := [none, some (some (t + 1)), some (some (t + 2)), some (some (t + 3)), none, some (some (t + 4)), some (some (t + 5)), none, some (some (t + 6)), some (some (t + 7)), some (some (t + 8)), some (some (t + 9)), none, none, some (some (t + 10)), some (some (t + 11)), some (some (t + 12))]
abbrev hn_tP (t : Nat) : Prop := t = 6 ∨ t = 20 ∨ t = 33
theorem hn_Po {B : hn_B} {t : Nat} (hV : hn_V B hn_nA) (h : hn_tP t) : hn_isO B t 1 (hn_kP t) := by
  rcases h with rfl | rfl | rfl
  · exact hV 6 (by decide)
  · exact hV 20 (by decide)
  · exact hV 33 (by decide)
theorem hn_Pa1 {B : hn_B} {t : Nat} (hV : hn_V B hn_nA) (h : hn_tP t) : hn_isA B (t + 1) false 12 := by
  rcases h with rfl | rfl | rfl
  · exact hV 7 (by decide)
  · exact hV 21 (by decide)
  · exact hV 34 (by decide)
theorem hn_Pa2 {B : hn_B} {t : Nat} (hV : hn_V B hn_nA) (h : hn_tP t) : hn_isA B (t + 2) false 12 := by
  rcases h with rfl | rfl | rfl
  · exact hV 8 (by decide)
  · exact hV 22 (by decide)
  · exact hV 35 (by decide)
theorem hn_Pa3 {B : hn_B} {t : Nat} (hV : hn_V B hn_nA) (h : hn_tP t) : hn_isA B (t + 3) false 12 := by
  rcases h with rfl | rfl | rfl
  · exact hV 9 (by decide)
  · exact hV 23 (by decide)
  · exact hV 36 (by decide)
theorem hn_Pa4 {B : hn_B} {t : Nat} (hV : hn_V B hn_nA) (h : hn_tP t) : hn_isA B (t + 4) false 20 := by
  rcases h with rfl | rfl | rfl
  · exact hV 10 (by decide)
  · exact hV 24 (by decide)
  · exact hV 37 (by decide)
theorem hn_Pa5 {B : hn_B} {t : Nat} (hV : hn_V B hn_nA) (h : hn_tP t) : hn_isA B (t + 5) false 20 := by
  rcases h with rfl | rfl | rfl
  · exact hV 11 (by decide)
  · exact hV 25 (by decide)
  · exact hV 38 (by decide)
theorem hn_Pa6 {B : hn_B} {t : Nat} (hV : hn_V B hn_nA) (h : hn_tP t) : hn_isA B (t + 6) false 30 := by
  rcases h with rfl | rfl | rfl
  · exact hV 12 (by decide)
  · exact hV 26 (by decide)
  · exact hV 39 (by decide)
theorem hn_Pa7 {B : hn_B} {t : Nat} (hV : hn_V B hn_nA) (h : hn_tP t) : hn_isA B (t + 7) false 30 := by
  rcases h with rfl | rfl | rfl
  · exact hV 13 (by decide)
  · exact hV 27 (by decide)
  · exact hV 40 (by decide)
theorem hn_Pa8 {B : hn_B} {t : Nat} (hV : hn_V B hn_nA) (h : hn_tP t) : hn_isA B (t + 8) false 30 := by
  rcases h with rfl | rfl | rfl
  · exact hV 14 (by decide)
  · exact hV 28 (by decide)
  · exact hV 41 (by decide)
theorem hn_Pa9 {B : hn_B} {t : Nat} (hV : hn_V B hn_nA) (h : hn_tP t) : hn_isA B (t + 9) false 30 := by
  rcases h with rfl | rfl | rfl
  · exact hV 15 (by decide)
  · exact hV 29 (by decide)
  · exact hV 42 (by decide)
theorem hn_Pa10 {B : hn_B} {t : Nat} (hV : hn_V B hn_nA) (h : hn_tP t) : hn_isA B (t + 10) false 10 := by
  rcases h with rfl | rfl | rfl
  · exact hV 16 (by decide)
  · exact hV 30 (by decide)
  · exact hV 43 (by decide)
theorem hn_Pa11 {B : hn_B} {t : Nat} (hV : hn_V B hn_nA) (h : hn_tP t) : hn_isA B (t + 11) false 10 := by
  rcases h with rfl | rfl | rfl
  · exact hV 17 (by decide)
  · exact hV 31 (by decide)
  · exact hV 44 (by decide)
theorem hn_Pa12 {B : hn_B} {t : Nat} (hV : hn_V B hn_nA) (h : hn_tP t) : hn_isA B (t + 12) false 10 := by
  rcases h with rfl | rfl | rfl
  · exact hV 18 (by decide)
  · exact hV 32 (by decide)
  · exact hV 45 (by decide)
abbrev hn_tD (d : Nat) : Prop := d = 47 ∨ d = 49
theorem hn_Da {B : hn_B} {d : Nat} (hV : hn_V B hn_nA) (h : hn_tD d) : hn_isA B d false 12 := by
  rcases h with rfl | rfl
  · exact hV 47 (by decide)
  · exact hV 49 (by decide)
abbrev hn_tT (d : Nat) : Prop := d = 17 ∨ d = 18
theorem hn_Ta {B : hn_B} {d : Nat} (hV : hn_V B hn_nA) (h : hn_tT d) : hn_isA B d false 10 := by
  rcases h with rfl | rfl
  · exact hV 17 (by decide)
  · exact hV 18 (by decide)
def hn_it {α : Type} (x : Int32) (K : Nat → Option α) : Option α := if x = 58 ∨ x = 65 then K x.toNatClampNeg else none
theorem hn_getIt {Z : hn_Z} {B : hn_B} {kp : Nat × Nat} {cc : ByteArray} {nL : Nat} {own : String} {ret : Option FieldType} {h : Nat} {pc q : Nat} {L : List (Nat × Value)} {st : List Value} {μ : hn_M} {α : Type} {R : α} {k j ci idx : Nat} {ks : List (Option (Option Nat))} {K : Nat → Option α} (hF : hn_F Z B kp cc nL own ret h) (hl : hn_fl own idx ci j) (ho : hn_isO B k ci ks) (hj : ks[j]? = some (some none)) (hd : decode cc pc = .ok (.getfield idx, 3)) (hq : pc + 3 = q) (e : hn_it (μ k j) K = some R) (kk : ∀ t : Nat, hn_tI t → K t = some R → hn_G Z B kp nL q L (.ref (hn_base B + t) :: st) μ) : hn_G Z B kp nL pc L (.ref (hn_base B + k) :: st) μ := by
  by_cases hx : μ k j = 58 ∨ μ k j = 65
  · have e' : K (μ k j).toNatClampNeg = some R := by simpa only [hn_it, if_pos hx] using e
    have ht : hn_tI (μ k j).toNatClampNeg := by
      rcases hx with hx | hx <;> rw [hx]
      · exact Or.inl rfl
      · exact Or.inr rfl
    exact hn_get hF hl ho hj rfl hd hq (kk _ ht e')
  · simp [hn_it, hx] at e
theorem hn_dv {base t : Nat} (h : hn_tI t) : hn_val base (some none) (Int32.ofNat t) = .ref (base + t) := by
  rcases h with rfl | rfl <;> rfl
theorem hn_nb {v : Int32} (h : v = 0 ∨ v = 1) : narrow .boolean (.int v) = .int v := by rcases h with rfl | rfl <;> rfl
theorem hn_fb {v : Int32} (h : v = 0 ∨ v = 1) : fits .boolean (.int v) = true := by rcases h with rfl | rfl <;> rfl
