/-! write, wipe -/
def hn_byte (v : Int64) (k : Nat) : BitVec 8 := (v.toBitVec >>> (8 * k)).setWidth 8
theorem wr_sh7 : ∀ k : Fin 8, (((nI (8 * k.val)).toInt64.toUInt64 &&& Int64.toUInt64 63).toBitVec % 64).toNat = 8 * k.val := by decide +kernel
theorem wr_sh8 : ∀ k : Fin 8, (((8 * nI k.val).toInt64 &&& 63).toBitVec.smod 64).toNat = 8 * k.val := by decide +kernel
theorem wr_255 : ∀ i : Fin 32, (255#64).getLsbD i.val = decide (i.val < 8) := by decide +kernel
theorem wr_sx : ∀ b : Fin 256, (hn_sx b.val).toBitVec = (BitVec.ofNat 8 b.val).signExtend 32 := by decide +kernel
theorem wr_m (v : Int64) {k : Nat} (hk : k < 8) : ((v >>> ((8 * nI k).toInt64 &&& 63)) &&& 255).toInt32 = nI (hn_byte v k).toNat := by
  refine Int32.toBitVec_inj.mp ?_
  have e1 : (((v >>> ((8 * nI k).toInt64 &&& 63)) &&& 255).toInt32).toBitVec = (((v.toBitVec.sshiftRight (8 * k)) &&& 255#64).signExtend 32) := by
    rw [Int64.toBitVec_toInt32, Int64.toBitVec_and, Int64.toBitVec_shiftRight, BitVec.sshiftRight', wr_sh8 ⟨k, hk⟩]
    rfl
  rw [e1]
  show _ = BitVec.ofNat 32 (hn_byte v k).toNat
  rw [BitVec.signExtend_eq_setWidth_of_le _ (by decide)]
  refine BitVec.eq_of_getLsbD_eq fun i hi => ?_
  rw [BitVec.getLsbD_setWidth, BitVec.getLsbD_and, BitVec.getLsbD_sshiftRight, wr_255 ⟨i, hi⟩]
  have e2 : BitVec.ofNat 32 (hn_byte v k).toNat = (hn_byte v k).setWidth 32 := BitVec.ofNat_toNat ..
  rw [e2, BitVec.getLsbD_setWidth]
  unfold hn_byte
  rw [BitVec.getLsbD_setWidth, BitVec.getLsbD_ushiftRight]
  by_cases h8 : i < 8
  · rw [if_pos (show 8 * k + i < 64 by omega)]
    simp [h8, hi, show ¬ 64 ≤ i by omega]
  · simp [h8]
theorem wr_nar (y : Int8) : vp_nar .byte y.toInt32 = y.toInt32 := by
  show y.toInt32.toInt8.toInt32 = y.toInt32
  rw [Int8.toInt8_toInt32]
theorem wr_c (v : Int64) {k : Nat} (hk : k < 8) : vp_nar .byte ((((v.toUInt64 >>> ((nI (8 * k)).toInt64.toUInt64 &&& Int64.toUInt64 63)).toInt64).toInt32).toInt8.toInt32) = hn_sx (hn_byte v k).toNat := by
  rw [wr_nar]
  refine Int32.toBitVec_inj.mp ?_
  rw [wr_sx ⟨(hn_byte v k).toNat, (hn_byte v k).isLt⟩, Int8.toBitVec_toInt32]
  congr 1
  show _ = BitVec.ofNat 8 (hn_byte v k).toNat
  rw [BitVec.ofNat_toNat, BitVec.setWidth_eq, Int32.toBitVec_toInt8, Int64.toBitVec_toInt32]
  have e1 : (v.toUInt64 >>> ((nI (8 * k)).toInt64.toUInt64 &&& Int64.toUInt64 63)).toInt64.toBitVec = v.toBitVec >>> (8 * k) := by
    show (v.toUInt64 >>> ((nI (8 * k)).toInt64.toUInt64 &&& Int64.toUInt64 63)).toBitVec = _
    rw [UInt64.toBitVec_shiftRight, BitVec.ushiftRight_eq', wr_sh7 ⟨k, hk⟩]
    rfl
  rw [e1, BitVec.signExtend_eq_setWidth_of_le _ (by decide), BitVec.signExtend_eq_setWidth_of_le _ (by decide), BitVec.setWidth_setWidth_of_le _ (by decide)]
  rfl
section wr
variable {μ ν : hn_M} {V : hn_Vw} {D S : Nat → Nat → Int} {o F : Nat}
theorem hn_m8 (r : Nat) : nI (8 * (r + 1)) - 8 = nI (8 * r) := by
  rw [show (8 : Int32) = nI 8 from rfl, pk_sub (by omega), show 8 * (r + 1) - 8 = 8 * r by omega]
theorem wr_app (v : Int64) : ∀ (r L fu : Nat) (μ : hn_M), μ 54 1 = nI L → L + r ≤ 200 → r < fu → r ≤ 8 → ∃ μ', fX4_append_8 F fu v (nI (8 * r) - 8) μ = some μ' ∧ μ' 54 1 = nI (L + r) ∧ (∀ k, k ≠ 54 → k ≠ 55 → μ' k = μ k) ∧ ∀ i, μ' 55 i = if L ≤ i ∧ i < L + r then hn_sx (hn_byte v (L + r - 1 - i)).toNat else μ 55 i := by
  intro r
  induction r with
  | zero =>
    intro L fu μ h1 h2 h3 h4
    obtain ⟨fu, rfl⟩ : ∃ n', fu = n' + 1 := ⟨fu - 1, by omega⟩
    refine ⟨μ, ?_, h1, fun k _ _ => rfl, fun i => by rw [if_neg (by omega)]⟩
    rw [fX4_append_8, if_pos (by decide)]
  | succ r ih =>
    intro L fu μ h1 h2 h3 h4
    obtain ⟨fu, rfl⟩ : ∃ n', fu = n' + 1 := ⟨fu - 1, by omega⟩
    obtain ⟨μ', g1, g2, g3, g4⟩ := ih (L + 1) fu (hn_up (hn_up μ 55 L (hn_sx (hn_byte v r).toNat)) 54 1 (nI (L + 1))) hn_up_at (by omega) (by omega) (by omega)
    refine ⟨μ', ?_, by rw [g2, show L + 1 + r = L + (r + 1) by omega], fun k k1 k2 => by rw [g3 k k1 k2, hn_up_ne k1, hn_up_ne k2], fun i => ?_⟩
    · rw [fX4_append_8, hn_m8, if_neg (nI_pos (by omega)), h1, hn_wr_at (by omega) (by decide), wr_c v (by omega)]
      unfold hn_pf
      rw [hn_up_ne (show (54 : Nat) ≠ 55 by decide), h1, nI_1, show nI (8 * r) + (-8) = nI (8 * r) - 8 from (Int32.sub_eq_add_neg (nI (8 * r)) 8).symm]
      exact g1
    · rw [g4 i, hn_up_ne (show (55 : Nat) ≠ 54 by decide), hn_upk]
      by_cases hiL : i = L
      · subst hiL
        rw [if_neg (by omega), if_pos (show i = i from rfl), if_pos (by omega), show i + (r + 1) - 1 - i = r by omega]
      · by_cases hin : L + 1 ≤ i ∧ i < L + 1 + r
        · rw [if_pos hin, if_pos (by omega), show L + 1 + r - 1 - i = L + (r + 1) - 1 - i by omega]
        · rw [if_neg hin, if_neg hiL, if_neg (by omega)]
theorem wr_mod (v : Int64) : ∀ (r L fu : Nat) (μ : hn_M), μ 72 14 = nI L → L + r ≤ 200 → r < fu → r ≤ 8 → ∃ μ', fX8_write_34 F fu v (nI r - 1) μ = some (nI (L + r), μ') ∧ μ' 72 14 = nI (L + r) ∧ (∀ k, k ≠ 72 → k ≠ 84 → μ' k = μ k) ∧ (∀ i, i ≠ 14 → μ' 72 i = μ 72 i) ∧ ∀ i, μ' 84 i = if L ≤ i ∧ i < L + r then nI (hn_byte v (L + r - 1 - i)).toNat else μ 84 i := by
  intro r
  induction r with
  | zero =>
    intro L fu μ h1 h2 h3 h4
    obtain ⟨fu, rfl⟩ : ∃ n', fu = n' + 1 := ⟨fu - 1, by omega⟩
    refine ⟨μ, ?_, h1, fun k _ _ => rfl, fun i _ => rfl, fun i => by rw [if_neg (by omega)]⟩
    rw [fX8_write_34, if_pos (by decide), h1]
    rfl
  | succ r ih =>
    intro L fu μ h1 h2 h3 h4
    obtain ⟨fu, rfl⟩ : ∃ n', fu = n' + 1 := ⟨fu - 1, by omega⟩
    obtain ⟨μ', g1, g2, g3, g5, g4⟩ := ih (L + 1) fu (hn_up (hn_up μ 84 L (nI (hn_byte v r).toNat)) 72 14 (nI (L + 1))) hn_up_at (by omega) (by omega) (by omega)
    refine ⟨μ', ?_, by rw [g2, show L + 1 + r = L + (r + 1) by omega], fun k k1 k2 => by rw [g3 k k1 k2, hn_up_ne k1, hn_up_ne k2], fun i hi => by rw [g5 i hi, hn_up_off hi, hn_up_ne (by decide)], fun i => ?_⟩
    · rw [fX8_write_34, nI_pred, if_neg (nI_pos (by omega)), h1, hn_wr_at (by omega) (by decide), wr_m v (by omega)]
      unfold hn_pf
      rw [hn_up_ne (show (72 : Nat) ≠ 84 by decide), h1, nI_1, hn_m1a, show L + (r + 1) = L + 1 + r by omega]
      exact g1
    · rw [g4 i, hn_up_ne (show (84 : Nat) ≠ 72 by decide), hn_upk]
      by_cases hiL : i = L
      · subst hiL
        rw [if_neg (by omega), if_pos (show i = i from rfl), if_pos (by omega), show i + (r + 1) - 1 - i = r by omega]
      · by_cases hin : L + 1 ≤ i ∧ i < L + 1 + r
        · rw [if_pos hin, if_pos (by omega), show L + 1 + r - 1 - i = L + (r + 1) - 1 - i by omega]
        · rw [if_neg hin, if_neg hiL, if_neg (by omega)]
/-- calls that write texts: all else stays -/
theorem hn_Ba_t (h : ∀ k, k ≠ 54 → k ≠ 55 → k ≠ 72 → k ≠ 84 → ν k = μ k) (h1 : ∀ i, i ≠ 14 → ν 72 i = μ 72 i) (ht : iT ν) (i : hn_Ba μ V D S o) : hn_Ba ν V D S o := by
  obtain ⟨i1, i2, i3, i4, i5, i6, i7⟩ := i
  have e0 := h 0 (by decide) (by decide) (by decide) (by decide)
  exact ⟨iP_c (fun k hk => h k (by omega) (by omega) (by omega) (by omega)) i1, iV_c (fun k hk => h k (by omega) (by omega) (by omega) (by omega)) i2, iK_c (by rw [e0]) (h1 11 (by decide)) (fun k hk => h k (by omega) (by omega) (by omega) (by omega)) i3, iF_c ⟨by rw [e0], by rw [e0]⟩ ⟨h1 12 (by decide), h1 13 (by decide)⟩ i4, ht,
    iI_c ⟨by rw [e0], by rw [e0]⟩ (fun k hk => h k (by omega) (by omega) (by omega) (by omega)) i6, iW_c ⟨h 57 (by decide) (by decide) (by decide) (by decide), h 87 (by decide) (by decide) (by decide) (by decide)⟩ i7⟩
theorem c_write (hF : 12000 ≤ F) (x : Int32) (v : Int64) : hn_cM (fun μ => fX7_write F x v μ) (fun μ => fX8_write F x v μ) := by
  intro μ ⟨V, D, S, o, hB, hS⟩
  have hI : hn_Inv μ := ⟨V, D, S, o, hB, hS⟩
  obtain ⟨L, l1, l2, l3, l4⟩ := hB.2.2.2.2.1
  have e1 : (1 : Int32).toInt = 1 := rfl
  have e8 : (8 : Int32).toInt = 8 := rfl
  show ∃ r μ1 μ2, fX7_write F x v μ = some (r, μ1) ∧ fX8_write F x v μ1 = some (r, μ2) ∧ _
  by_cases hg : 1 ≤ x.toInt ∧ x.toInt ≤ 8
  rotate_left 1
  · refine ⟨-1, μ, μ, ?_, ?_, hI⟩
    · unfold fX7_write
      by_cases h1 : 1 ≤ x.toInt
      · rw [if_neg (by rw [hn_lt, e1]; omega), if_neg (by rw [hn_le, e8]; exact fun z => hg ⟨h1, z⟩)]
      · rw [if_pos (by rw [hn_lt, e1]; omega)]
    · unfold fX8_write
      rw [hn_in8 x (a := 1) (b := 8) rfl rfl, hn_ckf hg]
  obtain ⟨n, rfl, hn⟩ := hn_nat (x := x) (by omega)
  have c7 : fX7_write F (nI n) v μ = if nI L + nI n ≤ 200 then (fX4_append F (nI n) v μ).bind fun μ1 => some (μ1 54 1, μ1) else some ((-3), μ) := by
    unfold fX7_write
    rw [if_neg (by rw [hn_lt, e1]; omega), if_pos (by rw [hn_le, e8]; omega), l2]
  have c8 : ∀ ξ : hn_M, ξ 72 14 = nI L → fX8_write F (nI n) v ξ = if nI L + nI n ≤ 200 then fX8_write_34 F F v (nI n - 1) ξ else some ((-3), ξ) := by
    intro ξ hξ
    unfold fX8_write
    rw [hn_in8 (nI n) (a := 1) (b := 8) rfl rfl, hn_ckt hg, hξ]
  rw [c7]
  by_cases h2 : L + n ≤ 200
  rotate_left 1
  · have h2' : ¬ nI L + nI n ≤ 200 := by rw [nI_add, show (200 : Int32) = nI 200 from rfl, hn_leN (by omega) (by decide)]; exact h2
    exact ⟨-3, μ, μ, by rw [if_neg h2'], by rw [c8 μ l3, if_neg h2'], hI⟩
  have h2' : nI L + nI n ≤ 200 := by rw [nI_add, show (200 : Int32) = nI 200 from rfl, hn_leN (by omega) (by decide)]; exact h2
  obtain ⟨n', rfl⟩ : ∃ n', n = n' + 1 := ⟨n - 1, by omega⟩
  obtain ⟨μ1, a1, a2, a3, a4⟩ := wr_app (F := F) v (n' + 1) L F μ l2 h2 (by omega) (by omega)
  have l3' : μ1 72 14 = nI L := by rw [a3 72 (by decide) (by decide)]; exact l3
  obtain ⟨μ2, b1, b2, b3, b4, b5⟩ := wr_mod (F := F) v (n' + 1) L F μ1 l3' h2 (by omega) (by omega)
  refine ⟨nI (L + (n' + 1)), μ1, μ2, ?_, by rw [c8 μ1 l3', if_pos h2', b1], ?_⟩
  · rw [if_pos h2']
    unfold fX4_append
    rw [nI_pred, show (8 : Int32) * nI n' = nI (8 * n') by rw [show (8 : Int32) = nI 8 from rfl, pk_mul], ← hn_m8, a1, Option.bind_some, a2]
  · have fk : ∀ k, k ≠ 54 → k ≠ 55 → k ≠ 72 → k ≠ 84 → μ2 k = μ k := fun k k1 k2 k3 k4 => by rw [b3 k k3 k4, a3 k k1 k2]
    refine ⟨V, D, S, o, hn_Ba_t fk (fun i hi => by rw [b4 i hi, a3 72 (by decide) (by decide)]) ⟨L + (n' + 1), h2, by rw [b3 54 (by decide) (by decide)]; exact a2, b2, fun i hi => ?_⟩ hB, iS_c (by rw [fk 0 (by decide) (by decide) (by decide) (by decide)]) ⟨by rw [fk 46 (by decide) (by decide) (by decide) (by decide)], fk 47 (by decide) (by decide) (by decide) (by decide), fk 48 (by decide) (by decide) (by decide) (by decide), fk 51 (by decide) (by decide) (by decide) (by decide), fk 52 (by decide) (by decide) (by decide) (by decide), fk 53 (by decide) (by decide) (by decide) (by decide)⟩ hS⟩
    rw [b5 i, b3 55 (by decide) (by decide), a4 i]
    by_cases hiL : L ≤ i
    · rw [if_pos ⟨hiL, hi⟩, if_pos ⟨hiL, hi⟩]
      exact ⟨_, (hn_byte v (L + (n' + 1) - 1 - i)).isLt, rfl, rfl⟩
    · rw [if_neg (fun z => hiL z.1), if_neg (fun z => hiL z.1), a3 84 (by decide) (by decide)]
      exact l4 i (by omega)
theorem c_wipe : hn_cM (fun μ => fX7_wipe μ) (fun μ => fX8_wipe μ) := by
  intro μ ⟨V, D, S, o, hB, hS⟩
  obtain ⟨L, l1, l2, l3, l4⟩ := hB.2.2.2.2.1
  refine ⟨nI L, hn_up μ 54 1 0, hn_up (hn_up μ 54 1 0) 72 14 0, ?_, ?_, ?_⟩
  · show fX7_wipe μ = _
    unfold fX7_wipe
    rw [l2]; rfl
  · show fX8_wipe (hn_up μ 54 1 0) = _
    unfold fX8_wipe
    rw [hn_up_ne (show (72 : Nat) ≠ 54 by decide), l3]; rfl
  · have fk : ∀ k, k ≠ 54 → k ≠ 72 → hn_up (hn_up μ 54 1 0) 72 14 0 k = μ k := fun k k1 k3 => by rw [hn_up_ne k3, hn_up_ne k1]
    refine ⟨V, D, S, o, hn_Ba_t (fun k k1 _ k3 _ => fk k k1 k3) (fun i hi => by rw [hn_up_off hi, hn_up_ne (by decide)]) ⟨0, by omega, ?_, hn_up_at, fun i hi => by omega⟩ hB, iS_c (by rw [fk 0 (by decide) (by decide)]) ⟨by rw [fk 46 (by decide) (by decide)], fk 47 (by decide) (by decide), fk 48 (by decide) (by decide), fk 51 (by decide) (by decide), fk 52 (by decide) (by decide), fk 53 (by decide) (by decide)⟩ hS⟩
    rw [hn_up_ne (by decide), hn_up_at]; rfl
end wr
