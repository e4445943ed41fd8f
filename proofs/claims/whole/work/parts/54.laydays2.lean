/-! the model's layDays from its beginning -/
section ld2
variable {V : hn_Vw} {D : Nat → Nat → Int} {O μ : hn_M} {F : Nat} {l1 l2 : Int32} {ex : List (Nat × Nat × Int)}
theorem ld_lay (hV : okV V D) (hD : okD D) (hM : repM O 0 V) (hW : hn_W O D) (hm : sp_mode V l1 l2 ex) (hF : 12000 ≤ F) : ∃ v μ', fX8_layDays F l1 l2 O = some (v, μ') ∧ ld_res V D O (sp_E V D ++ ex) v μ' := by
  have hn := hV.1
  obtain ⟨μ1, h1, h2, h3⟩ := hn_loopE (fun n j s => fX8_layDays_2 F n l1 l2 (nI j) s) (vN V) (fun s => fX8_layDays_66 F l1 l2 s)
    (fun j s => ld_fr O s ∧ ∀ t, t < j → (s 89 t).toInt = sp_lo V D 0 t ∧ (s 90 t).toInt = sp_hi V t)
    (fun n s hi => by
      show fX8_layDays_2 F (n + 1) l1 l2 (nI (vN V)) s = _
      have e76 : s 76 0 = nI (vN V) := by rw [hi.1.1 76 (by decide) (by decide) (by decide)]; exact rm_n hM
      rw [fX8_layDays_2, hn_rd_0 (by decide) (by decide), e76, if_pos (by rw [hn_leN (by omega) (by omega)]; exact Nat.le_refl _)])
    (fun n j s hj hi => by
      obtain ⟨i1, i2⟩ := hi
      have hMs : repM s 0 V := rm_cong (fun k a b => i1.1 k (by omega) (by omega) (by omega)) hM
      have rs := rm_s hMs hj
      have os := hV.2.1 j hj
      refine ⟨hn_up (hn_up s 89 j (if 0 ≤ s 77 (3 * j + 2) then s 77 (3 * j + 2) else 0)) 90 j (if 0 ≤ s 77 (3 * j + 2) then s 77 (3 * j + 2) else 999), ?_, ld_fr1 (ld_fr1 i1 (Or.inl rfl)) (Or.inr rfl), fun t ht => ?_⟩
      · show fX8_layDays_2 F (n + 1) l1 l2 (nI j) s = _
        rw [fX8_layDays_2]
        simp (disch := omega) only [hn_rd_0, hn_rd_at, hn_ix3, hn_p2, rm_n hMs]
        rw [if_neg (by rw [hn_leN (by omega) (by omega)]; omega)]
        unfold fX8_layDays_40 fX8_layDays_59
        by_cases hc : 0 ≤ s 77 (3 * j + 2)
        · simp (disch := omega) only [if_pos hc, hn_wr_at, hn_p1]
        · simp (disch := omega) only [if_neg hc, hn_wr_at, hn_p1]
      · rw [hn_upk, hn_up_ne (show (89 : Nat) ≠ 90 by decide), hn_upk]
        by_cases htj : t = j
        · subst htj
          rw [if_pos rfl, if_pos rfl]
          have hz : (0 ≤ s 77 (3 * t + 2)) ↔ 0 ≤ (vS V t).2.2 := by rw [hn_le, rs.2.2]; exact Iff.rfl
          show _ = (if (vS V t).2.2 < 0 then 0 else (vS V t).2.2) ∧ _ = (if (vS V t).2.2 = -1 then 999 else (vS V t).2.2)
          by_cases hc : 0 ≤ (vS V t).2.2
          · rw [if_pos (hz.mpr hc), if_pos (hz.mpr hc), if_neg (by omega), if_neg (by omega)]
            exact ⟨rs.2.2, rs.2.2⟩
          · rw [if_neg (fun z => hc (hz.mp z)), if_neg (fun z => hc (hz.mp z)), if_pos (by omega), if_pos (by omega)]
            exact ⟨rfl, rfl⟩
        · rw [if_neg htj, hn_up_ne (show (90 : Nat) ≠ 89 by decide), if_neg htj]
          exact i2 t (by omega))
    (vN V) 0 F O (by omega) (by omega) ⟨⟨fun k _ _ _ => rfl, fun i _ => rfl⟩, fun t ht => by omega⟩
  have h1 : fX8_layDays F l1 l2 O = fX8_layDays_66 F l1 l2 μ1 := h1
  rw [h1]
  obtain ⟨μ2, g1, g2, g3⟩ := hn_loopE (fun n j s => fX8_layDays_68 F n l1 l2 (nI j) s) (vK V) (fun s => fX8_layDays_192 F l1 l2 s)
    (fun j s => ld_fr O s ∧ ∀ t, t < vN V → (s 89 t).toInt = sp_lo V D j t ∧ (s 90 t).toInt = sp_hi V t)
    (fun n s hi => by
      show fX8_layDays_68 F (n + 1) l1 l2 (nI (vK V)) s = _
      have e80 : s 80 0 = nI (vK V) := by rw [hi.1.1 80 (by decide) (by decide) (by decide)]; exact rm_k hM
      rw [fX8_layDays_68, hn_rd_0 (by decide) (by decide), e80, if_pos (by rw [hn_leN (by omega) (by omega)]; exact Nat.le_refl _)])
    (fun n j s hj hi => by
      obtain ⟨i1, i2⟩ := hi
      have hMs : repM s 0 V := rm_cong (fun k a b => i1.1 k (by omega) (by omega) (by omega)) hM
      have ry := rm_y hMs hj
      have oy := hV.2.2.2.1 j hj
      have os := hV.2.1 _ oy.1
      have rs := rm_s hMs oy.1
      have e75 : s 75 = O 75 := i1.1 75 (by decide) (by decide) (by decide)
      have lo := sp_lo_b hV hD j (by omega) _ oy.1
      have xs := i2 _ oy.1
      rcases rm_e hMs oy.2.1 with ⟨e1, e2⟩ | ⟨a, d, e1, e2, e3⟩
      · refine ⟨s, ?_, i1, fun t ht => ?_⟩
        · show fX8_layDays_68 F (n + 1) l1 l2 (nI j) s = _
          rw [fX8_layDays_68]
          simp (disch := omega) only [hn_rd_0, hn_rd_at, hn_ix6m, hn_ix2, hn_p1, rm_k hMs, ry.1, ry.2.1, e2]
          rw [if_neg (by rw [hn_leN (by omega) (by omega)]; omega), if_pos (by decide)]
          unfold fX8_layDays_186
          rw [nI_1]
        · have : sp_lo V D (j + 1) = sp_lo V D j := by
            show (match sp_ev V D j with | none => _ | some z => _) = _
            have : sp_ev V D j = none := by unfold sp_ev; rw [e1]; rfl
            rw [this]
          rw [this]; exact i2 t ht
      · have oe := hV.2.2.2.2.1 _ oy.2.1 a d e1
        have w := hW a _ oe.1 os.1
        have dd := hD a _ oe.1 os.1
        have d1 := oy.2.2.2.2 a d e1
        unfold fw_enc at w
        rw [if_pos d1] at w
        have hev : sp_ev V D j = some ((d : Int) + D a (vS V (vY V j).1).1) := by unfold sp_ev; rw [e1]; rfl
        have sm : (nI d + O 75 (6 * a + (vS V (vY V j).1).1)).toInt = (d : Int) + D a (vS V (vY V j).1).1 := by
          have := nI_toInt (n := d) (by omega)
          rw [hn_addI (by omega) (by omega), w, this]
        have hlo : sp_lo V D (j + 1) = dy_up (sp_lo V D j) (vY V j).1 (sp_m (sp_lo V D j (vY V j).1) ((d : Int) + D a (vS V (vY V j).1).1)) := by
          show (match sp_ev V D j with | none => _ | some z => _) = _
          rw [hev]
        refine ⟨hn_up s 89 (vY V j).1 (if nI d + O 75 (6 * a + (vS V (vY V j).1).1) ≤ s 89 (vY V j).1 then s 89 (vY V j).1 else nI d + O 75 (6 * a + (vS V (vY V j).1).1)), ?_, ld_fr1 i1 (Or.inl rfl), fun t ht => ?_⟩
        · show fX8_layDays_68 F (n + 1) l1 l2 (nI j) s = _
          rw [fX8_layDays_68]
          simp (disch := omega) only [hn_rd_0, hn_rd_at, hn_ix6m, hn_ix2, hn_ix3, hn_p1, rm_k hMs, ry.1, ry.2.1, e2, e3, rs.1, nI_add, e75]
          rw [if_neg (by rw [hn_leN (by omega) (by omega)]; omega), if_neg (nI_pos (by omega))]
          unfold fX8_layDays_185 fX8_layDays_186
          by_cases hc : nI d + O 75 (6 * a + (vS V (vY V j).1).1) ≤ s 89 (vY V j).1
          · simp (disch := omega) only [if_pos hc, hn_wr_at, hn_p1]
          · simp (disch := omega) only [if_neg hc, hn_wr_at, hn_p1]
        · rw [hn_upk, hn_up_ne (show (90 : Nat) ≠ 89 by decide), hlo]
          refine ⟨?_, (i2 t ht).2⟩
          unfold dy_up sp_m
          by_cases hts : t = (vY V j).1
          · rw [if_pos hts, if_pos hts]
            by_cases hc : sp_lo V D j (vY V j).1 < (d : Int) + D a (vS V (vY V j).1).1
            · rw [if_pos hc, if_neg (by rw [hn_le, sm, xs.1]; omega), sm]
            · rw [if_neg hc, if_pos (by rw [hn_le, sm, xs.1]; omega), xs.1]
          · rw [if_neg hts, if_neg hts]; exact (i2 t ht).1)
    (vK V) 0 F μ1 (by omega) (by omega) ⟨h2, h3⟩
  have g1 : fX8_layDays_66 F l1 l2 μ1 = fX8_layDays_192 F l1 l2 μ2 := g1
  rw [g1]
  have hb : ∀ s, s < vN V → -1 ≤ sp_hi V s ∧ sp_hi V s ≤ 999 := by
    intro s hs
    have := hV.2.1 s hs
    unfold sp_hi
    by_cases h : (vS V s).2.2 = -1
    · rw [if_pos h]; omega
    · rw [if_neg h]; omega
  refine ld_main hV hD hM hW hm (by omega) 11999 F (hn_up μ2 72 22 1) (sp_lo V D (vK V)) (sp_hi V) (by omega) (ld_fr2 g2) (fun s hs => ?_) (fun s _ => ⟨Int.le_refl _, Int.le_refl _⟩) (fun m hm s hs => hm.1 s hs) (Or.inr ⟨hn_up_at, fun _ => ?_⟩)
  · have a := g3 s hs
    have b := sp_lo_b hV hD (vK V) (Nat.le_refl _) s hs
    have c := hb s hs
    rw [hn_up_ne (show (89 : Nat) ≠ 72 by decide), hn_up_ne (show (90 : Nat) ≠ 72 by decide)]
    exact ⟨a.1, a.2, b.1, by omega, by omega, c.2⟩
  · have := ld_z_ub (f := sp_lo V D (vK V)) (l := sp_hi V) (n := vN V) (fun s hs => by
      have b := sp_lo_b hV hD (vK V) (Nat.le_refl _) s hs
      have c := hb s hs
      omega)
    omega
theorem ld_are (hV : okV V D) (hD : okD D) (hM : repM O 0 V) (hW : hn_W O D) (hF : 12000 ≤ F) : ∃ v μ', fX8_areDays F O = some (v, μ') ∧ ld_res V D O (sp_E V D) v μ' := by
  obtain ⟨v, μ', h1, h2⟩ := ld_lay (l1 := -1) (l2 := -1) hV hD hM hW (Or.inl ⟨rfl, rfl⟩) hF
  rw [List.append_nil] at h2
  refine ⟨v, μ', ?_, h2⟩
  unfold fX8_areDays hn_bo
  rw [h1, Option.bind_some, if_pos (h2.2.elim (fun z => Or.inr z.1) (fun z => Or.inl z.1))]
end ld2
