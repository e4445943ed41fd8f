theorem hn_w_max : Cond.static Lib.Math.max.name ∈ hn_tb ∧ Cond.code Lib.Math.max.name Lib.Math.max.code 2 (some .int) ∈ hn_tb := ⟨hn_in (by decide +kernel) rfl, hn_in (by decide +kernel) rfl⟩
theorem hn_w_min : Cond.static Lib.Math.min.name ∈ hn_tb ∧ Cond.code Lib.Math.min.name Lib.Math.min.code 2 (some .int) ∈ hn_tb := ⟨hn_in (by decide +kernel) rfl, hn_in (by decide +kernel) rfl⟩
theorem hn_w_abs : Cond.static Lib.Math.abs.name ∈ hn_tb ∧ Cond.code Lib.Math.abs.name Lib.Math.abs.code 1 (some .int) ∈ hn_tb := ⟨hn_in (by decide +kernel) rfl, hn_in (by decide +kernel) rfl⟩
theorem hn_wMath : Cond.initialized "java/lang/Math" ∈ hn_tb := hn_in (by decide +kernel) rfl
theorem hn_wCopy : Cond.native arraycopyName ∈ hn_tb ∧ Cond.static arraycopyName ∈ hn_tb ∧ Cond.initialized "java/lang/System" ∈ hn_tb := ⟨hn_in (by decide +kernel) rfl, hn_in (by decide +kernel) rfl, hn_in (by decide +kernel) rfl⟩
def hn_letter (j : Nat) : Int32 := ([119, 118, 111, 98, 120, 110] : List Int32).getD j 0
def hn_rs {α : Type} (f : Nat → Int32) (n : Nat) (i : Int32) (K : Int32 → Option α) : Option α := if i < 0 ∨ n ≤ i.toNatClampNeg then none else K (f i.toNatClampNeg)
def hn_chr {α : Type} (i : Int32) (K : Int32 → Option α) : Option α := hn_rs hn_letter 6 i K
theorem hn_rs_some {α : Type} {R : α} {f : Nat → Int32} {n : Nat} {i : Int32} {K : Int32 → Option α} (e : hn_rs f n i K = some R) : vp_in i n ∧ K (f i.toNatClampNeg) = some R := by
  by_cases hin : i < 0 ∨ n ≤ i.toNatClampNeg
  · simp [hn_rs, hin] at e
  · exact ⟨hin, by simpa only [hn_rs, if_neg hin] using e⟩
section hn_more
variable {Z : hn_Z} {B : hn_B} {kp : Nat × Nat} {cc : ByteArray} {nL : Nat} {own : String} {ret : Option FieldType} {h : Nat} {pc q : Nat} {L L' : List (Nat × Value)} {st : List Value} {μ : hn_M} {α : Type} {R : α}
theorem hn_max {idx : Nat} {x y : Int32} (hF : hn_F Z B kp cc nL own ret h) (hl : Cond.methodLink own idx Lib.Math.max.name ∈ hn_tb) (hh : 1 ≤ h) (hcat : (st.map fun v => v.category).sum ≤ 8) (hd : decode cc pc = .ok (.invokestatic idx, 3)) (hq : pc + 3 = q) (k : hn_G Z B kp nL q L (.int (if x < y then y else x) :: st) μ) : hn_G Z B kp nL pc L (.int y :: .int x :: st) μ := by
  subst hq
  have W1 := hF.2.2.2.2.1
  have hR := hF.2.2.2.2.2.2.2.2.1
  have hc := hF.2.2.2.2.2.2.2.2.2
  exact fun H locs ls a b c => va_mmax hF.1 hF.2.1 (hF.2.2.1.trans a.1.symm) hF.2.2.2.1 (W1 _ hl) (W1 _ hn_w_max.1) (W1 _ hn_wMath) (W1 _ hn_w_max.2) (by omega) (by omega) hc.1 hc.2 hd (k H locs ls a b c)
theorem hn_min {idx : Nat} {x y : Int32} (hF : hn_F Z B kp cc nL own ret h) (hl : Cond.methodLink own idx Lib.Math.min.name ∈ hn_tb) (hh : 1 ≤ h) (hcat : (st.map fun v => v.category).sum ≤ 8) (hd : decode cc pc = .ok (.invokestatic idx, 3)) (hq : pc + 3 = q) (k : hn_G Z B kp nL q L (.int (if y < x then y else x) :: st) μ) : hn_G Z B kp nL pc L (.int y :: .int x :: st) μ := by
  subst hq
  have W1 := hF.2.2.2.2.1
  have hR := hF.2.2.2.2.2.2.2.2.1
  have hc := hF.2.2.2.2.2.2.2.2.2
  exact fun H locs ls a b c => va_mmin hF.1 hF.2.1 (hF.2.2.1.trans a.1.symm) hF.2.2.2.1 (W1 _ hl) (W1 _ hn_w_min.1) (W1 _ hn_wMath) (W1 _ hn_w_min.2) (by omega) (by omega) hc.1 hc.2 hd (k H locs ls a b c)
theorem hn_abs {idx : Nat} {x : Int32} (hF : hn_F Z B kp cc nL own ret h) (hl : Cond.methodLink own idx Lib.Math.abs.name ∈ hn_tb) (hh : 1 ≤ h) (hcat : (st.map fun v => v.category).sum ≤ 8) (hd : decode cc pc = .ok (.invokestatic idx, 3)) (hq : pc + 3 = q) (k : hn_G Z B kp nL q L (.int (if 0 ≤ x then x else 0 - x) :: st) μ) : hn_G Z B kp nL pc L (.int x :: st) μ := by
  subst hq
  have W1 := hF.2.2.2.2.1
  have hR := hF.2.2.2.2.2.2.2.2.1
  have hc := hF.2.2.2.2.2.2.2.2.2
  exact fun H locs ls a b c => va_mabs hF.1 hF.2.1 (hF.2.2.1.trans a.1.symm) hF.2.2.2.1 (W1 _ hl) (W1 _ hn_w_abs.1) (W1 _ hn_wMath) (W1 _ hn_w_abs.2) (by omega) (by omega) hc.1 hc.2 hd (k H locs ls a b c)
theorem hn_copy {idx k1 k2 n : Nat} {nv : Int32} {K : hn_M → Option α} (hF : hn_F Z B kp cc nL own ret h) (hl : Cond.methodLink own idx arraycopyName ∈ hn_tb) (h1 : hn_isA B k1 false n) (h2 : hn_isA B k2 false n) (hh : 1 ≤ h) (hcat : (st.map fun v => v.category).sum ≤ 8) (h3 : ¬ nv < 0) (h4 : nv.toNatClampNeg = n) (hd : decode cc pc = .ok (.invokestatic idx, 3)) (hq : pc + 3 = q) (e : hn_cp μ k1 k2 n K = some R) (kk : ∀ μ', K μ' = some R → hn_G Z B kp nL q L st μ') : hn_G Z B kp nL pc L (.int nv :: .int 0 :: .ref (hn_base B + k2) :: .int 0 :: .ref (hn_base B + k1) :: st) μ := by
  subst hq
  have W1 := hF.2.2.2.2.1
  have hR := hF.2.2.2.2.2.2.2.2.1
  have hw : nativeFrameWords "java/lang/System" "arraycopy" 5 = 7 := by decide +kernel
  have z0 : (0 : Int32).toNatClampNeg = 0 := by decide
  intro H locs ls a b c
  refine va_copyi hF.1 hF.2.1 (hF.2.2.1.trans a.1.symm) hF.2.2.2.1 (W1 _ hl) (W1 _ hn_wCopy.1) (W1 _ hn_wCopy.2.1) (W1 _ hn_wCopy.2.2) hF.2.2.2.2.2.2.2.1.1 b (hn_w_D B μ) c k1 k2 0 0 (ty := .int) (hn_at_A h1 μ) (hn_at_A h2 μ) rfl rfl rfl (by decide) (by decide) h3 (by rw [z0, h4]; omega) (by rw [z0, h4]; omega) (fun _ _ => rfl) (by omega) (by rw [hw]; omega) hd (fun H1 locs1 b1 _ c1 => ?_)
  refine kk _ e H1 locs1 ls a ?_ c1
  rw [z0, h4] at b1
  rw [hn_w_set (μ' := fun a => if a = k2 then va_cpy (μ k1) (μ k2) 0 0 n else μ a) h2.1 (by simp only [hn_cell, h2.2, if_pos]) (fun j hj => if_neg hj)] at b1
  exact b1
theorem hn_ldiv {x y : Int64} {X : Option α} (hF : hn_F Z B kp cc nL own ret h) (hd : decode cc pc = .ok (.ldiv, 1)) (hq : pc + 1 = q) (e : (if y = 0 then none else X) = some R) (k : X = some R → hn_G Z B kp nL q L (.long (x / y) :: st) μ) : hn_G Z B kp nL pc L (.long y :: .long x :: st) μ := by
  subst hq
  by_cases hy : y = 0
  · rw [if_pos hy] at e; cases e
  · rw [if_neg hy] at e
    exact fun H locs ls a b c => lv_ldiv hF.1 hF.2.1 hd hy (k e H locs ls a b c)
theorem hn_tabIn {x v : Int32} {dflt lo hi : Int} {offs : Array Int} {len t : Nat} (hF : hn_F Z B kp cc nL own ret h) (hx : x = v) (hd : decode cc pc = .ok (.tableswitch dflt lo hi offs, len)) (hc : ¬ v.toInt < lo ∧ ¬ hi < v.toInt ∧ offs[(v.toInt - lo).toNat]? = some ((t : Int) - (pc : Int))) (k : hn_G Z B kp nL t L st μ) : hn_G Z B kp nL pc L (.int x :: st) μ := by
  subst hx
  exact fun H locs ls a b c => lv_tableIn hF.1 hF.2.1 hd hc.1 hc.2.1 hc.2.2 (by omega) (k H locs ls a b c)
theorem hn_tabOut {x : Int32} {dflt lo hi : Int} {offs : Array Int} {len t : Nat} (hF : hn_F Z B kp cc nL own ret h) (hd : decode cc pc = .ok (.tableswitch dflt lo hi offs, len)) (hc : x.toInt < lo ∨ hi < x.toInt) (ht : (pc : Int) + dflt = (t : Int)) (k : hn_G Z B kp nL t L st μ) : hn_G Z B kp nL pc L (.int x :: st) μ :=
  fun H locs ls a b c => lv_tableOut hF.1 hF.2.1 hd hc ht (k H locs ls a b c)
theorem hn_lookIn {x v : Int32} {dflt : Int} {ps : Array (Int × Int)} {len t : Nat} (hF : hn_F Z B kp cc nL own ret h) (hx : x = v) (hd : decode cc pc = .ok (.lookupswitch dflt ps, len)) (hc : (ps.toList.zip (ps.toList.drop 1)).all (fun (a, next) => a.1 < next.1) = true ∧ Op.lookupswitch.offset ps.toList dflt v.toInt = (t : Int) - (pc : Int)) (k : hn_G Z B kp nL t L st μ) : hn_G Z B kp nL pc L (.int x :: st) μ := by
  subst hx
  exact fun H locs ls a b c => lv_lookup hF.1 hF.2.1 hd hc.1 hc.2 (by omega) (k H locs ls a b c)
theorem hn_lookOut {x : Int32} {dflt : Int} {ps : Array (Int × Int)} {len t : Nat} (hF : hn_F Z B kp cc nL own ret h) (hd : decode cc pc = .ok (.lookupswitch dflt ps, len)) (hc : (ps.toList.zip (ps.toList.drop 1)).all (fun (a, next) => a.1 < next.1) = true) (ho : Op.lookupswitch.offset ps.toList dflt x.toInt = dflt) (ht : (pc : Int) + dflt = (t : Int)) (k : hn_G Z B kp nL t L st μ) : hn_G Z B kp nL pc L (.int x :: st) μ :=
  fun H locs ls a b c => lv_lookup hF.1 hF.2.1 hd hc ho ht (k H locs ls a b c)
theorem hn_miss9 {x : Int32} (h0 : ¬ x = 0) (h1 : ¬ x = 1) (h2 : ¬ x = 2) (h3 : ¬ x = 3) (h4 : ¬ x = 4) (h5 : ¬ x = 5) (h6 : ¬ x = 6) (h7 : ¬ x = 7) (h8 : ¬ x = 8) : x.toInt < 0 ∨ 8 < x.toInt := by
  have g0 := lv_neT (a := 0) h0 (by decide)
  have g1 := lv_neT (a := 1) h1 (by decide)
  have g2 := lv_neT (a := 2) h2 (by decide)
  have g3 := lv_neT (a := 3) h3 (by decide)
  have g4 := lv_neT (a := 4) h4 (by decide)
  have g5 := lv_neT (a := 5) h5 (by decide)
  have g6 := lv_neT (a := 6) h6 (by decide)
  have g7 := lv_neT (a := 7) h7 (by decide)
  have g8 := lv_neT (a := 8) h8 (by decide)
  omega
theorem hn_wsH : Cond.fieldLink RX0 68 "HandNews$Items" "HIGHEST" "[I" ∈ hn_tb := hn_in (by decide +kernel) rfl
theorem hn_gstH (hF : hn_F Z B kp cc nL RX0 ret h) (hd : decode cc pc = .ok (.getstatic 68, 3)) (hq : pc + 3 = q) (k : hn_G Z B kp nL q L (.ref (hn_tH B) :: st) μ) : hn_G Z B kp nL pc L st μ := by
  subst hq
  exact fun H locs ls a b c => va_gets hF.1 hF.2.1 hF.2.2.2.2.2.2.2.1.2.1.1.1 c hF.2.2.2.1 (hF.2.2.2.2.1 _ hn_wsH) (fun _ z => z) hd (k H locs ls a b c)
theorem hn_aldH {i : Int32} {K : Int32 → Option α} (hF : hn_F Z B kp cc nL own ret h) (hd : decode cc pc = .ok (.iaload, 1)) (hq : pc + 1 = q) (e : hn_rs hn_high 24 i K = some R) (kk : ∀ v, K v = some R → hn_G Z B kp nL q L (.int v :: st) μ) : hn_G Z B kp nL pc L (.int i :: .ref (hn_tH B) :: st) μ := by
  subst hq
  obtain ⟨hin, e⟩ := hn_rs_some e
  exact fun H locs ls a b c => va_ti hF.1 hF.2.1 hF.2.2.2.2.2.2.2.1.2.1.1.2 c hin rfl hd (kk _ e H locs ls a b c)
theorem hn_wsW : Cond.fieldLink RX0 83 "HandNews$Items" "WITHOUT" "[I" ∈ hn_tb := hn_in (by decide +kernel) rfl
theorem hn_gstW (hF : hn_F Z B kp cc nL RX0 ret h) (hd : decode cc pc = .ok (.getstatic 83, 3)) (hq : pc + 3 = q) (k : hn_G Z B kp nL q L (.ref (hn_tW B) :: st) μ) : hn_G Z B kp nL pc L st μ := by
  subst hq
  exact fun H locs ls a b c => va_gets hF.1 hF.2.1 hF.2.2.2.2.2.2.2.1.2.1.2.1.1 c hF.2.2.2.1 (hF.2.2.2.2.1 _ hn_wsW) (fun _ z => z) hd (k H locs ls a b c)
theorem hn_aldW {i : Int32} {K : Int32 → Option α} (hF : hn_F Z B kp cc nL own ret h) (hd : decode cc pc = .ok (.iaload, 1)) (hq : pc + 1 = q) (e : hn_rs hn_out 5 i K = some R) (kk : ∀ v, K v = some R → hn_G Z B kp nL q L (.int v :: st) μ) : hn_G Z B kp nL pc L (.int i :: .ref (hn_tW B) :: st) μ := by
  subst hq
  obtain ⟨hin, e⟩ := hn_rs_some e
  exact fun H locs ls a b c => va_ti hF.1 hF.2.1 hF.2.2.2.2.2.2.2.1.2.1.2.1.2 c hin rfl hd (kk _ e H locs ls a b c)
theorem hn_ldcs (hF : hn_F Z B kp cc nL RX0 ret h) (hd : decode cc pc = .ok (.ldc 57, 2)) (hq : pc + 2 = q) (k : hn_G Z B kp nL q L (.ref (hn_aS B) :: st) μ) : hn_G Z B kp nL pc L st μ := by
  subst hq
  exact fun H locs ls a b c => va_ldcS hF.1 hF.2.1 hF.2.2.2.1 hF.2.2.2.2.2.2.2.1.2.1.2.2.1 hd (k H locs ls a b c)
/-! the JDK's own: String.coder, isLatin1, length, charAt of the one text that is read -/
theorem hn_callVg {y : MethodName} {cy : ByteArray} {ny nn h' idx b : Nat} {rt : Option FieldType} {as rest : List Value} {r : Option Value × hn_M} (hF : hn_F Z B kp cc nL own ret h) (hM : hn_ms y cy ny rt nn) (hV : hn_mv y) (hl : Cond.methodLink own idx y ∈ hn_tb) (hrc : ∀ (H : Heap) (locs : List Loc), va_S (hn_A B) (zs Z).heap H locs → ∃ cell : Cell, H[b]? = some cell ∧ cell.vm.isStatics = false ∧ (zs Z).vm.findClass y.cls = some cell.cls) (hh : h' + 1 ≤ h) (hn : as.length = nn) (hcat : (rest.map fun v => v.category).sum ≤ 8) (hd : decode cc pc = .ok (.invokevirtual idx, 3)) (hq : pc + 3 = q)
    (hC : hn_C y cy ny rt h' B (.ref b :: as) μ r) (hst : st = as.reverse ++ .ref b :: rest) (kk : hn_G Z B kp nL q L (r.1.toList ++ rest) r.2) : hn_G Z B kp nL pc L st μ := by
  subst hq; subst hst
  intro H locs ls a b0 c
  have W1 := hF.2.2.2.2.1
  refine hn_run (va_runV (As := as) (rest := rest) (n := nn) (C := y.cls) ⟨hF.1, hF.2.1, hF.2.2.1, hF.2.2.2.1, W1⟩ (hC (zl Z)) ⟨callB_of nn W1 (hn_pay hM.1) rfl rfl rfl (W1 _ hM.2.1) (W1 _ hl) hM.2.2.1 (hn_room hF.2.2.2.2.2.2.2.2.1 hh hM.2.2.2), W1 _ hV.1, W1 _ hV.2⟩
    ⟨hn_blind B _ μ, hrc H locs c, fun U hU hW => ⟨rfl, by rw [hU]; exact b0, hF.2.2.2.2.2.2.2.1.go hW hU c⟩⟩ rfl hn a.1 rfl (lv_room hcat) hd hF.2.2.2.2.2.2.2.2.2) c
    (fun H1 locs1 b1 c1 => kk H1 locs1 ls a b1 c1)
theorem hn_srec {Z : hn_Z} (hF : hn_F Z B kp cc nL own ret h) : ∀ (H : Heap) (locs : List Loc), va_S (hn_A B) (zs Z).heap H locs → ∃ cell : Cell, H[hn_aS B]? = some cell ∧ cell.vm.isStatics = false ∧ (zs Z).vm.findClass "java/lang/String" = some cell.cls :=
  fun _ _ c => vk_recv (i := 0) hF.2.2.2.2.2.2.2.1.2.1.2.2.2.1 (by decide) c
theorem hn_nret {v : Int32} {ty : FieldType} {r : Option Value × hn_M} (hF : hn_F Z B (0, 0) cc nL own (some ty) h) (hQ : hn_goal Z B r) (hd : decode cc pc = .ok (.ireturn, 1)) (hz : narrow ty (.int v) = .int v) (hr : r = (some (.int v), μ)) : hn_G Z B (0, 0) nL pc L [.int v] μ := by
  subst hr
  intro H locs ls a b c
  unfold hn_goal at hQ
  rw [hQ]
  exact W.zret hF.1 hF.2.1 hF.2.2.2.2.2.1 hz (fun t ht _ => ⟨⟨rfl, by rw [ht]; exact b⟩, c.F ht⟩) c.2.2 hd hF.2.2.2.2.2.2.1
theorem hn_jw1 : Cond.fieldLink RJ0 38 "java/lang/String" "COMPACT_STRINGS" "Z" ∈ hn_tb := hn_in (by decide +kernel) rfl
theorem hn_jw2 : Cond.fieldLink RJ0 9 "java/lang/String" "value" "[B" ∈ hn_tb := hn_in (by decide +kernel) rfl
theorem hn_jw3 : Cond.fieldLink RJ0 15 "java/lang/String" "coder" "B" ∈ hn_tb := hn_in (by decide +kernel) rfl
theorem hn_jw4 : Cond.fieldLink RJ0 1053 "jdk/internal/util/Preconditions" "SIOOBE_FORMATTER" "Ljava/util/function/BiFunction;" ∈ hn_tb := hn_in (by decide +kernel) rfl
theorem hn_gstC (hF : hn_F Z B kp cc nL RJ0 ret h) (hd : decode cc pc = .ok (.getstatic 38, 3)) (hq : pc + 3 = q) (k : hn_G Z B kp nL q L (.int 1 :: st) μ) : hn_G Z B kp nL pc L st μ := by
  subst hq
  exact fun H locs ls a b c => va_gets hF.1 hF.2.1 hF.2.2.2.2.2.2.2.1.2.1.2.2.2.2.1 c hF.2.2.2.1 (hF.2.2.2.2.1 _ hn_jw1) (fun _ z => z) hd (k H locs ls a b c)
theorem hn_gstF (hF : hn_F Z B kp cc nL RJ0 ret h) (hd : decode cc pc = .ok (.getstatic 1053, 3)) (hq : pc + 3 = q) (k : ∀ v : Value, v.category = 1 → (v = .null ∨ ∃ t : Nat, v = .ref t) → hn_G Z B kp nL q L (v :: st) μ) : hn_G Z B kp nL pc L st μ := by
  subst hq
  intro H locs ls a b c
  rcases hF.2.2.2.2.2.2.2.1.2.1.2.2.2.2.2 with z | ⟨t, z⟩
  · exact va_gets hF.1 hF.2.1 z c hF.2.2.2.1 (hF.2.2.2.2.1 _ hn_jw4) (fun _ z => z) hd (k .null rfl (Or.inl rfl) H locs ls a b c)
  · exact va_gets hF.1 hF.2.1 z c hF.2.2.2.1 (hF.2.2.2.2.1 _ hn_jw4) (fun _ z => z) hd (k (.ref t) rfl (Or.inr ⟨t, rfl⟩) H locs ls a b c)
theorem hn_getC (hF : hn_F Z B kp cc nL RJ0 ret h) (hd : decode cc pc = .ok (.getfield 15, 3)) (hq : pc + 3 = q) (k : hn_G Z B kp nL q L (.int 0 :: st) μ) : hn_G Z B kp nL pc L (.ref (hn_aS B) :: st) μ := by
  subst hq
  exact fun H locs ls a b c => vk_getf hF.1 hF.2.1 (hF.2.2.2.2.2.2.2.1.2.1.2.2.2.1.1 0 (by decide)).2.1 c hF.2.2.2.1 (hF.2.2.2.2.1 _ hn_jw3) (fun _ z => z) hd (k H locs ls a b c)
theorem hn_getV (hF : hn_F Z B kp cc nL RJ0 ret h) (hd : decode cc pc = .ok (.getfield 9, 3)) (hq : pc + 3 = q) (k : hn_G Z B kp nL q L (.ref (hn_aV B) :: st) μ) : hn_G Z B kp nL pc L (.ref (hn_aS B) :: st) μ := by
  subst hq
  exact fun H locs ls a b c => vk_getf hF.1 hF.2.1 (hF.2.2.2.2.2.2.2.1.2.1.2.2.2.1.1 0 (by decide)).2.2.1 c hF.2.2.2.1 (hF.2.2.2.2.1 _ hn_jw2) (fun _ z => z) hd (k H locs ls a b c)
theorem hn_alenV (hF : hn_F Z B kp cc nL own ret h) (hd : decode cc pc = .ok (.arraylength, 1)) (hq : pc + 1 = q) (k : hn_G Z B kp nL q L (.int 6 :: st) μ) : hn_G Z B kp nL pc L (.ref (hn_aV B) :: st) μ := by
  subst hq
  exact fun H locs ls a b c => va_tlen hF.1 hF.2.1 (hF.2.2.2.2.2.2.2.1.2.1.2.2.2.1.1 0 (by decide)).2.2.2 c (v := 6) (by decide) hd (k H locs ls a b c)
theorem hn_baldV {i : Int32} (hF : hn_F Z B kp cc nL own ret h) (hin : vp_in i 6) (hd : decode cc pc = .ok (.baload, 1)) (hq : pc + 1 = q) (k : hn_G Z B kp nL q L (.int (hn_letter i.toNatClampNeg) :: st) μ) : hn_G Z B kp nL pc L (.int i :: .ref (hn_aV B) :: st) μ := by
  subst hq
  exact fun H locs ls a b c => va_tb hF.1 hF.2.1 (hF.2.2.2.2.2.2.2.1.2.1.2.2.2.1.1 0 (by decide)).2.2.2 c (i := i) hin rfl hd (k H locs ls a b c)
theorem ms_J0_coder_7d493 : hn_ms yJ0_coder_7d493 cJ0_coder_7d493 1 (some .byte) 0 := ⟨hn_in (by decide +kernel) rfl, hn_in (by decide +kernel) rfl, by decide +kernel, by decide⟩
theorem mv_J0_coder_7d493 : hn_mv yJ0_coder_7d493 := ⟨hn_in (by decide +kernel) rfl, hn_in (by decide +kernel) rfl⟩
theorem ms_J0_isLatin1_aae02 : hn_ms yJ0_isLatin1_aae02 cJ0_isLatin1_aae02 1 (some .boolean) 0 := ⟨hn_in (by decide +kernel) rfl, hn_in (by decide +kernel) rfl, by decide +kernel, by decide⟩
theorem mv_J0_isLatin1_aae02 : hn_mv yJ0_isLatin1_aae02 := ⟨hn_in (by decide +kernel) rfl, hn_in (by decide +kernel) rfl⟩
theorem ms_J0_length_8abf5 : hn_ms yJ0_length_8abf5 cJ0_length_8abf5 1 (some .int) 0 := ⟨hn_in (by decide +kernel) rfl, hn_in (by decide +kernel) rfl, by decide +kernel, by decide⟩
theorem mv_J0_length_8abf5 : hn_mv yJ0_length_8abf5 := ⟨hn_in (by decide +kernel) rfl, hn_in (by decide +kernel) rfl⟩
theorem ms_J0_charAt_5068e : hn_ms yJ0_charAt_5068e cJ0_charAt_5068e 2 (some .char) 1 := ⟨hn_in (by decide +kernel) rfl, hn_in (by decide +kernel) rfl, by decide +kernel, by decide⟩
theorem mv_J0_charAt_5068e : hn_mv yJ0_charAt_5068e := ⟨hn_in (by decide +kernel) rfl, hn_in (by decide +kernel) rfl⟩
theorem ms_J1_charAt_3b067 : hn_ms yJ1_charAt_3b067 cJ1_charAt_3b067 2 (some .char) 2 := ⟨hn_in (by decide +kernel) rfl, hn_in (by decide +kernel) rfl, by decide +kernel, by decide⟩
theorem mt_J1_charAt_3b067 : Cond.static yJ1_charAt_3b067 ∈ hn_tb := hn_in (by decide +kernel) rfl
theorem ms_J0_checkIndex_df160 : hn_ms yJ0_checkIndex_df160 cJ0_checkIndex_df160 2 none 2 := ⟨hn_in (by decide +kernel) rfl, hn_in (by decide +kernel) rfl, by decide +kernel, by decide⟩
theorem mt_J0_checkIndex_df160 : Cond.static yJ0_checkIndex_df160 ∈ hn_tb := hn_in (by decide +kernel) rfl
theorem ms_J3_checkIndex_8e157 : hn_ms yJ3_checkIndex_8e157 cJ3_checkIndex_8e157 3 (some .int) 3 := ⟨hn_in (by decide +kernel) rfl, hn_in (by decide +kernel) rfl, by decide +kernel, by decide⟩
theorem mt_J3_checkIndex_8e157 : Cond.static yJ3_checkIndex_8e157 ∈ hn_tb := hn_in (by decide +kernel) rfl
theorem lk_J0_335 : Cond.methodLink RJ0 335 yJ0_coder_7d493 ∈ hn_tb := hn_in (by decide +kernel) rfl
theorem lk_J0_492 : Cond.methodLink RJ0 492 yJ0_isLatin1_aae02 ∈ hn_tb := hn_in (by decide +kernel) rfl
theorem lk_J0_495 : Cond.methodLink RJ0 495 yJ1_charAt_3b067 ∈ hn_tb := hn_in (by decide +kernel) rfl
theorem lk_J1_9 : Cond.methodLink RJ1 9 yJ0_checkIndex_df160 ∈ hn_tb := hn_in (by decide +kernel) rfl
theorem lk_J0_1059 : Cond.methodLink RJ0 1059 yJ3_checkIndex_8e157 ∈ hn_tb := hn_in (by decide +kernel) rfl
theorem lk_X0_59 : Cond.methodLink RX0 59 yJ0_length_8abf5 ∈ hn_tb := hn_in (by decide +kernel) rfl
theorem lk_X0_64 : Cond.methodLink RX0 64 yJ0_charAt_5068e ∈ hn_tb := hn_in (by decide +kernel) rfl
theorem hn_coder : hn_C yJ0_coder_7d493 cJ0_coder_7d493 1 (some .byte) 0 B [.ref (hn_aS B)] μ (some (.int 0), μ) := by
  refine hn_C.of RJ0 (by decide) rfl (Nat.le_of_ble_eq_true rfl) (fun Z hF hQ => ?_)
  refine hn_gstC hF dJ0_coder_7d493_0 (q := 3) rfl ?_
  refine hn_if_eq (X := none) (Y := some ()) (R := ()) hF dJ0_coder_7d493_3 (t := 13) (q := 6) rfl rfl rfl (fun e => by cases e) (fun _ => ?_)
  refine hn_aload_n hF dJ0_coder_7d493_6 (q := 7) rfl 0 rfl ?_
  refine hn_getC hF dJ0_coder_7d493_7 (q := 10) rfl ?_
  refine hn_goto hF dJ0_coder_7d493_10 (q := 14) rfl ?_
  exact hn_nret hF hQ dJ0_coder_7d493_14 rfl rfl
theorem hn_latin : hn_C yJ0_isLatin1_aae02 cJ0_isLatin1_aae02 1 (some .boolean) 0 B [.ref (hn_aS B)] μ (some (.int 1), μ) := by
  refine hn_C.of RJ0 (by decide) rfl (Nat.le_of_ble_eq_true rfl) (fun Z hF hQ => ?_)
  refine hn_gstC hF dJ0_isLatin1_aae02_0 (q := 3) rfl ?_
  refine hn_if_eq (X := none) (Y := some ()) (R := ()) hF dJ0_isLatin1_aae02_3 (t := 17) (q := 6) rfl rfl rfl (fun e => by cases e) (fun _ => ?_)
  refine hn_aload_n hF dJ0_isLatin1_aae02_6 (q := 7) rfl 0 rfl ?_
  refine hn_getC hF dJ0_isLatin1_aae02_7 (q := 10) rfl ?_
  refine hn_if_ne (X := some ()) (Y := none) (R := ()) hF dJ0_isLatin1_aae02_10 (t := 17) (q := 13) rfl rfl rfl (fun e => by cases e) (fun _ => ?_)
  refine hn_iconst hF dJ0_isLatin1_aae02_13 (q := 14) rfl ki_1 ?_
  refine hn_goto hF dJ0_isLatin1_aae02_14 (q := 18) rfl ?_
  exact hn_nret hF hQ dJ0_isLatin1_aae02_18 rfl rfl
theorem hn_length : hn_C yJ0_length_8abf5 cJ0_length_8abf5 1 (some .int) 1 B [.ref (hn_aS B)] μ (some (.int 6), μ) := by
  refine hn_C.of RJ0 (by decide) rfl (Nat.le_of_ble_eq_true rfl) (fun Z hF hQ => ?_)
  refine hn_aload_n hF dJ0_length_8abf5_0 (q := 1) rfl 0 rfl ?_
  refine hn_getV hF dJ0_length_8abf5_1 (q := 4) rfl ?_
  refine hn_alenV hF dJ0_length_8abf5_4 (q := 5) rfl ?_
  refine hn_aload_n hF dJ0_length_8abf5_5 (q := 6) rfl 0 rfl ?_
  refine hn_callVg (as := []) (rest := [.int 6]) hF ms_J0_coder_7d493 mv_J0_coder_7d493 lk_J0_335 (hn_srec hF) (by decide) rfl (Nat.le_of_ble_eq_true rfl) dJ0_length_8abf5_6 (q := 9) rfl hn_coder rfl ?_
  show hn_G Z B (0, 0) 1 9 _ [.int 0, .int 6] μ
  refine hn_ishr hF dJ0_length_8abf5_9 (q := 10) rfl ?_
  exact hn_iret hF hQ dJ0_length_8abf5_10 (by rw [show (6 : Int32) >>> ((0 : Int32) &&& 31) = 6 from by decide])
theorem hn_pre {i : Int32} {v : Value} (hv : v = .null ∨ ∃ t : Nat, v = .ref t) (hin : vp_in i 6) : hn_C yJ3_checkIndex_8e157 cJ3_checkIndex_8e157 3 (some .int) 0 B [.int i, .int 6, v] μ (some (.int i), μ) := by
  have h0 : ¬ i < 0 := fun z => hin (Or.inl z)
  have h6 : i < 6 := by
    obtain ⟨j, hj, rfl⟩ := vp_in_of hin (by decide)
    exact nI_lt hj (by decide)
  have hcat : v.category = 1 := by rcases hv with rfl | ⟨t, rfl⟩ <;> rfl
  refine hn_C.of RJ3 (by decide) rfl (by rcases hv with rfl | ⟨t, rfl⟩ <;> exact Nat.le_of_ble_eq_true rfl) (fun Z hF hQ => ?_)
  show hn_G Z B (0, 0) 3 0 [(0, .int i), (1, .int 6), (2, v)] [] μ
  refine hn_iload_n hF dJ3_checkIndex_8e157_0 (q := 1) rfl 0 rfl ?_
  refine hn_if_lt (X := none) (Y := some ()) (R := ()) hF dJ3_checkIndex_8e157_1 (t := 9) (q := 4) rfl rfl (if_neg h0) (fun e => by cases e) (fun _ => ?_)
  refine hn_iload_n hF dJ3_checkIndex_8e157_4 (q := 5) rfl 0 rfl ?_
  refine hn_iload_n hF dJ3_checkIndex_8e157_5 (q := 6) rfl 1 rfl ?_
  refine hn_icmp_lt (X := some ()) (Y := none) (R := ()) hF dJ3_checkIndex_8e157_6 (t := 16) (q := 9) rfl rfl (if_pos h6) (fun _ => ?_) (fun e => by cases e)
  refine hn_iload_n hF dJ3_checkIndex_8e157_16 (q := 17) rfl 0 rfl ?_
  exact hn_iret hF hQ dJ3_checkIndex_8e157_17 rfl
theorem hn_chk {i : Int32} (hin : vp_in i 6) : hn_C yJ0_checkIndex_df160 cJ0_checkIndex_df160 2 none 1 B [.int i, .int 6] μ (none, μ) := by
  refine hn_C.of RJ0 (by decide) rfl (Nat.le_of_ble_eq_true rfl) (fun Z hF hQ => ?_)
  refine hn_iload_n hF dJ0_checkIndex_df160_0 (q := 1) rfl 0 rfl ?_
  refine hn_iload_n hF dJ0_checkIndex_df160_1 (q := 2) rfl 1 rfl ?_
  refine hn_gstF hF dJ0_checkIndex_df160_2 (q := 5) rfl (fun v _ hv => ?_)
  refine hn_callS (as := [.int i, .int 6, v]) (rest := []) hF ms_J3_checkIndex_8e157 mt_J3_checkIndex_8e157 lk_J0_1059 (by decide) rfl (Nat.le_of_ble_eq_true rfl) dJ0_checkIndex_df160_5 (q := 8) rfl (hn_pre hv hin) rfl ?_
  show hn_G Z B (0, 0) 2 8 _ [.int i] μ
  refine hn_pop hF dJ0_checkIndex_df160_8 (q := 9) rfl rfl ?_
  exact hn_vret hF hQ dJ0_checkIndex_df160_9 rfl
theorem hn_latinAt {i : Int32} (hin : vp_in i 6) : hn_C yJ1_charAt_3b067 cJ1_charAt_3b067 2 (some .char) 2 B [.ref (hn_aV B), .int i] μ (some (.int (hn_letter i.toNatClampNeg)), μ) := by
  refine hn_C.of RJ1 (by decide) rfl (Nat.le_of_ble_eq_true rfl) (fun Z hF hQ => ?_)
  refine hn_iload_n hF dJ1_charAt_3b067_0 (q := 1) rfl 1 rfl ?_
  refine hn_aload_n hF dJ1_charAt_3b067_1 (q := 2) rfl 0 rfl ?_
  refine hn_alenV hF dJ1_charAt_3b067_2 (q := 3) rfl ?_
  refine hn_callS (as := [.int i, .int 6]) (rest := []) hF ms_J0_checkIndex_df160 mt_J0_checkIndex_df160 lk_J1_9 (by decide) rfl (Nat.le_of_ble_eq_true rfl) dJ1_charAt_3b067_3 (q := 6) rfl (hn_chk hin) rfl ?_
  show hn_G Z B (0, 0) 2 6 _ [] μ
  refine hn_aload_n hF dJ1_charAt_3b067_6 (q := 7) rfl 0 rfl ?_
  refine hn_iload_n hF dJ1_charAt_3b067_7 (q := 8) rfl 1 rfl ?_
  refine hn_baldV hF hin dJ1_charAt_3b067_8 (q := 9) rfl ?_
  refine hn_sipush (v := 255) hF dJ1_charAt_3b067_9 (q := 12) rfl (by decide) ?_
  refine hn_iand hF dJ1_charAt_3b067_12 (q := 13) rfl ?_
  refine hn_i2c (v := hn_letter i.toNatClampNeg) hF dJ1_charAt_3b067_13 (q := 14) rfl ?_ ?_
  · obtain ⟨j, hj, rfl⟩ := vp_in_of hin (by decide)
    rw [nI_clamp (by omega)]
    have : ∀ j, j < 6 → ((hn_letter j &&& 255).toUInt32 % 65536).toInt32 = hn_letter j := by decide
    exact this j hj
  · refine hn_nret hF hQ dJ1_charAt_3b067_14 ?_ rfl
    obtain ⟨j, hj, rfl⟩ := vp_in_of hin (by decide)
    rw [nI_clamp (by omega)]
    have : ∀ j, j < 6 → narrow .char (.int (hn_letter j)) = .int (hn_letter j) := by decide
    exact this j hj
theorem hn_charAt {i : Int32} (hin : vp_in i 6) : hn_C yJ0_charAt_5068e cJ0_charAt_5068e 2 (some .char) 3 B [.ref (hn_aS B), .int i] μ (some (.int (hn_letter i.toNatClampNeg)), μ) := by
  refine hn_C.of RJ0 (by decide) rfl (Nat.le_of_ble_eq_true rfl) (fun Z hF hQ => ?_)
  refine hn_aload_n hF dJ0_charAt_5068e_0 (q := 1) rfl 0 rfl ?_
  refine hn_callVg (as := []) (rest := []) hF ms_J0_isLatin1_aae02 mv_J0_isLatin1_aae02 lk_J0_492 (hn_srec hF) (by decide) rfl (Nat.le_of_ble_eq_true rfl) dJ0_charAt_5068e_1 (q := 4) rfl hn_latin rfl ?_
  show hn_G Z B (0, 0) 2 4 _ [.int 1] μ
  refine hn_if_eq (X := none) (Y := some ()) (R := ()) hF dJ0_charAt_5068e_4 (t := 16) (q := 7) rfl rfl rfl (fun e => by cases e) (fun _ => ?_)
  refine hn_aload_n hF dJ0_charAt_5068e_7 (q := 8) rfl 0 rfl ?_
  refine hn_getV hF dJ0_charAt_5068e_8 (q := 11) rfl ?_
  refine hn_iload_n hF dJ0_charAt_5068e_11 (q := 12) rfl 1 rfl ?_
  refine hn_callS (as := [.ref (hn_aV B), .int i]) (rest := []) hF ms_J1_charAt_3b067 mt_J1_charAt_3b067 lk_J0_495 (by decide) rfl (Nat.le_of_ble_eq_true rfl) dJ0_charAt_5068e_12 (q := 15) rfl (hn_latinAt hin) rfl ?_
  show hn_G Z B (0, 0) 2 15 _ [.int (hn_letter i.toNatClampNeg)] μ
  refine hn_nret hF hQ dJ0_charAt_5068e_15 ?_ rfl
  obtain ⟨j, hj, rfl⟩ := vp_in_of hin (by decide)
  rw [nI_clamp (by omega)]
  have : ∀ j, j < 6 → narrow .char (.int (hn_letter j)) = .int (hn_letter j) := by decide
  exact this j hj
theorem hn_slen (hF : hn_F Z B kp cc nL RX0 ret h) (hd : decode cc pc = .ok (.invokevirtual 59, 3)) (hh : 5 ≤ h) (hcat : (st.map fun v => v.category).sum ≤ 8) (hq : pc + 3 = q) (k : hn_G Z B kp nL q L (.int 6 :: st) μ) : hn_G Z B kp nL pc L (.ref (hn_aS B) :: st) μ :=
  hn_callVg (as := []) (rest := st) hF ms_J0_length_8abf5 mv_J0_length_8abf5 lk_X0_59 (hn_srec hF) (by omega) rfl hcat hd hq hn_length rfl k
theorem hn_char {i : Int32} {K : Int32 → Option α} (hF : hn_F Z B kp cc nL RX0 ret h) (hd : decode cc pc = .ok (.invokevirtual 64, 3)) (hh : 5 ≤ h) (hcat : (st.map fun v => v.category).sum ≤ 8) (hq : pc + 3 = q) (e : hn_chr i K = some R) (kk : ∀ v, K v = some R → hn_G Z B kp nL q L (.int v :: st) μ) : hn_G Z B kp nL pc L (.int i :: .ref (hn_aS B) :: st) μ := by
  obtain ⟨hin, e⟩ := hn_rs_some e
  exact hn_callVg (as := [.int i]) (rest := st) hF ms_J0_charAt_5068e mv_J0_charAt_5068e lk_X0_64 (hn_srec hF) (by omega) rfl hcat hd hq (hn_charAt hin) rfl (kk _ e)
/-! Integer.bitCount -/
def hn_us (x : Int32) (k : Int32) : Int32 := (x.toUInt32 >>> (k.toUInt32 &&& Int32.toUInt32 31)).toInt32
def hn_b1 (x : Int32) : Int32 := x - (hn_us x 1 &&& 1431655765)
def hn_b2 (x : Int32) : Int32 := (x &&& 858993459) + (hn_us x 2 &&& 858993459)
def hn_b3 (x : Int32) : Int32 := (x + hn_us x 4) &&& 252645135
def hn_b4 (x : Int32) : Int32 := x + hn_us x 8
def hn_b5 (x : Int32) : Int32 := x + hn_us x 16
def fJ6_bitCount (x : Int32) : Option Int32 := some (hn_b5 (hn_b4 (hn_b3 (hn_b2 (hn_b1 x)))) &&& 63)
theorem hn_jb1 : Cond.constant RJ6 265 1431655765 ∈ hn_tb := hn_in (by decide +kernel) rfl
theorem hn_jb2 : Cond.constant RJ6 266 858993459 ∈ hn_tb := hn_in (by decide +kernel) rfl
theorem hn_jb3 : Cond.constant RJ6 267 252645135 ∈ hn_tb := hn_in (by decide +kernel) rfl
theorem cJ6_bitCount {x r : Int32} (e : fJ6_bitCount x = some r) : hn_C yJ6_bitCount_0f7a4 cJ6_bitCount_0f7a4 1 (some .int) 0 B [.int x] μ (some (.int r), μ) := by
  refine hn_C.of RJ6 (by decide) rfl (Nat.le_of_ble_eq_true rfl) (fun Z hF hQ => ?_)
  unfold fJ6_bitCount at e
  show hn_G Z B (0, 0) 1 0 [(0, .int x)] [] μ
  refine hn_iload_n hF dJ6_bitCount_0f7a4_0 (q := 1) rfl 0 rfl ?_
  refine hn_iload_n hF dJ6_bitCount_0f7a4_1 (q := 2) rfl 0 rfl ?_
  refine hn_iconst hF dJ6_bitCount_0f7a4_2 (q := 3) rfl ki_1 ?_
  refine hn_iushr (v := hn_us x 1) hF dJ6_bitCount_0f7a4_3 (q := 4) rfl rfl ?_
  refine hn_ldcw hF hn_jb1 dJ6_bitCount_0f7a4_4 (q := 7) rfl ?_
  refine hn_iand hF dJ6_bitCount_0f7a4_7 (q := 8) rfl ?_
  refine hn_isub hF dJ6_bitCount_0f7a4_8 (q := 9) rfl ?_
  refine hn_istore_n hF dJ6_bitCount_0f7a4_9 (q := 10) rfl (i := 0) rfl (by decide) (L' := [(0, .int (hn_b1 x))]) rfl ?_
  generalize hn_b1 x = x1 at e ⊢
  refine hn_iload_n hF dJ6_bitCount_0f7a4_10 (q := 11) rfl 0 rfl ?_
  refine hn_ldcw hF hn_jb2 dJ6_bitCount_0f7a4_11 (q := 14) rfl ?_
  refine hn_iand hF dJ6_bitCount_0f7a4_14 (q := 15) rfl ?_
  refine hn_iload_n hF dJ6_bitCount_0f7a4_15 (q := 16) rfl 0 rfl ?_
  refine hn_iconst (v := 2) hF dJ6_bitCount_0f7a4_16 (q := 17) rfl (by decide) ?_
  refine hn_iushr (v := hn_us x1 2) hF dJ6_bitCount_0f7a4_17 (q := 18) rfl rfl ?_
  refine hn_ldcw hF hn_jb2 dJ6_bitCount_0f7a4_18 (q := 21) rfl ?_
  refine hn_iand hF dJ6_bitCount_0f7a4_21 (q := 22) rfl ?_
  refine hn_iadd hF dJ6_bitCount_0f7a4_22 (q := 23) rfl ?_
  refine hn_istore_n hF dJ6_bitCount_0f7a4_23 (q := 24) rfl (i := 0) rfl (by decide) (L' := [(0, .int (hn_b2 x1))]) rfl ?_
  refine hn_iload_n hF dJ6_bitCount_0f7a4_24 (q := 25) rfl 0 rfl ?_
  refine hn_iload_n hF dJ6_bitCount_0f7a4_25 (q := 26) rfl 0 rfl ?_
  refine hn_iconst (v := 4) hF dJ6_bitCount_0f7a4_26 (q := 27) rfl (by decide) ?_
  refine hn_iushr (v := hn_us (hn_b2 x1) 4) hF dJ6_bitCount_0f7a4_27 (q := 28) rfl rfl ?_
  refine hn_iadd hF dJ6_bitCount_0f7a4_28 (q := 29) rfl ?_
  refine hn_ldcw hF hn_jb3 dJ6_bitCount_0f7a4_29 (q := 32) rfl ?_
  refine hn_iand hF dJ6_bitCount_0f7a4_32 (q := 33) rfl ?_
  refine hn_istore_n hF dJ6_bitCount_0f7a4_33 (q := 34) rfl (i := 0) rfl (by decide) (L' := [(0, .int (hn_b3 (hn_b2 x1)))]) rfl ?_
  refine hn_iload_n hF dJ6_bitCount_0f7a4_34 (q := 35) rfl 0 rfl ?_
  refine hn_iload_n hF dJ6_bitCount_0f7a4_35 (q := 36) rfl 0 rfl ?_
  refine hn_bipush (v := 8) hF dJ6_bitCount_0f7a4_36 (q := 38) rfl (by decide) ?_
  refine hn_iushr (v := hn_us (hn_b3 (hn_b2 x1)) 8) hF dJ6_bitCount_0f7a4_38 (q := 39) rfl rfl ?_
  refine hn_iadd hF dJ6_bitCount_0f7a4_39 (q := 40) rfl ?_
  refine hn_istore_n hF dJ6_bitCount_0f7a4_40 (q := 41) rfl (i := 0) rfl (by decide) (L' := [(0, .int (hn_b4 (hn_b3 (hn_b2 x1))))]) rfl ?_
  refine hn_iload_n hF dJ6_bitCount_0f7a4_41 (q := 42) rfl 0 rfl ?_
  refine hn_iload_n hF dJ6_bitCount_0f7a4_42 (q := 43) rfl 0 rfl ?_
  refine hn_bipush (v := 16) hF dJ6_bitCount_0f7a4_43 (q := 45) rfl (by decide) ?_
  refine hn_iushr (v := hn_us (hn_b4 (hn_b3 (hn_b2 x1))) 16) hF dJ6_bitCount_0f7a4_45 (q := 46) rfl rfl ?_
  refine hn_iadd hF dJ6_bitCount_0f7a4_46 (q := 47) rfl ?_
  refine hn_istore_n hF dJ6_bitCount_0f7a4_47 (q := 48) rfl (i := 0) rfl (by decide) (L' := [(0, .int (hn_b5 (hn_b4 (hn_b3 (hn_b2 x1)))))]) rfl ?_
  refine hn_iload_n hF dJ6_bitCount_0f7a4_48 (q := 49) rfl 0 rfl ?_
  refine hn_bipush (v := 63) hF dJ6_bitCount_0f7a4_49 (q := 51) rfl (by decide) ?_
  refine hn_iand hF dJ6_bitCount_0f7a4_51 (q := 52) rfl ?_
  exact hn_iretP hF hQ dJ6_bitCount_0f7a4_52 e
end hn_more
