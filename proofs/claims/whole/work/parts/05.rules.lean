/-! reads and writes of the memory, in the mirrors: nothing where an index is outside -/
def hn_rd {α : Type} (μ : hn_M) (k n : Nat) (i : Int32) (K : Int32 → Option α) : Option α := if i < 0 ∨ n ≤ i.toNatClampNeg then none else K (μ k i.toNatClampNeg)
def hn_wr {α : Type} (μ : hn_M) (k n : Nat) (i x : Int32) (K : hn_M → Option α) : Option α := if i < 0 ∨ n ≤ i.toNatClampNeg then none else K (hn_up μ k i.toNatClampNeg x)
def hn_pf {α : Type} (μ : hn_M) (k j : Nat) (x : Int32) (K : hn_M → Option α) : Option α := K (hn_up μ k j x)
def hn_cp {α : Type} (μ : hn_M) (k1 k2 n : Nat) (K : hn_M → Option α) : Option α := K (fun a => if a = k2 then va_cpy (μ k1) (μ k2) 0 0 n else μ a)
def hn_fl (own : String) (idx ci j : Nat) : Prop := ∃ (C : String) (T : u_T) (N : Nat), vwCl[ci]? = some (C, T, N) ∧ j < N ∧ Cond.fieldLink own idx (T j).1 (T j).2.1 (T j).2.2.1 ∈ hn_tb ∧ ∀ w ∈ u_ws C T N, w ∈ hn_tb
def hn_fp (ci j : Nat) (ty : FieldType) : Prop := ∃ (C : String) (T : u_T) (N : Nat) (ty0 : Nat → FieldType), vwCl[ci]? = some (C, T, N) ∧ (∀ k, k < N → parseFieldDescriptor (T k).2.2.1 = some (ty0 k)) ∧ (∀ a, a < N → ∀ b, b < N → a ≠ b → (T a).2.1 ≠ (T b).2.1) ∧ (T j).2.2.2 = false ∧ parseFieldDescriptor (T j).2.2.1 = some ty
def hn_rm (h : Nat) : Room := { frames := h, cells := 0, slots := 0, locals := 35 * h }
def hn_Q (B : hn_B) (r : Option Value × hn_M) : Array Value → State → Outcome → State → Prop := fun _ st o t => (o = .returned r.1 ∧ hn_P B r.2 t.heap) ∧ va_F (hn_A B) st t
/-- a method's contract: with these arguments and this memory it returns r.1 and leaves the memory r.2 -/
def hn_C (y : MethodName) (cy : ByteArray) (ny : Nat) (rt : Option FieldType) (h : Nat) (B : hn_B) (as : List Value) (μ : hn_M) (r : Option Value × hn_M) : Prop :=
  ∀ l : Launch, Met l y (Cond.code y cy ny rt :: hn_tb) (hn_rm h) (va_Pc as fun U => hn_P B μ U.heap ∧ hn_K B U) (hn_Q B r) 0 0 (hn_A B)
def hn_goal (Z : hn_Z) (B : hn_B) (r : Option Value × hn_M) : Prop := zQ Z = MQ (zb Z) (hn_Q B r) (za Z) (zs Z) 0 0 (hn_A B)
theorem hn_C.of {y : MethodName} {cy : ByteArray} {ny : Nat} {rt : Option FieldType} {h : Nat} {B : hn_B} {as : List Value} {μ : hn_M} {r : Option Value × hn_M} (own : String) (hy : plainName y.cls = true) (ho : y.cls = own) (hlen : (lg_sl as).length ≤ ny)
    (body : ∀ Z : hn_Z, hn_F Z B (0, 0) cy ny own rt h → hn_goal Z B r → hn_G Z B (0, 0) ny 0 (lv_args 0 as) [] μ) : hn_C y cy ny rt h B as μ r := by
  intro l
  refine Met.ofW (cc := cy) (maxL := ny) (ret := rt) hy rfl ?_
  intro p e s m args below meth c s₁ Bd hml hv
  obtain ⟨rfl, hP, hK⟩ := hv
  have hts := atoms_spec (ws := Cond.code y cy ny rt :: hn_tb) Bd.pre
  have hown : s.vm.findClass y.cls = some m.cls := findClass_of_methodNamed Bd.named
  subst ho
  have k := body (p, l, e, (headSpec (Cond.code y cy ny rt :: hn_tb) (hn_rm h)).room, s, m, as.toArray, below, meth, c, MQ below (hn_Q B r) as.toArray s 0 0 (hn_A B)) ⟨Bd.exec, Bd.bytes, hml, hown, fun w hw => hts w (List.mem_cons_of_mem _ hw), Bd.returns, Bd.notSynchronized, hK, ⟨Nat.le_refl _, Nat.le_refl _⟩, Nat.zero_le _, Nat.zero_le _⟩ rfl
  rw [lg_entry_eq]
  exact k s.heap [] _ (lv_entry as hlen) hP va_S.rf
section hn_rules2
variable {Z : hn_Z} {B : hn_B} {kp : Nat × Nat} {cc : ByteArray} {nL : Nat} {own : String} {ret : Option FieldType} {h : Nat} {pc q : Nat} {L L' : List (Nat × Value)} {st : List Value} {μ : hn_M} {α : Type} {R : α}
theorem hn_get {k j ci idx : Nat} {ks : List (Option (Option Nat))} {kd : Option (Option Nat)} {v : Value} (hF : hn_F Z B kp cc nL own ret h) (hl : hn_fl own idx ci j) (ho : hn_isO B k ci ks) (hj : ks[j]? = some kd) (hv : hn_val (hn_base B) kd (μ k j) = v) (hd : decode cc pc = .ok (.getfield idx, 3)) (hq : pc + 3 = q) (kk : hn_G Z B kp nL q L (v :: st) μ) : hn_G Z B kp nL pc L (.ref (hn_base B + k) :: st) μ := by
  subst hq
  obtain ⟨C, T, N, h1, h2, h3, h4⟩ := hl
  exact fun H locs ls a b c => va_get hF.1 hF.2.1 hF.2.2.2.2.1 h4 hF.2.2.2.1 hF.2.2.2.2.2.2.2.1.1 b k (hn_at_O ho μ) h1 j h2 (hF.2.2.2.2.1 _ h3) (fun _ z => z) (by rw [hn_fields_at hj, hv]) hd (kk H locs ls a b c)
theorem hn_put {k j ci idx : Nat} {ks : List (Option (Option Nat))} {kd : Option (Option Nat)} {v : Value} {x : Int32} {ty : FieldType} {K : hn_M → Option α} (hF : hn_F Z B kp cc nL own ret h) (hl : hn_fl own idx ci j) (hp : hn_fp ci j ty) (ho : hn_isO B k ci ks) (hj : ks[j]? = some kd) (hv : hn_val (hn_base B) kd x = v) (hn : narrow ty v = v) (hfit : fits ty v = true) (hd : decode cc pc = .ok (.putfield idx, 3)) (hq : pc + 3 = q) (e : hn_pf μ k j x K = some R) (kk : ∀ μ', K μ' = some R → hn_G Z B kp nL q L st μ') : hn_G Z B kp nL pc L (v :: .ref (hn_base B + k) :: st) μ := by
  subst hq
  obtain ⟨C, T, N, h1, h2, h3, h4⟩ := hl
  obtain ⟨C', T', N', ty0, g1, g2, g3, g4, g5⟩ := hp
  cases h1.symm.trans g1
  intro H locs ls a b c
  refine va_put hF.1 hF.2.1 hF.2.2.2.2.1 h4 ty0 g2 g3 hF.2.2.2.1 hF.2.2.2.2.2.2.2.1.1 b (hn_w_D B μ) c k (hn_at_O ho μ) h1 j h2 (hF.2.2.2.2.1 _ h3) (fun _ z => z) g4 g5 hn hfit (by rw [hn_fields_len]; exact (List.getElem?_eq_some_iff.mp hj).1) hd (fun H1 locs1 b1 _ c1 => ?_)
  refine kk _ e H1 locs1 ls a ?_ c1
  rw [← hv, hn_fields_set hj] at b1
  have hs : (hn_w B μ).set k (hn_base B + k, .inr (ci, hn_fields (hn_base B) ks fun b => if b = j then x else μ k b)) = hn_w B (hn_up μ k j x) := hn_w_set ho.1 (by simp only [hn_cell, ho.2, hn_up_eq]) (fun i hi => hn_up_ne hi)
  show va_P _ _ _ _
  rw [← hs]
  exact b1
theorem hn_ald {k n : Nat} {i : Int32} {K : Int32 → Option α} (hF : hn_F Z B kp cc nL own ret h) (ha : hn_isA B k false n) (hd : decode cc pc = .ok (.iaload, 1)) (hq : pc + 1 = q) (e : hn_rd μ k n i K = some R) (kk : ∀ v, K v = some R → hn_G Z B kp nL q L (.int v :: st) μ) : hn_G Z B kp nL pc L (.int i :: .ref (hn_base B + k) :: st) μ := by
  subst hq
  by_cases hin : i < 0 ∨ n ≤ i.toNatClampNeg
  · simp [hn_rd, hin] at e
  · have e' : K (μ k i.toNatClampNeg) = some R := by simpa only [hn_rd, if_neg hin] using e
    exact fun H locs ls a b c => va_iald hF.1 hF.2.1 hF.2.2.2.2.2.2.2.1.1 b k 0 (hn_at_A ha μ) rfl hin hd (kk _ e' H locs ls a b c)
theorem hn_bald {k n : Nat} {i : Int32} {K : Int32 → Option α} (hF : hn_F Z B kp cc nL own ret h) (ha : hn_isA B k true n) (hd : decode cc pc = .ok (.baload, 1)) (hq : pc + 1 = q) (e : hn_rd μ k n i K = some R) (kk : ∀ v, K v = some R → hn_G Z B kp nL q L (.int v :: st) μ) : hn_G Z B kp nL pc L (.int i :: .ref (hn_base B + k) :: st) μ := by
  subst hq
  by_cases hin : i < 0 ∨ n ≤ i.toNatClampNeg
  · simp [hn_rd, hin] at e
  · have e' : K (μ k i.toNatClampNeg) = some R := by simpa only [hn_rd, if_neg hin] using e
    exact fun H locs ls a b c => va_bald hF.1 hF.2.1 hF.2.2.2.2.2.2.2.1.1 b k 1 (hn_at_A ha μ) rfl hin hd (kk _ e' H locs ls a b c)
theorem hn_ast {k n : Nat} {i x : Int32} {K : hn_M → Option α} (hF : hn_F Z B kp cc nL own ret h) (ha : hn_isA B k false n) (hd : decode cc pc = .ok (.iastore, 1)) (hq : pc + 1 = q) (e : hn_wr μ k n i x K = some R) (kk : ∀ μ', K μ' = some R → hn_G Z B kp nL q L st μ') : hn_G Z B kp nL pc L (.int x :: .int i :: .ref (hn_base B + k) :: st) μ := by
  subst hq
  by_cases hin : i < 0 ∨ n ≤ i.toNatClampNeg
  · simp [hn_wr, hin] at e
  · have e' : K (hn_up μ k i.toNatClampNeg x) = some R := by simpa only [hn_wr, if_neg hin] using e
    intro H locs ls a b c
    refine va_iast hF.1 hF.2.1 hF.2.2.2.2.2.2.2.1.1 b (hn_w_D B μ) c k 0 (hn_at_A ha μ) rfl hin hd (fun H1 locs1 b1 _ c1 => ?_)
    refine kk _ e' H1 locs1 ls a ?_ c1
    rw [hn_w_set (μ' := hn_up μ k i.toNatClampNeg x) ha.1 (by simp only [hn_cell, ha.2, hn_up_eq]; rfl) (fun j hj => hn_up_ne hj)] at b1
    exact b1
theorem hn_bast {k n : Nat} {i x : Int32} {K : hn_M → Option α} (hF : hn_F Z B kp cc nL own ret h) (ha : hn_isA B k true n) (hd : decode cc pc = .ok (.bastore, 1)) (hq : pc + 1 = q) (e : hn_wr μ k n i (vp_nar .byte x) K = some R) (kk : ∀ μ', K μ' = some R → hn_G Z B kp nL q L st μ') : hn_G Z B kp nL pc L (.int x :: .int i :: .ref (hn_base B + k) :: st) μ := by
  subst hq
  by_cases hin : i < 0 ∨ n ≤ i.toNatClampNeg
  · simp [hn_wr, hin] at e
  · have e' : K (hn_up μ k i.toNatClampNeg (vp_nar .byte x)) = some R := by simpa only [hn_wr, if_neg hin] using e
    intro H locs ls a b c
    refine va_bast hF.1 hF.2.1 hF.2.2.2.2.2.2.2.1.1 b (hn_w_D B μ) c k 1 (hn_at_A ha μ) rfl hin hd (fun H1 locs1 b1 _ c1 => ?_)
    refine kk _ e' H1 locs1 ls a ?_ c1
    rw [hn_w_set (μ' := hn_up μ k i.toNatClampNeg (vp_nar .byte x)) ha.1 (by simp only [hn_cell, ha.2, hn_up_eq]; rfl) (fun j hj => hn_up_ne hj)] at b1
    exact b1
theorem hn_alen {k n : Nat} {v : Int32} (hF : hn_F Z B kp cc nL own ret h) (ha : hn_isA B k false n) (hv : Int32.ofNat n = v) (hd : decode cc pc = .ok (.arraylength, 1)) (hq : pc + 1 = q) (kk : hn_G Z B kp nL q L (.int v :: st) μ) : hn_G Z B kp nL pc L (.ref (hn_base B + k) :: st) μ := by
  subst hq
  exact fun H locs ls a b c => va_alen hF.1 hF.2.1 hF.2.2.2.2.2.2.2.1.1 b k 0 (hn_at_A ha μ) (ty := .int) rfl hv hd (kk H locs ls a b c)
theorem hn_aald {k t0 t1 : Nat} {i : Int32} {X0 X1 : Option α} (hF : hn_F Z B kp cc nL own ret h) (ha : hn_isR B k [t0, t1]) (hd : decode cc pc = .ok (.aaload, 1)) (hq : pc + 1 = q) (e : (if i = 0 then X0 else if i = 1 then X1 else none) = some R) (k0 : X0 = some R → hn_G Z B kp nL q L (.ref (hn_base B + t0) :: st) μ) (k1 : X1 = some R → hn_G Z B kp nL q L (.ref (hn_base B + t1) :: st) μ) : hn_G Z B kp nL pc L (.int i :: .ref (hn_base B + k) :: st) μ := by
  subst hq
  by_cases h0 : i = 0
  · subst h0
    rw [if_pos rfl] at e
    exact fun H locs ls a b c => va_aldq hF.1 hF.2.1 hF.2.2.2.2.2.2.2.1.1 b k 2 (hn_at_R ha μ) (C := RX1) rfl (by show ¬ ((0 : Int32) < 0 ∨ 2 ≤ (0 : Int32).toNatClampNeg); decide) hd (k0 e H locs ls a b c)
  · rw [if_neg h0] at e
    by_cases h1 : i = 1
    · subst h1
      rw [if_pos rfl] at e
      exact fun H locs ls a b c => va_aldq hF.1 hF.2.1 hF.2.2.2.2.2.2.2.1.1 b k 2 (hn_at_R ha μ) (C := RX1) rfl (by show ¬ ((1 : Int32) < 0 ∨ 2 ≤ (1 : Int32).toNatClampNeg); decide) hd (k1 e H locs ls a b c)
    · rw [if_neg h1] at e
      cases e
theorem hn_iret {v : Int32} {r : Option Value × hn_M} (hF : hn_F Z B (0, 0) cc nL own (some .int) h) (hQ : hn_goal Z B r) (hd : decode cc pc = .ok (.ireturn, 1)) (hr : r = (some (.int v), μ)) : hn_G Z B (0, 0) nL pc L [.int v] μ := by
  subst hr
  intro H locs ls a b c
  unfold hn_goal at hQ
  rw [hQ]
  exact W.iret hF.1 hF.2.1 hF.2.2.2.2.2.1 (fun t ht _ => ⟨⟨rfl, by rw [ht]; exact b⟩, c.F ht⟩) c.2.2 hd hF.2.2.2.2.2.2.1
theorem hn_lret {v : Int64} {r : Option Value × hn_M} (hF : hn_F Z B (0, 0) cc nL own (some .long) h) (hQ : hn_goal Z B r) (hd : decode cc pc = .ok (.lreturn, 1)) (hr : r = (some (.long v), μ)) : hn_G Z B (0, 0) nL pc L [.long v] μ := by
  subst hr
  intro H locs ls a b c
  unfold hn_goal at hQ
  rw [hQ]
  exact W.lret hF.1 hF.2.1 hF.2.2.2.2.2.1 (fun t ht _ => ⟨⟨rfl, by rw [ht]; exact b⟩, c.F ht⟩) c.2.2 hd hF.2.2.2.2.2.2.1
theorem hn_vret {r : Option Value × hn_M} (hF : hn_F Z B (0, 0) cc nL own none h) (hQ : hn_goal Z B r) (hd : decode cc pc = .ok (.return_, 1)) (hr : r = (none, μ)) : hn_G Z B (0, 0) nL pc L [] μ := by
  subst hr
  intro H locs ls a b c
  unfold hn_goal at hQ
  rw [hQ]
  exact W.vret hF.1 hF.2.1 hF.2.2.2.2.2.1 (fun t ht _ => ⟨⟨rfl, by rw [ht]; exact b⟩, c.F ht⟩) c.2.2 hd hF.2.2.2.2.2.2.1
theorem hn_zret {v : Int32} {r : Option Value × hn_M} (hF : hn_F Z B (0, 0) cc nL own (some .boolean) h) (hQ : hn_goal Z B r) (hd : decode cc pc = .ok (.ireturn, 1)) (hz : v = 0 ∨ v = 1) (hr : r = (some (.int v), μ)) : hn_G Z B (0, 0) nL pc L [.int v] μ := by
  subst hr
  intro H locs ls a b c
  unfold hn_goal at hQ
  rw [hQ]
  exact W.zret hF.1 hF.2.1 hF.2.2.2.2.2.1 (by rcases hz with rfl | rfl <;> rfl) (fun t ht _ => ⟨⟨rfl, by rw [ht]; exact b⟩, c.F ht⟩) c.2.2 hd hF.2.2.2.2.2.2.1
/-! a mirror's last word, by kinds: a number and the memory as it was; a number and a memory; a memory; a long -/
theorem hn_iretP {v R : Int32} (hF : hn_F Z B (0, 0) cc nL own (some .int) h) (hQ : hn_goal Z B (some (.int R), μ)) (hd : decode cc pc = .ok (.ireturn, 1)) (e : some v = some R) : hn_G Z B (0, 0) nL pc L [.int v] μ := by
  cases e; exact hn_iret hF hQ hd rfl
theorem hn_iretM {v : Int32} {R : Int32 × hn_M} (hF : hn_F Z B (0, 0) cc nL own (some .int) h) (hQ : hn_goal Z B (some (.int R.1), R.2)) (hd : decode cc pc = .ok (.ireturn, 1)) (e : some (v, μ) = some R) : hn_G Z B (0, 0) nL pc L [.int v] μ := by
  cases e; exact hn_iret hF hQ hd rfl
theorem hn_lretP {v R : Int64} (hF : hn_F Z B (0, 0) cc nL own (some .long) h) (hQ : hn_goal Z B (some (.long R), μ)) (hd : decode cc pc = .ok (.lreturn, 1)) (e : some v = some R) : hn_G Z B (0, 0) nL pc L [.long v] μ := by
  cases e; exact hn_lret hF hQ hd rfl
theorem hn_vretM {R : hn_M} (hF : hn_F Z B (0, 0) cc nL own none h) (hQ : hn_goal Z B (none, R)) (hd : decode cc pc = .ok (.return_, 1)) (e : some μ = some R) : hn_G Z B (0, 0) nL pc L [] μ := by
  cases e; exact hn_vret hF hQ hd rfl
theorem hn_zretP {v R : Int32} (hF : hn_F Z B (0, 0) cc nL own (some .boolean) h) (hQ : hn_goal Z B (some (.int R), μ)) (hd : decode cc pc = .ok (.ireturn, 1)) (hz : v = 0 ∨ v = 1) (e : some v = some R) : hn_G Z B (0, 0) nL pc L [.int v] μ := by
  cases e; exact hn_zret hF hQ hd hz rfl
theorem hn_zretM {v : Int32} {R : Int32 × hn_M} (hF : hn_F Z B (0, 0) cc nL own (some .boolean) h) (hQ : hn_goal Z B (some (.int R.1), R.2)) (hd : decode cc pc = .ok (.ireturn, 1)) (hz : v = 0 ∨ v = 1) (e : some (v, μ) = some R) : hn_G Z B (0, 0) nL pc L [.int v] μ := by
  cases e; exact hn_zret hF hQ hd hz rfl
def hn_bo {α : Type} (v : Int32) (K : Option α) : Option α := if v = 0 ∨ v = 1 then K else none
theorem hn_bo_some {v : Int32} {K : Option α} (e : hn_bo v K = some R) : (v = 0 ∨ v = 1) ∧ K = some R := by
  by_cases hv : v = 0 ∨ v = 1
  · exact ⟨hv, by simpa only [hn_bo, if_pos hv] using e⟩
  · simp [hn_bo, hv] at e
theorem hn_zretPg {v R : Int32} (hF : hn_F Z B (0, 0) cc nL own (some .boolean) h) (hQ : hn_goal Z B (some (.int R), μ)) (hd : decode cc pc = .ok (.ireturn, 1)) (e : hn_bo v (some v) = some R) : hn_G Z B (0, 0) nL pc L [.int v] μ :=
  hn_zretP hF hQ hd (hn_bo_some e).1 (hn_bo_some e).2
theorem hn_zretMg {v : Int32} {R : Int32 × hn_M} (hF : hn_F Z B (0, 0) cc nL own (some .boolean) h) (hQ : hn_goal Z B (some (.int R.1), R.2)) (hd : decode cc pc = .ok (.ireturn, 1)) (e : hn_bo v (some (v, μ)) = some R) : hn_G Z B (0, 0) nL pc L [.int v] μ :=
  hn_zretM hF hQ hd (hn_bo_some e).1 (hn_bo_some e).2
/-! calls -/
theorem hn_good : ∀ w ∈ hn_tb, goodWord w = true := fun _ h => (List.mem_filter.mp h).2
def hn_ms (y : MethodName) (cy : ByteArray) (ny : Nat) (rt : Option FieldType) (n : Nat) : Prop := Cond.code y cy ny rt ∈ hn_tb ∧ Cond.initialized y.cls ∈ hn_tb ∧ (y.cls ≠ "java/lang/invoke/MethodHandle" ∧ y.cls ≠ "java/lang/invoke/VarHandle" ∧ (parseMethodDescriptor y.desc).map (fun d => d.parameters.length) = some n) ∧ ny ≤ 16
def hn_mv (y : MethodName) : Prop := Cond.instanceMethod y ∈ hn_tb ∧ Cond.selects y.cls y y ∈ hn_tb
theorem hn_pay {y : MethodName} {cy : ByteArray} {ny : Nat} {rt : Option FieldType} (hc : Cond.code y cy ny rt ∈ hn_tb) : GoodIn hn_tb (Cond.code y cy ny rt :: hn_tb) := fun w hw => by
  have hm : w ∈ hn_tb := by
    rcases List.mem_cons.mp hw with e | e
    · rw [e]; exact hc
    · exact e
  exact ⟨hm, good_of_word (hn_good w hm)⟩
theorem hn_room {R : Room} {h h' ny : Nat} (hR : h ≤ R.frames ∧ 35 * h ≤ R.locals) (hh : h' + 1 ≤ h) (hn : ny ≤ 16) : (hn_rm h').frames + 1 ≤ R.frames ∧ 8 + (ny + 11) + (hn_rm h').locals ≤ R.locals := by
  simp only [hn_rm]; omega
theorem hn_run {p : Program} {l : Launch} {e : Env} {R : Room} {s : State} {m : MethodId} {args : Array Value} {below : List Frame} {meth : Method} {c : Code} {H : Heap} {locs : List Loc} {kc ks : Nat} {Q : State → Prop} {pc : Nat} {ls : Array Slot} {st0 rest : List Value} {B : hn_B} {r : Option Value × hn_M} {a : Array Value}
    (hr : va_Run p l e R s m args below meth c H locs kc ks 0 0 (F0 m pc ls st0) rest (hn_Q B r a) (hn_A B)) (hS : va_S (hn_A B) s.heap H locs)
    (kk : ∀ (H1 : Heap) (locs1 : List Loc), hn_P B r.2 H1 → va_S (hn_A B) s.heap H1 locs1 → W p l e R s m args below meth c H1 locs1 kc ks Q (F0 m (pc + 3) ls (r.1.toList ++ rest))) : W p l e R s m args below meth c H locs kc ks Q (F0 m pc ls st0) := by
  intro T hT X
  obtain ⟨v, st₀, t, T', L, h0, X', hL, e1, e2, ⟨⟨hv, hp⟩, hz, hk⟩, st⟩ := hr T hT X
  cases hv
  rw [h0] at hz hk
  obtain ⟨t2, a1, b1⟩ := kk T'.heap (locs ++ L) (by rw [e1]; exact hp)
    ⟨Nat.le_trans hS.1 (by rw [e1]; exact hz), fun q h1 h2 => by rw [e1, hk q (Nat.lt_of_lt_of_le h1 hS.1) h2]; exact hS.2.1 q h1 h2, fun q hq => by
      rcases List.mem_append.mp hq with h | h
      · exact hS.2.2 q h
      · exact hL q h⟩ T' rfl X'
  exact ⟨t2, st t2 a1, b1⟩
theorem hn_blind (B : hn_B) (as : List Value) (μ : hn_M) : FrameBlind (va_Pc as fun U => hn_P B μ U.heap ∧ hn_K B U) := by
  intro a U g mk qq
  obtain ⟨q0, qP, qK⟩ := qq
  exact ⟨q0, qP, va_K.moved (u := U) (U := U.calling g mk a) (Vm.Alike.refl U.vm) qK.1, qK.2.1.same (U := U.calling g mk a) rfl, fun q hq => (qK.2.2.1 q hq).same rfl (U := U.calling g mk a) rfl, qK.2.2.2.moved (u := U) (U := U.calling g mk a) (Vm.Alike.refl U.vm)⟩
theorem hn_callV {y : MethodName} {cy : ByteArray} {ny nn h' idx k ci : Nat} {rt : Option FieldType} {ks : List (Option (Option Nat))} {as rest : List Value} {r : Option Value × hn_M} {Tc : u_T × Nat} (hF : hn_F Z B kp cc nL own ret h) (hM : hn_ms y cy ny rt nn) (hV : hn_mv y) (hl : Cond.methodLink own idx y ∈ hn_tb) (ho : hn_isO B k ci ks) (hc : vwCl[ci]? = some (y.cls, Tc)) (hh : h' + 1 ≤ h) (hn : as.length = nn) (hcat : (rest.map fun v => v.category).sum ≤ 8) (hd : decode cc pc = .ok (.invokevirtual idx, 3)) (hq : pc + 3 = q)
    (hC : hn_C y cy ny rt h' B (.ref (hn_base B + k) :: as) μ r) (hst : st = as.reverse ++ .ref (hn_base B + k) :: rest) (kk : hn_G Z B kp nL q L (r.1.toList ++ rest) r.2) : hn_G Z B kp nL pc L st μ := by
  subst hq; subst hst
  intro H locs ls a b c
  have W1 := hF.2.2.2.2.1
  refine hn_run (va_runV (As := as) (rest := rest) (n := nn) (C := y.cls) ⟨hF.1, hF.2.1, hF.2.2.1, hF.2.2.2.1, W1⟩ (hC (zl Z)) ⟨callB_of nn W1 (hn_pay hM.1) rfl rfl rfl (W1 _ hM.2.1) (W1 _ hl) hM.2.2.1 (hn_room hF.2.2.2.2.2.2.2.2.1 hh hM.2.2.2), W1 _ hV.1, W1 _ hV.2⟩
    ⟨hn_blind B _ μ, va_recv hF.2.2.2.2.2.2.2.1.1 b hc (hn_at_O ho μ), fun U hU hW => ⟨rfl, by rw [hU]; exact b, hF.2.2.2.2.2.2.2.1.go hW hU c⟩⟩ rfl hn a.1 rfl (lv_room hcat) hd hF.2.2.2.2.2.2.2.2.2) c
    (fun H1 locs1 b1 c1 => kk H1 locs1 ls a b1 c1)
theorem hn_callS {y : MethodName} {cy : ByteArray} {ny nn h' idx : Nat} {rt : Option FieldType} {as rest : List Value} {r : Option Value × hn_M} (hF : hn_F Z B kp cc nL own ret h) (hM : hn_ms y cy ny rt nn) (hV : Cond.static y ∈ hn_tb) (hl : Cond.methodLink own idx y ∈ hn_tb) (hh : h' + 1 ≤ h) (hn : as.length = nn) (hcat : (rest.map fun v => v.category).sum ≤ 8) (hd : decode cc pc = .ok (.invokestatic idx, 3)) (hq : pc + 3 = q)
    (hC : hn_C y cy ny rt h' B as μ r) (hst : st = as.reverse ++ rest) (kk : hn_G Z B kp nL q L (r.1.toList ++ rest) r.2) : hn_G Z B kp nL pc L st μ := by
  subst hq; subst hst
  intro H locs ls a b c
  have W1 := hF.2.2.2.2.1
  refine hn_run (va_runS (As := as) (rest := rest) (n := nn) ⟨hF.1, hF.2.1, hF.2.2.1, hF.2.2.2.1, W1⟩ (hC (zl Z)) ⟨callB_of nn W1 (hn_pay hM.1) rfl rfl rfl (W1 _ hM.2.1) (W1 _ hl) hM.2.2.1 (hn_room hF.2.2.2.2.2.2.2.2.1 hh hM.2.2.2), W1 _ hV⟩
    ⟨hn_blind B _ μ, fun U hU hW => ⟨rfl, by rw [hU]; exact b, hF.2.2.2.2.2.2.2.1.go hW hU c⟩⟩ rfl hn a.1 rfl (lv_room hcat) hd hF.2.2.2.2.2.2.2.2.2) c
    (fun H1 locs1 b1 c1 => kk H1 locs1 ls a b1 c1)
theorem hn_callN {y : MethodName} {cy : ByteArray} {ny nn h' idx : Nat} {rt : Option FieldType} {as rest : List Value} {r : Option Value × hn_M} (hF : hn_F Z B kp cc nL own ret h) (hM : hn_ms y cy ny rt nn) (hV : Cond.static y ∈ hn_tb) (hl : (own, idx, y) ∈ hn_nest) (hh : h' + 1 ≤ h) (hn : as.length = nn) (hcat : (rest.map fun v => v.category).sum ≤ 8) (hd : decode cc pc = .ok (.invokestatic idx, 3)) (hq : pc + 3 = q)
    (hC : hn_C y cy ny rt h' B as μ r) (hst : st = as.reverse ++ rest) (kk : hn_G Z B kp nL q L (r.1.toList ++ rest) r.2) : hn_G Z B kp nL pc L st μ := by
  subst hq; subst hst
  intro H locs ls a b c
  have W1 := hF.2.2.2.2.1
  refine hn_run (va_runSN (As := as) (rest := rest) (n := nn) ⟨hF.1, hF.2.1, hF.2.2.1, hF.2.2.2.1, W1⟩ (hC (zl Z)) ⟨va_cnB nn W1 (hn_pay hM.1) rfl rfl rfl (hF.2.2.2.2.2.2.2.1.2.2.1 _ hl) (W1 _ hM.2.1) hM.2.2.1 (hn_room hF.2.2.2.2.2.2.2.2.1 hh hM.2.2.2), W1 _ hV, trivial⟩
    ⟨hn_blind B _ μ, fun U hU hW => ⟨rfl, by rw [hU]; exact b, hF.2.2.2.2.2.2.2.1.go hW hU c⟩⟩ rfl hn a.1 rfl (lv_room hcat) hd hF.2.2.2.2.2.2.2.2.2) c
    (fun H1 locs1 b1 c1 => kk H1 locs1 ls a b1 c1)
theorem hn_callVi {y : MethodName} {cy : ByteArray} {ny nn h' idx : Nat} {rt : Option FieldType} {k ci : Nat} {ks : List (Option (Option Nat))} {Tc : u_T × Nat} {rest : List Value} {o : Option (Int32)} {K : (Int32) → Option α} (hF : hn_F Z B kp cc nL own ret h) (hM : hn_ms y cy ny rt nn) (hV : hn_mv y) (hl : Cond.methodLink own idx y ∈ hn_tb) (ho : hn_isO B k ci ks) (hc : vwCl[ci]? = some (y.cls, Tc)) (hh : h' + 1 ≤ h) (as : List Value) (hn : as.length = nn) (hcat : (rest.map fun v => v.category).sum ≤ 8) (hd : decode cc pc = .ok (.invokevirtual idx, 3)) (hq : pc + 3 = q)
    (hst : st = as.reverse ++ .ref (hn_base B + k) :: rest) (e : o.bind K = some R) (hC : ∀ v, o = some v → hn_C y cy ny rt h' B (.ref (hn_base B + k) :: as) μ (some (.int v), μ)) (kk : ∀ v, K v = some R → hn_G Z B kp nL q L (.int v :: rest) μ) : hn_G Z B kp nL pc L st μ := by
  obtain ⟨v, hv, e⟩ := Option.bind_eq_some_iff.mp e
  exact hn_callV hF hM hV hl ho hc hh hn hcat hd hq (hC v hv) hst (kk v e)
theorem hn_callVm {y : MethodName} {cy : ByteArray} {ny nn h' idx : Nat} {rt : Option FieldType} {k ci : Nat} {ks : List (Option (Option Nat))} {Tc : u_T × Nat} {rest : List Value} {o : Option (Int32 × hn_M)} {K : (Int32 × hn_M) → Option α} (hF : hn_F Z B kp cc nL own ret h) (hM : hn_ms y cy ny rt nn) (hV : hn_mv y) (hl : Cond.methodLink own idx y ∈ hn_tb) (ho : hn_isO B k ci ks) (hc : vwCl[ci]? = some (y.cls, Tc)) (hh : h' + 1 ≤ h) (as : List Value) (hn : as.length = nn) (hcat : (rest.map fun v => v.category).sum ≤ 8) (hd : decode cc pc = .ok (.invokevirtual idx, 3)) (hq : pc + 3 = q)
    (hst : st = as.reverse ++ .ref (hn_base B + k) :: rest) (e : o.bind K = some R) (hC : ∀ v, o = some v → hn_C y cy ny rt h' B (.ref (hn_base B + k) :: as) μ (some (.int v.1), v.2)) (kk : ∀ v, K v = some R → hn_G Z B kp nL q L (.int v.1 :: rest) v.2) : hn_G Z B kp nL pc L st μ := by
  obtain ⟨v, hv, e⟩ := Option.bind_eq_some_iff.mp e
  exact hn_callV hF hM hV hl ho hc hh hn hcat hd hq (hC v hv) hst (kk v e)
theorem hn_callVv {y : MethodName} {cy : ByteArray} {ny nn h' idx : Nat} {rt : Option FieldType} {k ci : Nat} {ks : List (Option (Option Nat))} {Tc : u_T × Nat} {rest : List Value} {o : Option (hn_M)} {K : (hn_M) → Option α} (hF : hn_F Z B kp cc nL own ret h) (hM : hn_ms y cy ny rt nn) (hV : hn_mv y) (hl : Cond.methodLink own idx y ∈ hn_tb) (ho : hn_isO B k ci ks) (hc : vwCl[ci]? = some (y.cls, Tc)) (hh : h' + 1 ≤ h) (as : List Value) (hn : as.length = nn) (hcat : (rest.map fun v => v.category).sum ≤ 8) (hd : decode cc pc = .ok (.invokevirtual idx, 3)) (hq : pc + 3 = q)
    (hst : st = as.reverse ++ .ref (hn_base B + k) :: rest) (e : o.bind K = some R) (hC : ∀ v, o = some v → hn_C y cy ny rt h' B (.ref (hn_base B + k) :: as) μ (none, v)) (kk : ∀ v, K v = some R → hn_G Z B kp nL q L (rest) v) : hn_G Z B kp nL pc L st μ := by
  obtain ⟨v, hv, e⟩ := Option.bind_eq_some_iff.mp e
  exact hn_callV hF hM hV hl ho hc hh hn hcat hd hq (hC v hv) hst (kk v e)
theorem hn_callVl {y : MethodName} {cy : ByteArray} {ny nn h' idx : Nat} {rt : Option FieldType} {k ci : Nat} {ks : List (Option (Option Nat))} {Tc : u_T × Nat} {rest : List Value} {o : Option (Int64)} {K : (Int64) → Option α} (hF : hn_F Z B kp cc nL own ret h) (hM : hn_ms y cy ny rt nn) (hV : hn_mv y) (hl : Cond.methodLink own idx y ∈ hn_tb) (ho : hn_isO B k ci ks) (hc : vwCl[ci]? = some (y.cls, Tc)) (hh : h' + 1 ≤ h) (as : List Value) (hn : as.length = nn) (hcat : (rest.map fun v => v.category).sum ≤ 8) (hd : decode cc pc = .ok (.invokevirtual idx, 3)) (hq : pc + 3 = q)
    (hst : st = as.reverse ++ .ref (hn_base B + k) :: rest) (e : o.bind K = some R) (hC : ∀ v, o = some v → hn_C y cy ny rt h' B (.ref (hn_base B + k) :: as) μ (some (.long v), μ)) (kk : ∀ v, K v = some R → hn_G Z B kp nL q L (.long v :: rest) μ) : hn_G Z B kp nL pc L st μ := by
  obtain ⟨v, hv, e⟩ := Option.bind_eq_some_iff.mp e
  exact hn_callV hF hM hV hl ho hc hh hn hcat hd hq (hC v hv) hst (kk v e)
theorem hn_callSi {y : MethodName} {cy : ByteArray} {ny nn h' idx : Nat} {rt : Option FieldType} {rest : List Value} {o : Option (Int32)} {K : (Int32) → Option α} (hF : hn_F Z B kp cc nL own ret h) (hM : hn_ms y cy ny rt nn) (hV : Cond.static y ∈ hn_tb) (hl : Cond.methodLink own idx y ∈ hn_tb) (hh : h' + 1 ≤ h) (as : List Value) (hn : as.length = nn) (hcat : (rest.map fun v => v.category).sum ≤ 8) (hd : decode cc pc = .ok (.invokestatic idx, 3)) (hq : pc + 3 = q)
    (hst : st = as.reverse ++ rest) (e : o.bind K = some R) (hC : ∀ v, o = some v → hn_C y cy ny rt h' B as μ (some (.int v), μ)) (kk : ∀ v, K v = some R → hn_G Z B kp nL q L (.int v :: rest) μ) : hn_G Z B kp nL pc L st μ := by
  obtain ⟨v, hv, e⟩ := Option.bind_eq_some_iff.mp e
  exact hn_callS hF hM hV hl hh hn hcat hd hq (hC v hv) hst (kk v e)
theorem hn_callSm {y : MethodName} {cy : ByteArray} {ny nn h' idx : Nat} {rt : Option FieldType} {rest : List Value} {o : Option (Int32 × hn_M)} {K : (Int32 × hn_M) → Option α} (hF : hn_F Z B kp cc nL own ret h) (hM : hn_ms y cy ny rt nn) (hV : Cond.static y ∈ hn_tb) (hl : Cond.methodLink own idx y ∈ hn_tb) (hh : h' + 1 ≤ h) (as : List Value) (hn : as.length = nn) (hcat : (rest.map fun v => v.category).sum ≤ 8) (hd : decode cc pc = .ok (.invokestatic idx, 3)) (hq : pc + 3 = q)
    (hst : st = as.reverse ++ rest) (e : o.bind K = some R) (hC : ∀ v, o = some v → hn_C y cy ny rt h' B as μ (some (.int v.1), v.2)) (kk : ∀ v, K v = some R → hn_G Z B kp nL q L (.int v.1 :: rest) v.2) : hn_G Z B kp nL pc L st μ := by
  obtain ⟨v, hv, e⟩ := Option.bind_eq_some_iff.mp e
  exact hn_callS hF hM hV hl hh hn hcat hd hq (hC v hv) hst (kk v e)
theorem hn_callSv {y : MethodName} {cy : ByteArray} {ny nn h' idx : Nat} {rt : Option FieldType} {rest : List Value} {o : Option (hn_M)} {K : (hn_M) → Option α} (hF : hn_F Z B kp cc nL own ret h) (hM : hn_ms y cy ny rt nn) (hV : Cond.static y ∈ hn_tb) (hl : Cond.methodLink own idx y ∈ hn_tb) (hh : h' + 1 ≤ h) (as : List Value) (hn : as.length = nn) (hcat : (rest.map fun v => v.category).sum ≤ 8) (hd : decode cc pc = .ok (.invokestatic idx, 3)) (hq : pc + 3 = q)
    (hst : st = as.reverse ++ rest) (e : o.bind K = some R) (hC : ∀ v, o = some v → hn_C y cy ny rt h' B as μ (none, v)) (kk : ∀ v, K v = some R → hn_G Z B kp nL q L (rest) v) : hn_G Z B kp nL pc L st μ := by
  obtain ⟨v, hv, e⟩ := Option.bind_eq_some_iff.mp e
  exact hn_callS hF hM hV hl hh hn hcat hd hq (hC v hv) hst (kk v e)
theorem hn_callSl {y : MethodName} {cy : ByteArray} {ny nn h' idx : Nat} {rt : Option FieldType} {rest : List Value} {o : Option (Int64)} {K : (Int64) → Option α} (hF : hn_F Z B kp cc nL own ret h) (hM : hn_ms y cy ny rt nn) (hV : Cond.static y ∈ hn_tb) (hl : Cond.methodLink own idx y ∈ hn_tb) (hh : h' + 1 ≤ h) (as : List Value) (hn : as.length = nn) (hcat : (rest.map fun v => v.category).sum ≤ 8) (hd : decode cc pc = .ok (.invokestatic idx, 3)) (hq : pc + 3 = q)
    (hst : st = as.reverse ++ rest) (e : o.bind K = some R) (hC : ∀ v, o = some v → hn_C y cy ny rt h' B as μ (some (.long v), μ)) (kk : ∀ v, K v = some R → hn_G Z B kp nL q L (.long v :: rest) μ) : hn_G Z B kp nL pc L st μ := by
  obtain ⟨v, hv, e⟩ := Option.bind_eq_some_iff.mp e
  exact hn_callS hF hM hV hl hh hn hcat hd hq (hC v hv) hst (kk v e)
theorem hn_callNi {y : MethodName} {cy : ByteArray} {ny nn h' idx : Nat} {rt : Option FieldType} {rest : List Value} {o : Option (Int32)} {K : (Int32) → Option α} (hF : hn_F Z B kp cc nL own ret h) (hM : hn_ms y cy ny rt nn) (hV : Cond.static y ∈ hn_tb) (hl : (own, idx, y) ∈ hn_nest) (hh : h' + 1 ≤ h) (as : List Value) (hn : as.length = nn) (hcat : (rest.map fun v => v.category).sum ≤ 8) (hd : decode cc pc = .ok (.invokestatic idx, 3)) (hq : pc + 3 = q)
    (hst : st = as.reverse ++ rest) (e : o.bind K = some R) (hC : ∀ v, o = some v → hn_C y cy ny rt h' B as μ (some (.int v), μ)) (kk : ∀ v, K v = some R → hn_G Z B kp nL q L (.int v :: rest) μ) : hn_G Z B kp nL pc L st μ := by
  obtain ⟨v, hv, e⟩ := Option.bind_eq_some_iff.mp e
  exact hn_callN hF hM hV hl hh hn hcat hd hq (hC v hv) hst (kk v e)
theorem hn_callNm {y : MethodName} {cy : ByteArray} {ny nn h' idx : Nat} {rt : Option FieldType} {rest : List Value} {o : Option (Int32 × hn_M)} {K : (Int32 × hn_M) → Option α} (hF : hn_F Z B kp cc nL own ret h) (hM : hn_ms y cy ny rt nn) (hV : Cond.static y ∈ hn_tb) (hl : (own, idx, y) ∈ hn_nest) (hh : h' + 1 ≤ h) (as : List Value) (hn : as.length = nn) (hcat : (rest.map fun v => v.category).sum ≤ 8) (hd : decode cc pc = .ok (.invokestatic idx, 3)) (hq : pc + 3 = q)
    (hst : st = as.reverse ++ rest) (e : o.bind K = some R) (hC : ∀ v, o = some v → hn_C y cy ny rt h' B as μ (some (.int v.1), v.2)) (kk : ∀ v, K v = some R → hn_G Z B kp nL q L (.int v.1 :: rest) v.2) : hn_G Z B kp nL pc L st μ := by
  obtain ⟨v, hv, e⟩ := Option.bind_eq_some_iff.mp e
  exact hn_callN hF hM hV hl hh hn hcat hd hq (hC v hv) hst (kk v e)
theorem hn_callNv {y : MethodName} {cy : ByteArray} {ny nn h' idx : Nat} {rt : Option FieldType} {rest : List Value} {o : Option (hn_M)} {K : (hn_M) → Option α} (hF : hn_F Z B kp cc nL own ret h) (hM : hn_ms y cy ny rt nn) (hV : Cond.static y ∈ hn_tb) (hl : (own, idx, y) ∈ hn_nest) (hh : h' + 1 ≤ h) (as : List Value) (hn : as.length = nn) (hcat : (rest.map fun v => v.category).sum ≤ 8) (hd : decode cc pc = .ok (.invokestatic idx, 3)) (hq : pc + 3 = q)
    (hst : st = as.reverse ++ rest) (e : o.bind K = some R) (hC : ∀ v, o = some v → hn_C y cy ny rt h' B as μ (none, v)) (kk : ∀ v, K v = some R → hn_G Z B kp nL q L (rest) v) : hn_G Z B kp nL pc L st μ := by
  obtain ⟨v, hv, e⟩ := Option.bind_eq_some_iff.mp e
  exact hn_callN hF hM hV hl hh hn hcat hd hq (hC v hv) hst (kk v e)
theorem hn_callNl {y : MethodName} {cy : ByteArray} {ny nn h' idx : Nat} {rt : Option FieldType} {rest : List Value} {o : Option (Int64)} {K : (Int64) → Option α} (hF : hn_F Z B kp cc nL own ret h) (hM : hn_ms y cy ny rt nn) (hV : Cond.static y ∈ hn_tb) (hl : (own, idx, y) ∈ hn_nest) (hh : h' + 1 ≤ h) (as : List Value) (hn : as.length = nn) (hcat : (rest.map fun v => v.category).sum ≤ 8) (hd : decode cc pc = .ok (.invokestatic idx, 3)) (hq : pc + 3 = q)
    (hst : st = as.reverse ++ rest) (e : o.bind K = some R) (hC : ∀ v, o = some v → hn_C y cy ny rt h' B as μ (some (.long v), μ)) (kk : ∀ v, K v = some R → hn_G Z B kp nL q L (.long v :: rest) μ) : hn_G Z B kp nL pc L st μ := by
  obtain ⟨v, hv, e⟩ := Option.bind_eq_some_iff.mp e
  exact hn_callN hF hM hV hl hh hn hcat hd hq (hC v hv) hst (kk v e)
end hn_rules2
