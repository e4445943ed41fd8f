/-! memory: a cell's number, a place in it; shapes of cells; the world -/
abbrev hn_M : Type := Nat → Nat → Int32
def hn_up (μ : hn_M) (k i : Nat) (x : Int32) : hn_M := fun a => if a = k then (fun b => if b = i then x else μ a b) else μ a
/-- of a cell: a row of numbers (bytes?, how long), of references, an object (class, its fields: a number, a reference that the memory names, a reference that stays), any other -/
abbrev hn_S : Type := (Bool × Nat) ⊕ (List Nat ⊕ ((Nat × List (Option (Option Nat))) ⊕ va_E))
abbrev hn_B : Type := va_G × Nat × (ClassId × ClassId × ClassId) × Nat × (Nat → hn_S) × (Nat × Nat × Nat × Nat)
abbrev hn_D (B : hn_B) : va_G := B.1
abbrev hn_base (B : hn_B) : Nat := B.2.1
abbrev hn_cI (B : hn_B) : ClassId := B.2.2.1.1
abbrev hn_cB (B : hn_B) : ClassId := B.2.2.1.2.1
abbrev hn_cR (B : hn_B) : ClassId := B.2.2.1.2.2
abbrev hn_n (B : hn_B) : Nat := B.2.2.2.1
abbrev hn_sg (B : hn_B) : Nat → hn_S := B.2.2.2.2.1
abbrev hn_tH (B : hn_B) : Nat := B.2.2.2.2.2.1
abbrev hn_tW (B : hn_B) : Nat := B.2.2.2.2.2.2.1
abbrev hn_aS (B : hn_B) : Nat := B.2.2.2.2.2.2.2.1
abbrev hn_aV (B : hn_B) : Nat := B.2.2.2.2.2.2.2.2
def hn_val (base : Nat) (k : Option (Option Nat)) (x : Int32) : Value := match k with
  | none => .int x
  | some none => .ref (base + x.toNatClampNeg)
  | some (some t) => .ref (base + t)
def hn_fields (base : Nat) (ks : List (Option (Option Nat))) (f : Nat → Int32) : List Value := (List.range ks.length).map fun j => hn_val base (ks.getD j none) (f j)
def hn_cell (B : hn_B) (k : Nat) (f : Nat → Int32) : va_E := match hn_sg B k with
  | .inl (b, n) => .inl (if b = true then hn_cB B else hn_cI B, n, .inl f)
  | .inr (.inl rs) => .inl (hn_cR B, rs.length, .inr (.inr (.inr (.inr fun j => (rs[j]?).map fun t => hn_base B + t))))
  | .inr (.inr (.inl o)) => .inr (o.1, hn_fields (hn_base B) o.2 f)
  | .inr (.inr (.inr e)) => e
def hn_w (B : hn_B) (μ : hn_M) : va_W := (List.range (hn_n B)).map fun k => (hn_base B + k, hn_cell B k (μ k))
def hn_P (B : hn_B) (μ : hn_M) (H : Heap) : Prop := va_P (hn_D B) vwCl (hn_w B μ) H
def hn_A (B : hn_B) : Nat → Prop := fun q => hn_base B ≤ q
abbrev hn_tys (B : hn_B) : List (ClassId × FieldType) := [(hn_cI B, .int), (hn_cB B, .byte), (hn_cR B, .object RX1)]
def hn_high (j : Nat) : Int32 := ([5, 100, 999, -1, 7, 100, 999, -1, -1, 999, 999, -1, -1, 999, 999, -1, -1, 9, 999, -1, 5, 9, 999, 999] : List Int32).getD j 0
def hn_out (j : Nat) : Int32 := ([10, 0, 999, 20, 1] : List Int32).getD j 0
/-- the statics that are read -/
def hn_St (B : hn_B) (U : State) (H : Heap) : Prop :=
  (va_Z "HandNews$Items" "HIGHEST" "[I" (.ref (hn_tH B)) (hn_A B) U H ∧ va_T .int (hn_tH B) 24 (fun j => .int (hn_high j)) (hn_A B) U H) ∧
  (va_Z "HandNews$Items" "WITHOUT" "[I" (.ref (hn_tW B)) (hn_A B) U H ∧ va_T .int (hn_tW B) 5 (fun j => .int (hn_out j)) (hn_A B) U H) ∧
  vk_R "HandNews$Items" 57 "wvobxn" (hn_aS B) U ∧ vk_S 1 [6] [[119, 118, 111, 98, 120, 110]] (fun _ => hn_aS B) (fun _ => hn_aV B) (hn_A B) U H ∧ va_Z "java/lang/String" "COMPACT_STRINGS" "Z" (.int 1) (hn_A B) U H ∧ va_Zq "jdk/internal/util/Preconditions" "SIOOBE_FORMATTER" "Ljava/util/function/BiFunction;" (hn_A B) U H
/-- the tables' words that a call keeps, and those of nest mates -/
def hn_tb : List Cond := lw_tbl.filter goodWord
theorem hn_in {w : Cond} (h : w ∈ lw_tbl) (g : goodWord w = true) : w ∈ hn_tb := List.mem_filter.mpr ⟨h, g⟩
def hn_nest : List (String × Nat × MethodName) := [(RX1, 70, yX7_with), (RX1, 74, yX7_isIn), (RX6, 19, yX7_isIn), (RX7, 29, yX3_init), (RX7, 36, yX5_init), (RX7, 43, yX4_init), (RX7, 50, yX6_init), (RX7, 57, yX0_init)]
def hn_Ne (U : State) : Prop := (∀ q ∈ hn_nest, va_Nw (.methodLinkNest q.1 q.2.1 q.2.2 "HandNews") U) ∧ va_AO RX1 U
def hn_K (B : hn_B) (U : State) : Prop := va_K (hn_D B) vwCl (hn_tys B) U ∧ hn_St B U U.heap ∧ hn_Ne U
theorem hn_St.go {B : hn_B} {s U : State} {H : Heap} (hW : s.WarmedH U.vm) (hq : ∀ a : Nat, a < s.heap.size → ¬ hn_A B a → H[a]? = s.heap[a]?) (h : hn_St B s s.heap) : hn_St B U H := by
  obtain ⟨⟨a1, a2⟩, ⟨b1, b2⟩, c, d, e, f⟩ := h
  exact ⟨⟨(a1.moved hW.alike).kept hq, (a2.moved hW.alike).kept hq⟩, ⟨(b1.moved hW.alike).kept hq, (b2.moved hW.alike).kept hq⟩, c.warm hW, (d.moved hW.alike).kept hq, (e.moved hW.alike).kept hq, (f.moved hW.alike).kept hq⟩
theorem hn_St.same {B : hn_B} {s U : State} {H : Heap} (hv : U.vm = s.vm) (h : hn_St B s H) : hn_St B U H := by
  obtain ⟨⟨a1, a2⟩, ⟨b1, b2⟩, c, d, e, f⟩ := h
  have hA : s.vm.Alike U.vm := by rw [hv]; exact Vm.Alike.refl _
  exact ⟨⟨a1.moved hA, a2.moved hA⟩, ⟨b1.moved hA, b2.moved hA⟩, c.same hv, d.moved hA, e.moved hA, f.moved hA⟩
theorem hn_K.go {B : hn_B} {s U : State} {H : Heap} {locs : List Loc} (hW : s.WarmedH U.vm) (hU : U.heap = H) (hS : va_S (hn_A B) s.heap H locs) (h : hn_K B s) : hn_K B U :=
  ⟨va_K.moved hW.alike h.1, by rw [hU]; exact h.2.1.go hW hS.2.1, fun q hq => (h.2.2.1 q hq).warmM hW, h.2.2.2.moved hW.alike⟩
/-! places of the world -/
theorem hn_w_at (B : hn_B) (μ : hn_M) {k : Nat} (hk : k < hn_n B) : (hn_w B μ)[k]? = some (hn_base B + k, hn_cell B k (μ k)) := by
  simp [hn_w, List.getElem?_map, List.getElem?_range hk]
theorem hn_w_len (B : hn_B) (μ : hn_M) : (hn_w B μ).length = hn_n B := by simp [hn_w]
theorem hn_w_D (B : hn_B) (μ : hn_M) : va_D (hn_A B) (hn_w B μ) := by
  have key : ∀ (k : Nat) (q : Nat × va_E), (hn_w B μ)[k]? = some q → q.1 = hn_base B + k := by
    intro k q h
    have hk : k < hn_n B := by rw [← hn_w_len B μ]; exact (List.getElem?_eq_some_iff.mp h).1
    rw [hn_w_at B μ hk] at h
    rw [← Option.some.inj h]
  refine ⟨fun i j p q hp hq e => ?_, fun k q h => ?_⟩
  · have h1 := key i p hp
    have h2 := key j q hq
    omega
  · show hn_base B ≤ q.1
    have := key k q h
    omega
theorem hn_w_set {B : hn_B} {μ μ' : hn_M} {k : Nat} {e : va_E} (hk : k < hn_n B) (he : hn_cell B k (μ' k) = e) (ho : ∀ j, j ≠ k → μ' j = μ j) : (hn_w B μ).set k (hn_base B + k, e) = hn_w B μ' := by
  apply List.ext_getElem?
  intro j
  by_cases hj : j < hn_n B
  · rw [hn_w_at B μ' hj]
    by_cases hjk : j = k
    · subst hjk
      rw [List.getElem?_set_self (by rw [hn_w_len]; exact hj), he]
    · rw [List.getElem?_set_ne (fun q => hjk q.symm), hn_w_at B μ hj, ho j hjk]
  · rw [List.getElem?_eq_none (by rw [List.length_set, hn_w_len]; omega), List.getElem?_eq_none (by rw [hn_w_len]; omega)]
theorem hn_up_ne {μ : hn_M} {k i : Nat} {x : Int32} {j : Nat} (h : j ≠ k) : hn_up μ k i x j = μ j := by simp [hn_up, h]
theorem hn_up_eq {μ : hn_M} {k i : Nat} {x : Int32} : hn_up μ k i x k = fun b => if b = i then x else μ k b := by simp [hn_up]
def hn_isA (B : hn_B) (k : Nat) (b : Bool) (n : Nat) : Prop := k < hn_n B ∧ hn_sg B k = .inl (b, n)
def hn_isR (B : hn_B) (k : Nat) (rs : List Nat) : Prop := k < hn_n B ∧ hn_sg B k = .inr (.inl rs)
def hn_isO (B : hn_B) (k ci : Nat) (ks : List (Option (Option Nat))) : Prop := k < hn_n B ∧ hn_sg B k = .inr (.inr (.inl (ci, ks)))
theorem hn_at_A {B : hn_B} {k : Nat} {b : Bool} {n : Nat} (h : hn_isA B k b n) (μ : hn_M) : (hn_w B μ)[k]? = some (hn_base B + k, .inl (if b = true then hn_cB B else hn_cI B, n, .inl (μ k))) := by
  rw [hn_w_at B μ h.1]; simp only [hn_cell, h.2]
theorem hn_at_R {B : hn_B} {k : Nat} {rs : List Nat} (h : hn_isR B k rs) (μ : hn_M) : (hn_w B μ)[k]? = some (hn_base B + k, .inl (hn_cR B, rs.length, .inr (.inr (.inr (.inr fun j => (rs[j]?).map fun t => hn_base B + t))))) := by
  rw [hn_w_at B μ h.1]; simp only [hn_cell, h.2]
theorem hn_at_O {B : hn_B} {k ci : Nat} {ks : List (Option (Option Nat))} (h : hn_isO B k ci ks) (μ : hn_M) : (hn_w B μ)[k]? = some (hn_base B + k, .inr (ci, hn_fields (hn_base B) ks (μ k))) := by
  rw [hn_w_at B μ h.1]; simp only [hn_cell, h.2]
theorem hn_fields_at {base : Nat} {ks : List (Option (Option Nat))} {f : Nat → Int32} {j : Nat} {kd : Option (Option Nat)} (h : ks[j]? = some kd) : (hn_fields base ks f)[j]? = some (hn_val base kd (f j)) := by
  have hj : j < ks.length := (List.getElem?_eq_some_iff.mp h).1
  simp [hn_fields, List.getElem?_map, List.getElem?_range hj, List.getD_eq_getElem?_getD, h]
theorem hn_fields_len {base : Nat} {ks : List (Option (Option Nat))} {f : Nat → Int32} : (hn_fields base ks f).length = ks.length := by simp [hn_fields]
theorem hn_fields_set {base : Nat} {ks : List (Option (Option Nat))} {f : Nat → Int32} {j : Nat} {kd : Option (Option Nat)} (h : ks[j]? = some kd) (x : Int32) : (hn_fields base ks f).set j (hn_val base kd x) = hn_fields base ks (fun b => if b = j then x else f b) := by
  have hj : j < ks.length := (List.getElem?_eq_some_iff.mp h).1
  apply List.ext_getElem?
  intro i
  by_cases hi : i < ks.length
  · obtain ⟨ki, hki⟩ : ∃ ki, ks[i]? = some ki := ⟨_, List.getElem?_eq_getElem hi⟩
    rw [hn_fields_at hki]
    by_cases hij : i = j
    · subst hij
      cases h.symm.trans hki
      rw [List.getElem?_set_self (by rw [hn_fields_len]; exact hi), if_pos rfl]
    · rw [List.getElem?_set_ne (fun q => hij q.symm), hn_fields_at hki, if_neg hij]
  · rw [List.getElem?_eq_none (by rw [List.length_set, hn_fields_len]; omega), List.getElem?_eq_none (by rw [hn_fields_len]; omega)]
/-! where a method stands: the machine's fixed things, and the goal -/
abbrev hn_Z : Type := Program × Launch × Env × Room × State × MethodId × Array Value × List Frame × Method × Code × (State → Prop)
abbrev zp (Z : hn_Z) : Program := Z.1
abbrev zl (Z : hn_Z) : Launch := Z.2.1
abbrev ze (Z : hn_Z) : Env := Z.2.2.1
abbrev zR (Z : hn_Z) : Room := Z.2.2.2.1
abbrev zs (Z : hn_Z) : State := Z.2.2.2.2.1
abbrev zm (Z : hn_Z) : MethodId := Z.2.2.2.2.2.1
abbrev za (Z : hn_Z) : Array Value := Z.2.2.2.2.2.2.1
abbrev zb (Z : hn_Z) : List Frame := Z.2.2.2.2.2.2.2.1
abbrev zt (Z : hn_Z) : Method := Z.2.2.2.2.2.2.2.2.1
abbrev zc (Z : hn_Z) : Code := Z.2.2.2.2.2.2.2.2.2.1
abbrev zQ (Z : hn_Z) : State → Prop := Z.2.2.2.2.2.2.2.2.2.2
def hn_G (Z : hn_Z) (B : hn_B) (kp : Nat × Nat) (nL pc : Nat) (L : List (Nat × Value)) (st : List Value) (μ : hn_M) : Prop :=
  ∀ (H : Heap) (locs : List Loc) (ls : Array Slot), lv_has ls nL L → hn_P B μ H → va_S (hn_A B) (zs Z).heap H locs → W (zp Z) (zl Z) (ze Z) (zR Z) (zs Z) (zm Z) (za Z) (zb Z) (zt Z) (zc Z) H locs kp.1 kp.2 (zQ Z) (F0 (zm Z) pc ls st)
def hn_F (Z : hn_Z) (B : hn_B) (kp : Nat × Nat) (cc : ByteArray) (nL : Nat) (own : String) (ret : Option FieldType) (h : Nat) : Prop :=
  (zp Z).tables.exec = Jvm.exec ∧ (zc Z).code = cc ∧ (zc Z).maxLocals = nL ∧ (zs Z).vm.findClass own = some (zm Z).cls ∧ (∀ w ∈ hn_tb, w.before (za Z) (zs Z) = true) ∧ (zt Z).sig.returnType = ret ∧ (zt Z).locks = false ∧ hn_K B (zs Z) ∧ (h ≤ (zR Z).frames ∧ 35 * h ≤ (zR Z).locals) ∧ (kp.1 ≤ (zR Z).cells ∧ kp.2 ≤ (zR Z).slots)
section hn_rules
variable {Z : hn_Z} {B : hn_B} {kp : Nat × Nat} {cc : ByteArray} {nL : Nat} {own : String} {ret : Option FieldType} {h : Nat} {pc q : Nat} {L L' : List (Nat × Value)} {st : List Value} {μ : hn_M} {α : Type} {R : α}
theorem hn_sub (ks : List Nat) (hl : lv_pick L ks = L') (k : hn_G Z B kp nL pc L' st μ) : hn_G Z B kp nL pc L st μ :=
  fun H locs ls a b c => k H locs ls (lv_sub a ks hl) b c
theorem hn_eq {st' : List Value} {L' : List (Nat × Value)} {q : Nat} (h1 : pc = q) (h2 : L = L') (h3 : st = st') (k : hn_G Z B kp nL q L' st' μ) : hn_G Z B kp nL pc L st μ := by
  subst h1; subst h2; subst h3; exact k
theorem hn_iconst {n : Int} {v : Int32} (hF : hn_F Z B kp cc nL own ret h) (hd : decode cc pc = .ok (.iconst n, 1)) (hq : pc + 1 = q) (hv : Int32.ofInt n = v) (k : hn_G Z B kp nL q L (.int v :: st) μ) : hn_G Z B kp nL pc L (st) μ := by
  subst hq; exact fun H locs ls a b c => lv_iconst hF.1 hF.2.1 hd hv (k H locs ls a b c)
theorem hn_bipush {n : Int} {v : Int32} (hF : hn_F Z B kp cc nL own ret h) (hd : decode cc pc = .ok (.bipush n, 2)) (hq : pc + 2 = q) (hv : (Int8.ofInt n).toInt32 = v) (k : hn_G Z B kp nL q L (.int v :: st) μ) : hn_G Z B kp nL pc L (st) μ := by
  subst hq; exact fun H locs ls a b c => lv_bipush hF.1 hF.2.1 hd hv (k H locs ls a b c)
theorem hn_sipush {n : Int} {v : Int32} (hF : hn_F Z B kp cc nL own ret h) (hd : decode cc pc = .ok (.sipush n, 3)) (hq : pc + 3 = q) (hv : (Int16.ofInt n).toInt32 = v) (k : hn_G Z B kp nL q L (.int v :: st) μ) : hn_G Z B kp nL pc L (st) μ := by
  subst hq; exact fun H locs ls a b c => lv_sipush hF.1 hF.2.1 hd hv (k H locs ls a b c)
theorem hn_lconst {n : Fin 2} {v : Int64} (hF : hn_F Z B kp cc nL own ret h) (hd : decode cc pc = .ok (.lconst n, 1)) (hq : pc + 1 = q) (hv : Int64.ofNat (n : Nat) = v) (k : hn_G Z B kp nL q L (.long v :: st) μ) : hn_G Z B kp nL pc L (st) μ := by
  subst hq; exact fun H locs ls a b c => lv_lconst hF.1 hF.2.1 hd hv (k H locs ls a b c)
theorem hn_iload_n {k0 : Fin 4} {x : Int32} (hF : hn_F Z B kp cc nL own ret h) (hd : decode cc pc = .ok (.iload_n k0, 1)) (hq : pc + 1 = q) (p : Nat) (hl : L[p]? = some ((k0 : Nat), .int x)) (k : hn_G Z B kp nL q L (.int x :: st) μ) : hn_G Z B kp nL pc L st μ := by
  subst hq; exact fun H locs ls a b c => lv_iload_n hF.1 hF.2.1 hd rfl (lv_at a p hl) (k H locs ls a b c)
theorem hn_iload {i : Nat} {x : Int32} (hF : hn_F Z B kp cc nL own ret h) (hd : decode cc pc = .ok (.iload i, 2)) (hq : pc + 2 = q) (p : Nat) (hl : L[p]? = some (i, .int x)) (k : hn_G Z B kp nL q L (.int x :: st) μ) : hn_G Z B kp nL pc L st μ := by
  subst hq; exact fun H locs ls a b c => lv_iload hF.1 hF.2.1 hd (lv_at a p hl) (k H locs ls a b c)
theorem hn_lload_n {k0 : Fin 4} {x : Int64} (hF : hn_F Z B kp cc nL own ret h) (hd : decode cc pc = .ok (.lload_n k0, 1)) (hq : pc + 1 = q) (p : Nat) (hl : L[p]? = some ((k0 : Nat), .long x)) (k : hn_G Z B kp nL q L (.long x :: st) μ) : hn_G Z B kp nL pc L st μ := by
  subst hq; exact fun H locs ls a b c => lv_lload_n hF.1 hF.2.1 hd rfl (lv_at a p hl) (k H locs ls a b c)
theorem hn_lload {i : Nat} {x : Int64} (hF : hn_F Z B kp cc nL own ret h) (hd : decode cc pc = .ok (.lload i, 2)) (hq : pc + 2 = q) (p : Nat) (hl : L[p]? = some (i, .long x)) (k : hn_G Z B kp nL q L (.long x :: st) μ) : hn_G Z B kp nL pc L st μ := by
  subst hq; exact fun H locs ls a b c => lv_lload hF.1 hF.2.1 hd (lv_at a p hl) (k H locs ls a b c)
theorem hn_aload_n {k0 : Fin 4} {x : Nat} (hF : hn_F Z B kp cc nL own ret h) (hd : decode cc pc = .ok (.aload_n k0, 1)) (hq : pc + 1 = q) (p : Nat) (hl : L[p]? = some ((k0 : Nat), .ref x)) (k : hn_G Z B kp nL q L (.ref x :: st) μ) : hn_G Z B kp nL pc L st μ := by
  subst hq; exact fun H locs ls a b c => lv_aload_n hF.1 hF.2.1 hd rfl (lv_at a p hl) (k H locs ls a b c)
theorem hn_aload {i : Nat} {x : Nat} (hF : hn_F Z B kp cc nL own ret h) (hd : decode cc pc = .ok (.aload i, 2)) (hq : pc + 2 = q) (p : Nat) (hl : L[p]? = some (i, .ref x)) (k : hn_G Z B kp nL q L (.ref x :: st) μ) : hn_G Z B kp nL pc L st μ := by
  subst hq; exact fun H locs ls a b c => lv_aload hF.1 hF.2.1 hd (lv_at a p hl) (k H locs ls a b c)
theorem hn_istore_n {k0 : Fin 4} {i : Nat} {x : Int32} (hF : hn_F Z B kp cc nL own ret h) (hd : decode cc pc = .ok (.istore_n k0, 1)) (hq : pc + 1 = q) (hi : (k0 : Nat) = i) (hn : i < nL) (hl : (i, Value.int x) :: L.filter (fun q => !(q.1 == i) && !(q.1 + 1 == i && q.2.category == 2)) = L') (k : hn_G Z B kp nL q L' st μ) : hn_G Z B kp nL pc L (.int x :: st) μ := by
  subst hq; exact fun H locs ls a b c => lv_istore_n hF.1 hF.2.1 hd hi a hn hl (fun ls' a' => k H locs ls' a' b c)
theorem hn_istore {i : Nat} {x : Int32} (hF : hn_F Z B kp cc nL own ret h) (hd : decode cc pc = .ok (.istore i, 2)) (hq : pc + 2 = q) (hn : i < nL) (hl : (i, Value.int x) :: L.filter (fun q => !(q.1 == i) && !(q.1 + 1 == i && q.2.category == 2)) = L') (k : hn_G Z B kp nL q L' st μ) : hn_G Z B kp nL pc L (.int x :: st) μ := by
  subst hq; exact fun H locs ls a b c => lv_istore hF.1 hF.2.1 hd a hn hl (fun ls' a' => k H locs ls' a' b c)
theorem hn_lstore_n {k0 : Fin 4} {i : Nat} {x : Int64} (hF : hn_F Z B kp cc nL own ret h) (hd : decode cc pc = .ok (.lstore_n k0, 1)) (hq : pc + 1 = q) (hi : (k0 : Nat) = i) (hn : i + 1 < nL) (hl : (i, Value.long x) :: L.filter (fun q => !(q.1 == i) && (!(q.1 == i + 1) && !(q.1 + 1 == i && q.2.category == 2))) = L') (k : hn_G Z B kp nL q L' st μ) : hn_G Z B kp nL pc L (.long x :: st) μ := by
  subst hq; exact fun H locs ls a b c => lv_lstore_n hF.1 hF.2.1 hd hi a hn hl (fun ls' a' => k H locs ls' a' b c)
theorem hn_lstore {i : Nat} {x : Int64} (hF : hn_F Z B kp cc nL own ret h) (hd : decode cc pc = .ok (.lstore i, 2)) (hq : pc + 2 = q) (hn : i + 1 < nL) (hl : (i, Value.long x) :: L.filter (fun q => !(q.1 == i) && (!(q.1 == i + 1) && !(q.1 + 1 == i && q.2.category == 2))) = L') (k : hn_G Z B kp nL q L' st μ) : hn_G Z B kp nL pc L (.long x :: st) μ := by
  subst hq; exact fun H locs ls a b c => lv_lstore hF.1 hF.2.1 hd a hn hl (fun ls' a' => k H locs ls' a' b c)
theorem hn_astore_n {k0 : Fin 4} {i : Nat} {x : Nat} (hF : hn_F Z B kp cc nL own ret h) (hd : decode cc pc = .ok (.astore_n k0, 1)) (hq : pc + 1 = q) (hi : (k0 : Nat) = i) (hn : i < nL) (hl : (i, Value.ref x) :: L.filter (fun q => !(q.1 == i) && !(q.1 + 1 == i && q.2.category == 2)) = L') (k : hn_G Z B kp nL q L' st μ) : hn_G Z B kp nL pc L (.ref x :: st) μ := by
  subst hq; exact fun H locs ls a b c => lv_astore_n hF.1 hF.2.1 hd hi a hn hl (fun ls' a' => k H locs ls' a' b c)
theorem hn_astore {i : Nat} {x : Nat} (hF : hn_F Z B kp cc nL own ret h) (hd : decode cc pc = .ok (.astore i, 2)) (hq : pc + 2 = q) (hn : i < nL) (hl : (i, Value.ref x) :: L.filter (fun q => !(q.1 == i) && !(q.1 + 1 == i && q.2.category == 2)) = L') (k : hn_G Z B kp nL q L' st μ) : hn_G Z B kp nL pc L (.ref x :: st) μ := by
  subst hq; exact fun H locs ls a b c => lv_astore hF.1 hF.2.1 hd a hn hl (fun ls' a' => k H locs ls' a' b c)
theorem hn_iinc {i p : Nat} {n : Int} {x v : Int32} (hF : hn_F Z B kp cc nL own ret h) (hd : decode cc pc = .ok (.iinc i n, 3)) (hq : pc + 3 = q) (hk : L[p]? = some (i, .int x)) (hv : x + Int32.ofInt n = v) (hn : i < nL) (hl : (i, Value.int v) :: L.filter (fun q => !(q.1 == i) && !(q.1 + 1 == i && q.2.category == 2)) = L') (k : hn_G Z B kp nL q L' st μ) : hn_G Z B kp nL pc L st μ := by
  subst hq; exact fun H locs ls a b c => lv_iinc hF.1 hF.2.1 hd a hk hv hn hl (fun ls' a' => k H locs ls' a' b c)
theorem hn_iadd {x y : Int32} (hF : hn_F Z B kp cc nL own ret h) (hd : decode cc pc = .ok (.iadd, 1)) (hq : pc + 1 = q)  (k : hn_G Z B kp nL q L (.int (x + y) :: st) μ) : hn_G Z B kp nL pc L (.int y :: .int x :: st) μ := by
  subst hq; exact fun H locs ls a b c => lv_iadd hF.1 hF.2.1 hd  (k H locs ls a b c)
theorem hn_isub {x y : Int32} (hF : hn_F Z B kp cc nL own ret h) (hd : decode cc pc = .ok (.isub, 1)) (hq : pc + 1 = q)  (k : hn_G Z B kp nL q L (.int (x - y) :: st) μ) : hn_G Z B kp nL pc L (.int y :: .int x :: st) μ := by
  subst hq; exact fun H locs ls a b c => lv_isub hF.1 hF.2.1 hd  (k H locs ls a b c)
theorem hn_imul {x y : Int32} (hF : hn_F Z B kp cc nL own ret h) (hd : decode cc pc = .ok (.imul, 1)) (hq : pc + 1 = q)  (k : hn_G Z B kp nL q L (.int (x * y) :: st) μ) : hn_G Z B kp nL pc L (.int y :: .int x :: st) μ := by
  subst hq; exact fun H locs ls a b c => lv_imul hF.1 hF.2.1 hd  (k H locs ls a b c)
theorem hn_iand {x y : Int32} (hF : hn_F Z B kp cc nL own ret h) (hd : decode cc pc = .ok (.iand, 1)) (hq : pc + 1 = q)  (k : hn_G Z B kp nL q L (.int (x &&& y) :: st) μ) : hn_G Z B kp nL pc L (.int y :: .int x :: st) μ := by
  subst hq; exact fun H locs ls a b c => lv_iand hF.1 hF.2.1 hd  (k H locs ls a b c)
theorem hn_ior {x y : Int32} (hF : hn_F Z B kp cc nL own ret h) (hd : decode cc pc = .ok (.ior, 1)) (hq : pc + 1 = q)  (k : hn_G Z B kp nL q L (.int (x ||| y) :: st) μ) : hn_G Z B kp nL pc L (.int y :: .int x :: st) μ := by
  subst hq; exact fun H locs ls a b c => lv_ior hF.1 hF.2.1 hd  (k H locs ls a b c)
theorem hn_ixor {x y : Int32} (hF : hn_F Z B kp cc nL own ret h) (hd : decode cc pc = .ok (.ixor, 1)) (hq : pc + 1 = q)  (k : hn_G Z B kp nL q L (.int (x ^^^ y) :: st) μ) : hn_G Z B kp nL pc L (.int y :: .int x :: st) μ := by
  subst hq; exact fun H locs ls a b c => lv_ixor hF.1 hF.2.1 hd  (k H locs ls a b c)
theorem hn_ishl {x y : Int32} (hF : hn_F Z B kp cc nL own ret h) (hd : decode cc pc = .ok (.ishl, 1)) (hq : pc + 1 = q)  (k : hn_G Z B kp nL q L (.int (x <<< (y &&& 31)) :: st) μ) : hn_G Z B kp nL pc L (.int y :: .int x :: st) μ := by
  subst hq; exact fun H locs ls a b c => lv_ishl hF.1 hF.2.1 hd  (k H locs ls a b c)
theorem hn_ishr {x y : Int32} (hF : hn_F Z B kp cc nL own ret h) (hd : decode cc pc = .ok (.ishr, 1)) (hq : pc + 1 = q)  (k : hn_G Z B kp nL q L (.int (x >>> (y &&& 31)) :: st) μ) : hn_G Z B kp nL pc L (.int y :: .int x :: st) μ := by
  subst hq; exact fun H locs ls a b c => lv_ishr hF.1 hF.2.1 hd  (k H locs ls a b c)
theorem hn_ladd {x y : Int64} (hF : hn_F Z B kp cc nL own ret h) (hd : decode cc pc = .ok (.ladd, 1)) (hq : pc + 1 = q)  (k : hn_G Z B kp nL q L (.long (x + y) :: st) μ) : hn_G Z B kp nL pc L (.long y :: .long x :: st) μ := by
  subst hq; exact fun H locs ls a b c => lv_ladd hF.1 hF.2.1 hd  (k H locs ls a b c)
theorem hn_lmul {x y : Int64} (hF : hn_F Z B kp cc nL own ret h) (hd : decode cc pc = .ok (.lmul, 1)) (hq : pc + 1 = q)  (k : hn_G Z B kp nL q L (.long (x * y) :: st) μ) : hn_G Z B kp nL pc L (.long y :: .long x :: st) μ := by
  subst hq; exact fun H locs ls a b c => lv_lmul hF.1 hF.2.1 hd  (k H locs ls a b c)
theorem hn_land {x y : Int64} (hF : hn_F Z B kp cc nL own ret h) (hd : decode cc pc = .ok (.land, 1)) (hq : pc + 1 = q)  (k : hn_G Z B kp nL q L (.long (x &&& y) :: st) μ) : hn_G Z B kp nL pc L (.long y :: .long x :: st) μ := by
  subst hq; exact fun H locs ls a b c => lv_land hF.1 hF.2.1 hd  (k H locs ls a b c)
theorem hn_lor {x y : Int64} (hF : hn_F Z B kp cc nL own ret h) (hd : decode cc pc = .ok (.lor, 1)) (hq : pc + 1 = q)  (k : hn_G Z B kp nL q L (.long (x ||| y) :: st) μ) : hn_G Z B kp nL pc L (.long y :: .long x :: st) μ := by
  subst hq; exact fun H locs ls a b c => lv_lor hF.1 hF.2.1 hd  (k H locs ls a b c)
theorem hn_ineg {x : Int32} (hF : hn_F Z B kp cc nL own ret h) (hd : decode cc pc = .ok (.ineg, 1)) (hq : pc + 1 = q)  (k : hn_G Z B kp nL q L (.int (-x) :: st) μ) : hn_G Z B kp nL pc L (.int x :: st) μ := by
  subst hq; exact fun H locs ls a b c => lv_ineg hF.1 hF.2.1 hd  (k H locs ls a b c)
theorem hn_idiv {x y : Int32} (hF : hn_F Z B kp cc nL own ret h) (hd : decode cc pc = .ok (.idiv, 1)) (hq : pc + 1 = q) (hne : ¬ y = 0) (k : hn_G Z B kp nL q L (.int (x / y) :: st) μ) : hn_G Z B kp nL pc L (.int y :: .int x :: st) μ := by
  subst hq; exact fun H locs ls a b c => lv_idiv hF.1 hF.2.1 hd hne (k H locs ls a b c)
theorem hn_irem {x y : Int32} (hF : hn_F Z B kp cc nL own ret h) (hd : decode cc pc = .ok (.irem, 1)) (hq : pc + 1 = q) (hne : ¬ y = 0) (k : hn_G Z B kp nL q L (.int (x - x / y * y) :: st) μ) : hn_G Z B kp nL pc L (.int y :: .int x :: st) μ := by
  subst hq; exact fun H locs ls a b c => lv_irem hF.1 hF.2.1 hd hne (k H locs ls a b c)
theorem hn_i2l {x : Int32} {v : Int64} (hF : hn_F Z B kp cc nL own ret h) (hd : decode cc pc = .ok (.i2l, 1)) (hq : pc + 1 = q) (hv : x.toInt64 = v) (k : hn_G Z B kp nL q L (.long v :: st) μ) : hn_G Z B kp nL pc L (.int x :: st) μ := by
  subst hq; exact fun H locs ls a b c => lv_i2l hF.1 hF.2.1 hd hv (k H locs ls a b c)
theorem hn_l2i {x : Int64} {v : Int32} (hF : hn_F Z B kp cc nL own ret h) (hd : decode cc pc = .ok (.l2i, 1)) (hq : pc + 1 = q) (hv : x.toInt32 = v) (k : hn_G Z B kp nL q L (.int v :: st) μ) : hn_G Z B kp nL pc L (.long x :: st) μ := by
  subst hq; exact fun H locs ls a b c => lv_l2i hF.1 hF.2.1 hd hv (k H locs ls a b c)
theorem hn_i2b {x v : Int32} (hF : hn_F Z B kp cc nL own ret h) (hd : decode cc pc = .ok (.i2b, 1)) (hq : pc + 1 = q) (hv : x.toInt8.toInt32 = v) (k : hn_G Z B kp nL q L (.int v :: st) μ) : hn_G Z B kp nL pc L (.int x :: st) μ := by
  subst hq; exact fun H locs ls a b c => lv_i2b hF.1 hF.2.1 hd hv (k H locs ls a b c)
theorem hn_iushr {x y v : Int32} (hF : hn_F Z B kp cc nL own ret h) (hd : decode cc pc = .ok (.iushr, 1)) (hq : pc + 1 = q) (hv : (x.toUInt32 >>> (y.toUInt32 &&& Int32.toUInt32 31)).toInt32 = v) (k : hn_G Z B kp nL q L (.int v :: st) μ) : hn_G Z B kp nL pc L (.int y :: .int x :: st) μ := by
  subst hq; exact fun H locs ls a b c => lv_iushr hF.1 hF.2.1 hd hv (k H locs ls a b c)
theorem hn_lushr {x v : Int64} {y : Int32} (hF : hn_F Z B kp cc nL own ret h) (hd : decode cc pc = .ok (.lushr, 1)) (hq : pc + 1 = q) (hv : (x.toUInt64 >>> (y.toInt64.toUInt64 &&& Int64.toUInt64 63)).toInt64 = v) (k : hn_G Z B kp nL q L (.long v :: st) μ) : hn_G Z B kp nL pc L (.int y :: .long x :: st) μ := by
  subst hq; exact fun H locs ls a b c => lv_lushr hF.1 hF.2.1 hd hv (k H locs ls a b c)
theorem hn_lshl {x v : Int64} {y : Int32} (hF : hn_F Z B kp cc nL own ret h) (hd : decode cc pc = .ok (.lshl, 1)) (hq : pc + 1 = q) (hv : x <<< (y.toInt64 &&& 63) = v) (k : hn_G Z B kp nL q L (.long v :: st) μ) : hn_G Z B kp nL pc L (.int y :: .long x :: st) μ := by
  subst hq; exact fun H locs ls a b c => lv_lshl hF.1 hF.2.1 hd hv (k H locs ls a b c)
theorem hn_lshr {x v : Int64} {y : Int32} (hF : hn_F Z B kp cc nL own ret h) (hd : decode cc pc = .ok (.lshr, 1)) (hq : pc + 1 = q) (hv : x >>> (y.toInt64 &&& 63) = v) (k : hn_G Z B kp nL q L (.long v :: st) μ) : hn_G Z B kp nL pc L (.int y :: .long x :: st) μ := by
  subst hq; exact fun H locs ls a b c => lv_lshr hF.1 hF.2.1 hd hv (k H locs ls a b c)
theorem hn_dup {va : Value} (hF : hn_F Z B kp cc nL own ret h) (hd : decode cc pc = .ok (.dup, 1)) (hq : pc + 1 = q) (hva : va.category = 1) (k : hn_G Z B kp nL q L (va :: va :: st) μ) : hn_G Z B kp nL pc L (va :: st) μ := by
  subst hq; exact fun H locs ls a b c => lv_dup hF.1 hF.2.1 hd hva (k H locs ls a b c)
theorem hn_pop {va : Value} (hF : hn_F Z B kp cc nL own ret h) (hd : decode cc pc = .ok (.pop, 1)) (hq : pc + 1 = q) (hva : va.category = 1) (k : hn_G Z B kp nL q L (st) μ) : hn_G Z B kp nL pc L (va :: st) μ := by
  subst hq; exact fun H locs ls a b c => lv_pop hF.1 hF.2.1 hd hva (k H locs ls a b c)
theorem hn_i2c {x v : Int32} (hF : hn_F Z B kp cc nL own ret h) (hd : decode cc pc = .ok (.i2c, 1)) (hq : pc + 1 = q) (hv : (x.toUInt32 % 65536).toInt32 = v) (k : hn_G Z B kp nL q L (.int v :: st) μ) : hn_G Z B kp nL pc L (.int x :: st) μ := by
  subst hq; exact fun H locs ls a b c => lv_i2c hF.1 hF.2.1 hd hv (k H locs ls a b c)
theorem hn_dup2_11 {va vb : Value} (hF : hn_F Z B kp cc nL own ret h) (hd : decode cc pc = .ok (.dup2, 1)) (hq : pc + 1 = q) (hva : va.category = 1) (hvb : vb.category = 1) (k : hn_G Z B kp nL q L (va :: vb :: va :: vb :: st) μ) : hn_G Z B kp nL pc L (va :: vb :: st) μ := by
  subst hq; exact fun H locs ls a b c => lv_dup2_11 hF.1 hF.2.1 hd hva hvb (k H locs ls a b c)
theorem hn_lcmp {x y : Int64} (hF : hn_F Z B kp cc nL own ret h) (hd : decode cc pc = .ok (.lcmp, 1)) (hq : pc + 1 = q) (k : hn_G Z B kp nL q L (.int (lg_cmp x y) :: st) μ) : hn_G Z B kp nL pc L (.long y :: .long x :: st) μ := by
  subst hq; exact fun H locs ls a b c => W.lcmp hF.1 hF.2.1 hd (k H locs ls a b c)
theorem hn_goto {off : Int} (hF : hn_F Z B kp cc nL own ret h) (hd : decode cc pc = .ok (.goto off, 3)) (hq : (pc : Int) + off = (q : Int)) (k : hn_G Z B kp nL q L st μ) : hn_G Z B kp nL pc L st μ :=
  fun H locs ls a b c => lv_goto hF.1 hF.2.1 hd hq (k H locs ls a b c)
theorem hn_ldc {i : Nat} {v : Int32} (hF : hn_F Z B kp cc nL own ret h) (hw : Cond.constant own i v ∈ hn_tb) (hd : decode cc pc = .ok (.ldc i, 2)) (hq : pc + 2 = q) (k : hn_G Z B kp nL q L (.int v :: st) μ) : hn_G Z B kp nL pc L st μ := by
  subst hq; exact fun H locs ls a b c => lv_ldc hF.1 hF.2.1 hF.2.2.2.1 (hF.2.2.2.2.1 _ hw) hd (k H locs ls a b c)
theorem hn_ldcw {i : Nat} {v : Int32} (hF : hn_F Z B kp cc nL own ret h) (hw : Cond.constant own i v ∈ hn_tb) (hd : decode cc pc = .ok (.ldc_w i, 3)) (hq : pc + 3 = q) (k : hn_G Z B kp nL q L (.int v :: st) μ) : hn_G Z B kp nL pc L st μ := by
  subst hq; exact fun H locs ls a b c => lv_ldcw hF.1 hF.2.1 hF.2.2.2.1 (hF.2.2.2.2.1 _ hw) hd (k H locs ls a b c)
theorem hn_ldc2 {i : Nat} {v : Int64} (hF : hn_F Z B kp cc nL own ret h) (hw : Cond.constantLong own i v ∈ hn_tb) (hd : decode cc pc = .ok (.ldc2_w i, 3)) (hq : pc + 3 = q) (k : hn_G Z B kp nL q L (.long v :: st) μ) : hn_G Z B kp nL pc L st μ := by
  subst hq; exact fun H locs ls a b c => lv_ldc2 hF.1 hF.2.1 hF.2.2.2.1 (hF.2.2.2.2.1 _ hw) hd (k H locs ls a b c)
theorem hn_if_eq {x : Int32} {off : Int} {t : Nat} {X Y : Option α} (hF : hn_F Z B kp cc nL own ret h) (hd : decode cc pc = .ok (.ifCond .eq off, 3)) (ht : (pc : Int) + off = (t : Int)) (hq : pc + 3 = q) (e : (if x = 0 then X else Y) = some R) (kt : X = some R → hn_G Z B kp nL t L st μ) (kf : Y = some R → hn_G Z B kp nL q L st μ) : hn_G Z B kp nL pc L (.int x :: st) μ := by
  subst hq; exact fun H locs ls a b c => lv_if_eq hF.1 hF.2.1 hd ht (fun z => kt (by rw [if_pos z] at e; exact e) H locs ls a b c) (fun z => kf (by rw [if_neg z] at e; exact e) H locs ls a b c)
theorem hn_icmp_eq {x y : Int32} {off : Int} {t : Nat} {X Y : Option α} (hF : hn_F Z B kp cc nL own ret h) (hd : decode cc pc = .ok (.if_icmp .eq off, 3)) (ht : (pc : Int) + off = (t : Int)) (hq : pc + 3 = q) (e : (if x = y then X else Y) = some R) (kt : X = some R → hn_G Z B kp nL t L st μ) (kf : Y = some R → hn_G Z B kp nL q L st μ) : hn_G Z B kp nL pc L (.int y :: .int x :: st) μ := by
  subst hq; exact fun H locs ls a b c => lv_icmp_eq hF.1 hF.2.1 hd ht (fun z => kt (by rw [if_pos z] at e; exact e) H locs ls a b c) (fun z => kf (by rw [if_neg z] at e; exact e) H locs ls a b c)
theorem hn_if_ne {x : Int32} {off : Int} {t : Nat} {X Y : Option α} (hF : hn_F Z B kp cc nL own ret h) (hd : decode cc pc = .ok (.ifCond .ne off, 3)) (ht : (pc : Int) + off = (t : Int)) (hq : pc + 3 = q) (e : (if x = 0 then X else Y) = some R) (kt : Y = some R → hn_G Z B kp nL t L st μ) (kf : X = some R → hn_G Z B kp nL q L st μ) : hn_G Z B kp nL pc L (.int x :: st) μ := by
  subst hq; exact fun H locs ls a b c => lv_if_ne hF.1 hF.2.1 hd ht (fun z => kt (by rw [if_neg z] at e; exact e) H locs ls a b c) (fun z => kf (by rw [if_pos z] at e; exact e) H locs ls a b c)
theorem hn_icmp_ne {x y : Int32} {off : Int} {t : Nat} {X Y : Option α} (hF : hn_F Z B kp cc nL own ret h) (hd : decode cc pc = .ok (.if_icmp .ne off, 3)) (ht : (pc : Int) + off = (t : Int)) (hq : pc + 3 = q) (e : (if x = y then X else Y) = some R) (kt : Y = some R → hn_G Z B kp nL t L st μ) (kf : X = some R → hn_G Z B kp nL q L st μ) : hn_G Z B kp nL pc L (.int y :: .int x :: st) μ := by
  subst hq; exact fun H locs ls a b c => lv_icmp_ne hF.1 hF.2.1 hd ht (fun z => kt (by rw [if_neg z] at e; exact e) H locs ls a b c) (fun z => kf (by rw [if_pos z] at e; exact e) H locs ls a b c)
theorem hn_if_lt {x : Int32} {off : Int} {t : Nat} {X Y : Option α} (hF : hn_F Z B kp cc nL own ret h) (hd : decode cc pc = .ok (.ifCond .lt off, 3)) (ht : (pc : Int) + off = (t : Int)) (hq : pc + 3 = q) (e : (if x < 0 then X else Y) = some R) (kt : X = some R → hn_G Z B kp nL t L st μ) (kf : Y = some R → hn_G Z B kp nL q L st μ) : hn_G Z B kp nL pc L (.int x :: st) μ := by
  subst hq; exact fun H locs ls a b c => lv_if_lt hF.1 hF.2.1 hd ht (fun z => kt (by rw [if_pos z] at e; exact e) H locs ls a b c) (fun z => kf (by rw [if_neg z] at e; exact e) H locs ls a b c)
theorem hn_icmp_lt {x y : Int32} {off : Int} {t : Nat} {X Y : Option α} (hF : hn_F Z B kp cc nL own ret h) (hd : decode cc pc = .ok (.if_icmp .lt off, 3)) (ht : (pc : Int) + off = (t : Int)) (hq : pc + 3 = q) (e : (if x < y then X else Y) = some R) (kt : X = some R → hn_G Z B kp nL t L st μ) (kf : Y = some R → hn_G Z B kp nL q L st μ) : hn_G Z B kp nL pc L (.int y :: .int x :: st) μ := by
  subst hq; exact fun H locs ls a b c => lv_icmp_lt hF.1 hF.2.1 hd ht (fun z => kt (by rw [if_pos z] at e; exact e) H locs ls a b c) (fun z => kf (by rw [if_neg z] at e; exact e) H locs ls a b c)
theorem hn_if_ge {x : Int32} {off : Int} {t : Nat} {X Y : Option α} (hF : hn_F Z B kp cc nL own ret h) (hd : decode cc pc = .ok (.ifCond .ge off, 3)) (ht : (pc : Int) + off = (t : Int)) (hq : pc + 3 = q) (e : (if 0 ≤ x then X else Y) = some R) (kt : X = some R → hn_G Z B kp nL t L st μ) (kf : Y = some R → hn_G Z B kp nL q L st μ) : hn_G Z B kp nL pc L (.int x :: st) μ := by
  subst hq; exact fun H locs ls a b c => lv_if_ge hF.1 hF.2.1 hd ht (fun z => kt (by rw [if_pos z] at e; exact e) H locs ls a b c) (fun z => kf (by rw [if_neg z] at e; exact e) H locs ls a b c)
theorem hn_icmp_ge {x y : Int32} {off : Int} {t : Nat} {X Y : Option α} (hF : hn_F Z B kp cc nL own ret h) (hd : decode cc pc = .ok (.if_icmp .ge off, 3)) (ht : (pc : Int) + off = (t : Int)) (hq : pc + 3 = q) (e : (if y ≤ x then X else Y) = some R) (kt : X = some R → hn_G Z B kp nL t L st μ) (kf : Y = some R → hn_G Z B kp nL q L st μ) : hn_G Z B kp nL pc L (.int y :: .int x :: st) μ := by
  subst hq; exact fun H locs ls a b c => lv_icmp_ge hF.1 hF.2.1 hd ht (fun z => kt (by rw [if_pos z] at e; exact e) H locs ls a b c) (fun z => kf (by rw [if_neg z] at e; exact e) H locs ls a b c)
theorem hn_if_gt {x : Int32} {off : Int} {t : Nat} {X Y : Option α} (hF : hn_F Z B kp cc nL own ret h) (hd : decode cc pc = .ok (.ifCond .gt off, 3)) (ht : (pc : Int) + off = (t : Int)) (hq : pc + 3 = q) (e : (if 0 < x then X else Y) = some R) (kt : X = some R → hn_G Z B kp nL t L st μ) (kf : Y = some R → hn_G Z B kp nL q L st μ) : hn_G Z B kp nL pc L (.int x :: st) μ := by
  subst hq; exact fun H locs ls a b c => lv_if_gt hF.1 hF.2.1 hd ht (fun z => kt (by rw [if_pos z] at e; exact e) H locs ls a b c) (fun z => kf (by rw [if_neg z] at e; exact e) H locs ls a b c)
theorem hn_icmp_gt {x y : Int32} {off : Int} {t : Nat} {X Y : Option α} (hF : hn_F Z B kp cc nL own ret h) (hd : decode cc pc = .ok (.if_icmp .gt off, 3)) (ht : (pc : Int) + off = (t : Int)) (hq : pc + 3 = q) (e : (if y < x then X else Y) = some R) (kt : X = some R → hn_G Z B kp nL t L st μ) (kf : Y = some R → hn_G Z B kp nL q L st μ) : hn_G Z B kp nL pc L (.int y :: .int x :: st) μ := by
  subst hq; exact fun H locs ls a b c => lv_icmp_gt hF.1 hF.2.1 hd ht (fun z => kt (by rw [if_pos z] at e; exact e) H locs ls a b c) (fun z => kf (by rw [if_neg z] at e; exact e) H locs ls a b c)
theorem hn_if_le {x : Int32} {off : Int} {t : Nat} {X Y : Option α} (hF : hn_F Z B kp cc nL own ret h) (hd : decode cc pc = .ok (.ifCond .le off, 3)) (ht : (pc : Int) + off = (t : Int)) (hq : pc + 3 = q) (e : (if x ≤ 0 then X else Y) = some R) (kt : X = some R → hn_G Z B kp nL t L st μ) (kf : Y = some R → hn_G Z B kp nL q L st μ) : hn_G Z B kp nL pc L (.int x :: st) μ := by
  subst hq; exact fun H locs ls a b c => lv_if_le hF.1 hF.2.1 hd ht (fun z => kt (by rw [if_pos z] at e; exact e) H locs ls a b c) (fun z => kf (by rw [if_neg z] at e; exact e) H locs ls a b c)
theorem hn_icmp_le {x y : Int32} {off : Int} {t : Nat} {X Y : Option α} (hF : hn_F Z B kp cc nL own ret h) (hd : decode cc pc = .ok (.if_icmp .le off, 3)) (ht : (pc : Int) + off = (t : Int)) (hq : pc + 3 = q) (e : (if x ≤ y then X else Y) = some R) (kt : X = some R → hn_G Z B kp nL t L st μ) (kf : Y = some R → hn_G Z B kp nL q L st μ) : hn_G Z B kp nL pc L (.int y :: .int x :: st) μ := by
  subst hq; exact fun H locs ls a b c => lv_icmp_le hF.1 hF.2.1 hd ht (fun z => kt (by rw [if_pos z] at e; exact e) H locs ls a b c) (fun z => kf (by rw [if_neg z] at e; exact e) H locs ls a b c)
end hn_rules
