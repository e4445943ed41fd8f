/-! worlds that grow: the fixed part, how many cells, their shapes -/
abbrev hn_X : Type := va_G × Nat × (ClassId × ClassId × ClassId) × (Nat × Nat × Nat × Nat)
abbrev hn_mk (X : hn_X) (n : Nat) (σ : Nat → hn_S) : hn_B := (X.1, X.2.1, X.2.2.1, n, σ, X.2.2.2)
def hn_sy (σ : Nat → hn_S) (k : Nat) (sh : hn_S) : Nat → hn_S := fun j => if j = k then sh else σ j
def hn_zr (μ : hn_M) (k : Nat) : hn_M := fun a => if a = k then (fun _ => 0) else μ a
def hn_zs (μ : hn_M) (k c : Nat) : hn_M := fun a => if k ≤ a ∧ a < k + c then (fun _ => 0) else μ a
def hn_mix (σ : Nat → hn_S) (k c : Nat) : Nat → hn_S := fun j => if k ≤ j ∧ j < k + c then hn_sh j else σ j
abbrev hn_raw (ci : Nat) (fs : List Value) : hn_S := .inr (.inr (.inr (.inr (ci, fs))))
abbrev hn_rawR (cR : ClassId) (n : Nat) (f : Nat → Option Nat) : hn_S := .inr (.inr (.inr (.inl (cR, n, .inr (.inr (.inr (.inr f)))))))
def hn_J (Z : hn_Z) (B : hn_B) (kp : Nat × Nat) (cc : ByteArray) (nL : Nat) (own : String) (ret : Option FieldType) (h mc ms : Nat) : Prop :=
  hn_F Z B kp cc nL own ret h ∧ (zR Z).cells = mc ∧ (zR Z).slots = ms ∧ (zs Z).heap.size + kp.1 = hn_base B + hn_n B
theorem hn_w_push {X : hn_X} {n : Nat} {σ σ' : Nat → hn_S} {μ μ' : hn_M} (hs : ∀ j, j < n → σ' j = σ j) (hm : ∀ j, j < n → μ' j = μ j) : hn_w (hn_mk X (n + 1) σ') μ' = hn_w (hn_mk X n σ) μ ++ [(X.2.1 + n, hn_cell (hn_mk X (n + 1) σ') n (μ' n))] := by
  simp only [hn_w, hn_n, List.range_succ, List.map_append, List.map_cons, List.map_nil]
  congr 1
  apply List.map_congr_left
  intro j hj
  have hj : j < n := List.mem_range.mp hj
  rw [hm j hj]
  simp only [hn_cell, hn_sg, hs j hj]
section hn_al
variable {Z : hn_Z} {X : hn_X} {kp : Nat × Nat} {cc : ByteArray} {nL : Nat} {own : String} {ret : Option FieldType} {h mc ms : Nat} {pc q : Nat} {L L' : List (Nat × Value)} {st : List Value} {μ : hn_M} {n n' kc kc' ks ks' : Nat} {σ : Nat → hn_S} {α : Type} {R : α}
theorem hn_size {B : hn_B} {H : Heap} {locs : List Loc} {T : State} (hJ : hn_J Z B kp cc nL own ret h mc ms) (b : hn_P B μ H) (c : va_S (hn_A B) (zs Z).heap H locs) (hT : T.heap = H) (Xs : Stand (zp Z) (zl Z) (ze Z) (zR Z) (zs Z) (zm Z) (za Z) (zb Z) (zt Z) (zc Z) T locs kp.1 kp.2) (hb : hn_base B ≤ (zs Z).heap.size) : H.size = hn_base B + hn_n B := by
  have h1 : T.heap.size ≤ (zs Z).heap.size + kp.1 := Xs.same.2.2.1
  have h2 := hJ.2.2.2
  have h3 := c.1
  rw [hT] at h1
  rcases Nat.eq_zero_or_pos (hn_n B) with h0 | h0
  · omega
  · have h4 := (b (hn_n B - 1) _ (hn_w_at B μ (by omega))).lt
    simp only at h4
    omega
theorem hn_up1 {a k b n : Nat} (z : a + k = b + n) : a + (k + 1) = b + (n + 1) := by omega
theorem hn_up2 {a k b n c : Nat} (z : a + k = b + n) : a + (k + c) = b + (n + c) := by omega
theorem hn_sy_ne {s : hn_S} {j k : Nat} (h : j ≠ k) : hn_sy σ k s j = σ j := if_neg h
theorem hn_zr_ne {j k : Nat} (h : j ≠ k) : hn_zr μ k j = μ j := if_neg h
theorem hn_J.go {B B' : hn_B} {kp' : Nat × Nat} (hJ : hn_J Z B kp cc nL own ret h mc ms) (h1 : hn_K B (zs Z) → hn_K B' (zs Z)) (h2 : kp'.1 ≤ mc ∧ kp'.2 ≤ ms) (h3 : (zs Z).heap.size + kp.1 = hn_base B + hn_n B → (zs Z).heap.size + kp'.1 = hn_base B' + hn_n B') : hn_J Z B' kp' cc nL own ret h mc ms := by
  obtain ⟨⟨a1, a2, a3, a4, a5, a6, a7, a8, a9, a10⟩, b1, b2, b3⟩ := hJ
  exact ⟨⟨a1, a2, a3, a4, a5, a6, a7, h1 a8, a9, by rw [b1, b2]; exact h2⟩, b1, b2, h3 b3⟩
theorem hn_newaI {N : Nat} {nv : Int32} (hJ : hn_J Z (hn_mk X n σ) (kc, ks) cc nL own ret h mc ms) (hb : X.2.1 ≤ (zs Z).heap.size) (hw : Cond.arrayClass .int ∈ hn_tb) (hd : decode cc pc = .ok (.newarray .int, 2)) (hq : pc + 2 = q) (hn : ¬ nv < 0 ∧ nv.toNatClampNeg = N ∧ N * componentBytes .int ≤ 536870912) (hn' : n + 1 = n') (hc : kc + 1 = kc') (hs : ks + N = ks') (hle : kc' ≤ mc ∧ ks' ≤ ms)
    (kk : hn_J Z (hn_mk X n' (hn_sy σ n (.inl (false, N)))) (kc', ks') cc nL own ret h mc ms → hn_G Z (hn_mk X n' (hn_sy σ n (.inl (false, N)))) (kc', ks') nL q L (.ref (X.2.1 + n) :: st) (hn_zr μ n)) : hn_G Z (hn_mk X n σ) (kc, ks) nL pc L (.int nv :: st) μ := by
  subst hq; subst hn'; subst hc; subst hs
  have hJ' : hn_J Z (hn_mk X (n + 1) (hn_sy σ n (.inl (false, N)))) (kc + 1, ks + N) cc nL own ret h mc ms := hJ.go (fun z => z) hle (fun z => hn_up1 z)
  have kk := kk hJ'
  have hF := hJ.1
  intro H locs ls a b c T hT Xs
  have hsz : H.size = X.2.1 + n := hn_size hJ b c hT Xs hb
  have hR1 := hJ.2.1
  have hR2 := hJ.2.2.1
  revert T
  refine va_newaK (atype := .int) (g := F0 (zm Z) pc ls (.int nv :: st)) hF.1 hF.2.1 (hF.2.2.2.2.1 _ hw) rfl hd rfl hn.1 hn.2.1 hn.2.2 (by simp only; omega) (by simp only; omega) hsz fun H1 cA e1 z1 o1 hAr hNm => ?_
  have hcA : cA = X.2.2.1.1 := by
    have h9 := (hF.2.2.2.2.2.2.2.1.1.2 0 _ rfl).2
    exact Option.some.inj (hNm.symm.trans h9)
  subst hcA
  refine kk H1 locs ls a ?_ ⟨Nat.le_trans c.1 (by omega), fun x h1 h2 => (o1 x (by have := c.1; omega)).trans (c.2.1 x h1 h2), c.2.2⟩
  show va_P _ _ _ _
  rw [hn_w_push (σ := σ) (μ := μ) (fun j hj => hn_sy_ne (by omega)) (fun j hj => hn_zr_ne (by omega))]
  refine (va_P.kept b (fun k x hx => o1 x.1 (by have := (b k x hx).lt; omega))).app (fun k x hx => ?_)
  have hz : k < 1 := (List.getElem?_eq_some_iff.mp hx).1
  rw [show k = 0 by omega] at hx
  cases hx
  show va_at _ _ (X.2.1 + n, hn_cell (hn_mk X (n + 1) (hn_sy σ n (.inl (false, N)))) n (hn_zr μ n n)) H1
  simp only [hn_cell, hn_sg, hn_sy, hn_zr, if_pos]
  exact e1
theorem hn_newaB {N : Nat} {nv : Int32} (hJ : hn_J Z (hn_mk X n σ) (kc, ks) cc nL own ret h mc ms) (hb : X.2.1 ≤ (zs Z).heap.size) (hw : Cond.arrayClass .byte ∈ hn_tb) (hd : decode cc pc = .ok (.newarray .byte, 2)) (hq : pc + 2 = q) (hn : ¬ nv < 0 ∧ nv.toNatClampNeg = N ∧ N * componentBytes .byte ≤ 536870912) (hn' : n + 1 = n') (hc : kc + 1 = kc') (hs : ks + N = ks') (hle : kc' ≤ mc ∧ ks' ≤ ms)
    (kk : hn_J Z (hn_mk X n' (hn_sy σ n (.inl (true, N)))) (kc', ks') cc nL own ret h mc ms → hn_G Z (hn_mk X n' (hn_sy σ n (.inl (true, N)))) (kc', ks') nL q L (.ref (X.2.1 + n) :: st) (hn_zr μ n)) : hn_G Z (hn_mk X n σ) (kc, ks) nL pc L (.int nv :: st) μ := by
  subst hq; subst hn'; subst hc; subst hs
  have hJ' : hn_J Z (hn_mk X (n + 1) (hn_sy σ n (.inl (true, N)))) (kc + 1, ks + N) cc nL own ret h mc ms := hJ.go (fun z => z) hle (fun z => hn_up1 z)
  have kk := kk hJ'
  have hF := hJ.1
  intro H locs ls a b c T hT Xs
  have hsz : H.size = X.2.1 + n := hn_size hJ b c hT Xs hb
  have hR1 := hJ.2.1
  have hR2 := hJ.2.2.1
  revert T
  refine va_newaK (atype := .byte) (g := F0 (zm Z) pc ls (.int nv :: st)) hF.1 hF.2.1 (hF.2.2.2.2.1 _ hw) rfl hd rfl hn.1 hn.2.1 hn.2.2 (by simp only; omega) (by simp only; omega) hsz fun H1 cA e1 z1 o1 hAr hNm => ?_
  have hcA : cA = X.2.2.1.2.1 := by
    have h9 := (hF.2.2.2.2.2.2.2.1.1.2 1 _ rfl).2
    exact Option.some.inj (hNm.symm.trans h9)
  subst hcA
  refine kk H1 locs ls a ?_ ⟨Nat.le_trans c.1 (by omega), fun x h1 h2 => (o1 x (by have := c.1; omega)).trans (c.2.1 x h1 h2), c.2.2⟩
  show va_P _ _ _ _
  rw [hn_w_push (σ := σ) (μ := μ) (fun j hj => hn_sy_ne (by omega)) (fun j hj => hn_zr_ne (by omega))]
  refine (va_P.kept b (fun k x hx => o1 x.1 (by have := (b k x hx).lt; omega))).app (fun k x hx => ?_)
  have hz : k < 1 := (List.getElem?_eq_some_iff.mp hx).1
  rw [show k = 0 by omega] at hx
  cases hx
  show va_at _ _ (X.2.1 + n, hn_cell (hn_mk X (n + 1) (hn_sy σ n (.inl (true, N)))) n (hn_zr μ n n)) H1
  simp only [hn_cell, hn_sg, hn_sy, hn_zr, if_pos]
  exact e1
theorem hn_new {C : String} {T : u_T} {N ci idx : Nat} {ty : Nat → FieldType} {fs : List Value} (hJ : hn_J Z (hn_mk X n σ) (kc, ks) cc nL own ret h mc ms) (hb : X.2.1 ≤ (zs Z).heap.size) (hc0 : vwCl[ci]? = some (C, T, N)) (hw : Cond.classLink own idx C ∈ hn_tb ∧ Cond.instantiable C N ∈ hn_tb ∧ Cond.initialized C ∈ hn_tb) (hin : ∀ w ∈ u_ws C T N, w ∈ hn_tb) (hty : ∀ k, k < N → parseFieldDescriptor (T k).2.2.1 = some (ty k)) (hfs : ∀ j, j < N → defaultValue (ty j) = vp_V fs j) (hd : decode cc pc = .ok (.new idx, 3)) (hq : pc + 3 = q) (hn' : n + 1 = n') (hc : kc + 1 = kc') (hs : ks + N = ks') (hle : kc' ≤ mc ∧ ks' ≤ ms)
    (kk : hn_J Z (hn_mk X n' (hn_sy σ n (hn_raw ci fs))) (kc', ks') cc nL own ret h mc ms → hn_G Z (hn_mk X n' (hn_sy σ n (hn_raw ci fs))) (kc', ks') nL q L (.ref (X.2.1 + n) :: st) μ) : hn_G Z (hn_mk X n σ) (kc, ks) nL pc L st μ := by
  subst hq; subst hn'; subst hc; subst hs
  have hJ' : hn_J Z (hn_mk X (n + 1) (hn_sy σ n (hn_raw ci fs))) (kc + 1, ks + N) cc nL own ret h mc ms := hJ.go (fun z => z) hle (fun z => hn_up1 z)
  have kk := kk hJ'
  have hF := hJ.1
  have W1 := hF.2.2.2.2.1
  intro H locs ls a b c T1 hT Xs
  have hsz : H.size = X.2.1 + n := hn_size hJ b c hT Xs hb
  have hR1 := hJ.2.1
  have hR2 := hJ.2.2.1
  have hKn := hF.2.2.2.2.2.2.2.1.1.1 ci _ hc0
  revert T1
  refine W.newcK (g := F0 (zm Z) pc ls st) hF.1 hF.2.1 hF.2.2.2.1 (W1 _ hw.1) (W1 _ hw.2.1) (W1 _ hw.2.2) rfl hd (by simp only; omega) (by simp only; omega) hKn.2.1 hsz fun H1 kC hkC e1 z1 o1 => ?_
  refine kk H1 locs ls a ?_ ⟨Nat.le_trans c.1 (by omega), fun x h1 h2 => (o1 x (by have := c.1; omega)).trans (c.2.1 x h1 h2), c.2.2⟩
  show va_P _ _ _ _
  rw [hn_w_push (σ := σ) (μ := μ) (fun j hj => hn_sy_ne (by omega)) (fun j hj => rfl)]
  refine (va_P.kept b (fun k x hx => o1 x.1 (by have := (b k x hx).lt; omega))).app (fun k x hx => ?_)
  have hz : k < 1 := (List.getElem?_eq_some_iff.mp hx).1
  rw [show k = 0 by omega] at hx
  cases hx
  show va_at _ _ (X.2.1 + n, hn_cell (hn_mk X (n + 1) (hn_sy σ n (hn_raw ci fs))) n (μ n)) H1
  simp only [hn_cell, hn_sg, hn_sy, if_pos]
  exact ⟨_, hc0, (u_born ty W1 hin hKn hkC e1 hty).to hfs⟩
theorem hn_anew {C : String} {N idx : Nat} {nv : Int32} (hJ : hn_J Z (hn_mk X n σ) (kc, ks) cc nL own ret h mc ms) (hb : X.2.1 ≤ (zs Z).heap.size) (hC : C = RX1) (hw : Cond.classLink own idx C ∈ hn_tb) (hd : decode cc pc = .ok (.anewarray idx, 3)) (hq : pc + 3 = q) (hn : ¬ nv < 0 ∧ nv.toNatClampNeg = N ∧ N * 4 ≤ 536870912) (hn' : n + 1 = n') (hc : kc + 1 = kc') (hs : ks + N = ks') (hle : kc' ≤ mc ∧ ks' ≤ ms)
    (kk : hn_J Z (hn_mk X n' (hn_sy σ n (hn_rawR X.2.2.1.2.2 N (fun _ => none)))) (kc', ks') cc nL own ret h mc ms → hn_G Z (hn_mk X n' (hn_sy σ n (hn_rawR X.2.2.1.2.2 N (fun _ => none)))) (kc', ks') nL q L (.ref (X.2.1 + n) :: st) μ) : hn_G Z (hn_mk X n σ) (kc, ks) nL pc L (.int nv :: st) μ := by
  subst hq; subst hn'; subst hc; subst hs; subst hC
  have hJ' : hn_J Z (hn_mk X (n + 1) (hn_sy σ n (hn_rawR X.2.2.1.2.2 N (fun _ => none)))) (kc + 1, ks + N) cc nL own ret h mc ms := hJ.go (fun z => z) hle (fun z => hn_up1 z)
  have kk := kk hJ'
  have hF := hJ.1
  have W1 := hF.2.2.2.2.1
  intro H locs ls a b c T1 hT Xs
  have hsz : H.size = X.2.1 + n := hn_size hJ b c hT Xs hb
  have hR1 := hJ.2.1
  have hR2 := hJ.2.2.1
  obtain ⟨hn1, hn2, hn3⟩ := hn
  subst hn2
  revert T1
  refine W.anew (g := F0 (zm Z) pc ls (.int nv :: st)) hF.1 hF.2.1 hF.2.2.2.1 (W1 _ hw) (va_AO.use hF.2.2.2.2.2.2.2.1.2.2.2) rfl hd rfl hn1 hn3 (by simp only; omega) (by simp only; omega) fun cA kA comp f1 f2 f3 f4 => ?_
  have hcA : cA = X.2.2.1.2.2 := by
    obtain ⟨kA', comp', g1, g2, g3, g4⟩ := (hF.2.2.2.2.2.2.2.1.1.2 2 _ rfl).2
    exact Option.some.inj (f1.symm.trans g4)
  subst hcA
  generalize hH1 : H.push ({ cls := X.2.2.1.2.2, slots := Array.replicate nv.toNatClampNeg .null, vm := .none } : Cell) = H1
  have z1 : H1.size = H.size + 1 := by rw [← hH1, Array.size_push]
  have e1 : H1[H.size]? = some (arrV X.2.2.1.2.2 nv.toNatClampNeg (fun _ => .null)) := by rw [← hH1, Array.getElem?_push_size, ← arrV_new]
  have o1 : ∀ q : Nat, q < H.size → H1[q]? = H[q]? := fun q hq => by rw [← hH1, Array.getElem?_push, if_neg (Nat.ne_of_lt hq)]
  rw [hsz] at e1
  show W _ _ _ _ _ _ _ _ _ _ H1 locs _ _ _ (F0 (zm Z) (pc + 3) ls (.ref H.size :: st))
  rw [hsz]
  refine kk H1 locs ls a ?_ ⟨Nat.le_trans c.1 (by omega), fun x h1 h2 => (o1 x (by have := c.1; omega)).trans (c.2.1 x h1 h2), c.2.2⟩
  show va_P _ _ _ _
  rw [hn_w_push (σ := σ) (μ := μ) (fun j hj => hn_sy_ne (by omega)) (fun j hj => rfl)]
  refine (va_P.kept b (fun k x hx => o1 x.1 (by have := (b k x hx).lt; omega))).app (fun k x hx => ?_)
  have hz : k < 1 := (List.getElem?_eq_some_iff.mp hx).1
  rw [show k = 0 by omega] at hx
  cases hx
  show va_at _ _ (X.2.1 + n, hn_cell (hn_mk X (n + 1) (hn_sy σ n (hn_rawR X.2.2.1.2.2 nv.toNatClampNeg (fun _ => none)))) n (μ n)) H1
  simp only [hn_cell, hn_sg, hn_sy, if_pos]
  exact e1
/-- what a raw cell holds stands in the world -/
theorem hn_at_E {B : hn_B} {k : Nat} {e : va_E} (hk : k < hn_n B) (h : hn_sg B k = .inr (.inr (.inr e))) (μ : hn_M) : (hn_w B μ)[k]? = some (hn_base B + k, e) := by
  rw [hn_w_at B μ hk]; simp only [hn_cell, h]
theorem hn_w_sy {k : Nat} {e : va_E} (hk : k < n) : (hn_w (hn_mk X n σ) μ).set k (X.2.1 + k, e) = hn_w (hn_mk X n (hn_sy σ k (.inr (.inr (.inr e))))) μ := by
  apply List.ext_getElem?
  intro j
  by_cases hj : j < n
  · rw [hn_w_at (hn_mk X n (hn_sy σ k (.inr (.inr (.inr e))))) μ hj]
    by_cases hjk : j = k
    · subst hjk
      rw [List.getElem?_set_self (by rw [hn_w_len]; exact hj)]
      simp only [hn_cell, hn_sg, hn_sy, if_pos]
    · rw [List.getElem?_set_ne (fun q => hjk q.symm), hn_w_at (hn_mk X n σ) μ hj]
      simp only [hn_cell, hn_sg, hn_sy, if_neg hjk]
  · rw [List.getElem?_eq_none (by rw [List.length_set, hn_w_len]; exact Nat.not_lt.mp hj), List.getElem?_eq_none (by rw [hn_w_len]; exact Nat.not_lt.mp hj)]
theorem hn_putr {k j ci idx : Nat} {fs fs' : List Value} {v : Value} {ty : FieldType} {C : String} {T : u_T} {N : Nat} {ty0 : Nat → FieldType} (hJ : hn_J Z (hn_mk X n σ) kp cc nL own ret h mc ms) (hnm0 : (zt Z).name = "<init>") (hl : hn_fl own idx ci j) (hc0 : vwCl[ci]? = some (C, T, N)) (hty : ∀ k, k < N → parseFieldDescriptor (T k).2.2.1 = some (ty0 k)) (hnm : ∀ a, a < N → ∀ b, b < N → a ≠ b → (T a).2.1 ≠ (T b).2.1) (hdc : (T j).1 = own) (hpd : parseFieldDescriptor (T j).2.2.1 = some ty) (hk : k < n) (hσ : σ k = hn_raw ci fs) (hfs : fs.set j v = fs') (hj : j < fs.length) (hn : narrow ty v = v) (hfit : fits ty v = true) (hd : decode cc pc = .ok (.putfield idx, 3)) (hq : pc + 3 = q)
    (kk : hn_J Z (hn_mk X n (hn_sy σ k (hn_raw ci fs'))) kp cc nL own ret h mc ms → hn_G Z (hn_mk X n (hn_sy σ k (hn_raw ci fs'))) kp nL q L st μ) : hn_G Z (hn_mk X n σ) kp nL pc L (v :: .ref (X.2.1 + k) :: st) μ := by
  subst hq; subst hfs
  have kk := kk (hJ.go (fun z => z) (by rw [← hJ.2.1, ← hJ.2.2.1]; exact hJ.1.2.2.2.2.2.2.2.2.2) (fun z => z))
  have hF := hJ.1
  obtain ⟨C', T', N', h1, h2, h3, h4⟩ := hl
  cases h1.symm.trans hc0
  intro H locs ls a b c
  by_cases hfin : (T j).2.2.2 = true
  · refine va_putF hF.1 hF.2.1 hF.2.2.2.2.1 h4 ty0 hty hnm hF.2.2.2.1 hF.2.2.2.2.2.2.2.1.1 b (hn_w_D _ μ) c k (hn_at_E hk hσ μ) h1 j h2 (hF.2.2.2.2.1 _ h3) (fun _ z => z) hfin hnm0 hdc hpd hn hfit hj hd (fun H1 locs1 b1 _ c1 => ?_)
    refine kk H1 locs1 ls a ?_ c1
    rw [hn_w_sy hk] at b1
    exact b1
  · refine va_put hF.1 hF.2.1 hF.2.2.2.2.1 h4 ty0 hty hnm hF.2.2.2.1 hF.2.2.2.2.2.2.2.1.1 b (hn_w_D _ μ) c k (hn_at_E hk hσ μ) h1 j h2 (hF.2.2.2.2.1 _ h3) (fun _ z => z) (by simpa using hfin) hpd hn hfit hj hd (fun H1 locs1 b1 _ c1 => ?_)
    refine kk H1 locs1 ls a ?_ c1
    rw [hn_w_sy hk] at b1
    exact b1
theorem hn_astr {k t : Nat} {N ci : Nat} {f : Nat → Option Nat} {i : Int32} {Tc : u_T × Nat} {vs : List Value} (hJ : hn_J Z (hn_mk X n σ) kp cc nL own ret h mc ms) (hk : k < n) (hσ : σ k = hn_rawR X.2.2.1.2.2 N f) (hv : (hn_w (hn_mk X n σ) μ)[t]? = some (X.2.1 + t, .inr (ci, vs))) (hc0 : vwCl[ci]? = some (RX1, Tc)) (hin : vp_in i N) (hd : decode cc pc = .ok (.aastore, 1)) (hq : pc + 1 = q)
    (kk : hn_J Z (hn_mk X n (hn_sy σ k (hn_rawR X.2.2.1.2.2 N (va_up f i.toNatClampNeg (some (X.2.1 + t)))))) kp cc nL own ret h mc ms → hn_G Z (hn_mk X n (hn_sy σ k (hn_rawR X.2.2.1.2.2 N (va_up f i.toNatClampNeg (some (X.2.1 + t)))))) kp nL q L st μ) : hn_G Z (hn_mk X n σ) kp nL pc L (.ref (X.2.1 + t) :: .int i :: .ref (X.2.1 + k) :: st) μ := by
  subst hq
  have kk := kk (hJ.go (fun z => z) (by rw [← hJ.2.1, ← hJ.2.2.1]; exact hJ.1.2.2.2.2.2.2.2.2.2) (fun z => z))
  have hF := hJ.1
  intro H locs ls a b c
  refine va_astq hF.1 hF.2.1 hF.2.2.2.2.2.2.2.1.1 b (hn_w_D _ μ) c k 2 t ci (hn_at_E hk hσ μ) (r := (RX1, Tc)) rfl hv hc0 hin hd (fun H1 locs1 b1 _ c1 => ?_)
  refine kk H1 locs1 ls a ?_ c1
  rw [hn_w_sy hk] at b1
  exact b1
/-- the same world, told otherwise -/
theorem hn_norm {σ' : Nat → hn_S} {μ' : hn_M} (c0 : Nat) (h1 : ∀ j, j < c0 → σ' j = σ j ∧ μ' j = μ j) (h2 : ∀ j, c0 ≤ j → j < n → hn_cell (hn_mk X n σ) j (μ j) = hn_cell (hn_mk X n σ') j (μ' j)) (hJ : hn_J Z (hn_mk X n σ) kp cc nL own ret h mc ms) (kk : hn_J Z (hn_mk X n σ') kp cc nL own ret h mc ms → hn_G Z (hn_mk X n σ') kp nL pc L st μ') : hn_G Z (hn_mk X n σ) kp nL pc L st μ := by
  have kk := kk (hJ.go (fun z => z) (by rw [← hJ.2.1, ← hJ.2.2.1]; exact hJ.1.2.2.2.2.2.2.2.2.2) (fun z => z))
  intro H locs ls a b c
  refine kk H locs ls a ?_ c
  have e : hn_w (hn_mk X n σ) μ = hn_w (hn_mk X n σ') μ' := by
    apply List.ext_getElem?
    intro j
    by_cases hj : j < n
    · rw [hn_w_at (hn_mk X n σ) μ hj, hn_w_at (hn_mk X n σ') μ' hj]
      by_cases hc : j < c0
      · rw [(h1 j hc).2]
        simp only [hn_cell, hn_sg, (h1 j hc).1]
      · rw [h2 j (Nat.not_lt.mp hc) hj]
    · rw [List.getElem?_eq_none (by rw [hn_w_len]; exact Nat.not_lt.mp hj), List.getElem?_eq_none (by rw [hn_w_len]; exact Nat.not_lt.mp hj)]
  show va_P _ _ _ _
  rw [← e]
  exact b
/-! contracts of constructors -/
def hn_QN (B' : hn_B) (μ' : hn_M) : Array Value → State → Outcome → State → Prop := fun _ st o t => (o = .returned none ∧ hn_P B' μ' t.heap) ∧ va_F (hn_A B') st t
def hn_PN (B : hn_B) (μ : hn_M) (U : State) : Prop := hn_P B μ U.heap ∧ U.heap.size = hn_base B + hn_n B ∧ hn_K B U
def hn_CN (y : MethodName) (cy : ByteArray) (ny h : Nat) (B B' : hn_B) (a : Nat) (μ μ' : hn_M) (mc ms : Nat) : Prop :=
  ∀ l : Launch, Met l y (Cond.code y cy ny none :: hn_tb) ({ frames := h, cells := mc, slots := ms, locals := 35 * h }) (va_Pc [.ref (hn_base B + a)] (hn_PN B μ)) (hn_QN B' μ') mc ms (hn_A B)
def hn_goalN (Z : hn_Z) (B : hn_B) (μ : hn_M) (mc ms : Nat) : Prop := zQ Z = MQ (zb Z) (hn_QN B μ) (za Z) (zs Z) mc ms (hn_A B)
theorem hn_CN.of {y : MethodName} {cy : ByteArray} {ny : Nat} {h : Nat} {B B' : hn_B} {a : Nat} {μ μ' : hn_M} {mc ms : Nat} (own : String) (hy : plainName y.cls = true) (ho : y.cls = own) (hi : y.name = "<init>") (hlen : 1 ≤ ny) (hA : hn_A B = hn_A B')
    (body : ∀ Z : hn_Z, hn_J Z B (0, 0) cy ny own none h mc ms → (zt Z).name = "<init>" → hn_base B ≤ (zs Z).heap.size → hn_goalN Z B' μ' mc ms → hn_G Z B (0, 0) ny 0 [(0, .ref (hn_base B + a))] [] μ) : hn_CN y cy ny h B B' a μ μ' mc ms := by
  intro l
  refine Met.ofW (cc := cy) (maxL := ny) (ret := none) hy rfl ?_
  intro p e s m args below meth c s₁ Bd hml hv
  obtain ⟨rfl, hP, hz, hK⟩ := hv
  have hts := atoms_spec (ws := Cond.code y cy ny none :: hn_tb) Bd.pre
  have hown : s.vm.findClass y.cls = some m.cls := findClass_of_methodNamed Bd.named
  have hnm : meth.name = y.name := (name_of_methodNamed Bd.named Bd.method).1
  subst ho
  have k := body (p, l, e, (headSpec (Cond.code y cy ny none :: hn_tb) ({ frames := h, cells := mc, slots := ms, locals := 35 * h })).room, s, m, _, below, meth, c, MQ below (hn_QN B' μ') ([.ref (hn_base B + a)] : List Value).toArray s mc ms (hn_A B)) ⟨⟨Bd.exec, Bd.bytes, hml, hown, fun w hw => hts w (List.mem_cons_of_mem _ hw), Bd.returns, Bd.notSynchronized, hK, ⟨Nat.le_refl _, Nat.le_refl _⟩, Nat.zero_le _, Nat.zero_le _⟩, rfl, rfl, by simpa using hz⟩ (hnm.trans hi) (by show hn_base B ≤ s.heap.size; omega) (by unfold hn_goalN; rw [hA])
  rw [lg_entry_eq]
  exact k s.heap [] _ (lv_entry [.ref (hn_base B + a)] hlen) hP va_S.rf
theorem hn_objI {idx : Nat} {a : Nat} {B : hn_B} (hF : hn_F Z B kp cc nL own ret h) (hw : Cond.methodLink own idx Lib.objectInit ∈ hn_tb) (hw2 : Cond.instanceMethod Lib.objectInit ∈ hn_tb ∧ Cond.code Lib.objectInit ⟨#[0xb1]⟩ 1 none ∈ hn_tb) (hh : 1 ≤ h) (hcat : (st.map fun v => v.category).sum ≤ 8) (hd : decode cc pc = .ok (.invokespecial idx, 3)) (hq : pc + 3 = q) (k : hn_G Z B kp nL q L st μ) : hn_G Z B kp nL pc L (.ref a :: st) μ := by
  subst hq
  have W1 := hF.2.2.2.2.1
  have hR := hF.2.2.2.2.2.2.2.2.1
  intro H locs ls a1 b c
  exact W.objInit hF.1 hF.2.1 hF.2.2.2.1 (W1 _ hw) (W1 _ hw2.1) (W1 _ hw2.2) rfl (a1.1.trans hF.2.2.1.symm) rfl hd (by omega) (by show 2 * 0 + _ + 12 ≤ _; omega) (k H locs ls a1 b c)
theorem hn_vretN {B : hn_B} {μ' : hn_M} (hF : hn_F Z B (mc, ms) cc nL own none h) (hQ : hn_goalN Z B μ' mc ms) (hd : decode cc pc = .ok (.return_, 1)) (e : some μ = some μ') : hn_G Z B (mc, ms) nL pc L [] μ := by
  cases e
  intro H locs ls a b c
  unfold hn_goalN at hQ
  rw [hQ]
  exact W.vret hF.1 hF.2.1 hF.2.2.2.2.2.1 (fun t ht _ => ⟨⟨rfl, by rw [ht]; exact b⟩, c.F ht⟩) c.2.2 hd hF.2.2.2.2.2.2.1
theorem hn_blindN (B : hn_B) (as : List Value) (μ : hn_M) : FrameBlind (va_Pc as (hn_PN B μ)) := by
  intro a U g mk qq
  obtain ⟨q0, qP, qz, qK⟩ := qq
  exact ⟨q0, qP, qz, va_K.moved (u := U) (U := U.calling g mk a) (Vm.Alike.refl U.vm) qK.1, qK.2.1.same (U := U.calling g mk a) rfl, fun q hq => (qK.2.2.1 q hq).same rfl (U := U.calling g mk a) rfl, qK.2.2.2.moved (u := U) (U := U.calling g mk a) (Vm.Alike.refl U.vm)⟩
theorem hn_runN {p : Program} {l : Launch} {e : Env} {R : Room} {s : State} {m : MethodId} {args : Array Value} {below : List Frame} {meth : Method} {c : Code} {H : Heap} {locs : List Loc} {kc ks mc ms : Nat} {Q : State → Prop} {pc : Nat} {ls : Array Slot} {st0 rest : List Value} {B : hn_B} {μ' : hn_M} {a : Array Value}
    (hr : va_Run p l e R s m args below meth c H locs kc ks mc ms (F0 m pc ls st0) rest (hn_QN B μ' a) (hn_A B)) (hS : va_S (hn_A B) s.heap H locs)
    (kk : ∀ (H1 : Heap) (locs1 : List Loc), hn_P B μ' H1 → va_S (hn_A B) s.heap H1 locs1 → W p l e R s m args below meth c H1 locs1 (kc + mc) (ks + ms) Q (F0 m (pc + 3) ls rest)) : W p l e R s m args below meth c H locs kc ks Q (F0 m pc ls st0) := by
  intro T hT X
  obtain ⟨v, st₀, t, T', L, h0, X', hL, e1, e2, ⟨⟨hv, hp⟩, hz, hk⟩, st⟩ := hr T hT X
  cases hv
  rw [h0] at hz hk
  obtain ⟨t2, a1, b1⟩ := kk T'.heap (locs ++ L) (by rw [e1]; exact hp)
    ⟨Nat.le_trans hS.1 (by rw [e1]; exact hz), fun q h1 h2 => by rw [e1, hk q (Nat.lt_of_lt_of_le h1 hS.1) h2]; exact hS.2.1 q h1 h2, fun q hq => by
      rcases List.mem_append.mp hq with h | h
      · exact hS.2.2 q h
      · exact hL q h⟩ T' rfl X'
  exact ⟨t2, st t2 a1, b1⟩
theorem hn_callI {y : MethodName} {cy : ByteArray} {ny h' idx k n2 kc2 ks2 mc2 ms2 : Nat} {σ2 : Nat → hn_S} {μ2 : hn_M} (hJ : hn_J Z (hn_mk X n σ) (kc, ks) cc nL own ret h mc ms) (hb : X.2.1 ≤ (zs Z).heap.size) (hM : hn_ms y cy ny none 0) (hV : Cond.instanceMethod y ∈ hn_tb) (hi : y.name = "<init>") (hl : Cond.methodLink own idx y ∈ hn_tb ∨ (own, idx, y) ∈ hn_nest) (hh : h' + 1 ≤ h) (hcat : (st.map fun v => v.category).sum ≤ 8) (hd : decode cc pc = .ok (.invokespecial idx, 3)) (hq : pc + 3 = q) (hc1 : kc + mc2 = kc2) (hc2 : ks + ms2 = ks2) (hn2 : n + mc2 = n2) (hle : kc2 ≤ mc ∧ ks2 ≤ ms)
    (hC : hn_CN y cy ny h' (hn_mk X n σ) (hn_mk X n2 σ2) k μ μ2 mc2 ms2)
    (kk : hn_J Z (hn_mk X n2 σ2) (kc2, ks2) cc nL own ret h mc ms → hn_G Z (hn_mk X n2 σ2) (kc2, ks2) nL q L st μ2) : hn_G Z (hn_mk X n σ) (kc, ks) nL pc L (.ref (X.2.1 + k) :: st) μ := by
  subst hq; subst hc1; subst hc2; subst hn2
  have kk := kk (hJ.go (fun z => z) hle (fun z => hn_up2 z))
  have hF := hJ.1
  have W1 := hF.2.2.2.2.1
  intro H locs ls a b c T hT Xs
  have hsz : H.size = X.2.1 + n := hn_size hJ b c hT Xs hb
  have hR1 := hJ.2.1
  have hR2 := hJ.2.2.1
  have hroom : h' + 1 ≤ (zR Z).frames ∧ 8 + (ny + 11) + 35 * h' ≤ (zR Z).locals := by
    have h8 := hF.2.2.2.2.2.2.2.2.1
    have h9 := hM.2.2.2
    omega
  have hpre : PreS (zs Z) H (va_Pc [.ref (hn_base (hn_mk X n σ) + k)] (hn_PN (hn_mk X n σ) μ)) (.ref (X.2.1 + k) :: []) := ⟨hn_blindN _ _ μ, fun U hU hW => ⟨rfl, by rw [hU]; exact b, by rw [hU]; exact hsz, hF.2.2.2.2.2.2.2.1.go hW hU c⟩⟩
  revert T
  rcases hl with hl | hl
  · exact hn_runN (B := hn_mk X (n + mc2) σ2) (va_runI (As := []) (rest := st) (n := 0) ⟨hF.1, hF.2.1, hF.2.2.1, hF.2.2.2.1, W1⟩ (hC (zl Z)) ⟨callB_of 0 W1 (hn_pay hM.1) rfl rfl rfl (W1 _ hM.2.1) (W1 _ hl) hM.2.2.1 hroom, hi, W1 _ hV⟩ hpre rfl rfl a.1 rfl (lv_room hcat) hd ⟨by omega, by omega⟩) c
      (fun H1 locs1 b1 c1 => kk H1 locs1 ls a b1 c1)
  · exact hn_runN (B := hn_mk X (n + mc2) σ2) (va_runIN (As := []) (rest := st) (n := 0) ⟨hF.1, hF.2.1, hF.2.2.1, hF.2.2.2.1, W1⟩ (hC (zl Z)) ⟨va_cnB 0 W1 (hn_pay hM.1) rfl rfl rfl (hF.2.2.2.2.2.2.2.1.2.2.1 _ hl) (W1 _ hM.2.1) hM.2.2.1 hroom, hi, W1 _ hV⟩ hpre rfl rfl a.1 rfl (lv_room hcat) hd ⟨by omega, by omega⟩) c
      (fun H1 locs1 b1 c1 => kk H1 locs1 ls a b1 c1)
end hn_al
