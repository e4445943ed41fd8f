/-- the pure claim: the constructors' mirrors say something, and behind them the law's mirror says 1 on every script -/
def hn_claim : Prop := ∀ (xs : Nat → Int32) (N : Nat), N ≤ 3584 → ∃ (F : Nat) (μ1 μ2 : hn_M), fX7_init F (fun _ _ => 0) = some μ1 ∧ fX8_init F μ1 = some μ2 ∧ fL_law_18 xs N F F 0 μ2 = some 1
theorem hn_elH : ∀ j, j < 24 → Cond.eq (Term.elem (Term.static "HandNews$Items" "HIGHEST" "[I") (.int (Int32.ofNat j))) (.int (hn_high j)) ∈ flatC (Jvm.Cond.and given_1 narrow_1) := by decide +kernel
theorem hn_elW : ∀ j, j < 5 → Cond.eq (Term.elem (Term.static "HandNews$Items" "WITHOUT" "[I") (.int (Int32.ofNat j))) (.int (hn_out j)) ∈ flatC (Jvm.Cond.and given_1 narrow_1) := by decide +kernel
theorem hn_elS : ∀ j, j < 6 → Cond.eq (Term.elem (Term.field (Term.string "HandNews$Items" 57) "java/lang/String" "value" "[B") (.int (Int32.ofNat j))) (.int (([119, 118, 111, 98, 120, 110] : List Int32).getD j 0)) ∈ flatC (Jvm.Cond.and given_1 narrow_1) := by decide +kernel
theorem hn_nestIn : ∀ q ∈ hn_nest, Cond.methodLinkNest q.1 q.2.1 q.2.2 "HandNews" ∈ lw_tbl := by decide +kernel
set_option maxHeartbeats 4000000 in
set_option maxRecDepth 100000 in
theorem hn_ctx {s : State} {b : Nat} (hts : ∀ w ∈ lw_tbl, w.before #[Value.ref b] s = true) (hgv : (Jvm.Cond.and given_1 narrow_1).before #[Value.ref b] s = true) : ∃ X : hn_X, X.2.1 = s.heap.size ∧ ∀ (n : Nat) (σ : Nat → hn_S), hn_K (hn_mk X n σ) s := by
  have htb : ∀ w ∈ hn_tb, w.before #[Value.ref b] s = true := fun w h => hts w (List.mem_filter.mp h).1
  have hs := flat_of_before _ hgv
  obtain ⟨c0, i0, k0⟩ := u_known (C := RX0) (T := TX0) (N := 8) (n := 8) htb hn_l0 (htb _ hn_wN0)
  obtain ⟨c1, i1, k1⟩ := u_known (C := RX1) (T := TX1) (N := 17) (n := 17) htb hn_l1 (htb _ hn_wN1)
  obtain ⟨c2, i2, k2⟩ := u_known (C := RX2) (T := TX2) (N := 5) (n := 5) htb hn_l2 (htb _ hn_wN2)
  obtain ⟨c3, i3, k3⟩ := u_known (C := RX3) (T := TX3) (N := 4) (n := 4) htb hn_l3 (htb _ hn_wN3)
  obtain ⟨c4, i4, k4⟩ := u_known (C := RX4) (T := TX4) (N := 2) (n := 2) htb hn_l4 (htb _ hn_wN4)
  obtain ⟨c5, i5, k5⟩ := u_known (C := RX5) (T := TX5) (N := 3) (n := 3) htb hn_l5 (htb _ hn_wN5)
  obtain ⟨c6, i6, k6⟩ := u_known (C := RX6) (T := TX6) (N := 1) (n := 1) htb hn_l6 (htb _ hn_wN6)
  obtain ⟨c7, i7, k7⟩ := u_known (C := RX7) (T := TX7) (N := 13) (n := 13) htb hn_l7 (htb _ hn_wN7)
  obtain ⟨c8, i8, k8⟩ := u_known (C := RX8) (T := TX8) (N := 26) (n := 26) htb hn_l8 (htb _ hn_wN8)
  obtain ⟨dC, dI, hKc⟩ : ∃ (dC : Nat → ClassId) (dI : Nat → Nat → Nat), ∀ (k : Nat) (q : vw_C), vwCl[k]? = some q → u_Kn s q.1 q.2.1 q.2.2 (dC k) (dI k) := by
    refine ⟨fun k => match k with | 0 => c0 | 1 => c1 | 2 => c2 | 3 => c3 | 4 => c4 | 5 => c5 | 6 => c6 | 7 => c7 | _ => c8, fun k => match k with | 0 => i0 | 1 => i1 | 2 => i2 | 3 => i3 | 4 => i4 | 5 => i5 | 6 => i6 | 7 => i7 | _ => i8, ?_⟩
    intro k q hq
    match k, hq with
    | 0, hq => cases hq; exact k0
    | 1, hq => cases hq; exact k1
    | 2, hq => cases hq; exact k2
    | 3, hq => cases hq; exact k3
    | 4, hq => cases hq; exact k4
    | 5, hq => cases hq; exact k5
    | 6, hq => cases hq; exact k6
    | 7, hq => cases hq; exact k7
    | 8, hq => cases hq; exact k8
    | k + 9, hq => simp [vwCl] at hq
  obtain ⟨cI, kI, compI, f1, f2, f3⟩ := Cond.arrayClass_spec (htb _ hn_wI)
  obtain ⟨cB, kB, compB, g1, g2, g3⟩ := Cond.arrayClass_spec (htb _ hn_wB)
  have hao : va_AO RX1 s := va_AO.of (hts (Cond.arrayOver (.object RX1)) (by decide +kernel))
  obtain ⟨comp, cR, kR, r1, -, r3, r4, r5⟩ := Cond.arrayOver_spec hao
  have hA : ∀ a : Nat, a < s.heap.size → ¬ (fun q : Nat => s.heap.size ≤ q) a := fun a h => Nat.not_le.mpr h
  obtain ⟨tH, hH1, hH2⟩ := va_Tof (tm := .static "HandNews$Items" "HIGHEST" "[I") (ty := .int) (N := 24) (f := fun j => .int (hn_high j)) (A := fun q : Nat => s.heap.size ≤ q) (by decide) (hs _ (by decide +kernel)) (va_eqt (hs _ (by decide +kernel))) (fun j hj => va_eqt (hs _ (hn_elH j hj))) hA
  obtain ⟨tW, hW1, hW2⟩ := va_Tof (tm := .static "HandNews$Items" "WITHOUT" "[I") (ty := .int) (N := 5) (f := fun j => .int (hn_out j)) (A := fun q : Nat => s.heap.size ≤ q) (by decide) (hs _ (by decide +kernel)) (va_eqt (hs _ (by decide +kernel))) (fun j hj => va_eqt (hs _ (hn_elW j hj))) hA
  obtain ⟨adK, adV, hS, hSe⟩ := vk_Sof (N := 1) (tm := fun _ => .string "HandNews$Items" 57) (len := [6]) (byt := [[119, 118, 111, 98, 120, 110]]) (A := fun q : Nat => s.heap.size ≤ q)
    (fun i hi => by rw [show i = 0 by omega]; decide) (fun i hi => hs _ (by decide +kernel)) (fun i hi => hs _ (by decide +kernel)) (fun i hi => hs _ (by decide +kernel))
    (fun i hi => by rw [show i = 0 by omega]; exact hs _ (by decide +kernel)) (fun i hi j hj => by rw [show i = 0 by omega] at hj ⊢; exact hs _ (hn_elS j hj)) (fun i j hi hj hne => absurd (show i = j by omega) hne) hA
  refine ⟨((dC, dI), s.heap.size, (cI, cB, cR), (tH, tW, adK 0, adV 0)), rfl, fun n σ => ⟨⟨hKc, fun k q hk => ?_⟩, ⟨⟨?_, hH2⟩, ⟨?_, hW2⟩, ?_, ?_, ?_, ?_⟩, fun q hq => va_Nw.of rfl (hts _ (hn_nestIn q hq)), hao⟩⟩
  · match k, hk with
    | 0, hk => cases hk; exact ⟨fun N z => ⟨fun k h => (by cases h), kI, f2, compI, f3⟩, f1⟩
    | 1, hk => cases hk; exact ⟨fun N z => ⟨fun k h => (by cases h), kB, g2, compB, g3⟩, g1⟩
    | 2, hk => cases hk; exact ⟨fun N z => ⟨fun k h => (by cases h), kR, r3, comp, r4⟩, kR, comp, r3, r4, r1, r5⟩
    | k + 3, hk => simp at hk
  · exact va_Zof (hts (Cond.laysStatic "HandNews$Items" "HIGHEST" "[I") (by decide +kernel)) (htb (Cond.initialized "HandNews$Items") (hn_in (by decide +kernel) rfl)) hH1 hA
  · exact va_Zof (hts (Cond.laysStatic "HandNews$Items" "WITHOUT" "[I") (by decide +kernel)) (htb (Cond.initialized "HandNews$Items") (hn_in (by decide +kernel) rfl)) hW1 hA
  · exact vk_R.of (A := #[Value.ref b]) (hts (Cond.stringRef "HandNews$Items" 57 "wvobxn") (by decide +kernel)) (hSe 0 (by decide))
  · exact ⟨fun i hi => by rw [show i = 0 by omega]; exact hS.1 0 (by decide), fun i j hi hj _ => by omega⟩
  · exact va_Zof (hts (Cond.laysStatic "java/lang/String" "COMPACT_STRINGS" "Z") (by decide +kernel)) (htb (Cond.initialized "java/lang/String") (hn_in (by decide +kernel) rfl)) (va_eqi (hs _ (by decide +kernel))) hA
  · exact va_Zqof (hts (Cond.laysStatic "jdk/internal/util/Preconditions" "SIOOBE_FORMATTER" "Ljava/util/function/BiFunction;") (by decide +kernel)) (htb (Cond.initialized "jdk/internal/util/Preconditions") (hn_in (by decide +kernel) rfl)) (hs _ (by decide +kernel)) hA
theorem ms_X7_init : hn_ms yX7_init cX7_init 1 none 0 ∧ Cond.instanceMethod yX7_init ∈ hn_tb := ⟨⟨hn_in (by decide +kernel) rfl, hn_in (by decide +kernel) rfl, by decide +kernel, by decide⟩, hn_in (by decide +kernel) rfl⟩
theorem ms_X8_init : hn_ms yX8_init cX8_init 2 none 0 ∧ Cond.instanceMethod yX8_init ∈ hn_tb := ⟨⟨hn_in (by decide +kernel) rfl, hn_in (by decide +kernel) rfl, by decide +kernel, by decide⟩, hn_in (by decide +kernel) rfl⟩
theorem lj_L_9 : Cond.methodLink RL 9 yX7_init ∈ hn_tb ∨ (RL, 9, yX7_init) ∈ hn_nest := Or.inl (hn_in (by decide +kernel) rfl)
theorem lj_L_12 : Cond.methodLink RL 12 yX8_init ∈ hn_tb ∨ (RL, 12, yX8_init) ∈ hn_nest := Or.inl (hn_in (by decide +kernel) rfl)
theorem cl_L_7 : Cond.classLink RL 7 RX7 ∈ hn_tb := hn_in (by decide +kernel) rfl
theorem cl_L_10 : Cond.classLink RL 10 RX8 ∈ hn_tb := hn_in (by decide +kernel) rfl
set_option maxHeartbeats 4000000 in
set_option maxRecDepth 100000 in
theorem whole_start_open (hp : hn_claim) {p : Program} {e : Env} {s : State} {m : MethodId} {below : List Frame} {meth : Method} {c : Code} (l : Launch) {b L : Nat} {xs : Nat → Int32} (hL : L ≤ 3584) (C0 : lw_At p s m meth c b L xs) : W p l e room_1 s m #[Value.ref b] below meth c s.heap [] 0 0 (lw_Z below #[Value.ref b] s) (entryFrame m ([Value.ref b] : List Value).toArray 4) := by
  obtain ⟨hx, hb, hr, hml, hown, hts, hX, hbl, hlocks, hgv⟩ := id C0
  have htb : ∀ w ∈ hn_tb, w.before #[Value.ref b] s = true := fun w h => hts w (List.mem_filter.mp h).1
  obtain ⟨X, hXb, hKn⟩ := hn_ctx hts hgv
  obtain ⟨F, μ1, μ2, e1, e2, e3⟩ := hp xs L hL
  have hJ : hn_J (p, l, e, room_1, s, m, #[Value.ref b], below, meth, c, lw_Z below #[Value.ref b] s) (hn_mk X 0 hn_sh) (0, 0) cL_law 4 RL (some .boolean) 11 93 3368 := ⟨⟨hx, hb, hml, hown, htb, hr, hlocks, hKn 0 hn_sh, ⟨Nat.le_of_ble_eq_true rfl, Nat.le_of_ble_eq_true rfl⟩, Nat.zero_le _, Nat.zero_le _⟩, rfl, rfl, by show s.heap.size + 0 = X.2.1 + 0; rw [hXb]⟩
  have hXs : ∀ (n : Nat) (σ : Nat → hn_S), hn_Xs (p, l, e, room_1, s, m, #[Value.ref b], below, meth, c, lw_Z below #[Value.ref b] s) (hn_mk X n σ) b L xs := fun n σ => ⟨hX, hbl, hXb.symm⟩
  have hQ : ∀ (n : Nat) (σ : Nat → hn_S), hn_lgoal (p, l, e, room_1, s, m, #[Value.ref b], below, meth, c, lw_Z below #[Value.ref b] s) (hn_mk X n σ) b := fun n σ => ⟨rfl, rfl, rfl⟩
  have hb0 : X.2.1 ≤ (zs ((p, l, e, room_1, s, m, #[Value.ref b], below, meth, c, lw_Z below #[Value.ref b] s) : hn_Z)).heap.size := by show X.2.1 ≤ s.heap.size; omega
  have key : hn_G (p, l, e, room_1, s, m, #[Value.ref b], below, meth, c, lw_Z below #[Value.ref b] s) (hn_mk X 0 hn_sh) (0, 0) 4 0 [(0, .ref b)] [] (fun _ _ => 0) := by
    generalize hZ : ((p, l, e, room_1, s, m, #[Value.ref b], below, meth, c, lw_Z below #[Value.ref b] s) : hn_Z) = Z at hJ hXs hQ hb0 ⊢
    refine hn_new (ci := 7) (ty := tyX7) (fs := [.null, .null, .null, .null, .null, .null, .null, .null, .null, .int 0, .int 0, .int 0, .int 0]) (n' := 1) (kc' := 1) (ks' := 13) hJ hb0 rfl ⟨cl_L_7, hn_wN7, hn_wC.2.2.2.2.2.2.2.1⟩ hn_l7 tyX7_ok (by decide) dL_law_0 (q := 3) rfl rfl rfl rfl (by decide) (fun hJ => ?_)
    refine hn_dup hJ.1 dL_law_3 (q := 4) rfl rfl ?_
    refine hn_callI (n2 := 72) (kc2 := 72) (ks2 := 1677) hJ hb0 ms_X7_init.1 ms_X7_init.2 rfl lj_L_9 (by decide) (Nat.le_of_ble_eq_true rfl) dL_law_4 (q := 7) rfl rfl rfl rfl (by decide) (cI_0 rfl e1) (fun hJ => ?_)
    refine hn_astore_n hJ.1 dL_law_7 (q := 8) rfl (i := 1) rfl (by decide) (L' := [(1, .ref (X.2.1 + 0)), (0, .ref b)]) rfl ?_
    refine hn_new (ci := 8) (ty := tyX8) (fs := [.null, .null, .null, .null, .null, .null, .null, .null, .null, .null, .null, .int 0, .int 0, .int 0, .int 0, .null, .null, .null, .null, .null, .null, .null, .int 0, .null, .int 0, .null]) (n' := 73) (kc' := 73) (ks' := 1703) hJ hb0 rfl ⟨cl_L_10, hn_wN8, hn_wC.2.2.2.2.2.2.2.2⟩ hn_l8 tyX8_ok (by decide) dL_law_8 (q := 11) rfl rfl rfl rfl (by decide) (fun hJ => ?_)
    refine hn_dup hJ.1 dL_law_11 (q := 12) rfl rfl ?_
    refine hn_callI (n2 := 93) (kc2 := 93) (ks2 := 3368) hJ hb0 ms_X8_init.1 ms_X8_init.2 rfl lj_L_12 (by decide) (Nat.le_of_ble_eq_true rfl) dL_law_12 (q := 15) rfl rfl rfl rfl (by decide) (cI_72 rfl e2) (fun hJ => ?_)
    refine hn_astore_n hJ.1 dL_law_15 (q := 16) rfl (i := 2) rfl (by decide) (L' := [(2, .ref (X.2.1 + 72)), (1, .ref (X.2.1 + 0)), (0, .ref b)]) rfl ?_
    refine hn_iconst hJ.1 dL_law_16 (q := 17) rfl ki_0 ?_
    refine hn_istore_n hJ.1 dL_law_17 (q := 18) rfl (i := 3) rfl (by decide) (L' := [(3, .int 0), (2, .ref (X.2.1 + 72)), (1, .ref (X.2.1 + 0)), (0, .ref b)]) rfl ?_
    refine hn_sub [3, 2, 1, 0] (L' := [(0, .ref b), (1, .ref (X.2.1 + 0)), (2, .ref (X.2.1 + 72)), (3, .int 0)]) rfl ?_
    refine gL_law_18 hJ.1 (hQ _ _) (hXs _ _) rfl (fun k hk => ?_) F 0 μ2 e3
    have hk : k < 93 := List.mem_range.mp hk
    refine ⟨hk, ?_⟩
    show hn_mix _ 72 21 k = hn_sh k
    by_cases h1 : 72 ≤ k
    · simp only [hn_mix]; rw [if_pos ⟨h1, by omega⟩]
    · simp only [hn_mix]; rw [if_neg (by omega), hn_sy_ne (by omega)]; exact if_pos ⟨Nat.zero_le _, by omega⟩
  rw [lg_entry_eq]
  exact key s.heap [] _ (lv_entry ([.ref b]) (n := 4) (Nat.le_of_ble_eq_true rfl)) (fun k q h => by have h : ([] : va_W)[k]? = some q := h; simp at h) va_S.rf
