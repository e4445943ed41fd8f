theorem hn_wI : Cond.arrayClass .int ∈ hn_tb := hn_in (by decide +kernel) rfl
theorem hn_wB : Cond.arrayClass .byte ∈ hn_tb := hn_in (by decide +kernel) rfl
theorem hn_wO : Cond.instanceMethod Lib.objectInit ∈ hn_tb ∧ Cond.code Lib.objectInit ⟨#[0xb1]⟩ 1 none ∈ hn_tb := ⟨hn_in (by decide +kernel) rfl, hn_in (by decide +kernel) rfl⟩
/-! Arrays.fill over a row of ten -/
def fJ7_fill_53178_5 (F : Nat) (d : Nat) : Nat → Int32 → Int32 → Int32 → hn_M → Option hn_M
  | 0, _, _, _, _ => none
  | n + 1, l1, l2, l3, μ => if l3 ≤ l2 then some μ else hn_wr μ d 10 l2 l1 fun μ1 => fJ7_fill_53178_5 F d n l1 (l2 + 1) l3 μ1
def fJ7_fill_53178 (F : Nat) (d : Nat) (l1 : Int32) (μ : hn_M) : Option hn_M := fJ7_fill_53178_5 F d F l1 0 10 μ
set_option maxHeartbeats 1000000 in
theorem gJ7_fill_53178_5 {Z : hn_Z} {B : hn_B} {F : Nat} {d : Nat} {R : hn_M} (hF : hn_F Z B (0, 0) cJ7_fill_53178 4 RJ7 none 0) (hQ : hn_goal Z B (none, R)) (h_d : hn_isA B d false 10) : ∀ (n : Nat) (l1 : Int32) (l2 : Int32) (l3 : Int32) (μ : hn_M), fJ7_fill_53178_5 F d n l1 l2 l3 μ = some R → hn_G Z B (0, 0) 4 5 [(0, .ref (hn_base B + d)), (1, .int l1), (2, .int l2), (3, .int l3)] [] μ := by
  intro n
  induction n with
  | zero => intro l1 l2 l3 μ e; rw [fJ7_fill_53178_5] at e; cases e
  | succ n ih =>
    intro l1 l2 l3 μ e
    rw [fJ7_fill_53178_5] at e
    refine hn_iload_n hF dJ7_fill_53178_5 (q := 6) rfl 2 rfl ?_
    refine hn_iload_n hF dJ7_fill_53178_6 (q := 7) rfl 3 rfl ?_
    refine hn_icmp_ge hF dJ7_fill_53178_7 (t := 20) (q := 10) rfl rfl e (fun e => ?_) (fun e => ?_)
    · exact hn_vretM hF hQ dJ7_fill_53178_20 e
    · refine hn_aload_n hF dJ7_fill_53178_10 (q := 11) rfl 0 rfl ?_
      refine hn_iload_n hF dJ7_fill_53178_11 (q := 12) rfl 2 rfl ?_
      refine hn_iload_n hF dJ7_fill_53178_12 (q := 13) rfl 1 rfl ?_
      refine hn_ast hF h_d dJ7_fill_53178_13 (q := 14) rfl e (fun μ1 e => ?_)
      refine hn_iinc (p := 2) hF dJ7_fill_53178_14 (q := 17) rfl rfl (kn_1 _) (by decide) (L' := [(2, .int (l2 + 1)), (0, .ref (hn_base B + d)), (1, .int l1), (3, .int l3)]) rfl ?_
      refine hn_goto hF dJ7_fill_53178_17 (q := 5) rfl ?_
      refine hn_sub [1, 2, 0, 3] (L' := [(0, .ref (hn_base B + d)), (1, .int l1), (2, .int (l2 + 1)), (3, .int l3)]) rfl ?_
      exact ih l1 (l2 + 1) l3 μ1 e
set_option maxHeartbeats 1000000 in
theorem gJ7_fill_53178 {Z : hn_Z} {B : hn_B} {F : Nat} {d : Nat} {R : hn_M} (hF : hn_F Z B (0, 0) cJ7_fill_53178 4 RJ7 none 0) (hQ : hn_goal Z B (none, R)) (h_d : hn_isA B d false 10) {l1 : Int32} {μ : hn_M} (e : fJ7_fill_53178 F d l1 μ = some R) : hn_G Z B (0, 0) 4 0 [(0, .ref (hn_base B + d)), (1, .int l1)] [] μ := by
  unfold fJ7_fill_53178 at e
  refine hn_iconst hF dJ7_fill_53178_0 (q := 1) rfl ki_0 ?_
  refine hn_istore_n hF dJ7_fill_53178_1 (q := 2) rfl (i := 2) rfl (by decide) (L' := [(2, .int 0), (0, .ref (hn_base B + d)), (1, .int l1)]) rfl ?_
  refine hn_aload_n hF dJ7_fill_53178_2 (q := 3) rfl 1 rfl ?_
  refine hn_alen (v := 10) hF h_d (by decide) dJ7_fill_53178_3 (q := 4) rfl ?_
  refine hn_istore_n hF dJ7_fill_53178_4 (q := 5) rfl (i := 3) rfl (by decide) (L' := [(3, .int 10), (2, .int 0), (0, .ref (hn_base B + d)), (1, .int l1)]) rfl ?_
  refine hn_sub [2, 3, 1, 0] (L' := [(0, .ref (hn_base B + d)), (1, .int l1), (2, .int 0), (3, .int 10)]) rfl ?_
  exact gJ7_fill_53178_5 hF hQ h_d F l1 0 10 μ e
theorem cJ7_fill_53178_ {B : hn_B} {F : Nat} {d : Nat} {μ : hn_M} {R : hn_M} {l1 : Int32} (h_d : hn_isA B d false 10) (e : fJ7_fill_53178 F d l1 μ = some R) : hn_C yJ7_fill_53178 cJ7_fill_53178 4 none 0 B [.ref (hn_base B + d), .int l1] μ (none, R) :=
  hn_C.of RJ7 (by decide) rfl (Nat.le_of_ble_eq_true rfl) (fun _ hF hQ => gJ7_fill_53178 hF hQ h_d e)
theorem ms_J7_fill_53178 : hn_ms yJ7_fill_53178 cJ7_fill_53178 4 none 2 := ⟨hn_in (by decide +kernel) rfl, hn_in (by decide +kernel) rfl, by decide +kernel, by decide⟩
theorem mt_J7_fill_53178 : Cond.static yJ7_fill_53178 ∈ hn_tb := hn_in (by decide +kernel) rfl
theorem lo_X3 : Cond.methodLink RX3 3 Lib.objectInit ∈ hn_tb := hn_in (by decide +kernel) rfl
set_option maxHeartbeats 4000000 in
set_option maxRecDepth 100000 in
theorem cI_46 {X : hn_X} {σ : Nat → hn_S} {μ : hn_M} (hσ : σ 46 = hn_raw 3 [.null, .null, .null, .int 0]) : hn_CN yX3_init cX3_init 1 1 (hn_mk X 47 σ) (hn_mk X 50 (hn_mix σ 46 4)) 46 μ (hn_zs μ 46 4) 3 36 := by
  refine hn_CN.of RX3 (by decide) rfl rfl (by decide) rfl (fun Z hJ hnm hb hQ => ?_)
  refine hn_aload_n hJ.1 dX3_init_0 (q := 1) rfl 0 rfl ?_
  refine hn_objI hJ.1 lo_X3 hn_wO (by decide) (Nat.le_of_ble_eq_true rfl) dX3_init_1 (q := 4) rfl ?_
  refine hn_aload_n hJ.1 dX3_init_4 (q := 5) rfl 0 rfl ?_
  refine hn_bipush hJ.1 dX3_init_5 (q := 7) rfl kb_12 ?_
  refine hn_newaI (N := 12) (n' := 48) (kc' := 1) (ks' := 12) hJ hb hn_wI dX3_init_7 (q := 9) rfl (by decide) rfl rfl rfl (by decide) (fun hJ => ?_)
  refine hn_putr (k := 46) (ty := .array .int) (fs' := [.ref (X.2.1 + 47), .null, .null, .int 0]) (ty0 := tyX3) hJ hnm fl_X3_9 rfl tyX3_ok nmX3 rfl (by decide +kernel) (by decide) hσ rfl (Nat.le_of_ble_eq_true rfl) rfl rfl dX3_init_9 (q := 12) rfl (fun hJ => ?_)
  refine hn_aload_n hJ.1 dX3_init_12 (q := 13) rfl 0 rfl ?_
  refine hn_bipush hJ.1 dX3_init_13 (q := 15) rfl kb_12 ?_
  refine hn_newaI (N := 12) (n' := 49) (kc' := 2) (ks' := 24) hJ hb hn_wI dX3_init_15 (q := 17) rfl (by decide) rfl rfl rfl (by decide) (fun hJ => ?_)
  refine hn_putr (k := 46) (ty := .array .int) (fs' := [.ref (X.2.1 + 47), .ref (X.2.1 + 48), .null, .int 0]) (ty0 := tyX3) hJ hnm fl_X3_15 rfl tyX3_ok nmX3 rfl (by decide +kernel) (by decide) rfl rfl (Nat.le_of_ble_eq_true rfl) rfl rfl dX3_init_17 (q := 20) rfl (fun hJ => ?_)
  refine hn_aload_n hJ.1 dX3_init_20 (q := 21) rfl 0 rfl ?_
  refine hn_bipush hJ.1 dX3_init_21 (q := 23) rfl kb_12 ?_
  refine hn_newaI (N := 12) (n' := 50) (kc' := 3) (ks' := 36) hJ hb hn_wI dX3_init_23 (q := 25) rfl (by decide) rfl rfl rfl (by decide) (fun hJ => ?_)
  refine hn_putr (k := 46) (ty := .array .int) (fs' := [.ref (X.2.1 + 47), .ref (X.2.1 + 48), .ref (X.2.1 + 49), .int 0]) (ty0 := tyX3) hJ hnm fl_X3_18 rfl tyX3_ok nmX3 rfl (by decide +kernel) (by decide) rfl rfl (Nat.le_of_ble_eq_true rfl) rfl rfl dX3_init_25 (q := 28) rfl (fun hJ => ?_)
  refine hn_aload_n hJ.1 dX3_init_28 (q := 29) rfl 0 rfl ?_
  refine hn_iconst hJ.1 dX3_init_29 (q := 30) rfl ki_0 ?_
  refine hn_putr (k := 46) (ty := .boolean) (fs' := [.ref (X.2.1 + 47), .ref (X.2.1 + 48), .ref (X.2.1 + 49), .int 0]) (ty0 := tyX3) hJ hnm fl_X3_21 rfl tyX3_ok nmX3 rfl (by decide +kernel) (by decide) rfl rfl (Nat.le_of_ble_eq_true rfl) rfl rfl dX3_init_30 (q := 33) rfl (fun hJ => ?_)
  refine hn_norm (σ' := hn_mix σ 46 4) (μ' := hn_zs μ 46 4) 46 (fun j hj => ⟨?_, ?_⟩) (fun j h1 h2 => ?_) hJ (fun hJ => ?_)
  · rw [hn_mix, if_neg (by omega)]; simp only [hn_sy]; repeat rw [if_neg (by omega)]
  · simp only [hn_zs, hn_zr, hn_up]; repeat rw [if_neg (by omega)]
  · obtain rfl | rfl | rfl | rfl : j = 46 ∨ j = 47 ∨ j = 48 ∨ j = 49 := by omega
    all_goals rfl
  exact hn_vretN hJ.1 hQ dX3_init_33 rfl
theorem lo_X5 : Cond.methodLink RX5 3 Lib.objectInit ∈ hn_tb := hn_in (by decide +kernel) rfl
set_option maxHeartbeats 4000000 in
set_option maxRecDepth 100000 in
theorem cI_50 {X : hn_X} {σ : Nat → hn_S} {μ : hn_M} (hσ : σ 50 = hn_raw 5 [.null, .null, .null]) : hn_CN yX5_init cX5_init 1 1 (hn_mk X 51 σ) (hn_mk X 54 (hn_mix σ 50 4)) 50 μ (hn_zs μ 50 4) 3 90 := by
  refine hn_CN.of RX5 (by decide) rfl rfl (by decide) rfl (fun Z hJ hnm hb hQ => ?_)
  refine hn_aload_n hJ.1 dX5_init_0 (q := 1) rfl 0 rfl ?_
  refine hn_objI hJ.1 lo_X5 hn_wO (by decide) (Nat.le_of_ble_eq_true rfl) dX5_init_1 (q := 4) rfl ?_
  refine hn_aload_n hJ.1 dX5_init_4 (q := 5) rfl 0 rfl ?_
  refine hn_bipush hJ.1 dX5_init_5 (q := 7) rfl kb_30 ?_
  refine hn_newaI (N := 30) (n' := 52) (kc' := 1) (ks' := 30) hJ hb hn_wI dX5_init_7 (q := 9) rfl (by decide) rfl rfl rfl (by decide) (fun hJ => ?_)
  refine hn_putr (k := 50) (ty := .array .int) (fs' := [.ref (X.2.1 + 51), .null, .null]) (ty0 := tyX5) hJ hnm fl_X5_9 rfl tyX5_ok nmX5 rfl (by decide +kernel) (by decide) hσ rfl (Nat.le_of_ble_eq_true rfl) rfl rfl dX5_init_9 (q := 12) rfl (fun hJ => ?_)
  refine hn_aload_n hJ.1 dX5_init_12 (q := 13) rfl 0 rfl ?_
  refine hn_bipush hJ.1 dX5_init_13 (q := 15) rfl kb_30 ?_
  refine hn_newaI (N := 30) (n' := 53) (kc' := 2) (ks' := 60) hJ hb hn_wI dX5_init_15 (q := 17) rfl (by decide) rfl rfl rfl (by decide) (fun hJ => ?_)
  refine hn_putr (k := 50) (ty := .array .int) (fs' := [.ref (X.2.1 + 51), .ref (X.2.1 + 52), .null]) (ty0 := tyX5) hJ hnm fl_X5_15 rfl tyX5_ok nmX5 rfl (by decide +kernel) (by decide) rfl rfl (Nat.le_of_ble_eq_true rfl) rfl rfl dX5_init_17 (q := 20) rfl (fun hJ => ?_)
  refine hn_aload_n hJ.1 dX5_init_20 (q := 21) rfl 0 rfl ?_
  refine hn_bipush hJ.1 dX5_init_21 (q := 23) rfl kb_30 ?_
  refine hn_newaI (N := 30) (n' := 54) (kc' := 3) (ks' := 90) hJ hb hn_wI dX5_init_23 (q := 25) rfl (by decide) rfl rfl rfl (by decide) (fun hJ => ?_)
  refine hn_putr (k := 50) (ty := .array .int) (fs' := [.ref (X.2.1 + 51), .ref (X.2.1 + 52), .ref (X.2.1 + 53)]) (ty0 := tyX5) hJ hnm fl_X5_18 rfl tyX5_ok nmX5 rfl (by decide +kernel) (by decide) rfl rfl (Nat.le_of_ble_eq_true rfl) rfl rfl dX5_init_25 (q := 28) rfl (fun hJ => ?_)
  refine hn_norm (σ' := hn_mix σ 50 4) (μ' := hn_zs μ 50 4) 50 (fun j hj => ⟨?_, ?_⟩) (fun j h1 h2 => ?_) hJ (fun hJ => ?_)
  · rw [hn_mix, if_neg (by omega)]; simp only [hn_sy]; repeat rw [if_neg (by omega)]
  · simp only [hn_zs, hn_zr, hn_up]; repeat rw [if_neg (by omega)]
  · obtain rfl | rfl | rfl | rfl : j = 50 ∨ j = 51 ∨ j = 52 ∨ j = 53 := by omega
    all_goals rfl
  exact hn_vretN hJ.1 hQ dX5_init_28 rfl
theorem lo_X4 : Cond.methodLink RX4 3 Lib.objectInit ∈ hn_tb := hn_in (by decide +kernel) rfl
set_option maxHeartbeats 4000000 in
set_option maxRecDepth 100000 in
theorem cI_54 {X : hn_X} {σ : Nat → hn_S} {μ : hn_M} (hσ : σ 54 = hn_raw 4 [.null, .int 0]) : hn_CN yX4_init cX4_init 1 1 (hn_mk X 55 σ) (hn_mk X 56 (hn_mix σ 54 2)) 54 μ (hn_zs μ 54 2) 1 200 := by
  refine hn_CN.of RX4 (by decide) rfl rfl (by decide) rfl (fun Z hJ hnm hb hQ => ?_)
  refine hn_aload_n hJ.1 dX4_init_0 (q := 1) rfl 0 rfl ?_
  refine hn_objI hJ.1 lo_X4 hn_wO (by decide) (Nat.le_of_ble_eq_true rfl) dX4_init_1 (q := 4) rfl ?_
  refine hn_aload_n hJ.1 dX4_init_4 (q := 5) rfl 0 rfl ?_
  refine hn_sipush hJ.1 dX4_init_5 (q := 8) rfl ks_200 ?_
  refine hn_newaB (N := 200) (n' := 56) (kc' := 1) (ks' := 200) hJ hb hn_wB dX4_init_8 (q := 10) rfl (by decide) rfl rfl rfl (by decide) (fun hJ => ?_)
  refine hn_putr (k := 54) (ty := .array .byte) (fs' := [.ref (X.2.1 + 55), .int 0]) (ty0 := tyX4) hJ hnm fl_X4_9 rfl tyX4_ok nmX4 rfl (by decide +kernel) (by decide) hσ rfl (Nat.le_of_ble_eq_true rfl) rfl rfl dX4_init_10 (q := 13) rfl (fun hJ => ?_)
  refine hn_aload_n hJ.1 dX4_init_13 (q := 14) rfl 0 rfl ?_
  refine hn_iconst hJ.1 dX4_init_14 (q := 15) rfl ki_0 ?_
  refine hn_putr (k := 54) (ty := .int) (fs' := [.ref (X.2.1 + 55), .int 0]) (ty0 := tyX4) hJ hnm fl_X4_15 rfl tyX4_ok nmX4 rfl (by decide +kernel) (by decide) rfl rfl (Nat.le_of_ble_eq_true rfl) rfl rfl dX4_init_15 (q := 18) rfl (fun hJ => ?_)
  refine hn_norm (σ' := hn_mix σ 54 2) (μ' := hn_zs μ 54 2) 54 (fun j hj => ⟨?_, ?_⟩) (fun j h1 h2 => ?_) hJ (fun hJ => ?_)
  · rw [hn_mix, if_neg (by omega)]; simp only [hn_sy]; repeat rw [if_neg (by omega)]
  · simp only [hn_zs, hn_zr, hn_up]; repeat rw [if_neg (by omega)]
  · obtain rfl | rfl : j = 54 ∨ j = 55 := by omega
    all_goals rfl
  exact hn_vretN hJ.1 hQ dX4_init_18 rfl
theorem lo_X6 : Cond.methodLink RX6 3 Lib.objectInit ∈ hn_tb := hn_in (by decide +kernel) rfl
theorem kb_24 : (Int8.ofInt (24)).toInt32 = 24 := by decide
set_option maxHeartbeats 4000000 in
set_option maxRecDepth 100000 in
theorem cI_56 {X : hn_X} {σ : Nat → hn_S} {μ : hn_M} (hσ : σ 56 = hn_raw 6 [.null]) : hn_CN yX6_init cX6_init 1 1 (hn_mk X 57 σ) (hn_mk X 58 (hn_mix σ 56 2)) 56 μ (hn_zs μ 56 2) 1 24 := by
  refine hn_CN.of RX6 (by decide) rfl rfl (by decide) rfl (fun Z hJ hnm hb hQ => ?_)
  refine hn_aload_n hJ.1 dX6_init_0 (q := 1) rfl 0 rfl ?_
  refine hn_objI hJ.1 lo_X6 hn_wO (by decide) (Nat.le_of_ble_eq_true rfl) dX6_init_1 (q := 4) rfl ?_
  refine hn_aload_n hJ.1 dX6_init_4 (q := 5) rfl 0 rfl ?_
  refine hn_bipush hJ.1 dX6_init_5 (q := 7) rfl kb_24 ?_
  refine hn_newaI (N := 24) (n' := 58) (kc' := 1) (ks' := 24) hJ hb hn_wI dX6_init_7 (q := 9) rfl (by decide) rfl rfl rfl (by decide) (fun hJ => ?_)
  refine hn_putr (k := 56) (ty := .array .int) (fs' := [.ref (X.2.1 + 57)]) (ty0 := tyX6) hJ hnm fl_X6_9 rfl tyX6_ok nmX6 rfl (by decide +kernel) (by decide) hσ rfl (Nat.le_of_ble_eq_true rfl) rfl rfl dX6_init_9 (q := 12) rfl (fun hJ => ?_)
  refine hn_norm (σ' := hn_mix σ 56 2) (μ' := hn_zs μ 56 2) 56 (fun j hj => ⟨?_, ?_⟩) (fun j h1 h2 => ?_) hJ (fun hJ => ?_)
  · rw [hn_mix, if_neg (by omega)]; simp only [hn_sy]; repeat rw [if_neg (by omega)]
  · simp only [hn_zs, hn_zr, hn_up]; repeat rw [if_neg (by omega)]
  · obtain rfl | rfl : j = 56 ∨ j = 57 := by omega
    all_goals rfl
  exact hn_vretN hJ.1 hQ dX6_init_12 rfl
theorem lo_X0 : Cond.methodLink RX0 3 Lib.objectInit ∈ hn_tb := hn_in (by decide +kernel) rfl
set_option maxHeartbeats 4000000 in
set_option maxRecDepth 100000 in
theorem cI_58 {X : hn_X} {σ : Nat → hn_S} {μ : hn_M} (hσ : σ 58 = hn_raw 0 [.null, .null, .null, .null, .null, .null, .int 0, .int 0]) : hn_CN yX0_init cX0_init 1 1 (hn_mk X 59 σ) (hn_mk X 65 (hn_mix σ 58 7)) 58 μ (hn_zs μ 58 7) 6 204 := by
  refine hn_CN.of RX0 (by decide) rfl rfl (by decide) rfl (fun Z hJ hnm hb hQ => ?_)
  refine hn_aload_n hJ.1 dX0_init_0 (q := 1) rfl 0 rfl ?_
  refine hn_objI hJ.1 lo_X0 hn_wO (by decide) (Nat.le_of_ble_eq_true rfl) dX0_init_1 (q := 4) rfl ?_
  refine hn_aload_n hJ.1 dX0_init_4 (q := 5) rfl 0 rfl ?_
  refine hn_bipush hJ.1 dX0_init_5 (q := 7) rfl kb_40 ?_
  refine hn_newaI (N := 40) (n' := 60) (kc' := 1) (ks' := 40) hJ hb hn_wI dX0_init_7 (q := 9) rfl (by decide) rfl rfl rfl (by decide) (fun hJ => ?_)
  refine hn_putr (k := 58) (ty := .array .int) (fs' := [.ref (X.2.1 + 59), .null, .null, .null, .null, .null, .int 0, .int 0]) (ty0 := tyX0) hJ hnm fl_X0_11 rfl tyX0_ok nmX0 rfl (by decide +kernel) (by decide) hσ rfl (Nat.le_of_ble_eq_true rfl) rfl rfl dX0_init_9 (q := 12) rfl (fun hJ => ?_)
  refine hn_aload_n hJ.1 dX0_init_12 (q := 13) rfl 0 rfl ?_
  refine hn_bipush hJ.1 dX0_init_13 (q := 15) rfl kb_40 ?_
  refine hn_newaI (N := 40) (n' := 61) (kc' := 2) (ks' := 80) hJ hb hn_wI dX0_init_15 (q := 17) rfl (by decide) rfl rfl rfl (by decide) (fun hJ => ?_)
  refine hn_putr (k := 58) (ty := .array .int) (fs' := [.ref (X.2.1 + 59), .ref (X.2.1 + 60), .null, .null, .null, .null, .int 0, .int 0]) (ty0 := tyX0) hJ hnm fl_X0_15 rfl tyX0_ok nmX0 rfl (by decide +kernel) (by decide) rfl rfl (Nat.le_of_ble_eq_true rfl) rfl rfl dX0_init_17 (q := 20) rfl (fun hJ => ?_)
  refine hn_aload_n hJ.1 dX0_init_20 (q := 21) rfl 0 rfl ?_
  refine hn_bipush hJ.1 dX0_init_21 (q := 23) rfl kb_40 ?_
  refine hn_newaI (N := 40) (n' := 62) (kc' := 3) (ks' := 120) hJ hb hn_wI dX0_init_23 (q := 25) rfl (by decide) rfl rfl rfl (by decide) (fun hJ => ?_)
  refine hn_putr (k := 58) (ty := .array .int) (fs' := [.ref (X.2.1 + 59), .ref (X.2.1 + 60), .ref (X.2.1 + 61), .null, .null, .null, .int 0, .int 0]) (ty0 := tyX0) hJ hnm fl_X0_18 rfl tyX0_ok nmX0 rfl (by decide +kernel) (by decide) rfl rfl (Nat.le_of_ble_eq_true rfl) rfl rfl dX0_init_25 (q := 28) rfl (fun hJ => ?_)
  refine hn_aload_n hJ.1 dX0_init_28 (q := 29) rfl 0 rfl ?_
  refine hn_bipush hJ.1 dX0_init_29 (q := 31) rfl kb_40 ?_
  refine hn_newaI (N := 40) (n' := 63) (kc' := 4) (ks' := 160) hJ hb hn_wI dX0_init_31 (q := 33) rfl (by decide) rfl rfl rfl (by decide) (fun hJ => ?_)
  refine hn_putr (k := 58) (ty := .array .int) (fs' := [.ref (X.2.1 + 59), .ref (X.2.1 + 60), .ref (X.2.1 + 61), .ref (X.2.1 + 62), .null, .null, .int 0, .int 0]) (ty0 := tyX0) hJ hnm fl_X0_21 rfl tyX0_ok nmX0 rfl (by decide +kernel) (by decide) rfl rfl (Nat.le_of_ble_eq_true rfl) rfl rfl dX0_init_33 (q := 36) rfl (fun hJ => ?_)
  refine hn_aload_n hJ.1 dX0_init_36 (q := 37) rfl 0 rfl ?_
  refine hn_bipush hJ.1 dX0_init_37 (q := 39) rfl kb_40 ?_
  refine hn_newaI (N := 40) (n' := 64) (kc' := 5) (ks' := 200) hJ hb hn_wI dX0_init_39 (q := 41) rfl (by decide) rfl rfl rfl (by decide) (fun hJ => ?_)
  refine hn_putr (k := 58) (ty := .array .int) (fs' := [.ref (X.2.1 + 59), .ref (X.2.1 + 60), .ref (X.2.1 + 61), .ref (X.2.1 + 62), .ref (X.2.1 + 63), .null, .int 0, .int 0]) (ty0 := tyX0) hJ hnm fl_X0_24 rfl tyX0_ok nmX0 rfl (by decide +kernel) (by decide) rfl rfl (Nat.le_of_ble_eq_true rfl) rfl rfl dX0_init_41 (q := 44) rfl (fun hJ => ?_)
  refine hn_aload_n hJ.1 dX0_init_44 (q := 45) rfl 0 rfl ?_
  refine hn_iconst hJ.1 dX0_init_45 (q := 46) rfl ki_4 ?_
  refine hn_newaI (N := 4) (n' := 65) (kc' := 6) (ks' := 204) hJ hb hn_wI dX0_init_46 (q := 48) rfl (by decide) rfl rfl rfl (by decide) (fun hJ => ?_)
  refine hn_putr (k := 58) (ty := .array .int) (fs' := [.ref (X.2.1 + 59), .ref (X.2.1 + 60), .ref (X.2.1 + 61), .ref (X.2.1 + 62), .ref (X.2.1 + 63), .ref (X.2.1 + 64), .int 0, .int 0]) (ty0 := tyX0) hJ hnm fl_X0_27 rfl tyX0_ok nmX0 rfl (by decide +kernel) (by decide) rfl rfl (Nat.le_of_ble_eq_true rfl) rfl rfl dX0_init_48 (q := 51) rfl (fun hJ => ?_)
  refine hn_aload_n hJ.1 dX0_init_51 (q := 52) rfl 0 rfl ?_
  refine hn_iconst hJ.1 dX0_init_52 (q := 53) rfl ki_0 ?_
  refine hn_putr (k := 58) (ty := .int) (fs' := [.ref (X.2.1 + 59), .ref (X.2.1 + 60), .ref (X.2.1 + 61), .ref (X.2.1 + 62), .ref (X.2.1 + 63), .ref (X.2.1 + 64), .int 0, .int 0]) (ty0 := tyX0) hJ hnm fl_X0_30 rfl tyX0_ok nmX0 rfl (by decide +kernel) (by decide) rfl rfl (Nat.le_of_ble_eq_true rfl) rfl rfl dX0_init_53 (q := 56) rfl (fun hJ => ?_)
  refine hn_aload_n hJ.1 dX0_init_56 (q := 57) rfl 0 rfl ?_
  refine hn_iconst hJ.1 dX0_init_57 (q := 58) rfl ki_0 ?_
  refine hn_putr (k := 58) (ty := .int) (fs' := [.ref (X.2.1 + 59), .ref (X.2.1 + 60), .ref (X.2.1 + 61), .ref (X.2.1 + 62), .ref (X.2.1 + 63), .ref (X.2.1 + 64), .int 0, .int 0]) (ty0 := tyX0) hJ hnm fl_X0_34 rfl tyX0_ok nmX0 rfl (by decide +kernel) (by decide) rfl rfl (Nat.le_of_ble_eq_true rfl) rfl rfl dX0_init_58 (q := 61) rfl (fun hJ => ?_)
  refine hn_norm (σ' := hn_mix σ 58 7) (μ' := hn_zs μ 58 7) 58 (fun j hj => ⟨?_, ?_⟩) (fun j h1 h2 => ?_) hJ (fun hJ => ?_)
  · rw [hn_mix, if_neg (by omega)]; simp only [hn_sy]; repeat rw [if_neg (by omega)]
  · simp only [hn_zs, hn_zr, hn_up]; repeat rw [if_neg (by omega)]
  · obtain rfl | rfl | rfl | rfl | rfl | rfl | rfl : j = 58 ∨ j = 59 ∨ j = 60 ∨ j = 61 ∨ j = 62 ∨ j = 63 ∨ j = 64 := by omega
    all_goals rfl
  exact hn_vretN hJ.1 hQ dX0_init_61 rfl
set_option maxHeartbeats 4000000 in
set_option maxRecDepth 100000 in
theorem cI_65 {X : hn_X} {σ : Nat → hn_S} {μ : hn_M} (hσ : σ 65 = hn_raw 0 [.null, .null, .null, .null, .null, .null, .int 0, .int 0]) : hn_CN yX0_init cX0_init 1 1 (hn_mk X 66 σ) (hn_mk X 72 (hn_mix σ 65 7)) 65 μ (hn_zs μ 65 7) 6 204 := by
  refine hn_CN.of RX0 (by decide) rfl rfl (by decide) rfl (fun Z hJ hnm hb hQ => ?_)
  refine hn_aload_n hJ.1 dX0_init_0 (q := 1) rfl 0 rfl ?_
  refine hn_objI hJ.1 lo_X0 hn_wO (by decide) (Nat.le_of_ble_eq_true rfl) dX0_init_1 (q := 4) rfl ?_
  refine hn_aload_n hJ.1 dX0_init_4 (q := 5) rfl 0 rfl ?_
  refine hn_bipush hJ.1 dX0_init_5 (q := 7) rfl kb_40 ?_
  refine hn_newaI (N := 40) (n' := 67) (kc' := 1) (ks' := 40) hJ hb hn_wI dX0_init_7 (q := 9) rfl (by decide) rfl rfl rfl (by decide) (fun hJ => ?_)
  refine hn_putr (k := 65) (ty := .array .int) (fs' := [.ref (X.2.1 + 66), .null, .null, .null, .null, .null, .int 0, .int 0]) (ty0 := tyX0) hJ hnm fl_X0_11 rfl tyX0_ok nmX0 rfl (by decide +kernel) (by decide) hσ rfl (Nat.le_of_ble_eq_true rfl) rfl rfl dX0_init_9 (q := 12) rfl (fun hJ => ?_)
  refine hn_aload_n hJ.1 dX0_init_12 (q := 13) rfl 0 rfl ?_
  refine hn_bipush hJ.1 dX0_init_13 (q := 15) rfl kb_40 ?_
  refine hn_newaI (N := 40) (n' := 68) (kc' := 2) (ks' := 80) hJ hb hn_wI dX0_init_15 (q := 17) rfl (by decide) rfl rfl rfl (by decide) (fun hJ => ?_)
  refine hn_putr (k := 65) (ty := .array .int) (fs' := [.ref (X.2.1 + 66), .ref (X.2.1 + 67), .null, .null, .null, .null, .int 0, .int 0]) (ty0 := tyX0) hJ hnm fl_X0_15 rfl tyX0_ok nmX0 rfl (by decide +kernel) (by decide) rfl rfl (Nat.le_of_ble_eq_true rfl) rfl rfl dX0_init_17 (q := 20) rfl (fun hJ => ?_)
  refine hn_aload_n hJ.1 dX0_init_20 (q := 21) rfl 0 rfl ?_
  refine hn_bipush hJ.1 dX0_init_21 (q := 23) rfl kb_40 ?_
  refine hn_newaI (N := 40) (n' := 69) (kc' := 3) (ks' := 120) hJ hb hn_wI dX0_init_23 (q := 25) rfl (by decide) rfl rfl rfl (by decide) (fun hJ => ?_)
  refine hn_putr (k := 65) (ty := .array .int) (fs' := [.ref (X.2.1 + 66), .ref (X.2.1 + 67), .ref (X.2.1 + 68), .null, .null, .null, .int 0, .int 0]) (ty0 := tyX0) hJ hnm fl_X0_18 rfl tyX0_ok nmX0 rfl (by decide +kernel) (by decide) rfl rfl (Nat.le_of_ble_eq_true rfl) rfl rfl dX0_init_25 (q := 28) rfl (fun hJ => ?_)
  refine hn_aload_n hJ.1 dX0_init_28 (q := 29) rfl 0 rfl ?_
  refine hn_bipush hJ.1 dX0_init_29 (q := 31) rfl kb_40 ?_
  refine hn_newaI (N := 40) (n' := 70) (kc' := 4) (ks' := 160) hJ hb hn_wI dX0_init_31 (q := 33) rfl (by decide) rfl rfl rfl (by decide) (fun hJ => ?_)
  refine hn_putr (k := 65) (ty := .array .int) (fs' := [.ref (X.2.1 + 66), .ref (X.2.1 + 67), .ref (X.2.1 + 68), .ref (X.2.1 + 69), .null, .null, .int 0, .int 0]) (ty0 := tyX0) hJ hnm fl_X0_21 rfl tyX0_ok nmX0 rfl (by decide +kernel) (by decide) rfl rfl (Nat.le_of_ble_eq_true rfl) rfl rfl dX0_init_33 (q := 36) rfl (fun hJ => ?_)
  refine hn_aload_n hJ.1 dX0_init_36 (q := 37) rfl 0 rfl ?_
  refine hn_bipush hJ.1 dX0_init_37 (q := 39) rfl kb_40 ?_
  refine hn_newaI (N := 40) (n' := 71) (kc' := 5) (ks' := 200) hJ hb hn_wI dX0_init_39 (q := 41) rfl (by decide) rfl rfl rfl (by decide) (fun hJ => ?_)
  refine hn_putr (k := 65) (ty := .array .int) (fs' := [.ref (X.2.1 + 66), .ref (X.2.1 + 67), .ref (X.2.1 + 68), .ref (X.2.1 + 69), .ref (X.2.1 + 70), .null, .int 0, .int 0]) (ty0 := tyX0) hJ hnm fl_X0_24 rfl tyX0_ok nmX0 rfl (by decide +kernel) (by decide) rfl rfl (Nat.le_of_ble_eq_true rfl) rfl rfl dX0_init_41 (q := 44) rfl (fun hJ => ?_)
  refine hn_aload_n hJ.1 dX0_init_44 (q := 45) rfl 0 rfl ?_
  refine hn_iconst hJ.1 dX0_init_45 (q := 46) rfl ki_4 ?_
  refine hn_newaI (N := 4) (n' := 72) (kc' := 6) (ks' := 204) hJ hb hn_wI dX0_init_46 (q := 48) rfl (by decide) rfl rfl rfl (by decide) (fun hJ => ?_)
  refine hn_putr (k := 65) (ty := .array .int) (fs' := [.ref (X.2.1 + 66), .ref (X.2.1 + 67), .ref (X.2.1 + 68), .ref (X.2.1 + 69), .ref (X.2.1 + 70), .ref (X.2.1 + 71), .int 0, .int 0]) (ty0 := tyX0) hJ hnm fl_X0_27 rfl tyX0_ok nmX0 rfl (by decide +kernel) (by decide) rfl rfl (Nat.le_of_ble_eq_true rfl) rfl rfl dX0_init_48 (q := 51) rfl (fun hJ => ?_)
  refine hn_aload_n hJ.1 dX0_init_51 (q := 52) rfl 0 rfl ?_
  refine hn_iconst hJ.1 dX0_init_52 (q := 53) rfl ki_0 ?_
  refine hn_putr (k := 65) (ty := .int) (fs' := [.ref (X.2.1 + 66), .ref (X.2.1 + 67), .ref (X.2.1 + 68), .ref (X.2.1 + 69), .ref (X.2.1 + 70), .ref (X.2.1 + 71), .int 0, .int 0]) (ty0 := tyX0) hJ hnm fl_X0_30 rfl tyX0_ok nmX0 rfl (by decide +kernel) (by decide) rfl rfl (Nat.le_of_ble_eq_true rfl) rfl rfl dX0_init_53 (q := 56) rfl (fun hJ => ?_)
  refine hn_aload_n hJ.1 dX0_init_56 (q := 57) rfl 0 rfl ?_
  refine hn_iconst hJ.1 dX0_init_57 (q := 58) rfl ki_0 ?_
  refine hn_putr (k := 65) (ty := .int) (fs' := [.ref (X.2.1 + 66), .ref (X.2.1 + 67), .ref (X.2.1 + 68), .ref (X.2.1 + 69), .ref (X.2.1 + 70), .ref (X.2.1 + 71), .int 0, .int 0]) (ty0 := tyX0) hJ hnm fl_X0_34 rfl tyX0_ok nmX0 rfl (by decide +kernel) (by decide) rfl rfl (Nat.le_of_ble_eq_true rfl) rfl rfl dX0_init_58 (q := 61) rfl (fun hJ => ?_)
  refine hn_norm (σ' := hn_mix σ 65 7) (μ' := hn_zs μ 65 7) 65 (fun j hj => ⟨?_, ?_⟩) (fun j h1 h2 => ?_) hJ (fun hJ => ?_)
  · rw [hn_mix, if_neg (by omega)]; simp only [hn_sy]; repeat rw [if_neg (by omega)]
  · simp only [hn_zs, hn_zr, hn_up]; repeat rw [if_neg (by omega)]
  · obtain rfl | rfl | rfl | rfl | rfl | rfl | rfl : j = 65 ∨ j = 66 ∨ j = 67 ∨ j = 68 ∨ j = 69 ∨ j = 70 ∨ j = 71 := by omega
    all_goals rfl
  exact hn_vretN hJ.1 hQ dX0_init_61 rfl
theorem lo_X2 : Cond.methodLink RX2 3 Lib.objectInit ∈ hn_tb := hn_in (by decide +kernel) rfl
set_option maxHeartbeats 4000000 in
set_option maxRecDepth 100000 in
theorem cI_1 {X : hn_X} {σ : Nat → hn_S} {μ μR : hn_M} {F : Nat} (hσ : σ 1 = hn_raw 2 [.null, .null, .null, .null, .int 0]) (e : fX2_reckon F (hn_zs μ 1 5) = some μR) : hn_CN yX2_init cX2_init 1 2 (hn_mk X 2 σ) (hn_mk X 6 (hn_mix σ 1 5)) 1 μ μR 4 144 := by
  refine hn_CN.of RX2 (by decide) rfl rfl (by decide) rfl (fun Z hJ hnm hb hQ => ?_)
  refine hn_aload_n hJ.1 dX2_init_0 (q := 1) rfl 0 rfl ?_
  refine hn_objI hJ.1 lo_X2 hn_wO (by decide) (Nat.le_of_ble_eq_true rfl) dX2_init_1 (q := 4) rfl ?_
  refine hn_aload_n hJ.1 dX2_init_4 (q := 5) rfl 0 rfl ?_
  refine hn_bipush hJ.1 dX2_init_5 (q := 7) rfl kb_36 ?_
  refine hn_newaI (N := 36) (n' := 3) (kc' := 1) (ks' := 36) hJ hb hn_wI dX2_init_7 (q := 9) rfl (by decide) rfl rfl rfl (by decide) (fun hJ => ?_)
  refine hn_putr (k := 1) (ty := .array .int) (fs' := [.ref (X.2.1 + 2), .null, .null, .null, .int 0]) (ty0 := tyX2) hJ hnm fl_X2_9 rfl tyX2_ok nmX2 rfl (by decide +kernel) (by decide) hσ rfl (Nat.le_of_ble_eq_true rfl) rfl rfl dX2_init_9 (q := 12) rfl (fun hJ => ?_)
  refine hn_aload_n hJ.1 dX2_init_12 (q := 13) rfl 0 rfl ?_
  refine hn_bipush hJ.1 dX2_init_13 (q := 15) rfl kb_36 ?_
  refine hn_newaI (N := 36) (n' := 4) (kc' := 2) (ks' := 72) hJ hb hn_wI dX2_init_15 (q := 17) rfl (by decide) rfl rfl rfl (by decide) (fun hJ => ?_)
  refine hn_putr (k := 1) (ty := .array .int) (fs' := [.ref (X.2.1 + 2), .ref (X.2.1 + 3), .null, .null, .int 0]) (ty0 := tyX2) hJ hnm fl_X2_15 rfl tyX2_ok nmX2 rfl (by decide +kernel) (by decide) rfl rfl (Nat.le_of_ble_eq_true rfl) rfl rfl dX2_init_17 (q := 20) rfl (fun hJ => ?_)
  refine hn_aload_n hJ.1 dX2_init_20 (q := 21) rfl 0 rfl ?_
  refine hn_bipush hJ.1 dX2_init_21 (q := 23) rfl kb_36 ?_
  refine hn_newaI (N := 36) (n' := 5) (kc' := 3) (ks' := 108) hJ hb hn_wI dX2_init_23 (q := 25) rfl (by decide) rfl rfl rfl (by decide) (fun hJ => ?_)
  refine hn_putr (k := 1) (ty := .array .int) (fs' := [.ref (X.2.1 + 2), .ref (X.2.1 + 3), .ref (X.2.1 + 4), .null, .int 0]) (ty0 := tyX2) hJ hnm fl_X2_18 rfl tyX2_ok nmX2 rfl (by decide +kernel) (by decide) rfl rfl (Nat.le_of_ble_eq_true rfl) rfl rfl dX2_init_25 (q := 28) rfl (fun hJ => ?_)
  refine hn_aload_n hJ.1 dX2_init_28 (q := 29) rfl 0 rfl ?_
  refine hn_bipush hJ.1 dX2_init_29 (q := 31) rfl kb_36 ?_
  refine hn_newaI (N := 36) (n' := 6) (kc' := 4) (ks' := 144) hJ hb hn_wI dX2_init_31 (q := 33) rfl (by decide) rfl rfl rfl (by decide) (fun hJ => ?_)
  refine hn_putr (k := 1) (ty := .array .int) (fs' := [.ref (X.2.1 + 2), .ref (X.2.1 + 3), .ref (X.2.1 + 4), .ref (X.2.1 + 5), .int 0]) (ty0 := tyX2) hJ hnm fl_X2_21 rfl tyX2_ok nmX2 rfl (by decide +kernel) (by decide) rfl rfl (Nat.le_of_ble_eq_true rfl) rfl rfl dX2_init_33 (q := 36) rfl (fun hJ => ?_)
  refine hn_aload_n hJ.1 dX2_init_36 (q := 37) rfl 0 rfl ?_
  refine hn_iconst hJ.1 dX2_init_37 (q := 38) rfl ki_0 ?_
  refine hn_putr (k := 1) (ty := .int) (fs' := [.ref (X.2.1 + 2), .ref (X.2.1 + 3), .ref (X.2.1 + 4), .ref (X.2.1 + 5), .int 0]) (ty0 := tyX2) hJ hnm fl_X2_24 rfl tyX2_ok nmX2 rfl (by decide +kernel) (by decide) rfl rfl (Nat.le_of_ble_eq_true rfl) rfl rfl dX2_init_38 (q := 41) rfl (fun hJ => ?_)
  refine hn_norm (σ' := hn_mix σ 1 5) (μ' := hn_zs μ 1 5) 1 (fun j hj => ⟨?_, ?_⟩) (fun j h1 h2 => ?_) hJ (fun hJ => ?_)
  · rw [hn_mix, if_neg (by omega)]; simp only [hn_sy]; repeat rw [if_neg (by omega)]
  · simp only [hn_zs, hn_zr, hn_up]; repeat rw [if_neg (by omega)]
  · obtain rfl | rfl | rfl | rfl | rfl : j = 1 ∨ j = 2 ∨ j = 3 ∨ j = 4 ∨ j = 5 := by omega
    all_goals rfl
  have hV : hn_V (hn_mk X 6 (hn_mix σ 1 5)) hn_nP := by
    intro k hk
    obtain rfl | rfl | rfl | rfl | rfl : k = 1 ∨ k = 2 ∨ k = 3 ∨ k = 4 ∨ k = 5 := by simpa [hn_nP] using hk
    all_goals exact ⟨Nat.le_of_ble_eq_true rfl, rfl⟩
  have o1 : hn_isO (hn_mk X 6 (hn_mix σ 1 5)) 1 2 hn_k1 := hV 1 (by decide)
  refine hn_aload_n hJ.1 dX2_init_41 (q := 42) rfl 0 rfl ?_
  refine hn_callV (as := []) (rest := []) hJ.1 ms_X2_reckon mv_X2_reckon lk_X2_28 o1 rfl (by decide) rfl (Nat.le_of_ble_eq_true rfl) dX2_init_42 (q := 45) rfl (cX2_reckon_ hV e) rfl ?_
  exact hn_vretN hJ.1 hQ dX2_init_45 rfl
theorem lk_X1_64 : Cond.methodLink RX1 64 yJ7_fill_53178 ∈ hn_tb := hn_in (by decide +kernel) rfl
def fX1_init (F k : Nat) (μ : hn_M) : Option hn_M := (fJ7_fill_53178 F (k + 11) (-1) (hn_zs μ k 13)).bind fun μ1 => fJ7_fill_53178 F (k + 12) (-1) μ1
theorem lo_X1 : Cond.methodLink RX1 3 Lib.objectInit ∈ hn_tb := hn_in (by decide +kernel) rfl
set_option maxHeartbeats 4000000 in
set_option maxRecDepth 100000 in
theorem cI_6 {X : hn_X} {σ : Nat → hn_S} {μ μR : hn_M} {F : Nat} (hσ : σ 6 = hn_raw 1 [.int 0, .null, .null, .null, .int 0, .null, .null, .int 0, .null, .null, .null, .null, .int 0, .int 0, .null, .null, .null]) (e : fX1_init F 6 μ = some μR) : hn_CN yX1_init cX1_init 1 1 (hn_mk X 7 σ) (hn_mk X 19 (hn_mix σ 6 13)) 6 μ μR 12 226 := by
  obtain ⟨μ1, e1, e2⟩ := Option.bind_eq_some_iff.mp e
  refine hn_CN.of RX1 (by decide) rfl rfl (by decide) rfl (fun Z hJ hnm hb hQ => ?_)
  refine hn_aload_n hJ.1 dX1_init_0 (q := 1) rfl 0 rfl ?_
  refine hn_objI hJ.1 lo_X1 hn_wO (by decide) (Nat.le_of_ble_eq_true rfl) dX1_init_1 (q := 4) rfl ?_
  refine hn_aload_n hJ.1 dX1_init_4 (q := 5) rfl 0 rfl ?_
  refine hn_iconst hJ.1 dX1_init_5 (q := 6) rfl ki_0 ?_
  refine hn_putr (k := 6) (ty := .int) (fs' := [.int 0, .null, .null, .null, .int 0, .null, .null, .int 0, .null, .null, .null, .null, .int 0, .int 0, .null, .null, .null]) (ty0 := tyX1) hJ hnm fl_X1_9 rfl tyX1_ok nmX1 rfl (by decide +kernel) (by decide) hσ rfl (Nat.le_of_ble_eq_true rfl) rfl rfl dX1_init_6 (q := 9) rfl (fun hJ => ?_)
  refine hn_aload_n hJ.1 dX1_init_9 (q := 10) rfl 0 rfl ?_
  refine hn_bipush hJ.1 dX1_init_10 (q := 12) rfl kb_12 ?_
  refine hn_newaI (N := 12) (n' := 8) (kc' := 1) (ks' := 12) hJ hb hn_wI dX1_init_12 (q := 14) rfl (by decide) rfl rfl rfl (by decide) (fun hJ => ?_)
  refine hn_putr (k := 6) (ty := .array .int) (fs' := [.int 0, .ref (X.2.1 + 7), .null, .null, .int 0, .null, .null, .int 0, .null, .null, .null, .null, .int 0, .int 0, .null, .null, .null]) (ty0 := tyX1) hJ hnm fl_X1_15 rfl tyX1_ok nmX1 rfl (by decide +kernel) (by decide) rfl rfl (Nat.le_of_ble_eq_true rfl) rfl rfl dX1_init_14 (q := 17) rfl (fun hJ => ?_)
  refine hn_aload_n hJ.1 dX1_init_17 (q := 18) rfl 0 rfl ?_
  refine hn_bipush hJ.1 dX1_init_18 (q := 20) rfl kb_12 ?_
  refine hn_newaI (N := 12) (n' := 9) (kc' := 2) (ks' := 24) hJ hb hn_wI dX1_init_20 (q := 22) rfl (by decide) rfl rfl rfl (by decide) (fun hJ => ?_)
  refine hn_putr (k := 6) (ty := .array .int) (fs' := [.int 0, .ref (X.2.1 + 7), .ref (X.2.1 + 8), .null, .int 0, .null, .null, .int 0, .null, .null, .null, .null, .int 0, .int 0, .null, .null, .null]) (ty0 := tyX1) hJ hnm fl_X1_19 rfl tyX1_ok nmX1 rfl (by decide +kernel) (by decide) rfl rfl (Nat.le_of_ble_eq_true rfl) rfl rfl dX1_init_22 (q := 25) rfl (fun hJ => ?_)
  refine hn_aload_n hJ.1 dX1_init_25 (q := 26) rfl 0 rfl ?_
  refine hn_bipush hJ.1 dX1_init_26 (q := 28) rfl kb_12 ?_
  refine hn_newaI (N := 12) (n' := 10) (kc' := 3) (ks' := 36) hJ hb hn_wI dX1_init_28 (q := 30) rfl (by decide) rfl rfl rfl (by decide) (fun hJ => ?_)
  refine hn_putr (k := 6) (ty := .array .int) (fs' := [.int 0, .ref (X.2.1 + 7), .ref (X.2.1 + 8), .ref (X.2.1 + 9), .int 0, .null, .null, .int 0, .null, .null, .null, .null, .int 0, .int 0, .null, .null, .null]) (ty0 := tyX1) hJ hnm fl_X1_22 rfl tyX1_ok nmX1 rfl (by decide +kernel) (by decide) rfl rfl (Nat.le_of_ble_eq_true rfl) rfl rfl dX1_init_30 (q := 33) rfl (fun hJ => ?_)
  refine hn_aload_n hJ.1 dX1_init_33 (q := 34) rfl 0 rfl ?_
  refine hn_iconst hJ.1 dX1_init_34 (q := 35) rfl ki_0 ?_
  refine hn_putr (k := 6) (ty := .int) (fs' := [.int 0, .ref (X.2.1 + 7), .ref (X.2.1 + 8), .ref (X.2.1 + 9), .int 0, .null, .null, .int 0, .null, .null, .null, .null, .int 0, .int 0, .null, .null, .null]) (ty0 := tyX1) hJ hnm fl_X1_25 rfl tyX1_ok nmX1 rfl (by decide +kernel) (by decide) rfl rfl (Nat.le_of_ble_eq_true rfl) rfl rfl dX1_init_35 (q := 38) rfl (fun hJ => ?_)
  refine hn_aload_n hJ.1 dX1_init_38 (q := 39) rfl 0 rfl ?_
  refine hn_bipush hJ.1 dX1_init_39 (q := 41) rfl kb_20 ?_
  refine hn_newaI (N := 20) (n' := 11) (kc' := 4) (ks' := 56) hJ hb hn_wI dX1_init_41 (q := 43) rfl (by decide) rfl rfl rfl (by decide) (fun hJ => ?_)
  refine hn_putr (k := 6) (ty := .array .int) (fs' := [.int 0, .ref (X.2.1 + 7), .ref (X.2.1 + 8), .ref (X.2.1 + 9), .int 0, .ref (X.2.1 + 10), .null, .int 0, .null, .null, .null, .null, .int 0, .int 0, .null, .null, .null]) (ty0 := tyX1) hJ hnm fl_X1_28 rfl tyX1_ok nmX1 rfl (by decide +kernel) (by decide) rfl rfl (Nat.le_of_ble_eq_true rfl) rfl rfl dX1_init_43 (q := 46) rfl (fun hJ => ?_)
  refine hn_aload_n hJ.1 dX1_init_46 (q := 47) rfl 0 rfl ?_
  refine hn_bipush hJ.1 dX1_init_47 (q := 49) rfl kb_20 ?_
  refine hn_newaI (N := 20) (n' := 12) (kc' := 5) (ks' := 76) hJ hb hn_wI dX1_init_49 (q := 51) rfl (by decide) rfl rfl rfl (by decide) (fun hJ => ?_)
  refine hn_putr (k := 6) (ty := .array .int) (fs' := [.int 0, .ref (X.2.1 + 7), .ref (X.2.1 + 8), .ref (X.2.1 + 9), .int 0, .ref (X.2.1 + 10), .ref (X.2.1 + 11), .int 0, .null, .null, .null, .null, .int 0, .int 0, .null, .null, .null]) (ty0 := tyX1) hJ hnm fl_X1_31 rfl tyX1_ok nmX1 rfl (by decide +kernel) (by decide) rfl rfl (Nat.le_of_ble_eq_true rfl) rfl rfl dX1_init_51 (q := 54) rfl (fun hJ => ?_)
  refine hn_aload_n hJ.1 dX1_init_54 (q := 55) rfl 0 rfl ?_
  refine hn_iconst hJ.1 dX1_init_55 (q := 56) rfl ki_0 ?_
  refine hn_putr (k := 6) (ty := .int) (fs' := [.int 0, .ref (X.2.1 + 7), .ref (X.2.1 + 8), .ref (X.2.1 + 9), .int 0, .ref (X.2.1 + 10), .ref (X.2.1 + 11), .int 0, .null, .null, .null, .null, .int 0, .int 0, .null, .null, .null]) (ty0 := tyX1) hJ hnm fl_X1_34 rfl tyX1_ok nmX1 rfl (by decide +kernel) (by decide) rfl rfl (Nat.le_of_ble_eq_true rfl) rfl rfl dX1_init_56 (q := 59) rfl (fun hJ => ?_)
  refine hn_aload_n hJ.1 dX1_init_59 (q := 60) rfl 0 rfl ?_
  refine hn_bipush hJ.1 dX1_init_60 (q := 62) rfl kb_30 ?_
  refine hn_newaI (N := 30) (n' := 13) (kc' := 6) (ks' := 106) hJ hb hn_wI dX1_init_62 (q := 64) rfl (by decide) rfl rfl rfl (by decide) (fun hJ => ?_)
  refine hn_putr (k := 6) (ty := .array .int) (fs' := [.int 0, .ref (X.2.1 + 7), .ref (X.2.1 + 8), .ref (X.2.1 + 9), .int 0, .ref (X.2.1 + 10), .ref (X.2.1 + 11), .int 0, .ref (X.2.1 + 12), .null, .null, .null, .int 0, .int 0, .null, .null, .null]) (ty0 := tyX1) hJ hnm fl_X1_37 rfl tyX1_ok nmX1 rfl (by decide +kernel) (by decide) rfl rfl (Nat.le_of_ble_eq_true rfl) rfl rfl dX1_init_64 (q := 67) rfl (fun hJ => ?_)
  refine hn_aload_n hJ.1 dX1_init_67 (q := 68) rfl 0 rfl ?_
  refine hn_bipush hJ.1 dX1_init_68 (q := 70) rfl kb_30 ?_
  refine hn_newaI (N := 30) (n' := 14) (kc' := 7) (ks' := 136) hJ hb hn_wI dX1_init_70 (q := 72) rfl (by decide) rfl rfl rfl (by decide) (fun hJ => ?_)
  refine hn_putr (k := 6) (ty := .array .int) (fs' := [.int 0, .ref (X.2.1 + 7), .ref (X.2.1 + 8), .ref (X.2.1 + 9), .int 0, .ref (X.2.1 + 10), .ref (X.2.1 + 11), .int 0, .ref (X.2.1 + 12), .ref (X.2.1 + 13), .null, .null, .int 0, .int 0, .null, .null, .null]) (ty0 := tyX1) hJ hnm fl_X1_40 rfl tyX1_ok nmX1 rfl (by decide +kernel) (by decide) rfl rfl (Nat.le_of_ble_eq_true rfl) rfl rfl dX1_init_72 (q := 75) rfl (fun hJ => ?_)
  refine hn_aload_n hJ.1 dX1_init_75 (q := 76) rfl 0 rfl ?_
  refine hn_bipush hJ.1 dX1_init_76 (q := 78) rfl kb_30 ?_
  refine hn_newaI (N := 30) (n' := 15) (kc' := 8) (ks' := 166) hJ hb hn_wI dX1_init_78 (q := 80) rfl (by decide) rfl rfl rfl (by decide) (fun hJ => ?_)
  refine hn_putr (k := 6) (ty := .array .int) (fs' := [.int 0, .ref (X.2.1 + 7), .ref (X.2.1 + 8), .ref (X.2.1 + 9), .int 0, .ref (X.2.1 + 10), .ref (X.2.1 + 11), .int 0, .ref (X.2.1 + 12), .ref (X.2.1 + 13), .ref (X.2.1 + 14), .null, .int 0, .int 0, .null, .null, .null]) (ty0 := tyX1) hJ hnm fl_X1_43 rfl tyX1_ok nmX1 rfl (by decide +kernel) (by decide) rfl rfl (Nat.le_of_ble_eq_true rfl) rfl rfl dX1_init_80 (q := 83) rfl (fun hJ => ?_)
  refine hn_aload_n hJ.1 dX1_init_83 (q := 84) rfl 0 rfl ?_
  refine hn_bipush hJ.1 dX1_init_84 (q := 86) rfl kb_30 ?_
  refine hn_newaI (N := 30) (n' := 16) (kc' := 9) (ks' := 196) hJ hb hn_wI dX1_init_86 (q := 88) rfl (by decide) rfl rfl rfl (by decide) (fun hJ => ?_)
  refine hn_putr (k := 6) (ty := .array .int) (fs' := [.int 0, .ref (X.2.1 + 7), .ref (X.2.1 + 8), .ref (X.2.1 + 9), .int 0, .ref (X.2.1 + 10), .ref (X.2.1 + 11), .int 0, .ref (X.2.1 + 12), .ref (X.2.1 + 13), .ref (X.2.1 + 14), .ref (X.2.1 + 15), .int 0, .int 0, .null, .null, .null]) (ty0 := tyX1) hJ hnm fl_X1_46 rfl tyX1_ok nmX1 rfl (by decide +kernel) (by decide) rfl rfl (Nat.le_of_ble_eq_true rfl) rfl rfl dX1_init_88 (q := 91) rfl (fun hJ => ?_)
  refine hn_aload_n hJ.1 dX1_init_91 (q := 92) rfl 0 rfl ?_
  refine hn_iconst hJ.1 dX1_init_92 (q := 93) rfl ki_0 ?_
  refine hn_putr (k := 6) (ty := .int) (fs' := [.int 0, .ref (X.2.1 + 7), .ref (X.2.1 + 8), .ref (X.2.1 + 9), .int 0, .ref (X.2.1 + 10), .ref (X.2.1 + 11), .int 0, .ref (X.2.1 + 12), .ref (X.2.1 + 13), .ref (X.2.1 + 14), .ref (X.2.1 + 15), .int 0, .int 0, .null, .null, .null]) (ty0 := tyX1) hJ hnm fl_X1_49 rfl tyX1_ok nmX1 rfl (by decide +kernel) (by decide) rfl rfl (Nat.le_of_ble_eq_true rfl) rfl rfl dX1_init_93 (q := 96) rfl (fun hJ => ?_)
  refine hn_aload_n hJ.1 dX1_init_96 (q := 97) rfl 0 rfl ?_
  refine hn_iconst hJ.1 dX1_init_97 (q := 98) rfl ki_0 ?_
  refine hn_putr (k := 6) (ty := .int) (fs' := [.int 0, .ref (X.2.1 + 7), .ref (X.2.1 + 8), .ref (X.2.1 + 9), .int 0, .ref (X.2.1 + 10), .ref (X.2.1 + 11), .int 0, .ref (X.2.1 + 12), .ref (X.2.1 + 13), .ref (X.2.1 + 14), .ref (X.2.1 + 15), .int 0, .int 0, .null, .null, .null]) (ty0 := tyX1) hJ hnm fl_X1_52 rfl tyX1_ok nmX1 rfl (by decide +kernel) (by decide) rfl rfl (Nat.le_of_ble_eq_true rfl) rfl rfl dX1_init_98 (q := 101) rfl (fun hJ => ?_)
  refine hn_aload_n hJ.1 dX1_init_101 (q := 102) rfl 0 rfl ?_
  refine hn_bipush hJ.1 dX1_init_102 (q := 104) rfl kb_10 ?_
  refine hn_newaI (N := 10) (n' := 17) (kc' := 10) (ks' := 206) hJ hb hn_wI dX1_init_104 (q := 106) rfl (by decide) rfl rfl rfl (by decide) (fun hJ => ?_)
  refine hn_putr (k := 6) (ty := .array .int) (fs' := [.int 0, .ref (X.2.1 + 7), .ref (X.2.1 + 8), .ref (X.2.1 + 9), .int 0, .ref (X.2.1 + 10), .ref (X.2.1 + 11), .int 0, .ref (X.2.1 + 12), .ref (X.2.1 + 13), .ref (X.2.1 + 14), .ref (X.2.1 + 15), .int 0, .int 0, .ref (X.2.1 + 16), .null, .null]) (ty0 := tyX1) hJ hnm fl_X1_55 rfl tyX1_ok nmX1 rfl (by decide +kernel) (by decide) rfl rfl (Nat.le_of_ble_eq_true rfl) rfl rfl dX1_init_106 (q := 109) rfl (fun hJ => ?_)
  refine hn_aload_n hJ.1 dX1_init_109 (q := 110) rfl 0 rfl ?_
  refine hn_bipush hJ.1 dX1_init_110 (q := 112) rfl kb_10 ?_
  refine hn_newaI (N := 10) (n' := 18) (kc' := 11) (ks' := 216) hJ hb hn_wI dX1_init_112 (q := 114) rfl (by decide) rfl rfl rfl (by decide) (fun hJ => ?_)
  refine hn_putr (k := 6) (ty := .array .int) (fs' := [.int 0, .ref (X.2.1 + 7), .ref (X.2.1 + 8), .ref (X.2.1 + 9), .int 0, .ref (X.2.1 + 10), .ref (X.2.1 + 11), .int 0, .ref (X.2.1 + 12), .ref (X.2.1 + 13), .ref (X.2.1 + 14), .ref (X.2.1 + 15), .int 0, .int 0, .ref (X.2.1 + 16), .ref (X.2.1 + 17), .null]) (ty0 := tyX1) hJ hnm fl_X1_58 rfl tyX1_ok nmX1 rfl (by decide +kernel) (by decide) rfl rfl (Nat.le_of_ble_eq_true rfl) rfl rfl dX1_init_114 (q := 117) rfl (fun hJ => ?_)
  refine hn_aload_n hJ.1 dX1_init_117 (q := 118) rfl 0 rfl ?_
  refine hn_bipush hJ.1 dX1_init_118 (q := 120) rfl kb_10 ?_
  refine hn_newaI (N := 10) (n' := 19) (kc' := 12) (ks' := 226) hJ hb hn_wI dX1_init_120 (q := 122) rfl (by decide) rfl rfl rfl (by decide) (fun hJ => ?_)
  refine hn_putr (k := 6) (ty := .array .int) (fs' := [.int 0, .ref (X.2.1 + 7), .ref (X.2.1 + 8), .ref (X.2.1 + 9), .int 0, .ref (X.2.1 + 10), .ref (X.2.1 + 11), .int 0, .ref (X.2.1 + 12), .ref (X.2.1 + 13), .ref (X.2.1 + 14), .ref (X.2.1 + 15), .int 0, .int 0, .ref (X.2.1 + 16), .ref (X.2.1 + 17), .ref (X.2.1 + 18)]) (ty0 := tyX1) hJ hnm fl_X1_61 rfl tyX1_ok nmX1 rfl (by decide +kernel) (by decide) rfl rfl (Nat.le_of_ble_eq_true rfl) rfl rfl dX1_init_122 (q := 125) rfl (fun hJ => ?_)
  refine hn_norm (σ' := hn_mix σ 6 13) (μ' := hn_zs μ 6 13) 6 (fun j hj => ⟨?_, ?_⟩) (fun j h1 h2 => ?_) hJ (fun hJ => ?_)
  · rw [hn_mix, if_neg (by omega)]; simp only [hn_sy]; repeat rw [if_neg (by omega)]
  · simp only [hn_zs, hn_zr, hn_up]; repeat rw [if_neg (by omega)]
  · obtain rfl | rfl | rfl | rfl | rfl | rfl | rfl | rfl | rfl | rfl | rfl | rfl | rfl : j = 6 ∨ j = 7 ∨ j = 8 ∨ j = 9 ∨ j = 10 ∨ j = 11 ∨ j = 12 ∨ j = 13 ∨ j = 14 ∨ j = 15 ∨ j = 16 ∨ j = 17 ∨ j = 18 := by omega
    all_goals rfl
  have o6 : hn_isO (hn_mk X 19 (hn_mix σ 6 13)) 6 1 hn_k6 := ⟨Nat.le_of_ble_eq_true rfl, rfl⟩
  have a17 : hn_isA (hn_mk X 19 (hn_mix σ 6 13)) 17 false 10 := ⟨Nat.le_of_ble_eq_true rfl, rfl⟩
  refine hn_aload_n hJ.1 dX1_init_125 (q := 126) rfl 0 rfl ?_
  refine hn_get hJ.1 fl_X1_58 o6 rfl rfl dX1_init_126 (q := 129) rfl ?_
  refine hn_iconst hJ.1 dX1_init_129 (q := 130) rfl ki_m1 ?_
  refine hn_callS (as := [.ref (X.2.1 + 17), .int (-1)]) (rest := []) hJ.1 ms_J7_fill_53178 mt_J7_fill_53178 lk_X1_64 (by decide) rfl (Nat.le_of_ble_eq_true rfl) dX1_init_130 (q := 133) rfl (cJ7_fill_53178_ a17 e1) rfl ?_
  show hn_G Z (hn_mk X 19 (hn_mix σ 6 13)) (12, 226) 1 133 _ [] μ1
  have a18 : hn_isA (hn_mk X 19 (hn_mix σ 6 13)) 18 false 10 := ⟨Nat.le_of_ble_eq_true rfl, rfl⟩
  refine hn_aload_n hJ.1 dX1_init_133 (q := 134) rfl 0 rfl ?_
  refine hn_get hJ.1 fl_X1_61 o6 rfl rfl dX1_init_134 (q := 137) rfl ?_
  refine hn_iconst hJ.1 dX1_init_137 (q := 138) rfl ki_m1 ?_
  refine hn_callS (as := [.ref (X.2.1 + 18), .int (-1)]) (rest := []) hJ.1 ms_J7_fill_53178 mt_J7_fill_53178 lk_X1_64 (by decide) rfl (Nat.le_of_ble_eq_true rfl) dX1_init_138 (q := 141) rfl (cJ7_fill_53178_ a18 e2) rfl ?_
  show hn_G Z (hn_mk X 19 (hn_mix σ 6 13)) (12, 226) 1 141 _ [] μR
  exact hn_vretN hJ.1 hQ dX1_init_141 rfl
set_option maxHeartbeats 4000000 in
set_option maxRecDepth 100000 in
theorem cI_20 {X : hn_X} {σ : Nat → hn_S} {μ μR : hn_M} {F : Nat} (hσ : σ 20 = hn_raw 1 [.int 0, .null, .null, .null, .int 0, .null, .null, .int 0, .null, .null, .null, .null, .int 0, .int 0, .null, .null, .null]) (e : fX1_init F 20 μ = some μR) : hn_CN yX1_init cX1_init 1 1 (hn_mk X 21 σ) (hn_mk X 33 (hn_mix σ 20 13)) 20 μ μR 12 226 := by
  obtain ⟨μ1, e1, e2⟩ := Option.bind_eq_some_iff.mp e
  refine hn_CN.of RX1 (by decide) rfl rfl (by decide) rfl (fun Z hJ hnm hb hQ => ?_)
  refine hn_aload_n hJ.1 dX1_init_0 (q := 1) rfl 0 rfl ?_
  refine hn_objI hJ.1 lo_X1 hn_wO (by decide) (Nat.le_of_ble_eq_true rfl) dX1_init_1 (q := 4) rfl ?_
  refine hn_aload_n hJ.1 dX1_init_4 (q := 5) rfl 0 rfl ?_
  refine hn_iconst hJ.1 dX1_init_5 (q := 6) rfl ki_0 ?_
  refine hn_putr (k := 20) (ty := .int) (fs' := [.int 0, .null, .null, .null, .int 0, .null, .null, .int 0, .null, .null, .null, .null, .int 0, .int 0, .null, .null, .null]) (ty0 := tyX1) hJ hnm fl_X1_9 rfl tyX1_ok nmX1 rfl (by decide +kernel) (by decide) hσ rfl (Nat.le_of_ble_eq_true rfl) rfl rfl dX1_init_6 (q := 9) rfl (fun hJ => ?_)
  refine hn_aload_n hJ.1 dX1_init_9 (q := 10) rfl 0 rfl ?_
  refine hn_bipush hJ.1 dX1_init_10 (q := 12) rfl kb_12 ?_
  refine hn_newaI (N := 12) (n' := 22) (kc' := 1) (ks' := 12) hJ hb hn_wI dX1_init_12 (q := 14) rfl (by decide) rfl rfl rfl (by decide) (fun hJ => ?_)
  refine hn_putr (k := 20) (ty := .array .int) (fs' := [.int 0, .ref (X.2.1 + 21), .null, .null, .int 0, .null, .null, .int 0, .null, .null, .null, .null, .int 0, .int 0, .null, .null, .null]) (ty0 := tyX1) hJ hnm fl_X1_15 rfl tyX1_ok nmX1 rfl (by decide +kernel) (by decide) rfl rfl (Nat.le_of_ble_eq_true rfl) rfl rfl dX1_init_14 (q := 17) rfl (fun hJ => ?_)
  refine hn_aload_n hJ.1 dX1_init_17 (q := 18) rfl 0 rfl ?_
  refine hn_bipush hJ.1 dX1_init_18 (q := 20) rfl kb_12 ?_
  refine hn_newaI (N := 12) (n' := 23) (kc' := 2) (ks' := 24) hJ hb hn_wI dX1_init_20 (q := 22) rfl (by decide) rfl rfl rfl (by decide) (fun hJ => ?_)
  refine hn_putr (k := 20) (ty := .array .int) (fs' := [.int 0, .ref (X.2.1 + 21), .ref (X.2.1 + 22), .null, .int 0, .null, .null, .int 0, .null, .null, .null, .null, .int 0, .int 0, .null, .null, .null]) (ty0 := tyX1) hJ hnm fl_X1_19 rfl tyX1_ok nmX1 rfl (by decide +kernel) (by decide) rfl rfl (Nat.le_of_ble_eq_true rfl) rfl rfl dX1_init_22 (q := 25) rfl (fun hJ => ?_)
  refine hn_aload_n hJ.1 dX1_init_25 (q := 26) rfl 0 rfl ?_
  refine hn_bipush hJ.1 dX1_init_26 (q := 28) rfl kb_12 ?_
  refine hn_newaI (N := 12) (n' := 24) (kc' := 3) (ks' := 36) hJ hb hn_wI dX1_init_28 (q := 30) rfl (by decide) rfl rfl rfl (by decide) (fun hJ => ?_)
  refine hn_putr (k := 20) (ty := .array .int) (fs' := [.int 0, .ref (X.2.1 + 21), .ref (X.2.1 + 22), .ref (X.2.1 + 23), .int 0, .null, .null, .int 0, .null, .null, .null, .null, .int 0, .int 0, .null, .null, .null]) (ty0 := tyX1) hJ hnm fl_X1_22 rfl tyX1_ok nmX1 rfl (by decide +kernel) (by decide) rfl rfl (Nat.le_of_ble_eq_true rfl) rfl rfl dX1_init_30 (q := 33) rfl (fun hJ => ?_)
  refine hn_aload_n hJ.1 dX1_init_33 (q := 34) rfl 0 rfl ?_
  refine hn_iconst hJ.1 dX1_init_34 (q := 35) rfl ki_0 ?_
  refine hn_putr (k := 20) (ty := .int) (fs' := [.int 0, .ref (X.2.1 + 21), .ref (X.2.1 + 22), .ref (X.2.1 + 23), .int 0, .null, .null, .int 0, .null, .null, .null, .null, .int 0, .int 0, .null, .null, .null]) (ty0 := tyX1) hJ hnm fl_X1_25 rfl tyX1_ok nmX1 rfl (by decide +kernel) (by decide) rfl rfl (Nat.le_of_ble_eq_true rfl) rfl rfl dX1_init_35 (q := 38) rfl (fun hJ => ?_)
  refine hn_aload_n hJ.1 dX1_init_38 (q := 39) rfl 0 rfl ?_
  refine hn_bipush hJ.1 dX1_init_39 (q := 41) rfl kb_20 ?_
  refine hn_newaI (N := 20) (n' := 25) (kc' := 4) (ks' := 56) hJ hb hn_wI dX1_init_41 (q := 43) rfl (by decide) rfl rfl rfl (by decide) (fun hJ => ?_)
  refine hn_putr (k := 20) (ty := .array .int) (fs' := [.int 0, .ref (X.2.1 + 21), .ref (X.2.1 + 22), .ref (X.2.1 + 23), .int 0, .ref (X.2.1 + 24), .null, .int 0, .null, .null, .null, .null, .int 0, .int 0, .null, .null, .null]) (ty0 := tyX1) hJ hnm fl_X1_28 rfl tyX1_ok nmX1 rfl (by decide +kernel) (by decide) rfl rfl (Nat.le_of_ble_eq_true rfl) rfl rfl dX1_init_43 (q := 46) rfl (fun hJ => ?_)
  refine hn_aload_n hJ.1 dX1_init_46 (q := 47) rfl 0 rfl ?_
  refine hn_bipush hJ.1 dX1_init_47 (q := 49) rfl kb_20 ?_
  refine hn_newaI (N := 20) (n' := 26) (kc' := 5) (ks' := 76) hJ hb hn_wI dX1_init_49 (q := 51) rfl (by decide) rfl rfl rfl (by decide) (fun hJ => ?_)
  refine hn_putr (k := 20) (ty := .array .int) (fs' := [.int 0, .ref (X.2.1 + 21), .ref (X.2.1 + 22), .ref (X.2.1 + 23), .int 0, .ref (X.2.1 + 24), .ref (X.2.1 + 25), .int 0, .null, .null, .null, .null, .int 0, .int 0, .null, .null, .null]) (ty0 := tyX1) hJ hnm fl_X1_31 rfl tyX1_ok nmX1 rfl (by decide +kernel) (by decide) rfl rfl (Nat.le_of_ble_eq_true rfl) rfl rfl dX1_init_51 (q := 54) rfl (fun hJ => ?_)
  refine hn_aload_n hJ.1 dX1_init_54 (q := 55) rfl 0 rfl ?_
  refine hn_iconst hJ.1 dX1_init_55 (q := 56) rfl ki_0 ?_
  refine hn_putr (k := 20) (ty := .int) (fs' := [.int 0, .ref (X.2.1 + 21), .ref (X.2.1 + 22), .ref (X.2.1 + 23), .int 0, .ref (X.2.1 + 24), .ref (X.2.1 + 25), .int 0, .null, .null, .null, .null, .int 0, .int 0, .null, .null, .null]) (ty0 := tyX1) hJ hnm fl_X1_34 rfl tyX1_ok nmX1 rfl (by decide +kernel) (by decide) rfl rfl (Nat.le_of_ble_eq_true rfl) rfl rfl dX1_init_56 (q := 59) rfl (fun hJ => ?_)
  refine hn_aload_n hJ.1 dX1_init_59 (q := 60) rfl 0 rfl ?_
  refine hn_bipush hJ.1 dX1_init_60 (q := 62) rfl kb_30 ?_
  refine hn_newaI (N := 30) (n' := 27) (kc' := 6) (ks' := 106) hJ hb hn_wI dX1_init_62 (q := 64) rfl (by decide) rfl rfl rfl (by decide) (fun hJ => ?_)
  refine hn_putr (k := 20) (ty := .array .int) (fs' := [.int 0, .ref (X.2.1 + 21), .ref (X.2.1 + 22), .ref (X.2.1 + 23), .int 0, .ref (X.2.1 + 24), .ref (X.2.1 + 25), .int 0, .ref (X.2.1 + 26), .null, .null, .null, .int 0, .int 0, .null, .null, .null]) (ty0 := tyX1) hJ hnm fl_X1_37 rfl tyX1_ok nmX1 rfl (by decide +kernel) (by decide) rfl rfl (Nat.le_of_ble_eq_true rfl) rfl rfl dX1_init_64 (q := 67) rfl (fun hJ => ?_)
  refine hn_aload_n hJ.1 dX1_init_67 (q := 68) rfl 0 rfl ?_
  refine hn_bipush hJ.1 dX1_init_68 (q := 70) rfl kb_30 ?_
  refine hn_newaI (N := 30) (n' := 28) (kc' := 7) (ks' := 136) hJ hb hn_wI dX1_init_70 (q := 72) rfl (by decide) rfl rfl rfl (by decide) (fun hJ => ?_)
  refine hn_putr (k := 20) (ty := .array .int) (fs' := [.int 0, .ref (X.2.1 + 21), .ref (X.2.1 + 22), .ref (X.2.1 + 23), .int 0, .ref (X.2.1 + 24), .ref (X.2.1 + 25), .int 0, .ref (X.2.1 + 26), .ref (X.2.1 + 27), .null, .null, .int 0, .int 0, .null, .null, .null]) (ty0 := tyX1) hJ hnm fl_X1_40 rfl tyX1_ok nmX1 rfl (by decide +kernel) (by decide) rfl rfl (Nat.le_of_ble_eq_true rfl) rfl rfl dX1_init_72 (q := 75) rfl (fun hJ => ?_)
  refine hn_aload_n hJ.1 dX1_init_75 (q := 76) rfl 0 rfl ?_
  refine hn_bipush hJ.1 dX1_init_76 (q := 78) rfl kb_30 ?_
  refine hn_newaI (N := 30) (n' := 29) (kc' := 8) (ks' := 166) hJ hb hn_wI dX1_init_78 (q := 80) rfl (by decide) rfl rfl rfl (by decide) (fun hJ => ?_)
  refine hn_putr (k := 20) (ty := .array .int) (fs' := [.int 0, .ref (X.2.1 + 21), .ref (X.2.1 + 22), .ref (X.2.1 + 23), .int 0, .ref (X.2.1 + 24), .ref (X.2.1 + 25), .int 0, .ref (X.2.1 + 26), .ref (X.2.1 + 27), .ref (X.2.1 + 28), .null, .int 0, .int 0, .null, .null, .null]) (ty0 := tyX1) hJ hnm fl_X1_43 rfl tyX1_ok nmX1 rfl (by decide +kernel) (by decide) rfl rfl (Nat.le_of_ble_eq_true rfl) rfl rfl dX1_init_80 (q := 83) rfl (fun hJ => ?_)
  refine hn_aload_n hJ.1 dX1_init_83 (q := 84) rfl 0 rfl ?_
  refine hn_bipush hJ.1 dX1_init_84 (q := 86) rfl kb_30 ?_
  refine hn_newaI (N := 30) (n' := 30) (kc' := 9) (ks' := 196) hJ hb hn_wI dX1_init_86 (q := 88) rfl (by decide) rfl rfl rfl (by decide) (fun hJ => ?_)
  refine hn_putr (k := 20) (ty := .array .int) (fs' := [.int 0, .ref (X.2.1 + 21), .ref (X.2.1 + 22), .ref (X.2.1 + 23), .int 0, .ref (X.2.1 + 24), .ref (X.2.1 + 25), .int 0, .ref (X.2.1 + 26), .ref (X.2.1 + 27), .ref (X.2.1 + 28), .ref (X.2.1 + 29), .int 0, .int 0, .null, .null, .null]) (ty0 := tyX1) hJ hnm fl_X1_46 rfl tyX1_ok nmX1 rfl (by decide +kernel) (by decide) rfl rfl (Nat.le_of_ble_eq_true rfl) rfl rfl dX1_init_88 (q := 91) rfl (fun hJ => ?_)
  refine hn_aload_n hJ.1 dX1_init_91 (q := 92) rfl 0 rfl ?_
  refine hn_iconst hJ.1 dX1_init_92 (q := 93) rfl ki_0 ?_
  refine hn_putr (k := 20) (ty := .int) (fs' := [.int 0, .ref (X.2.1 + 21), .ref (X.2.1 + 22), .ref (X.2.1 + 23), .int 0, .ref (X.2.1 + 24), .ref (X.2.1 + 25), .int 0, .ref (X.2.1 + 26), .ref (X.2.1 + 27), .ref (X.2.1 + 28), .ref (X.2.1 + 29), .int 0, .int 0, .null, .null, .null]) (ty0 := tyX1) hJ hnm fl_X1_49 rfl tyX1_ok nmX1 rfl (by decide +kernel) (by decide) rfl rfl (Nat.le_of_ble_eq_true rfl) rfl rfl dX1_init_93 (q := 96) rfl (fun hJ => ?_)
  refine hn_aload_n hJ.1 dX1_init_96 (q := 97) rfl 0 rfl ?_
  refine hn_iconst hJ.1 dX1_init_97 (q := 98) rfl ki_0 ?_
  refine hn_putr (k := 20) (ty := .int) (fs' := [.int 0, .ref (X.2.1 + 21), .ref (X.2.1 + 22), .ref (X.2.1 + 23), .int 0, .ref (X.2.1 + 24), .ref (X.2.1 + 25), .int 0, .ref (X.2.1 + 26), .ref (X.2.1 + 27), .ref (X.2.1 + 28), .ref (X.2.1 + 29), .int 0, .int 0, .null, .null, .null]) (ty0 := tyX1) hJ hnm fl_X1_52 rfl tyX1_ok nmX1 rfl (by decide +kernel) (by decide) rfl rfl (Nat.le_of_ble_eq_true rfl) rfl rfl dX1_init_98 (q := 101) rfl (fun hJ => ?_)
  refine hn_aload_n hJ.1 dX1_init_101 (q := 102) rfl 0 rfl ?_
  refine hn_bipush hJ.1 dX1_init_102 (q := 104) rfl kb_10 ?_
  refine hn_newaI (N := 10) (n' := 31) (kc' := 10) (ks' := 206) hJ hb hn_wI dX1_init_104 (q := 106) rfl (by decide) rfl rfl rfl (by decide) (fun hJ => ?_)
  refine hn_putr (k := 20) (ty := .array .int) (fs' := [.int 0, .ref (X.2.1 + 21), .ref (X.2.1 + 22), .ref (X.2.1 + 23), .int 0, .ref (X.2.1 + 24), .ref (X.2.1 + 25), .int 0, .ref (X.2.1 + 26), .ref (X.2.1 + 27), .ref (X.2.1 + 28), .ref (X.2.1 + 29), .int 0, .int 0, .ref (X.2.1 + 30), .null, .null]) (ty0 := tyX1) hJ hnm fl_X1_55 rfl tyX1_ok nmX1 rfl (by decide +kernel) (by decide) rfl rfl (Nat.le_of_ble_eq_true rfl) rfl rfl dX1_init_106 (q := 109) rfl (fun hJ => ?_)
  refine hn_aload_n hJ.1 dX1_init_109 (q := 110) rfl 0 rfl ?_
  refine hn_bipush hJ.1 dX1_init_110 (q := 112) rfl kb_10 ?_
  refine hn_newaI (N := 10) (n' := 32) (kc' := 11) (ks' := 216) hJ hb hn_wI dX1_init_112 (q := 114) rfl (by decide) rfl rfl rfl (by decide) (fun hJ => ?_)
  refine hn_putr (k := 20) (ty := .array .int) (fs' := [.int 0, .ref (X.2.1 + 21), .ref (X.2.1 + 22), .ref (X.2.1 + 23), .int 0, .ref (X.2.1 + 24), .ref (X.2.1 + 25), .int 0, .ref (X.2.1 + 26), .ref (X.2.1 + 27), .ref (X.2.1 + 28), .ref (X.2.1 + 29), .int 0, .int 0, .ref (X.2.1 + 30), .ref (X.2.1 + 31), .null]) (ty0 := tyX1) hJ hnm fl_X1_58 rfl tyX1_ok nmX1 rfl (by decide +kernel) (by decide) rfl rfl (Nat.le_of_ble_eq_true rfl) rfl rfl dX1_init_114 (q := 117) rfl (fun hJ => ?_)
  refine hn_aload_n hJ.1 dX1_init_117 (q := 118) rfl 0 rfl ?_
  refine hn_bipush hJ.1 dX1_init_118 (q := 120) rfl kb_10 ?_
  refine hn_newaI (N := 10) (n' := 33) (kc' := 12) (ks' := 226) hJ hb hn_wI dX1_init_120 (q := 122) rfl (by decide) rfl rfl rfl (by decide) (fun hJ => ?_)
  refine hn_putr (k := 20) (ty := .array .int) (fs' := [.int 0, .ref (X.2.1 + 21), .ref (X.2.1 + 22), .ref (X.2.1 + 23), .int 0, .ref (X.2.1 + 24), .ref (X.2.1 + 25), .int 0, .ref (X.2.1 + 26), .ref (X.2.1 + 27), .ref (X.2.1 + 28), .ref (X.2.1 + 29), .int 0, .int 0, .ref (X.2.1 + 30), .ref (X.2.1 + 31), .ref (X.2.1 + 32)]) (ty0 := tyX1) hJ hnm fl_X1_61 rfl tyX1_ok nmX1 rfl (by decide +kernel) (by decide) rfl rfl (Nat.le_of_ble_eq_true rfl) rfl rfl dX1_init_122 (q := 125) rfl (fun hJ => ?_)
  refine hn_norm (σ' := hn_mix σ 20 13) (μ' := hn_zs μ 20 13) 20 (fun j hj => ⟨?_, ?_⟩) (fun j h1 h2 => ?_) hJ (fun hJ => ?_)
  · rw [hn_mix, if_neg (by omega)]; simp only [hn_sy]; repeat rw [if_neg (by omega)]
  · simp only [hn_zs, hn_zr, hn_up]; repeat rw [if_neg (by omega)]
  · obtain rfl | rfl | rfl | rfl | rfl | rfl | rfl | rfl | rfl | rfl | rfl | rfl | rfl : j = 20 ∨ j = 21 ∨ j = 22 ∨ j = 23 ∨ j = 24 ∨ j = 25 ∨ j = 26 ∨ j = 27 ∨ j = 28 ∨ j = 29 ∨ j = 30 ∨ j = 31 ∨ j = 32 := by omega
    all_goals rfl
  have o20 : hn_isO (hn_mk X 33 (hn_mix σ 20 13)) 20 1 hn_k20 := ⟨Nat.le_of_ble_eq_true rfl, rfl⟩
  have a31 : hn_isA (hn_mk X 33 (hn_mix σ 20 13)) 31 false 10 := ⟨Nat.le_of_ble_eq_true rfl, rfl⟩
  refine hn_aload_n hJ.1 dX1_init_125 (q := 126) rfl 0 rfl ?_
  refine hn_get hJ.1 fl_X1_58 o20 rfl rfl dX1_init_126 (q := 129) rfl ?_
  refine hn_iconst hJ.1 dX1_init_129 (q := 130) rfl ki_m1 ?_
  refine hn_callS (as := [.ref (X.2.1 + 31), .int (-1)]) (rest := []) hJ.1 ms_J7_fill_53178 mt_J7_fill_53178 lk_X1_64 (by decide) rfl (Nat.le_of_ble_eq_true rfl) dX1_init_130 (q := 133) rfl (cJ7_fill_53178_ a31 e1) rfl ?_
  show hn_G Z (hn_mk X 33 (hn_mix σ 20 13)) (12, 226) 1 133 _ [] μ1
  have a32 : hn_isA (hn_mk X 33 (hn_mix σ 20 13)) 32 false 10 := ⟨Nat.le_of_ble_eq_true rfl, rfl⟩
  refine hn_aload_n hJ.1 dX1_init_133 (q := 134) rfl 0 rfl ?_
  refine hn_get hJ.1 fl_X1_61 o20 rfl rfl dX1_init_134 (q := 137) rfl ?_
  refine hn_iconst hJ.1 dX1_init_137 (q := 138) rfl ki_m1 ?_
  refine hn_callS (as := [.ref (X.2.1 + 32), .int (-1)]) (rest := []) hJ.1 ms_J7_fill_53178 mt_J7_fill_53178 lk_X1_64 (by decide) rfl (Nat.le_of_ble_eq_true rfl) dX1_init_138 (q := 141) rfl (cJ7_fill_53178_ a32 e2) rfl ?_
  show hn_G Z (hn_mk X 33 (hn_mix σ 20 13)) (12, 226) 1 141 _ [] μR
  exact hn_vretN hJ.1 hQ dX1_init_141 rfl
set_option maxHeartbeats 4000000 in
set_option maxRecDepth 100000 in
theorem cI_33 {X : hn_X} {σ : Nat → hn_S} {μ μR : hn_M} {F : Nat} (hσ : σ 33 = hn_raw 1 [.int 0, .null, .null, .null, .int 0, .null, .null, .int 0, .null, .null, .null, .null, .int 0, .int 0, .null, .null, .null]) (e : fX1_init F 33 μ = some μR) : hn_CN yX1_init cX1_init 1 1 (hn_mk X 34 σ) (hn_mk X 46 (hn_mix σ 33 13)) 33 μ μR 12 226 := by
  obtain ⟨μ1, e1, e2⟩ := Option.bind_eq_some_iff.mp e
  refine hn_CN.of RX1 (by decide) rfl rfl (by decide) rfl (fun Z hJ hnm hb hQ => ?_)
  refine hn_aload_n hJ.1 dX1_init_0 (q := 1) rfl 0 rfl ?_
  refine hn_objI hJ.1 lo_X1 hn_wO (by decide) (Nat.le_of_ble_eq_true rfl) dX1_init_1 (q := 4) rfl ?_
  refine hn_aload_n hJ.1 dX1_init_4 (q := 5) rfl 0 rfl ?_
  refine hn_iconst hJ.1 dX1_init_5 (q := 6) rfl ki_0 ?_
  refine hn_putr (k := 33) (ty := .int) (fs' := [.int 0, .null, .null, .null, .int 0, .null, .null, .int 0, .null, .null, .null, .null, .int 0, .int 0, .null, .null, .null]) (ty0 := tyX1) hJ hnm fl_X1_9 rfl tyX1_ok nmX1 rfl (by decide +kernel) (by decide) hσ rfl (Nat.le_of_ble_eq_true rfl) rfl rfl dX1_init_6 (q := 9) rfl (fun hJ => ?_)
  refine hn_aload_n hJ.1 dX1_init_9 (q := 10) rfl 0 rfl ?_
  refine hn_bipush hJ.1 dX1_init_10 (q := 12) rfl kb_12 ?_
  refine hn_newaI (N := 12) (n' := 35) (kc' := 1) (ks' := 12) hJ hb hn_wI dX1_init_12 (q := 14) rfl (by decide) rfl rfl rfl (by decide) (fun hJ => ?_)
  refine hn_putr (k := 33) (ty := .array .int) (fs' := [.int 0, .ref (X.2.1 + 34), .null, .null, .int 0, .null, .null, .int 0, .null, .null, .null, .null, .int 0, .int 0, .null, .null, .null]) (ty0 := tyX1) hJ hnm fl_X1_15 rfl tyX1_ok nmX1 rfl (by decide +kernel) (by decide) rfl rfl (Nat.le_of_ble_eq_true rfl) rfl rfl dX1_init_14 (q := 17) rfl (fun hJ => ?_)
  refine hn_aload_n hJ.1 dX1_init_17 (q := 18) rfl 0 rfl ?_
  refine hn_bipush hJ.1 dX1_init_18 (q := 20) rfl kb_12 ?_
  refine hn_newaI (N := 12) (n' := 36) (kc' := 2) (ks' := 24) hJ hb hn_wI dX1_init_20 (q := 22) rfl (by decide) rfl rfl rfl (by decide) (fun hJ => ?_)
  refine hn_putr (k := 33) (ty := .array .int) (fs' := [.int 0, .ref (X.2.1 + 34), .ref (X.2.1 + 35), .null, .int 0, .null, .null, .int 0, .null, .null, .null, .null, .int 0, .int 0, .null, .null, .null]) (ty0 := tyX1) hJ hnm fl_X1_19 rfl tyX1_ok nmX1 rfl (by decide +kernel) (by decide) rfl rfl (Nat.le_of_ble_eq_true rfl) rfl rfl dX1_init_22 (q := 25) rfl (fun hJ => ?_)
  refine hn_aload_n hJ.1 dX1_init_25 (q := 26) rfl 0 rfl ?_
  refine hn_bipush hJ.1 dX1_init_26 (q := 28) rfl kb_12 ?_
  refine hn_newaI (N := 12) (n' := 37) (kc' := 3) (ks' := 36) hJ hb hn_wI dX1_init_28 (q := 30) rfl (by decide) rfl rfl rfl (by decide) (fun hJ => ?_)
  refine hn_putr (k := 33) (ty := .array .int) (fs' := [.int 0, .ref (X.2.1 + 34), .ref (X.2.1 + 35), .ref (X.2.1 + 36), .int 0, .null, .null, .int 0, .null, .null, .null, .null, .int 0, .int 0, .null, .null, .null]) (ty0 := tyX1) hJ hnm fl_X1_22 rfl tyX1_ok nmX1 rfl (by decide +kernel) (by decide) rfl rfl (Nat.le_of_ble_eq_true rfl) rfl rfl dX1_init_30 (q := 33) rfl (fun hJ => ?_)
  refine hn_aload_n hJ.1 dX1_init_33 (q := 34) rfl 0 rfl ?_
  refine hn_iconst hJ.1 dX1_init_34 (q := 35) rfl ki_0 ?_
  refine hn_putr (k := 33) (ty := .int) (fs' := [.int 0, .ref (X.2.1 + 34), .ref (X.2.1 + 35), .ref (X.2.1 + 36), .int 0, .null, .null, .int 0, .null, .null, .null, .null, .int 0, .int 0, .null, .null, .null]) (ty0 := tyX1) hJ hnm fl_X1_25 rfl tyX1_ok nmX1 rfl (by decide +kernel) (by decide) rfl rfl (Nat.le_of_ble_eq_true rfl) rfl rfl dX1_init_35 (q := 38) rfl (fun hJ => ?_)
  refine hn_aload_n hJ.1 dX1_init_38 (q := 39) rfl 0 rfl ?_
  refine hn_bipush hJ.1 dX1_init_39 (q := 41) rfl kb_20 ?_
  refine hn_newaI (N := 20) (n' := 38) (kc' := 4) (ks' := 56) hJ hb hn_wI dX1_init_41 (q := 43) rfl (by decide) rfl rfl rfl (by decide) (fun hJ => ?_)
  refine hn_putr (k := 33) (ty := .array .int) (fs' := [.int 0, .ref (X.2.1 + 34), .ref (X.2.1 + 35), .ref (X.2.1 + 36), .int 0, .ref (X.2.1 + 37), .null, .int 0, .null, .null, .null, .null, .int 0, .int 0, .null, .null, .null]) (ty0 := tyX1) hJ hnm fl_X1_28 rfl tyX1_ok nmX1 rfl (by decide +kernel) (by decide) rfl rfl (Nat.le_of_ble_eq_true rfl) rfl rfl dX1_init_43 (q := 46) rfl (fun hJ => ?_)
  refine hn_aload_n hJ.1 dX1_init_46 (q := 47) rfl 0 rfl ?_
  refine hn_bipush hJ.1 dX1_init_47 (q := 49) rfl kb_20 ?_
  refine hn_newaI (N := 20) (n' := 39) (kc' := 5) (ks' := 76) hJ hb hn_wI dX1_init_49 (q := 51) rfl (by decide) rfl rfl rfl (by decide) (fun hJ => ?_)
  refine hn_putr (k := 33) (ty := .array .int) (fs' := [.int 0, .ref (X.2.1 + 34), .ref (X.2.1 + 35), .ref (X.2.1 + 36), .int 0, .ref (X.2.1 + 37), .ref (X.2.1 + 38), .int 0, .null, .null, .null, .null, .int 0, .int 0, .null, .null, .null]) (ty0 := tyX1) hJ hnm fl_X1_31 rfl tyX1_ok nmX1 rfl (by decide +kernel) (by decide) rfl rfl (Nat.le_of_ble_eq_true rfl) rfl rfl dX1_init_51 (q := 54) rfl (fun hJ => ?_)
  refine hn_aload_n hJ.1 dX1_init_54 (q := 55) rfl 0 rfl ?_
  refine hn_iconst hJ.1 dX1_init_55 (q := 56) rfl ki_0 ?_
  refine hn_putr (k := 33) (ty := .int) (fs' := [.int 0, .ref (X.2.1 + 34), .ref (X.2.1 + 35), .ref (X.2.1 + 36), .int 0, .ref (X.2.1 + 37), .ref (X.2.1 + 38), .int 0, .null, .null, .null, .null, .int 0, .int 0, .null, .null, .null]) (ty0 := tyX1) hJ hnm fl_X1_34 rfl tyX1_ok nmX1 rfl (by decide +kernel) (by decide) rfl rfl (Nat.le_of_ble_eq_true rfl) rfl rfl dX1_init_56 (q := 59) rfl (fun hJ => ?_)
  refine hn_aload_n hJ.1 dX1_init_59 (q := 60) rfl 0 rfl ?_
  refine hn_bipush hJ.1 dX1_init_60 (q := 62) rfl kb_30 ?_
  refine hn_newaI (N := 30) (n' := 40) (kc' := 6) (ks' := 106) hJ hb hn_wI dX1_init_62 (q := 64) rfl (by decide) rfl rfl rfl (by decide) (fun hJ => ?_)
  refine hn_putr (k := 33) (ty := .array .int) (fs' := [.int 0, .ref (X.2.1 + 34), .ref (X.2.1 + 35), .ref (X.2.1 + 36), .int 0, .ref (X.2.1 + 37), .ref (X.2.1 + 38), .int 0, .ref (X.2.1 + 39), .null, .null, .null, .int 0, .int 0, .null, .null, .null]) (ty0 := tyX1) hJ hnm fl_X1_37 rfl tyX1_ok nmX1 rfl (by decide +kernel) (by decide) rfl rfl (Nat.le_of_ble_eq_true rfl) rfl rfl dX1_init_64 (q := 67) rfl (fun hJ => ?_)
  refine hn_aload_n hJ.1 dX1_init_67 (q := 68) rfl 0 rfl ?_
  refine hn_bipush hJ.1 dX1_init_68 (q := 70) rfl kb_30 ?_
  refine hn_newaI (N := 30) (n' := 41) (kc' := 7) (ks' := 136) hJ hb hn_wI dX1_init_70 (q := 72) rfl (by decide) rfl rfl rfl (by decide) (fun hJ => ?_)
  refine hn_putr (k := 33) (ty := .array .int) (fs' := [.int 0, .ref (X.2.1 + 34), .ref (X.2.1 + 35), .ref (X.2.1 + 36), .int 0, .ref (X.2.1 + 37), .ref (X.2.1 + 38), .int 0, .ref (X.2.1 + 39), .ref (X.2.1 + 40), .null, .null, .int 0, .int 0, .null, .null, .null]) (ty0 := tyX1) hJ hnm fl_X1_40 rfl tyX1_ok nmX1 rfl (by decide +kernel) (by decide) rfl rfl (Nat.le_of_ble_eq_true rfl) rfl rfl dX1_init_72 (q := 75) rfl (fun hJ => ?_)
  refine hn_aload_n hJ.1 dX1_init_75 (q := 76) rfl 0 rfl ?_
  refine hn_bipush hJ.1 dX1_init_76 (q := 78) rfl kb_30 ?_
  refine hn_newaI (N := 30) (n' := 42) (kc' := 8) (ks' := 166) hJ hb hn_wI dX1_init_78 (q := 80) rfl (by decide) rfl rfl rfl (by decide) (fun hJ => ?_)
  refine hn_putr (k := 33) (ty := .array .int) (fs' := [.int 0, .ref (X.2.1 + 34), .ref (X.2.1 + 35), .ref (X.2.1 + 36), .int 0, .ref (X.2.1 + 37), .ref (X.2.1 + 38), .int 0, .ref (X.2.1 + 39), .ref (X.2.1 + 40), .ref (X.2.1 + 41), .null, .int 0, .int 0, .null, .null, .null]) (ty0 := tyX1) hJ hnm fl_X1_43 rfl tyX1_ok nmX1 rfl (by decide +kernel) (by decide) rfl rfl (Nat.le_of_ble_eq_true rfl) rfl rfl dX1_init_80 (q := 83) rfl (fun hJ => ?_)
  refine hn_aload_n hJ.1 dX1_init_83 (q := 84) rfl 0 rfl ?_
  refine hn_bipush hJ.1 dX1_init_84 (q := 86) rfl kb_30 ?_
  refine hn_newaI (N := 30) (n' := 43) (kc' := 9) (ks' := 196) hJ hb hn_wI dX1_init_86 (q := 88) rfl (by decide) rfl rfl rfl (by decide) (fun hJ => ?_)
  refine hn_putr (k := 33) (ty := .array .int) (fs' := [.int 0, .ref (X.2.1 + 34), .ref (X.2.1 + 35), .ref (X.2.1 + 36), .int 0, .ref (X.2.1 + 37), .ref (X.2.1 + 38), .int 0, .ref (X.2.1 + 39), .ref (X.2.1 + 40), .ref (X.2.1 + 41), .ref (X.2.1 + 42), .int 0, .int 0, .null, .null, .null]) (ty0 := tyX1) hJ hnm fl_X1_46 rfl tyX1_ok nmX1 rfl (by decide +kernel) (by decide) rfl rfl (Nat.le_of_ble_eq_true rfl) rfl rfl dX1_init_88 (q := 91) rfl (fun hJ => ?_)
  refine hn_aload_n hJ.1 dX1_init_91 (q := 92) rfl 0 rfl ?_
  refine hn_iconst hJ.1 dX1_init_92 (q := 93) rfl ki_0 ?_
  refine hn_putr (k := 33) (ty := .int) (fs' := [.int 0, .ref (X.2.1 + 34), .ref (X.2.1 + 35), .ref (X.2.1 + 36), .int 0, .ref (X.2.1 + 37), .ref (X.2.1 + 38), .int 0, .ref (X.2.1 + 39), .ref (X.2.1 + 40), .ref (X.2.1 + 41), .ref (X.2.1 + 42), .int 0, .int 0, .null, .null, .null]) (ty0 := tyX1) hJ hnm fl_X1_49 rfl tyX1_ok nmX1 rfl (by decide +kernel) (by decide) rfl rfl (Nat.le_of_ble_eq_true rfl) rfl rfl dX1_init_93 (q := 96) rfl (fun hJ => ?_)
  refine hn_aload_n hJ.1 dX1_init_96 (q := 97) rfl 0 rfl ?_
  refine hn_iconst hJ.1 dX1_init_97 (q := 98) rfl ki_0 ?_
  refine hn_putr (k := 33) (ty := .int) (fs' := [.int 0, .ref (X.2.1 + 34), .ref (X.2.1 + 35), .ref (X.2.1 + 36), .int 0, .ref (X.2.1 + 37), .ref (X.2.1 + 38), .int 0, .ref (X.2.1 + 39), .ref (X.2.1 + 40), .ref (X.2.1 + 41), .ref (X.2.1 + 42), .int 0, .int 0, .null, .null, .null]) (ty0 := tyX1) hJ hnm fl_X1_52 rfl tyX1_ok nmX1 rfl (by decide +kernel) (by decide) rfl rfl (Nat.le_of_ble_eq_true rfl) rfl rfl dX1_init_98 (q := 101) rfl (fun hJ => ?_)
  refine hn_aload_n hJ.1 dX1_init_101 (q := 102) rfl 0 rfl ?_
  refine hn_bipush hJ.1 dX1_init_102 (q := 104) rfl kb_10 ?_
  refine hn_newaI (N := 10) (n' := 44) (kc' := 10) (ks' := 206) hJ hb hn_wI dX1_init_104 (q := 106) rfl (by decide) rfl rfl rfl (by decide) (fun hJ => ?_)
  refine hn_putr (k := 33) (ty := .array .int) (fs' := [.int 0, .ref (X.2.1 + 34), .ref (X.2.1 + 35), .ref (X.2.1 + 36), .int 0, .ref (X.2.1 + 37), .ref (X.2.1 + 38), .int 0, .ref (X.2.1 + 39), .ref (X.2.1 + 40), .ref (X.2.1 + 41), .ref (X.2.1 + 42), .int 0, .int 0, .ref (X.2.1 + 43), .null, .null]) (ty0 := tyX1) hJ hnm fl_X1_55 rfl tyX1_ok nmX1 rfl (by decide +kernel) (by decide) rfl rfl (Nat.le_of_ble_eq_true rfl) rfl rfl dX1_init_106 (q := 109) rfl (fun hJ => ?_)
  refine hn_aload_n hJ.1 dX1_init_109 (q := 110) rfl 0 rfl ?_
  refine hn_bipush hJ.1 dX1_init_110 (q := 112) rfl kb_10 ?_
  refine hn_newaI (N := 10) (n' := 45) (kc' := 11) (ks' := 216) hJ hb hn_wI dX1_init_112 (q := 114) rfl (by decide) rfl rfl rfl (by decide) (fun hJ => ?_)
  refine hn_putr (k := 33) (ty := .array .int) (fs' := [.int 0, .ref (X.2.1 + 34), .ref (X.2.1 + 35), .ref (X.2.1 + 36), .int 0, .ref (X.2.1 + 37), .ref (X.2.1 + 38), .int 0, .ref (X.2.1 + 39), .ref (X.2.1 + 40), .ref (X.2.1 + 41), .ref (X.2.1 + 42), .int 0, .int 0, .ref (X.2.1 + 43), .ref (X.2.1 + 44), .null]) (ty0 := tyX1) hJ hnm fl_X1_58 rfl tyX1_ok nmX1 rfl (by decide +kernel) (by decide) rfl rfl (Nat.le_of_ble_eq_true rfl) rfl rfl dX1_init_114 (q := 117) rfl (fun hJ => ?_)
  refine hn_aload_n hJ.1 dX1_init_117 (q := 118) rfl 0 rfl ?_
  refine hn_bipush hJ.1 dX1_init_118 (q := 120) rfl kb_10 ?_
  refine hn_newaI (N := 10) (n' := 46) (kc' := 12) (ks' := 226) hJ hb hn_wI dX1_init_120 (q := 122) rfl (by decide) rfl rfl rfl (by decide) (fun hJ => ?_)
  refine hn_putr (k := 33) (ty := .array .int) (fs' := [.int 0, .ref (X.2.1 + 34), .ref (X.2.1 + 35), .ref (X.2.1 + 36), .int 0, .ref (X.2.1 + 37), .ref (X.2.1 + 38), .int 0, .ref (X.2.1 + 39), .ref (X.2.1 + 40), .ref (X.2.1 + 41), .ref (X.2.1 + 42), .int 0, .int 0, .ref (X.2.1 + 43), .ref (X.2.1 + 44), .ref (X.2.1 + 45)]) (ty0 := tyX1) hJ hnm fl_X1_61 rfl tyX1_ok nmX1 rfl (by decide +kernel) (by decide) rfl rfl (Nat.le_of_ble_eq_true rfl) rfl rfl dX1_init_122 (q := 125) rfl (fun hJ => ?_)
  refine hn_norm (σ' := hn_mix σ 33 13) (μ' := hn_zs μ 33 13) 33 (fun j hj => ⟨?_, ?_⟩) (fun j h1 h2 => ?_) hJ (fun hJ => ?_)
  · rw [hn_mix, if_neg (by omega)]; simp only [hn_sy]; repeat rw [if_neg (by omega)]
  · simp only [hn_zs, hn_zr, hn_up]; repeat rw [if_neg (by omega)]
  · obtain rfl | rfl | rfl | rfl | rfl | rfl | rfl | rfl | rfl | rfl | rfl | rfl | rfl : j = 33 ∨ j = 34 ∨ j = 35 ∨ j = 36 ∨ j = 37 ∨ j = 38 ∨ j = 39 ∨ j = 40 ∨ j = 41 ∨ j = 42 ∨ j = 43 ∨ j = 44 ∨ j = 45 := by omega
    all_goals rfl
  have o33 : hn_isO (hn_mk X 46 (hn_mix σ 33 13)) 33 1 hn_k33 := ⟨Nat.le_of_ble_eq_true rfl, rfl⟩
  have a44 : hn_isA (hn_mk X 46 (hn_mix σ 33 13)) 44 false 10 := ⟨Nat.le_of_ble_eq_true rfl, rfl⟩
  refine hn_aload_n hJ.1 dX1_init_125 (q := 126) rfl 0 rfl ?_
  refine hn_get hJ.1 fl_X1_58 o33 rfl rfl dX1_init_126 (q := 129) rfl ?_
  refine hn_iconst hJ.1 dX1_init_129 (q := 130) rfl ki_m1 ?_
  refine hn_callS (as := [.ref (X.2.1 + 44), .int (-1)]) (rest := []) hJ.1 ms_J7_fill_53178 mt_J7_fill_53178 lk_X1_64 (by decide) rfl (Nat.le_of_ble_eq_true rfl) dX1_init_130 (q := 133) rfl (cJ7_fill_53178_ a44 e1) rfl ?_
  show hn_G Z (hn_mk X 46 (hn_mix σ 33 13)) (12, 226) 1 133 _ [] μ1
  have a45 : hn_isA (hn_mk X 46 (hn_mix σ 33 13)) 45 false 10 := ⟨Nat.le_of_ble_eq_true rfl, rfl⟩
  refine hn_aload_n hJ.1 dX1_init_133 (q := 134) rfl 0 rfl ?_
  refine hn_get hJ.1 fl_X1_61 o33 rfl rfl dX1_init_134 (q := 137) rfl ?_
  refine hn_iconst hJ.1 dX1_init_137 (q := 138) rfl ki_m1 ?_
  refine hn_callS (as := [.ref (X.2.1 + 45), .int (-1)]) (rest := []) hJ.1 ms_J7_fill_53178 mt_J7_fill_53178 lk_X1_64 (by decide) rfl (Nat.le_of_ble_eq_true rfl) dX1_init_138 (q := 141) rfl (cJ7_fill_53178_ a45 e2) rfl ?_
  show hn_G Z (hn_mk X 46 (hn_mix σ 33 13)) (12, 226) 1 141 _ [] μR
  exact hn_vretN hJ.1 hQ dX1_init_141 rfl
theorem lo_X8 : Cond.methodLink RX8 1 Lib.objectInit ∈ hn_tb := hn_in (by decide +kernel) rfl
theorem kb_108 : (Int8.ofInt (108)).toInt32 = 108 := by decide
theorem ks_540 : (Int16.ofInt (540)).toInt32 = 540 := by decide
theorem ks_400 : (Int16.ofInt (400)).toInt32 = 400 := by decide
def hn_nM : List Nat := [72, 73, 75, 82, 83]
theorem hn_V.W2 {B : hn_B} (h : hn_V B hn_nM) : hn_V B hn_nW := fun k hk => h k ((by decide : ∀ k ∈ hn_nW, k ∈ hn_nM) k hk)
def fX8_init_198 (F : Nat) (μ : hn_M) : Option hn_M := (fX8_layWays F μ).bind fun μ1 => some μ1
def fX8_init_170 (F : Nat) : Nat → Int32 → hn_M → Option hn_M
  | 0, _, _ => none
  | n + 1, l1, μ => if 10 ≤ l1 then fX8_init_198 F μ else hn_wr μ 82 60 (2 * l1) (-1) fun μ2 => hn_wr μ2 83 30 l1 (-1) fun μ3 => fX8_init_170 F n (l1 + 1) μ3
def fX8_init_168 (F : Nat) (μ : hn_M) : Option hn_M := fX8_init_170 F F 0 μ
set_option maxHeartbeats 1000000 in
theorem gX8_init_198 {Z : hn_Z} {B : hn_B} {F : Nat} {R : hn_M} (hF : hn_F Z B (20, 1665) cX8_init 2 RX8 none 1) (hQ : hn_goalN Z B R 20 1665) (hV : hn_V B hn_nM) {μ : hn_M} (e : fX8_init_198 F μ = some R) : hn_G Z B (20, 1665) 2 198 [(0, .ref (hn_base B + 72))] [] μ := by
  unfold fX8_init_198 at e
  have o72 : hn_isO B 72 8 hn_k72 := hV 72 (by decide)
  refine hn_aload_n hF dX8_init_198 (q := 199) rfl 0 rfl ?_
  refine hn_callVv (rest := []) hF ms_X8_layWays mv_X8_layWays lk_X8_74 o72 rfl (by decide) [] rfl (Nat.le_of_ble_eq_true rfl) dX8_init_199 (q := 202) rfl rfl e (fun v hv => cX8_layWays_ hV.W2 hv) (fun μ1 e => ?_)
  exact hn_vretN hF hQ dX8_init_202 e
set_option maxHeartbeats 1000000 in
theorem gX8_init_170 {Z : hn_Z} {B : hn_B} {F : Nat} {R : hn_M} (hF : hn_F Z B (20, 1665) cX8_init 2 RX8 none 1) (hQ : hn_goalN Z B R 20 1665) (hV : hn_V B hn_nM) : ∀ (n : Nat) (l1 : Int32) (μ : hn_M), fX8_init_170 F n l1 μ = some R → hn_G Z B (20, 1665) 2 170 [(0, .ref (hn_base B + 72)), (1, .int l1)] [] μ := by
  have a82 : hn_isA B 82 false 60 := hV 82 (by decide)
  have a83 : hn_isA B 83 false 30 := hV 83 (by decide)
  have o72 : hn_isO B 72 8 hn_k72 := hV 72 (by decide)
  intro n
  induction n with
  | zero => intro l1 μ e; rw [fX8_init_170] at e; cases e
  | succ n ih =>
    intro l1 μ e
    rw [fX8_init_170] at e
    refine hn_iload_n hF dX8_init_170 (q := 171) rfl 1 rfl ?_
    refine hn_bipush hF dX8_init_171 (q := 173) rfl kb_10 ?_
    refine hn_icmp_ge hF dX8_init_173 (t := 198) (q := 176) rfl rfl e (fun e => ?_) (fun e => ?_)
    · refine hn_sub [0] (L' := [(0, .ref (hn_base B + 72))]) rfl ?_
      exact gX8_init_198 hF hQ hV e
    · refine hn_aload_n hF dX8_init_176 (q := 177) rfl 0 rfl ?_
      refine hn_get hF fl_X8_37 o72 rfl rfl dX8_init_177 (q := 180) rfl ?_
      refine hn_iconst hF dX8_init_180 (q := 181) rfl ki_2 ?_
      refine hn_iload_n hF dX8_init_181 (q := 182) rfl 1 rfl ?_
      refine hn_imul hF dX8_init_182 (q := 183) rfl ?_
      refine hn_iconst hF dX8_init_183 (q := 184) rfl ki_m1 ?_
      refine hn_ast hF a82 dX8_init_184 (q := 185) rfl e (fun μ2 e => ?_)
      refine hn_aload_n hF dX8_init_185 (q := 186) rfl 0 rfl ?_
      refine hn_get hF fl_X8_40 o72 rfl rfl dX8_init_186 (q := 189) rfl ?_
      refine hn_iload_n hF dX8_init_189 (q := 190) rfl 1 rfl ?_
      refine hn_iconst hF dX8_init_190 (q := 191) rfl ki_m1 ?_
      refine hn_ast hF a83 dX8_init_191 (q := 192) rfl e (fun μ3 e => ?_)
      refine hn_iinc (p := 1) hF dX8_init_192 (q := 195) rfl rfl (kn_1 _) (by decide) (L' := [(1, .int (l1 + 1)), (0, .ref (hn_base B + 72))]) rfl ?_
      refine hn_goto hF dX8_init_195 (q := 170) rfl ?_
      refine hn_sub [1, 0] (L' := [(0, .ref (hn_base B + 72)), (1, .int (l1 + 1))]) rfl ?_
      exact ih (l1 + 1) μ3 e
set_option maxHeartbeats 1000000 in
theorem gX8_init_168 {Z : hn_Z} {B : hn_B} {F : Nat} {R : hn_M} (hF : hn_F Z B (20, 1665) cX8_init 2 RX8 none 1) (hQ : hn_goalN Z B R 20 1665) (hV : hn_V B hn_nM) {μ : hn_M} (e : fX8_init_168 F μ = some R) : hn_G Z B (20, 1665) 2 168 [(0, .ref (hn_base B + 72))] [] μ := by
  unfold fX8_init_168 at e
  refine hn_iconst hF dX8_init_168 (q := 169) rfl ki_0 ?_
  refine hn_istore_n hF dX8_init_169 (q := 170) rfl (i := 1) rfl (by decide) (L' := [(1, .int 0), (0, .ref (hn_base B + 72))]) rfl ?_
  refine hn_sub [1, 0] (L' := [(0, .ref (hn_base B + 72)), (1, .int 0)]) rfl ?_
  exact gX8_init_170 hF hQ hV F 0 μ e
def fX8_init (F : Nat) (μ : hn_M) : Option hn_M := fX8_init_168 F (hn_up (hn_zs μ 72 21) 72 12 12)
set_option maxHeartbeats 4000000 in
set_option maxRecDepth 100000 in
theorem cI_72 {X : hn_X} {σ : Nat → hn_S} {μ μR : hn_M} {F : Nat} (hσ : σ 72 = hn_raw 8 [.null, .null, .null, .null, .null, .null, .null, .null, .null, .null, .null, .int 0, .int 0, .int 0, .int 0, .null, .null, .null, .null, .null, .null, .null, .int 0, .null, .int 0, .null]) (e : fX8_init F μ = some μR) : hn_CN yX8_init cX8_init 2 1 (hn_mk X 73 σ) (hn_mk X 93 (hn_mix σ 72 21)) 72 μ μR 20 1665 := by
  refine hn_CN.of RX8 (by decide) rfl rfl (by decide) rfl (fun Z hJ hnm hb hQ => ?_)
  refine hn_aload_n hJ.1 dX8_init_0 (q := 1) rfl 0 rfl ?_
  refine hn_objI hJ.1 lo_X8 hn_wO (by decide) (Nat.le_of_ble_eq_true rfl) dX8_init_1 (q := 4) rfl ?_
  refine hn_aload_n hJ.1 dX8_init_4 (q := 5) rfl 0 rfl ?_
  refine hn_bipush hJ.1 dX8_init_5 (q := 7) rfl kb_36 ?_
  refine hn_newaI (N := 36) (n' := 74) (kc' := 1) (ks' := 36) hJ hb hn_wI dX8_init_7 (q := 9) rfl (by decide) rfl rfl rfl (by decide) (fun hJ => ?_)
  refine hn_putr (k := 72) (ty := .array .int) (fs' := [.ref (X.2.1 + 73), .null, .null, .null, .null, .null, .null, .null, .null, .null, .null, .int 0, .int 0, .int 0, .int 0, .null, .null, .null, .null, .null, .null, .null, .int 0, .null, .int 0, .null]) (ty0 := tyX8) hJ hnm fl_X8_7 rfl tyX8_ok nmX8 rfl (by decide +kernel) (by decide) hσ rfl (Nat.le_of_ble_eq_true rfl) rfl rfl dX8_init_9 (q := 12) rfl (fun hJ => ?_)
  refine hn_aload_n hJ.1 dX8_init_12 (q := 13) rfl 0 rfl ?_
  refine hn_bipush hJ.1 dX8_init_13 (q := 15) rfl kb_36 ?_
  refine hn_newaI (N := 36) (n' := 75) (kc' := 2) (ks' := 72) hJ hb hn_wI dX8_init_15 (q := 17) rfl (by decide) rfl rfl rfl (by decide) (fun hJ => ?_)
  refine hn_putr (k := 72) (ty := .array .int) (fs' := [.ref (X.2.1 + 73), .ref (X.2.1 + 74), .null, .null, .null, .null, .null, .null, .null, .null, .null, .int 0, .int 0, .int 0, .int 0, .null, .null, .null, .null, .null, .null, .null, .int 0, .null, .int 0, .null]) (ty0 := tyX8) hJ hnm fl_X8_13 rfl tyX8_ok nmX8 rfl (by decide +kernel) (by decide) rfl rfl (Nat.le_of_ble_eq_true rfl) rfl rfl dX8_init_17 (q := 20) rfl (fun hJ => ?_)
  refine hn_aload_n hJ.1 dX8_init_20 (q := 21) rfl 0 rfl ?_
  refine hn_bipush hJ.1 dX8_init_21 (q := 23) rfl kb_36 ?_
  refine hn_newaI (N := 36) (n' := 76) (kc' := 3) (ks' := 108) hJ hb hn_wI dX8_init_23 (q := 25) rfl (by decide) rfl rfl rfl (by decide) (fun hJ => ?_)
  refine hn_putr (k := 72) (ty := .array .int) (fs' := [.ref (X.2.1 + 73), .ref (X.2.1 + 74), .ref (X.2.1 + 75), .null, .null, .null, .null, .null, .null, .null, .null, .int 0, .int 0, .int 0, .int 0, .null, .null, .null, .null, .null, .null, .null, .int 0, .null, .int 0, .null]) (ty0 := tyX8) hJ hnm fl_X8_16 rfl tyX8_ok nmX8 rfl (by decide +kernel) (by decide) rfl rfl (Nat.le_of_ble_eq_true rfl) rfl rfl dX8_init_25 (q := 28) rfl (fun hJ => ?_)
  refine hn_aload_n hJ.1 dX8_init_28 (q := 29) rfl 0 rfl ?_
  refine hn_iconst hJ.1 dX8_init_29 (q := 30) rfl ki_3 ?_
  refine hn_newaI (N := 3) (n' := 77) (kc' := 4) (ks' := 111) hJ hb hn_wI dX8_init_30 (q := 32) rfl (by decide) rfl rfl rfl (by decide) (fun hJ => ?_)
  refine hn_putr (k := 72) (ty := .array .int) (fs' := [.ref (X.2.1 + 73), .ref (X.2.1 + 74), .ref (X.2.1 + 75), .ref (X.2.1 + 76), .null, .null, .null, .null, .null, .null, .null, .int 0, .int 0, .int 0, .int 0, .null, .null, .null, .null, .null, .null, .null, .int 0, .null, .int 0, .null]) (ty0 := tyX8) hJ hnm fl_X8_19 rfl tyX8_ok nmX8 rfl (by decide +kernel) (by decide) rfl rfl (Nat.le_of_ble_eq_true rfl) rfl rfl dX8_init_32 (q := 35) rfl (fun hJ => ?_)
  refine hn_aload_n hJ.1 dX8_init_35 (q := 36) rfl 0 rfl ?_
  refine hn_bipush hJ.1 dX8_init_36 (q := 38) rfl kb_108 ?_
  refine hn_newaI (N := 108) (n' := 78) (kc' := 5) (ks' := 219) hJ hb hn_wI dX8_init_38 (q := 40) rfl (by decide) rfl rfl rfl (by decide) (fun hJ => ?_)
  refine hn_putr (k := 72) (ty := .array .int) (fs' := [.ref (X.2.1 + 73), .ref (X.2.1 + 74), .ref (X.2.1 + 75), .ref (X.2.1 + 76), .ref (X.2.1 + 77), .null, .null, .null, .null, .null, .null, .int 0, .int 0, .int 0, .int 0, .null, .null, .null, .null, .null, .null, .null, .int 0, .null, .int 0, .null]) (ty0 := tyX8) hJ hnm fl_X8_22 rfl tyX8_ok nmX8 rfl (by decide +kernel) (by decide) rfl rfl (Nat.le_of_ble_eq_true rfl) rfl rfl dX8_init_40 (q := 43) rfl (fun hJ => ?_)
  refine hn_aload_n hJ.1 dX8_init_43 (q := 44) rfl 0 rfl ?_
  refine hn_iconst hJ.1 dX8_init_44 (q := 45) rfl ki_3 ?_
  refine hn_newaI (N := 3) (n' := 79) (kc' := 6) (ks' := 222) hJ hb hn_wI dX8_init_45 (q := 47) rfl (by decide) rfl rfl rfl (by decide) (fun hJ => ?_)
  refine hn_putr (k := 72) (ty := .array .int) (fs' := [.ref (X.2.1 + 73), .ref (X.2.1 + 74), .ref (X.2.1 + 75), .ref (X.2.1 + 76), .ref (X.2.1 + 77), .ref (X.2.1 + 78), .null, .null, .null, .null, .null, .int 0, .int 0, .int 0, .int 0, .null, .null, .null, .null, .null, .null, .null, .int 0, .null, .int 0, .null]) (ty0 := tyX8) hJ hnm fl_X8_25 rfl tyX8_ok nmX8 rfl (by decide +kernel) (by decide) rfl rfl (Nat.le_of_ble_eq_true rfl) rfl rfl dX8_init_47 (q := 50) rfl (fun hJ => ?_)
  refine hn_aload_n hJ.1 dX8_init_50 (q := 51) rfl 0 rfl ?_
  refine hn_bipush hJ.1 dX8_init_51 (q := 53) rfl kb_120 ?_
  refine hn_newaI (N := 120) (n' := 80) (kc' := 7) (ks' := 342) hJ hb hn_wI dX8_init_53 (q := 55) rfl (by decide) rfl rfl rfl (by decide) (fun hJ => ?_)
  refine hn_putr (k := 72) (ty := .array .int) (fs' := [.ref (X.2.1 + 73), .ref (X.2.1 + 74), .ref (X.2.1 + 75), .ref (X.2.1 + 76), .ref (X.2.1 + 77), .ref (X.2.1 + 78), .ref (X.2.1 + 79), .null, .null, .null, .null, .int 0, .int 0, .int 0, .int 0, .null, .null, .null, .null, .null, .null, .null, .int 0, .null, .int 0, .null]) (ty0 := tyX8) hJ hnm fl_X8_28 rfl tyX8_ok nmX8 rfl (by decide +kernel) (by decide) rfl rfl (Nat.le_of_ble_eq_true rfl) rfl rfl dX8_init_55 (q := 58) rfl (fun hJ => ?_)
  refine hn_aload_n hJ.1 dX8_init_58 (q := 59) rfl 0 rfl ?_
  refine hn_iconst hJ.1 dX8_init_59 (q := 60) rfl ki_3 ?_
  refine hn_newaI (N := 3) (n' := 81) (kc' := 8) (ks' := 345) hJ hb hn_wI dX8_init_60 (q := 62) rfl (by decide) rfl rfl rfl (by decide) (fun hJ => ?_)
  refine hn_putr (k := 72) (ty := .array .int) (fs' := [.ref (X.2.1 + 73), .ref (X.2.1 + 74), .ref (X.2.1 + 75), .ref (X.2.1 + 76), .ref (X.2.1 + 77), .ref (X.2.1 + 78), .ref (X.2.1 + 79), .ref (X.2.1 + 80), .null, .null, .null, .int 0, .int 0, .int 0, .int 0, .null, .null, .null, .null, .null, .null, .null, .int 0, .null, .int 0, .null]) (ty0 := tyX8) hJ hnm fl_X8_31 rfl tyX8_ok nmX8 rfl (by decide +kernel) (by decide) rfl rfl (Nat.le_of_ble_eq_true rfl) rfl rfl dX8_init_62 (q := 65) rfl (fun hJ => ?_)
  refine hn_aload_n hJ.1 dX8_init_65 (q := 66) rfl 0 rfl ?_
  refine hn_sipush hJ.1 dX8_init_66 (q := 69) rfl ks_540 ?_
  refine hn_newaI (N := 540) (n' := 82) (kc' := 9) (ks' := 885) hJ hb hn_wI dX8_init_69 (q := 71) rfl (by decide) rfl rfl rfl (by decide) (fun hJ => ?_)
  refine hn_putr (k := 72) (ty := .array .int) (fs' := [.ref (X.2.1 + 73), .ref (X.2.1 + 74), .ref (X.2.1 + 75), .ref (X.2.1 + 76), .ref (X.2.1 + 77), .ref (X.2.1 + 78), .ref (X.2.1 + 79), .ref (X.2.1 + 80), .ref (X.2.1 + 81), .null, .null, .int 0, .int 0, .int 0, .int 0, .null, .null, .null, .null, .null, .null, .null, .int 0, .null, .int 0, .null]) (ty0 := tyX8) hJ hnm fl_X8_34 rfl tyX8_ok nmX8 rfl (by decide +kernel) (by decide) rfl rfl (Nat.le_of_ble_eq_true rfl) rfl rfl dX8_init_71 (q := 74) rfl (fun hJ => ?_)
  refine hn_aload_n hJ.1 dX8_init_74 (q := 75) rfl 0 rfl ?_
  refine hn_bipush hJ.1 dX8_init_75 (q := 77) rfl kb_60 ?_
  refine hn_newaI (N := 60) (n' := 83) (kc' := 10) (ks' := 945) hJ hb hn_wI dX8_init_77 (q := 79) rfl (by decide) rfl rfl rfl (by decide) (fun hJ => ?_)
  refine hn_putr (k := 72) (ty := .array .int) (fs' := [.ref (X.2.1 + 73), .ref (X.2.1 + 74), .ref (X.2.1 + 75), .ref (X.2.1 + 76), .ref (X.2.1 + 77), .ref (X.2.1 + 78), .ref (X.2.1 + 79), .ref (X.2.1 + 80), .ref (X.2.1 + 81), .ref (X.2.1 + 82), .null, .int 0, .int 0, .int 0, .int 0, .null, .null, .null, .null, .null, .null, .null, .int 0, .null, .int 0, .null]) (ty0 := tyX8) hJ hnm fl_X8_37 rfl tyX8_ok nmX8 rfl (by decide +kernel) (by decide) rfl rfl (Nat.le_of_ble_eq_true rfl) rfl rfl dX8_init_79 (q := 82) rfl (fun hJ => ?_)
  refine hn_aload_n hJ.1 dX8_init_82 (q := 83) rfl 0 rfl ?_
  refine hn_bipush hJ.1 dX8_init_83 (q := 85) rfl kb_30 ?_
  refine hn_newaI (N := 30) (n' := 84) (kc' := 11) (ks' := 975) hJ hb hn_wI dX8_init_85 (q := 87) rfl (by decide) rfl rfl rfl (by decide) (fun hJ => ?_)
  refine hn_putr (k := 72) (ty := .array .int) (fs' := [.ref (X.2.1 + 73), .ref (X.2.1 + 74), .ref (X.2.1 + 75), .ref (X.2.1 + 76), .ref (X.2.1 + 77), .ref (X.2.1 + 78), .ref (X.2.1 + 79), .ref (X.2.1 + 80), .ref (X.2.1 + 81), .ref (X.2.1 + 82), .ref (X.2.1 + 83), .int 0, .int 0, .int 0, .int 0, .null, .null, .null, .null, .null, .null, .null, .int 0, .null, .int 0, .null]) (ty0 := tyX8) hJ hnm fl_X8_40 rfl tyX8_ok nmX8 rfl (by decide +kernel) (by decide) rfl rfl (Nat.le_of_ble_eq_true rfl) rfl rfl dX8_init_87 (q := 90) rfl (fun hJ => ?_)
  refine hn_aload_n hJ.1 dX8_init_90 (q := 91) rfl 0 rfl ?_
  refine hn_bipush hJ.1 dX8_init_91 (q := 93) rfl kb_12 ?_
  refine hn_putr (k := 72) (ty := .int) (fs' := [.ref (X.2.1 + 73), .ref (X.2.1 + 74), .ref (X.2.1 + 75), .ref (X.2.1 + 76), .ref (X.2.1 + 77), .ref (X.2.1 + 78), .ref (X.2.1 + 79), .ref (X.2.1 + 80), .ref (X.2.1 + 81), .ref (X.2.1 + 82), .ref (X.2.1 + 83), .int 0, .int 12, .int 0, .int 0, .null, .null, .null, .null, .null, .null, .null, .int 0, .null, .int 0, .null]) (ty0 := tyX8) hJ hnm fl_X8_43 rfl tyX8_ok nmX8 rfl (by decide +kernel) (by decide) rfl rfl (Nat.le_of_ble_eq_true rfl) rfl rfl dX8_init_93 (q := 96) rfl (fun hJ => ?_)
  refine hn_aload_n hJ.1 dX8_init_96 (q := 97) rfl 0 rfl ?_
  refine hn_sipush hJ.1 dX8_init_97 (q := 100) rfl ks_200 ?_
  refine hn_newaI (N := 200) (n' := 85) (kc' := 12) (ks' := 1175) hJ hb hn_wI dX8_init_100 (q := 102) rfl (by decide) rfl rfl rfl (by decide) (fun hJ => ?_)
  refine hn_putr (k := 72) (ty := .array .int) (fs' := [.ref (X.2.1 + 73), .ref (X.2.1 + 74), .ref (X.2.1 + 75), .ref (X.2.1 + 76), .ref (X.2.1 + 77), .ref (X.2.1 + 78), .ref (X.2.1 + 79), .ref (X.2.1 + 80), .ref (X.2.1 + 81), .ref (X.2.1 + 82), .ref (X.2.1 + 83), .int 0, .int 12, .int 0, .int 0, .ref (X.2.1 + 84), .null, .null, .null, .null, .null, .null, .int 0, .null, .int 0, .null]) (ty0 := tyX8) hJ hnm fl_X8_47 rfl tyX8_ok nmX8 rfl (by decide +kernel) (by decide) rfl rfl (Nat.le_of_ble_eq_true rfl) rfl rfl dX8_init_102 (q := 105) rfl (fun hJ => ?_)
  refine hn_aload_n hJ.1 dX8_init_105 (q := 106) rfl 0 rfl ?_
  refine hn_iconst hJ.1 dX8_init_106 (q := 107) rfl ki_2 ?_
  refine hn_newaI (N := 2) (n' := 86) (kc' := 13) (ks' := 1177) hJ hb hn_wI dX8_init_107 (q := 109) rfl (by decide) rfl rfl rfl (by decide) (fun hJ => ?_)
  refine hn_putr (k := 72) (ty := .array .int) (fs' := [.ref (X.2.1 + 73), .ref (X.2.1 + 74), .ref (X.2.1 + 75), .ref (X.2.1 + 76), .ref (X.2.1 + 77), .ref (X.2.1 + 78), .ref (X.2.1 + 79), .ref (X.2.1 + 80), .ref (X.2.1 + 81), .ref (X.2.1 + 82), .ref (X.2.1 + 83), .int 0, .int 12, .int 0, .int 0, .ref (X.2.1 + 84), .ref (X.2.1 + 85), .null, .null, .null, .null, .null, .int 0, .null, .int 0, .null]) (ty0 := tyX8) hJ hnm fl_X8_50 rfl tyX8_ok nmX8 rfl (by decide +kernel) (by decide) rfl rfl (Nat.le_of_ble_eq_true rfl) rfl rfl dX8_init_109 (q := 112) rfl (fun hJ => ?_)
  refine hn_aload_n hJ.1 dX8_init_112 (q := 113) rfl 0 rfl ?_
  refine hn_sipush hJ.1 dX8_init_113 (q := 116) rfl ks_400 ?_
  refine hn_newaI (N := 400) (n' := 87) (kc' := 14) (ks' := 1577) hJ hb hn_wI dX8_init_116 (q := 118) rfl (by decide) rfl rfl rfl (by decide) (fun hJ => ?_)
  refine hn_putr (k := 72) (ty := .array .int) (fs' := [.ref (X.2.1 + 73), .ref (X.2.1 + 74), .ref (X.2.1 + 75), .ref (X.2.1 + 76), .ref (X.2.1 + 77), .ref (X.2.1 + 78), .ref (X.2.1 + 79), .ref (X.2.1 + 80), .ref (X.2.1 + 81), .ref (X.2.1 + 82), .ref (X.2.1 + 83), .int 0, .int 12, .int 0, .int 0, .ref (X.2.1 + 84), .ref (X.2.1 + 85), .ref (X.2.1 + 86), .null, .null, .null, .null, .int 0, .null, .int 0, .null]) (ty0 := tyX8) hJ hnm fl_X8_53 rfl tyX8_ok nmX8 rfl (by decide +kernel) (by decide) rfl rfl (Nat.le_of_ble_eq_true rfl) rfl rfl dX8_init_118 (q := 121) rfl (fun hJ => ?_)
  refine hn_aload_n hJ.1 dX8_init_121 (q := 122) rfl 0 rfl ?_
  refine hn_bipush hJ.1 dX8_init_122 (q := 124) rfl kb_24 ?_
  refine hn_newaI (N := 24) (n' := 88) (kc' := 15) (ks' := 1601) hJ hb hn_wI dX8_init_124 (q := 126) rfl (by decide) rfl rfl rfl (by decide) (fun hJ => ?_)
  refine hn_putr (k := 72) (ty := .array .int) (fs' := [.ref (X.2.1 + 73), .ref (X.2.1 + 74), .ref (X.2.1 + 75), .ref (X.2.1 + 76), .ref (X.2.1 + 77), .ref (X.2.1 + 78), .ref (X.2.1 + 79), .ref (X.2.1 + 80), .ref (X.2.1 + 81), .ref (X.2.1 + 82), .ref (X.2.1 + 83), .int 0, .int 12, .int 0, .int 0, .ref (X.2.1 + 84), .ref (X.2.1 + 85), .ref (X.2.1 + 86), .ref (X.2.1 + 87), .null, .null, .null, .int 0, .null, .int 0, .null]) (ty0 := tyX8) hJ hnm fl_X8_56 rfl tyX8_ok nmX8 rfl (by decide +kernel) (by decide) rfl rfl (Nat.le_of_ble_eq_true rfl) rfl rfl dX8_init_126 (q := 129) rfl (fun hJ => ?_)
  refine hn_aload_n hJ.1 dX8_init_129 (q := 130) rfl 0 rfl ?_
  refine hn_bipush hJ.1 dX8_init_130 (q := 132) rfl kb_6 ?_
  refine hn_newaI (N := 6) (n' := 89) (kc' := 16) (ks' := 1607) hJ hb hn_wI dX8_init_132 (q := 134) rfl (by decide) rfl rfl rfl (by decide) (fun hJ => ?_)
  refine hn_putr (k := 72) (ty := .array .int) (fs' := [.ref (X.2.1 + 73), .ref (X.2.1 + 74), .ref (X.2.1 + 75), .ref (X.2.1 + 76), .ref (X.2.1 + 77), .ref (X.2.1 + 78), .ref (X.2.1 + 79), .ref (X.2.1 + 80), .ref (X.2.1 + 81), .ref (X.2.1 + 82), .ref (X.2.1 + 83), .int 0, .int 12, .int 0, .int 0, .ref (X.2.1 + 84), .ref (X.2.1 + 85), .ref (X.2.1 + 86), .ref (X.2.1 + 87), .ref (X.2.1 + 88), .null, .null, .int 0, .null, .int 0, .null]) (ty0 := tyX8) hJ hnm fl_X8_59 rfl tyX8_ok nmX8 rfl (by decide +kernel) (by decide) rfl rfl (Nat.le_of_ble_eq_true rfl) rfl rfl dX8_init_134 (q := 137) rfl (fun hJ => ?_)
  refine hn_aload_n hJ.1 dX8_init_137 (q := 138) rfl 0 rfl ?_
  refine hn_bipush hJ.1 dX8_init_138 (q := 140) rfl kb_12 ?_
  refine hn_newaI (N := 12) (n' := 90) (kc' := 17) (ks' := 1619) hJ hb hn_wI dX8_init_140 (q := 142) rfl (by decide) rfl rfl rfl (by decide) (fun hJ => ?_)
  refine hn_putr (k := 72) (ty := .array .int) (fs' := [.ref (X.2.1 + 73), .ref (X.2.1 + 74), .ref (X.2.1 + 75), .ref (X.2.1 + 76), .ref (X.2.1 + 77), .ref (X.2.1 + 78), .ref (X.2.1 + 79), .ref (X.2.1 + 80), .ref (X.2.1 + 81), .ref (X.2.1 + 82), .ref (X.2.1 + 83), .int 0, .int 12, .int 0, .int 0, .ref (X.2.1 + 84), .ref (X.2.1 + 85), .ref (X.2.1 + 86), .ref (X.2.1 + 87), .ref (X.2.1 + 88), .ref (X.2.1 + 89), .null, .int 0, .null, .int 0, .null]) (ty0 := tyX8) hJ hnm fl_X8_62 rfl tyX8_ok nmX8 rfl (by decide +kernel) (by decide) rfl rfl (Nat.le_of_ble_eq_true rfl) rfl rfl dX8_init_142 (q := 145) rfl (fun hJ => ?_)
  refine hn_aload_n hJ.1 dX8_init_145 (q := 146) rfl 0 rfl ?_
  refine hn_bipush hJ.1 dX8_init_146 (q := 148) rfl kb_12 ?_
  refine hn_newaI (N := 12) (n' := 91) (kc' := 18) (ks' := 1631) hJ hb hn_wI dX8_init_148 (q := 150) rfl (by decide) rfl rfl rfl (by decide) (fun hJ => ?_)
  refine hn_putr (k := 72) (ty := .array .int) (fs' := [.ref (X.2.1 + 73), .ref (X.2.1 + 74), .ref (X.2.1 + 75), .ref (X.2.1 + 76), .ref (X.2.1 + 77), .ref (X.2.1 + 78), .ref (X.2.1 + 79), .ref (X.2.1 + 80), .ref (X.2.1 + 81), .ref (X.2.1 + 82), .ref (X.2.1 + 83), .int 0, .int 12, .int 0, .int 0, .ref (X.2.1 + 84), .ref (X.2.1 + 85), .ref (X.2.1 + 86), .ref (X.2.1 + 87), .ref (X.2.1 + 88), .ref (X.2.1 + 89), .ref (X.2.1 + 90), .int 0, .null, .int 0, .null]) (ty0 := tyX8) hJ hnm fl_X8_65 rfl tyX8_ok nmX8 rfl (by decide +kernel) (by decide) rfl rfl (Nat.le_of_ble_eq_true rfl) rfl rfl dX8_init_150 (q := 153) rfl (fun hJ => ?_)
  refine hn_aload_n hJ.1 dX8_init_153 (q := 154) rfl 0 rfl ?_
  refine hn_bipush hJ.1 dX8_init_154 (q := 156) rfl kb_30 ?_
  refine hn_newaI (N := 30) (n' := 92) (kc' := 19) (ks' := 1661) hJ hb hn_wI dX8_init_156 (q := 158) rfl (by decide) rfl rfl rfl (by decide) (fun hJ => ?_)
  refine hn_putr (k := 72) (ty := .array .int) (fs' := [.ref (X.2.1 + 73), .ref (X.2.1 + 74), .ref (X.2.1 + 75), .ref (X.2.1 + 76), .ref (X.2.1 + 77), .ref (X.2.1 + 78), .ref (X.2.1 + 79), .ref (X.2.1 + 80), .ref (X.2.1 + 81), .ref (X.2.1 + 82), .ref (X.2.1 + 83), .int 0, .int 12, .int 0, .int 0, .ref (X.2.1 + 84), .ref (X.2.1 + 85), .ref (X.2.1 + 86), .ref (X.2.1 + 87), .ref (X.2.1 + 88), .ref (X.2.1 + 89), .ref (X.2.1 + 90), .int 0, .ref (X.2.1 + 91), .int 0, .null]) (ty0 := tyX8) hJ hnm fl_X8_68 rfl tyX8_ok nmX8 rfl (by decide +kernel) (by decide) rfl rfl (Nat.le_of_ble_eq_true rfl) rfl rfl dX8_init_158 (q := 161) rfl (fun hJ => ?_)
  refine hn_aload_n hJ.1 dX8_init_161 (q := 162) rfl 0 rfl ?_
  refine hn_iconst hJ.1 dX8_init_162 (q := 163) rfl ki_4 ?_
  refine hn_newaI (N := 4) (n' := 93) (kc' := 20) (ks' := 1665) hJ hb hn_wI dX8_init_163 (q := 165) rfl (by decide) rfl rfl rfl (by decide) (fun hJ => ?_)
  refine hn_putr (k := 72) (ty := .array .int) (fs' := [.ref (X.2.1 + 73), .ref (X.2.1 + 74), .ref (X.2.1 + 75), .ref (X.2.1 + 76), .ref (X.2.1 + 77), .ref (X.2.1 + 78), .ref (X.2.1 + 79), .ref (X.2.1 + 80), .ref (X.2.1 + 81), .ref (X.2.1 + 82), .ref (X.2.1 + 83), .int 0, .int 12, .int 0, .int 0, .ref (X.2.1 + 84), .ref (X.2.1 + 85), .ref (X.2.1 + 86), .ref (X.2.1 + 87), .ref (X.2.1 + 88), .ref (X.2.1 + 89), .ref (X.2.1 + 90), .int 0, .ref (X.2.1 + 91), .int 0, .ref (X.2.1 + 92)]) (ty0 := tyX8) hJ hnm fl_X8_71 rfl tyX8_ok nmX8 rfl (by decide +kernel) (by decide) rfl rfl (Nat.le_of_ble_eq_true rfl) rfl rfl dX8_init_165 (q := 168) rfl (fun hJ => ?_)
  refine hn_norm (σ' := hn_mix σ 72 21) (μ' := hn_up (hn_zs μ 72 21) 72 12 12) 72 (fun j hj => ⟨?_, ?_⟩) (fun j h1 h2 => ?_) hJ (fun hJ => ?_)
  · rw [hn_mix, if_neg (by omega)]; simp only [hn_sy]; repeat rw [if_neg (by omega)]
  · simp only [hn_zs, hn_zr, hn_up]; repeat rw [if_neg (by omega)]
  · obtain rfl | rfl | rfl | rfl | rfl | rfl | rfl | rfl | rfl | rfl | rfl | rfl | rfl | rfl | rfl | rfl | rfl | rfl | rfl | rfl | rfl : j = 72 ∨ j = 73 ∨ j = 74 ∨ j = 75 ∨ j = 76 ∨ j = 77 ∨ j = 78 ∨ j = 79 ∨ j = 80 ∨ j = 81 ∨ j = 82 ∨ j = 83 ∨ j = 84 ∨ j = 85 ∨ j = 86 ∨ j = 87 ∨ j = 88 ∨ j = 89 ∨ j = 90 ∨ j = 91 ∨ j = 92 := by omega
    all_goals rfl
  have hV : hn_V (hn_mk X 93 (hn_mix σ 72 21)) hn_nM := by
    intro k hk
    obtain rfl | rfl | rfl | rfl | rfl : k = 72 ∨ k = 73 ∨ k = 75 ∨ k = 82 ∨ k = 83 := by simpa [hn_nM] using hk
    all_goals exact ⟨Nat.le_of_ble_eq_true rfl, rfl⟩
  exact gX8_init_168 hJ.1 hQ hV e
def hn_row0 (μ : hn_M) : hn_M := fun a => if a = 0 then (fun j => if j = 7 then 58 else if j = 8 then 65 else if j = 10 then 12 else 0) else μ a
def fX7_init (F : Nat) (μ : hn_M) : Option hn_M := (fX2_reckon F (hn_zs μ 1 5)).bind fun μ1 => (fX1_init F 6 μ1).bind fun μ2 => (fX1_init F 20 μ2).bind fun μ3 => (fX1_init F 33 μ3).bind fun μ4 => some (hn_row0 (hn_zs (hn_zs (hn_zs (hn_zs (hn_zs (hn_zs μ4 46 4) 50 4) 54 2) 56 2) 58 7) 65 7))
theorem hn_wC : Cond.initialized RX0 ∈ hn_tb ∧ Cond.initialized RX1 ∈ hn_tb ∧ Cond.initialized RX2 ∈ hn_tb ∧ Cond.initialized RX3 ∈ hn_tb ∧ Cond.initialized RX4 ∈ hn_tb ∧ Cond.initialized RX5 ∈ hn_tb ∧ Cond.initialized RX6 ∈ hn_tb ∧ Cond.initialized RX7 ∈ hn_tb ∧ Cond.initialized RX8 ∈ hn_tb := ⟨hn_in (by decide +kernel) rfl, hn_in (by decide +kernel) rfl, hn_in (by decide +kernel) rfl, hn_in (by decide +kernel) rfl, hn_in (by decide +kernel) rfl, hn_in (by decide +kernel) rfl, hn_in (by decide +kernel) rfl, hn_in (by decide +kernel) rfl, hn_in (by decide +kernel) rfl⟩
theorem hn_wN0 : Cond.instantiable RX0 8 ∈ hn_tb := hn_in (by decide +kernel) rfl
theorem hn_wN1 : Cond.instantiable RX1 17 ∈ hn_tb := hn_in (by decide +kernel) rfl
theorem hn_wN2 : Cond.instantiable RX2 5 ∈ hn_tb := hn_in (by decide +kernel) rfl
theorem hn_wN3 : Cond.instantiable RX3 4 ∈ hn_tb := hn_in (by decide +kernel) rfl
theorem hn_wN4 : Cond.instantiable RX4 2 ∈ hn_tb := hn_in (by decide +kernel) rfl
theorem hn_wN5 : Cond.instantiable RX5 3 ∈ hn_tb := hn_in (by decide +kernel) rfl
theorem hn_wN6 : Cond.instantiable RX6 1 ∈ hn_tb := hn_in (by decide +kernel) rfl
theorem hn_wN7 : Cond.instantiable RX7 13 ∈ hn_tb := hn_in (by decide +kernel) rfl
theorem hn_wN8 : Cond.instantiable RX8 26 ∈ hn_tb := hn_in (by decide +kernel) rfl
theorem lo_X7 : Cond.methodLink RX7 1 Lib.objectInit ∈ hn_tb := hn_in (by decide +kernel) rfl
theorem cl_X7_7 : Cond.classLink RX7 7 RX2 ∈ hn_tb := hn_in (by decide +kernel) rfl
theorem ms_X2_init : hn_ms yX2_init cX2_init 1 none 0 ∧ Cond.instanceMethod yX2_init ∈ hn_tb := ⟨⟨hn_in (by decide +kernel) rfl, hn_in (by decide +kernel) rfl, by decide +kernel, by decide⟩, hn_in (by decide +kernel) rfl⟩
theorem lj_X7_9 : Cond.methodLink RX7 9 yX2_init ∈ hn_tb ∨ (RX7, 9, yX2_init) ∈ hn_nest := Or.inl (hn_in (by decide +kernel) rfl)
theorem cl_X7_16 : Cond.classLink RX7 16 RX1 ∈ hn_tb := hn_in (by decide +kernel) rfl
theorem ms_X1_init : hn_ms yX1_init cX1_init 1 none 0 ∧ Cond.instanceMethod yX1_init ∈ hn_tb := ⟨⟨hn_in (by decide +kernel) rfl, hn_in (by decide +kernel) rfl, by decide +kernel, by decide⟩, hn_in (by decide +kernel) rfl⟩
theorem lj_X7_18 : Cond.methodLink RX7 18 yX1_init ∈ hn_tb ∨ (RX7, 18, yX1_init) ∈ hn_nest := Or.inl (hn_in (by decide +kernel) rfl)
theorem cl_X7_27 : Cond.classLink RX7 27 RX3 ∈ hn_tb := hn_in (by decide +kernel) rfl
theorem ms_X3_init : hn_ms yX3_init cX3_init 1 none 0 ∧ Cond.instanceMethod yX3_init ∈ hn_tb := ⟨⟨hn_in (by decide +kernel) rfl, hn_in (by decide +kernel) rfl, by decide +kernel, by decide⟩, hn_in (by decide +kernel) rfl⟩
theorem lj_X7_29 : Cond.methodLink RX7 29 yX3_init ∈ hn_tb ∨ (RX7, 29, yX3_init) ∈ hn_nest := Or.inr (by decide +kernel)
theorem cl_X7_34 : Cond.classLink RX7 34 RX5 ∈ hn_tb := hn_in (by decide +kernel) rfl
theorem ms_X5_init : hn_ms yX5_init cX5_init 1 none 0 ∧ Cond.instanceMethod yX5_init ∈ hn_tb := ⟨⟨hn_in (by decide +kernel) rfl, hn_in (by decide +kernel) rfl, by decide +kernel, by decide⟩, hn_in (by decide +kernel) rfl⟩
theorem lj_X7_36 : Cond.methodLink RX7 36 yX5_init ∈ hn_tb ∨ (RX7, 36, yX5_init) ∈ hn_nest := Or.inr (by decide +kernel)
theorem cl_X7_41 : Cond.classLink RX7 41 RX4 ∈ hn_tb := hn_in (by decide +kernel) rfl
theorem ms_X4_init : hn_ms yX4_init cX4_init 1 none 0 ∧ Cond.instanceMethod yX4_init ∈ hn_tb := ⟨⟨hn_in (by decide +kernel) rfl, hn_in (by decide +kernel) rfl, by decide +kernel, by decide⟩, hn_in (by decide +kernel) rfl⟩
theorem lj_X7_43 : Cond.methodLink RX7 43 yX4_init ∈ hn_tb ∨ (RX7, 43, yX4_init) ∈ hn_nest := Or.inr (by decide +kernel)
theorem cl_X7_48 : Cond.classLink RX7 48 RX6 ∈ hn_tb := hn_in (by decide +kernel) rfl
theorem ms_X6_init : hn_ms yX6_init cX6_init 1 none 0 ∧ Cond.instanceMethod yX6_init ∈ hn_tb := ⟨⟨hn_in (by decide +kernel) rfl, hn_in (by decide +kernel) rfl, by decide +kernel, by decide⟩, hn_in (by decide +kernel) rfl⟩
theorem lj_X7_50 : Cond.methodLink RX7 50 yX6_init ∈ hn_tb ∨ (RX7, 50, yX6_init) ∈ hn_nest := Or.inr (by decide +kernel)
theorem cl_X7_55 : Cond.classLink RX7 55 RX0 ∈ hn_tb := hn_in (by decide +kernel) rfl
theorem ms_X0_init : hn_ms yX0_init cX0_init 1 none 0 ∧ Cond.instanceMethod yX0_init ∈ hn_tb := ⟨⟨hn_in (by decide +kernel) rfl, hn_in (by decide +kernel) rfl, by decide +kernel, by decide⟩, hn_in (by decide +kernel) rfl⟩
theorem lj_X7_57 : Cond.methodLink RX7 57 yX0_init ∈ hn_tb ∨ (RX7, 57, yX0_init) ∈ hn_nest := Or.inr (by decide +kernel)
theorem hn_kept19 {X : hn_X} : (Sum.inl (X.2.2.1.2.2, 2, Sum.inr (Sum.inr (Sum.inr (Sum.inr (va_up (va_up (fun _ => none) (0 : Int32).toNatClampNeg (some (X.2.1 + 20))) (1 : Int32).toNatClampNeg (some (X.2.1 + 33))))))) : va_E) = .inl (X.2.2.1.2.2, 2, .inr (.inr (.inr (.inr fun j => (([20, 33] : List Nat)[j]?).map fun t => X.2.1 + t)))) := by
  have hf : va_up (va_up (fun _ => none) (0 : Int32).toNatClampNeg (some (X.2.1 + 20))) (1 : Int32).toNatClampNeg (some (X.2.1 + 33)) = fun j => (([20, 33] : List Nat)[j]?).map fun t => X.2.1 + t := by
    funext j
    match j with
    | 0 => rfl
    | 1 => rfl
    | j + 2 => simp [va_up]
  rw [hf]
set_option maxHeartbeats 4000000 in
set_option maxRecDepth 100000 in
theorem cI_0 {X : hn_X} {σ : Nat → hn_S} {μ μR : hn_M} {F : Nat} (hσ : σ 0 = hn_raw 7 [.null, .null, .null, .null, .null, .null, .null, .null, .null, .int 0, .int 0, .int 0, .int 0]) (e : fX7_init F μ = some μR) : hn_CN yX7_init cX7_init 1 3 (hn_mk X 1 σ) (hn_mk X 72 (hn_mix σ 0 72)) 0 μ μR 71 1664 := by
  unfold fX7_init at e
  obtain ⟨μ1, e1, e⟩ := Option.bind_eq_some_iff.mp e
  obtain ⟨μ2, e2, e⟩ := Option.bind_eq_some_iff.mp e
  obtain ⟨μ3, e3, e⟩ := Option.bind_eq_some_iff.mp e
  obtain ⟨μ4, e4, e⟩ := Option.bind_eq_some_iff.mp e
  refine hn_CN.of RX7 (by decide) rfl rfl (by decide) rfl (fun Z hJ hnm hb hQ => ?_)
  refine hn_aload_n hJ.1 dX7_init_0 (q := 1) rfl 0 rfl ?_
  refine hn_objI hJ.1 lo_X7 hn_wO (by decide) (Nat.le_of_ble_eq_true rfl) dX7_init_1 (q := 4) rfl ?_
  refine hn_aload_n hJ.1 dX7_init_4 (q := 5) rfl 0 rfl ?_
  refine hn_new (ci := 2) (ty := tyX2) (fs := [.null, .null, .null, .null, .int 0]) (n' := 2) (kc' := 1) (ks' := 5) hJ hb rfl ⟨cl_X7_7, hn_wN2, hn_wC.2.2.1⟩ hn_l2 tyX2_ok (by decide) dX7_init_5 (q := 8) rfl rfl rfl rfl (by decide) (fun hJ => ?_)
  refine hn_dup hJ.1 dX7_init_8 (q := 9) rfl rfl ?_
  refine hn_callI (n2 := 6) (kc2 := 5) (ks2 := 149) hJ hb ms_X2_init.1 ms_X2_init.2 rfl lj_X7_9 (by decide) (Nat.le_of_ble_eq_true rfl) dX7_init_9 (q := 12) rfl rfl rfl rfl (by decide) (cI_1 rfl e1) (fun hJ => ?_)
  refine hn_putr (k := 0) (ty := .object "HandNews$Posts") (fs' := [.ref (X.2.1 + 1), .null, .null, .null, .null, .null, .null, .null, .null, .int 0, .int 0, .int 0, .int 0]) (ty0 := tyX7) hJ hnm fl_X7_10 rfl tyX7_ok nmX7 rfl (by decide +kernel) (by decide) hσ rfl (Nat.le_of_ble_eq_true rfl) rfl rfl dX7_init_12 (q := 15) rfl (fun hJ => ?_)
  refine hn_aload_n hJ.1 dX7_init_15 (q := 16) rfl 0 rfl ?_
  refine hn_new (ci := 1) (ty := tyX1) (fs := [.int 0, .null, .null, .null, .int 0, .null, .null, .int 0, .null, .null, .null, .null, .int 0, .int 0, .null, .null, .null]) (n' := 7) (kc' := 6) (ks' := 166) hJ hb rfl ⟨cl_X7_16, hn_wN1, hn_wC.2.1⟩ hn_l1 tyX1_ok (by decide) dX7_init_16 (q := 19) rfl rfl rfl rfl (by decide) (fun hJ => ?_)
  refine hn_dup hJ.1 dX7_init_19 (q := 20) rfl rfl ?_
  refine hn_callI (n2 := 19) (kc2 := 18) (ks2 := 392) hJ hb ms_X1_init.1 ms_X1_init.2 rfl lj_X7_18 (by decide) (Nat.le_of_ble_eq_true rfl) dX7_init_20 (q := 23) rfl rfl rfl rfl (by decide) (cI_6 rfl e2) (fun hJ => ?_)
  refine hn_putr (k := 0) (ty := .object "HandNews$Papers") (fs' := [.ref (X.2.1 + 1), .ref (X.2.1 + 6), .null, .null, .null, .null, .null, .null, .null, .int 0, .int 0, .int 0, .int 0]) (ty0 := tyX7) hJ hnm fl_X7_19 rfl tyX7_ok nmX7 rfl (by decide +kernel) (by decide) rfl rfl (Nat.le_of_ble_eq_true rfl) rfl rfl dX7_init_23 (q := 26) rfl (fun hJ => ?_)
  refine hn_aload_n hJ.1 dX7_init_26 (q := 27) rfl 0 rfl ?_
  refine hn_iconst hJ.1 dX7_init_27 (q := 28) rfl ki_2 ?_
  refine hn_anew (N := 2) (n' := 20) (kc' := 19) (ks' := 394) hJ hb rfl cl_X7_16 dX7_init_28 (q := 31) rfl (by decide) rfl rfl rfl (by decide) (fun hJ => ?_)
  refine hn_dup hJ.1 dX7_init_31 (q := 32) rfl rfl ?_
  refine hn_iconst hJ.1 dX7_init_32 (q := 33) rfl ki_0 ?_
  refine hn_new (ci := 1) (ty := tyX1) (fs := [.int 0, .null, .null, .null, .int 0, .null, .null, .int 0, .null, .null, .null, .null, .int 0, .int 0, .null, .null, .null]) (n' := 21) (kc' := 20) (ks' := 411) hJ hb rfl ⟨cl_X7_16, hn_wN1, hn_wC.2.1⟩ hn_l1 tyX1_ok (by decide) dX7_init_33 (q := 36) rfl rfl rfl rfl (by decide) (fun hJ => ?_)
  refine hn_dup hJ.1 dX7_init_36 (q := 37) rfl rfl ?_
  refine hn_callI (n2 := 33) (kc2 := 32) (ks2 := 637) hJ hb ms_X1_init.1 ms_X1_init.2 rfl lj_X7_18 (by decide) (Nat.le_of_ble_eq_true rfl) dX7_init_37 (q := 40) rfl rfl rfl rfl (by decide) (cI_20 rfl e3) (fun hJ => ?_)
  refine hn_astr (k := 19) (t := 20) (ci := 1) hJ (by decide) rfl (hn_at_O (B := hn_mk X 33 _) (ks := hn_k20) ⟨Nat.le_of_ble_eq_true rfl, rfl⟩ _) rfl (by show ¬ ((0 : Int32) < 0 ∨ 2 ≤ (0 : Int32).toNatClampNeg); decide) dX7_init_40 (q := 41) rfl (fun hJ => ?_)
  refine hn_dup hJ.1 dX7_init_41 (q := 42) rfl rfl ?_
  refine hn_iconst hJ.1 dX7_init_42 (q := 43) rfl ki_1 ?_
  refine hn_new (ci := 1) (ty := tyX1) (fs := [.int 0, .null, .null, .null, .int 0, .null, .null, .int 0, .null, .null, .null, .null, .int 0, .int 0, .null, .null, .null]) (n' := 34) (kc' := 33) (ks' := 654) hJ hb rfl ⟨cl_X7_16, hn_wN1, hn_wC.2.1⟩ hn_l1 tyX1_ok (by decide) dX7_init_43 (q := 46) rfl rfl rfl rfl (by decide) (fun hJ => ?_)
  refine hn_dup hJ.1 dX7_init_46 (q := 47) rfl rfl ?_
  refine hn_callI (n2 := 46) (kc2 := 45) (ks2 := 880) hJ hb ms_X1_init.1 ms_X1_init.2 rfl lj_X7_18 (by decide) (Nat.le_of_ble_eq_true rfl) dX7_init_47 (q := 50) rfl rfl rfl rfl (by decide) (cI_33 rfl e4) (fun hJ => ?_)
  refine hn_astr (k := 19) (t := 33) (ci := 1) hJ (by decide) rfl (hn_at_O (B := hn_mk X 46 _) (ks := hn_k33) ⟨Nat.le_of_ble_eq_true rfl, rfl⟩ _) rfl (by show ¬ ((1 : Int32) < 0 ∨ 2 ≤ (1 : Int32).toNatClampNeg); decide) dX7_init_50 (q := 51) rfl (fun hJ => ?_)
  refine hn_putr (k := 0) (ty := .array (.object "HandNews$Papers")) (fs' := [.ref (X.2.1 + 1), .ref (X.2.1 + 6), .ref (X.2.1 + 19), .null, .null, .null, .null, .null, .null, .int 0, .int 0, .int 0, .int 0]) (ty0 := tyX7) hJ hnm fl_X7_23 rfl tyX7_ok nmX7 rfl (by decide +kernel) (by decide) rfl rfl (Nat.le_of_ble_eq_true rfl) rfl rfl dX7_init_51 (q := 54) rfl (fun hJ => ?_)
  refine hn_aload_n hJ.1 dX7_init_54 (q := 55) rfl 0 rfl ?_
  refine hn_new (ci := 3) (ty := tyX3) (fs := [.null, .null, .null, .int 0]) (n' := 47) (kc' := 46) (ks' := 884) hJ hb rfl ⟨cl_X7_27, hn_wN3, hn_wC.2.2.2.1⟩ hn_l3 tyX3_ok (by decide) dX7_init_55 (q := 58) rfl rfl rfl rfl (by decide) (fun hJ => ?_)
  refine hn_dup hJ.1 dX7_init_58 (q := 59) rfl rfl ?_
  refine hn_callI (n2 := 50) (kc2 := 49) (ks2 := 920) hJ hb ms_X3_init.1 ms_X3_init.2 rfl lj_X7_29 (by decide) (Nat.le_of_ble_eq_true rfl) dX7_init_59 (q := 62) rfl rfl rfl rfl (by decide) (cI_46 rfl) (fun hJ => ?_)
  refine hn_putr (k := 0) (ty := .object "HandNews$Spans") (fs' := [.ref (X.2.1 + 1), .ref (X.2.1 + 6), .ref (X.2.1 + 19), .ref (X.2.1 + 46), .null, .null, .null, .null, .null, .int 0, .int 0, .int 0, .int 0]) (ty0 := tyX7) hJ hnm fl_X7_30 rfl tyX7_ok nmX7 rfl (by decide +kernel) (by decide) rfl rfl (Nat.le_of_ble_eq_true rfl) rfl rfl dX7_init_62 (q := 65) rfl (fun hJ => ?_)
  refine hn_aload_n hJ.1 dX7_init_65 (q := 66) rfl 0 rfl ?_
  refine hn_new (ci := 5) (ty := tyX5) (fs := [.null, .null, .null]) (n' := 51) (kc' := 50) (ks' := 923) hJ hb rfl ⟨cl_X7_34, hn_wN5, hn_wC.2.2.2.2.2.1⟩ hn_l5 tyX5_ok (by decide) dX7_init_66 (q := 69) rfl rfl rfl rfl (by decide) (fun hJ => ?_)
  refine hn_dup hJ.1 dX7_init_69 (q := 70) rfl rfl ?_
  refine hn_callI (n2 := 54) (kc2 := 53) (ks2 := 1013) hJ hb ms_X5_init.1 ms_X5_init.2 rfl lj_X7_36 (by decide) (Nat.le_of_ble_eq_true rfl) dX7_init_70 (q := 73) rfl rfl rfl rfl (by decide) (cI_50 rfl) (fun hJ => ?_)
  refine hn_putr (k := 0) (ty := .object "HandNews$Tree") (fs' := [.ref (X.2.1 + 1), .ref (X.2.1 + 6), .ref (X.2.1 + 19), .ref (X.2.1 + 46), .ref (X.2.1 + 50), .null, .null, .null, .null, .int 0, .int 0, .int 0, .int 0]) (ty0 := tyX7) hJ hnm fl_X7_37 rfl tyX7_ok nmX7 rfl (by decide +kernel) (by decide) rfl rfl (Nat.le_of_ble_eq_true rfl) rfl rfl dX7_init_73 (q := 76) rfl (fun hJ => ?_)
  refine hn_aload_n hJ.1 dX7_init_76 (q := 77) rfl 0 rfl ?_
  refine hn_new (ci := 4) (ty := tyX4) (fs := [.null, .int 0]) (n' := 55) (kc' := 54) (ks' := 1015) hJ hb rfl ⟨cl_X7_41, hn_wN4, hn_wC.2.2.2.2.1⟩ hn_l4 tyX4_ok (by decide) dX7_init_77 (q := 80) rfl rfl rfl rfl (by decide) (fun hJ => ?_)
  refine hn_dup hJ.1 dX7_init_80 (q := 81) rfl rfl ?_
  refine hn_callI (n2 := 56) (kc2 := 55) (ks2 := 1215) hJ hb ms_X4_init.1 ms_X4_init.2 rfl lj_X7_43 (by decide) (Nat.le_of_ble_eq_true rfl) dX7_init_81 (q := 84) rfl rfl rfl rfl (by decide) (cI_54 rfl) (fun hJ => ?_)
  refine hn_putr (k := 0) (ty := .object "HandNews$Text") (fs' := [.ref (X.2.1 + 1), .ref (X.2.1 + 6), .ref (X.2.1 + 19), .ref (X.2.1 + 46), .ref (X.2.1 + 50), .ref (X.2.1 + 54), .null, .null, .null, .int 0, .int 0, .int 0, .int 0]) (ty0 := tyX7) hJ hnm fl_X7_44 rfl tyX7_ok nmX7 rfl (by decide +kernel) (by decide) rfl rfl (Nat.le_of_ble_eq_true rfl) rfl rfl dX7_init_84 (q := 87) rfl (fun hJ => ?_)
  refine hn_aload_n hJ.1 dX7_init_87 (q := 88) rfl 0 rfl ?_
  refine hn_new (ci := 6) (ty := tyX6) (fs := [.null]) (n' := 57) (kc' := 56) (ks' := 1216) hJ hb rfl ⟨cl_X7_48, hn_wN6, hn_wC.2.2.2.2.2.2.1⟩ hn_l6 tyX6_ok (by decide) dX7_init_88 (q := 91) rfl rfl rfl rfl (by decide) (fun hJ => ?_)
  refine hn_dup hJ.1 dX7_init_91 (q := 92) rfl rfl ?_
  refine hn_callI (n2 := 58) (kc2 := 57) (ks2 := 1240) hJ hb ms_X6_init.1 ms_X6_init.2 rfl lj_X7_50 (by decide) (Nat.le_of_ble_eq_true rfl) dX7_init_92 (q := 95) rfl rfl rfl rfl (by decide) (cI_56 rfl) (fun hJ => ?_)
  refine hn_putr (k := 0) (ty := .object "HandNews$Worths") (fs' := [.ref (X.2.1 + 1), .ref (X.2.1 + 6), .ref (X.2.1 + 19), .ref (X.2.1 + 46), .ref (X.2.1 + 50), .ref (X.2.1 + 54), .ref (X.2.1 + 56), .null, .null, .int 0, .int 0, .int 0, .int 0]) (ty0 := tyX7) hJ hnm fl_X7_51 rfl tyX7_ok nmX7 rfl (by decide +kernel) (by decide) rfl rfl (Nat.le_of_ble_eq_true rfl) rfl rfl dX7_init_95 (q := 98) rfl (fun hJ => ?_)
  refine hn_aload_n hJ.1 dX7_init_98 (q := 99) rfl 0 rfl ?_
  refine hn_new (ci := 0) (ty := tyX0) (fs := [.null, .null, .null, .null, .null, .null, .int 0, .int 0]) (n' := 59) (kc' := 58) (ks' := 1248) hJ hb rfl ⟨cl_X7_55, hn_wN0, hn_wC.1⟩ hn_l0 tyX0_ok (by decide) dX7_init_99 (q := 102) rfl rfl rfl rfl (by decide) (fun hJ => ?_)
  refine hn_dup hJ.1 dX7_init_102 (q := 103) rfl rfl ?_
  refine hn_callI (n2 := 65) (kc2 := 64) (ks2 := 1452) hJ hb ms_X0_init.1 ms_X0_init.2 rfl lj_X7_57 (by decide) (Nat.le_of_ble_eq_true rfl) dX7_init_103 (q := 106) rfl rfl rfl rfl (by decide) (cI_58 rfl) (fun hJ => ?_)
  refine hn_putr (k := 0) (ty := .object "HandNews$Items") (fs' := [.ref (X.2.1 + 1), .ref (X.2.1 + 6), .ref (X.2.1 + 19), .ref (X.2.1 + 46), .ref (X.2.1 + 50), .ref (X.2.1 + 54), .ref (X.2.1 + 56), .ref (X.2.1 + 58), .null, .int 0, .int 0, .int 0, .int 0]) (ty0 := tyX7) hJ hnm fl_X7_58 rfl tyX7_ok nmX7 rfl (by decide +kernel) (by decide) rfl rfl (Nat.le_of_ble_eq_true rfl) rfl rfl dX7_init_106 (q := 109) rfl (fun hJ => ?_)
  refine hn_aload_n hJ.1 dX7_init_109 (q := 110) rfl 0 rfl ?_
  refine hn_new (ci := 0) (ty := tyX0) (fs := [.null, .null, .null, .null, .null, .null, .int 0, .int 0]) (n' := 66) (kc' := 65) (ks' := 1460) hJ hb rfl ⟨cl_X7_55, hn_wN0, hn_wC.1⟩ hn_l0 tyX0_ok (by decide) dX7_init_110 (q := 113) rfl rfl rfl rfl (by decide) (fun hJ => ?_)
  refine hn_dup hJ.1 dX7_init_113 (q := 114) rfl rfl ?_
  refine hn_callI (n2 := 72) (kc2 := 71) (ks2 := 1664) hJ hb ms_X0_init.1 ms_X0_init.2 rfl lj_X7_57 (by decide) (Nat.le_of_ble_eq_true rfl) dX7_init_114 (q := 117) rfl rfl rfl rfl (by decide) (cI_65 rfl) (fun hJ => ?_)
  refine hn_putr (k := 0) (ty := .object "HandNews$Items") (fs' := [.ref (X.2.1 + 1), .ref (X.2.1 + 6), .ref (X.2.1 + 19), .ref (X.2.1 + 46), .ref (X.2.1 + 50), .ref (X.2.1 + 54), .ref (X.2.1 + 56), .ref (X.2.1 + 58), .ref (X.2.1 + 65), .int 0, .int 0, .int 0, .int 0]) (ty0 := tyX7) hJ hnm fl_X7_62 rfl tyX7_ok nmX7 rfl (by decide +kernel) (by decide) rfl rfl (Nat.le_of_ble_eq_true rfl) rfl rfl dX7_init_117 (q := 120) rfl (fun hJ => ?_)
  refine hn_aload_n hJ.1 dX7_init_120 (q := 121) rfl 0 rfl ?_
  refine hn_iconst hJ.1 dX7_init_121 (q := 122) rfl ki_0 ?_
  refine hn_putr (k := 0) (ty := .int) (fs' := [.ref (X.2.1 + 1), .ref (X.2.1 + 6), .ref (X.2.1 + 19), .ref (X.2.1 + 46), .ref (X.2.1 + 50), .ref (X.2.1 + 54), .ref (X.2.1 + 56), .ref (X.2.1 + 58), .ref (X.2.1 + 65), .int 0, .int 0, .int 0, .int 0]) (ty0 := tyX7) hJ hnm fl_X7_65 rfl tyX7_ok nmX7 rfl (by decide +kernel) (by decide) rfl rfl (Nat.le_of_ble_eq_true rfl) rfl rfl dX7_init_122 (q := 125) rfl (fun hJ => ?_)
  refine hn_aload_n hJ.1 dX7_init_125 (q := 126) rfl 0 rfl ?_
  refine hn_bipush hJ.1 dX7_init_126 (q := 128) rfl kb_12 ?_
  refine hn_putr (k := 0) (ty := .int) (fs' := [.ref (X.2.1 + 1), .ref (X.2.1 + 6), .ref (X.2.1 + 19), .ref (X.2.1 + 46), .ref (X.2.1 + 50), .ref (X.2.1 + 54), .ref (X.2.1 + 56), .ref (X.2.1 + 58), .ref (X.2.1 + 65), .int 0, .int 12, .int 0, .int 0]) (ty0 := tyX7) hJ hnm fl_X7_69 rfl tyX7_ok nmX7 rfl (by decide +kernel) (by decide) rfl rfl (Nat.le_of_ble_eq_true rfl) rfl rfl dX7_init_128 (q := 131) rfl (fun hJ => ?_)
  refine hn_aload_n hJ.1 dX7_init_131 (q := 132) rfl 0 rfl ?_
  refine hn_iconst hJ.1 dX7_init_132 (q := 133) rfl ki_0 ?_
  refine hn_putr (k := 0) (ty := .int) (fs' := [.ref (X.2.1 + 1), .ref (X.2.1 + 6), .ref (X.2.1 + 19), .ref (X.2.1 + 46), .ref (X.2.1 + 50), .ref (X.2.1 + 54), .ref (X.2.1 + 56), .ref (X.2.1 + 58), .ref (X.2.1 + 65), .int 0, .int 12, .int 0, .int 0]) (ty0 := tyX7) hJ hnm fl_X7_72 rfl tyX7_ok nmX7 rfl (by decide +kernel) (by decide) rfl rfl (Nat.le_of_ble_eq_true rfl) rfl rfl dX7_init_133 (q := 136) rfl (fun hJ => ?_)
  refine hn_aload_n hJ.1 dX7_init_136 (q := 137) rfl 0 rfl ?_
  refine hn_iconst hJ.1 dX7_init_137 (q := 138) rfl ki_0 ?_
  refine hn_putr (k := 0) (ty := .boolean) (fs' := [.ref (X.2.1 + 1), .ref (X.2.1 + 6), .ref (X.2.1 + 19), .ref (X.2.1 + 46), .ref (X.2.1 + 50), .ref (X.2.1 + 54), .ref (X.2.1 + 56), .ref (X.2.1 + 58), .ref (X.2.1 + 65), .int 0, .int 12, .int 0, .int 0]) (ty0 := tyX7) hJ hnm fl_X7_75 rfl tyX7_ok nmX7 rfl (by decide +kernel) (by decide) rfl rfl (Nat.le_of_ble_eq_true rfl) rfl rfl dX7_init_138 (q := 141) rfl (fun hJ => ?_)
  refine hn_norm (σ' := hn_mix σ 0 72) (μ' := hn_row0 (hn_zs (hn_zs (hn_zs (hn_zs (hn_zs (hn_zs μ4 46 4) 50 4) 54 2) 56 2) 58 7) 65 7)) 0 (fun j hj => absurd hj (Nat.not_lt_zero _)) (fun j h1 h2 => ?_) hJ (fun hJ => ?_)
  · by_cases h19 : j = 19
    · subst h19
      exact hn_kept19
    · obtain rfl | rfl | rfl | rfl | rfl | rfl | rfl | rfl | rfl | rfl | rfl | rfl | rfl | rfl | rfl | rfl | rfl | rfl | rfl | rfl | rfl | rfl | rfl | rfl | rfl | rfl | rfl | rfl | rfl | rfl | rfl | rfl | rfl | rfl | rfl | rfl | rfl | rfl | rfl | rfl | rfl | rfl | rfl | rfl | rfl | rfl | rfl | rfl | rfl | rfl | rfl | rfl | rfl | rfl | rfl | rfl | rfl | rfl | rfl | rfl | rfl | rfl | rfl | rfl | rfl | rfl | rfl | rfl | rfl | rfl | rfl : j = 0 ∨ j = 1 ∨ j = 2 ∨ j = 3 ∨ j = 4 ∨ j = 5 ∨ j = 6 ∨ j = 7 ∨ j = 8 ∨ j = 9 ∨ j = 10 ∨ j = 11 ∨ j = 12 ∨ j = 13 ∨ j = 14 ∨ j = 15 ∨ j = 16 ∨ j = 17 ∨ j = 18 ∨ j = 20 ∨ j = 21 ∨ j = 22 ∨ j = 23 ∨ j = 24 ∨ j = 25 ∨ j = 26 ∨ j = 27 ∨ j = 28 ∨ j = 29 ∨ j = 30 ∨ j = 31 ∨ j = 32 ∨ j = 33 ∨ j = 34 ∨ j = 35 ∨ j = 36 ∨ j = 37 ∨ j = 38 ∨ j = 39 ∨ j = 40 ∨ j = 41 ∨ j = 42 ∨ j = 43 ∨ j = 44 ∨ j = 45 ∨ j = 46 ∨ j = 47 ∨ j = 48 ∨ j = 49 ∨ j = 50 ∨ j = 51 ∨ j = 52 ∨ j = 53 ∨ j = 54 ∨ j = 55 ∨ j = 56 ∨ j = 57 ∨ j = 58 ∨ j = 59 ∨ j = 60 ∨ j = 61 ∨ j = 62 ∨ j = 63 ∨ j = 64 ∨ j = 65 ∨ j = 66 ∨ j = 67 ∨ j = 68 ∨ j = 69 ∨ j = 70 ∨ j = 71 := by omega
      all_goals rfl
  exact hn_vretN hJ.1 hQ dX7_init_141 e
