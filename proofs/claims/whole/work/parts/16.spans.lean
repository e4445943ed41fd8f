/-! HandNews$Spans.layFloors(LHandNews$Papers;LHandNews$Posts;[I)V -/
def fX3_layFloors_113 (F : Nat) (d : Nat) (k36 : Int32 → hn_M → Option hn_M) (l4 : Int32) (μ : hn_M) : Option hn_M := k36 (l4 + 1) μ
def fX3_layFloors_36 (F : Nat) (d : Nat) : Nat → Int32 → hn_M → Option hn_M
  | 0, _, _ => none
  | n + 1, l4, μ => if μ 6 7 ≤ l4 then some μ else hn_rd μ 13 30 l4 fun v1 => hn_rd μ 12 30 l4 fun v2 => (fX1_hasHappened μ v1).bind fun v3 => if v3 = 0 then fX3_layFloors_113 F d (fX3_layFloors_36 F d n) l4 μ else hn_rd μ 17 10 v1 fun v4 => hn_rd μ 16 10 v1 fun v5 => hn_rd μ 7 12 v2 fun v6 => (fX2_days μ v5 v6).bind fun v7 => hn_rd μ d 12 v2 fun v8 => hn_wr μ d 12 v2 (if v8 < v4 + v7 then v4 + v7 else v8) fun μ9 => fX3_layFloors_113 F d (fX3_layFloors_36 F d n) l4 μ9
def fX3_layFloors_33 (F : Nat) (d : Nat) (μ : hn_M) : Option hn_M := fX3_layFloors_36 F d F 0 μ
def fX3_layFloors_3 (F : Nat) (d : Nat) : Nat → Int32 → hn_M → Option hn_M
  | 0, _, _ => none
  | n + 1, l4, μ => if μ 6 0 ≤ l4 then fX3_layFloors_33 F d μ else hn_rd μ 9 12 l4 fun v10 => hn_wr μ d 12 l4 (if v10 < 0 then 0 else v10) fun μ11 => fX3_layFloors_3 F d n (l4 + 1) μ11
def fX3_layFloors (F : Nat) (d : Nat) (μ : hn_M) : Option hn_M := fX3_layFloors_3 F d F 0 μ
set_option maxHeartbeats 1000000 in
theorem gX3_layFloors_113 {Z : hn_Z} {B : hn_B} {F : Nat} {d : Nat} {R : hn_M} (hF : hn_F Z B (0, 0) cX3_layFloors 8 RX3 none 1) (hQ : hn_goal Z B (none, R)) (hV : hn_V B hn_nA) (h_d : hn_tD d) {k36 : Int32 → hn_M → Option hn_M} (H36 : ∀ (l4 : Int32) (μ : hn_M), k36 l4 μ = some R → hn_G Z B (0, 0) 8 36 [(1, .ref (hn_base B + 6)), (2, .ref (hn_base B + 1)), (3, .ref (hn_base B + d)), (4, .int l4)] [] μ) {l4 : Int32} {μ : hn_M} (e : fX3_layFloors_113 F d k36 l4 μ = some R) : hn_G Z B (0, 0) 8 113 [(1, .ref (hn_base B + 6)), (2, .ref (hn_base B + 1)), (3, .ref (hn_base B + d)), (4, .int l4)] [] μ := by
  unfold fX3_layFloors_113 at e
  refine hn_iinc (p := 3) hF dX3_layFloors_113 (q := 116) rfl rfl (kn_1 _) (by decide) (L' := [(4, .int (l4 + 1)), (1, .ref (hn_base B + 6)), (2, .ref (hn_base B + 1)), (3, .ref (hn_base B + d))]) rfl ?_
  refine hn_goto hF dX3_layFloors_116 (q := 36) rfl ?_
  refine hn_sub [1, 2, 3, 0] (L' := [(1, .ref (hn_base B + 6)), (2, .ref (hn_base B + 1)), (3, .ref (hn_base B + d)), (4, .int (l4 + 1))]) rfl ?_
  exact H36 (l4 + 1) μ e
set_option maxHeartbeats 1000000 in
theorem gX3_layFloors_36 {Z : hn_Z} {B : hn_B} {F : Nat} {d : Nat} {R : hn_M} (hF : hn_F Z B (0, 0) cX3_layFloors 8 RX3 none 1) (hQ : hn_goal Z B (none, R)) (hV : hn_V B hn_nA) (h_d : hn_tD d) : ∀ (n : Nat) (l4 : Int32) (μ : hn_M), fX3_layFloors_36 F d n l4 μ = some R → hn_G Z B (0, 0) 8 36 [(1, .ref (hn_base B + 6)), (2, .ref (hn_base B + 1)), (3, .ref (hn_base B + d)), (4, .int l4)] [] μ := by
  have a12 : hn_isA B 12 false 30 := hV 12 (by decide)
  have a13 : hn_isA B 13 false 30 := hV 13 (by decide)
  have a16 : hn_isA B 16 false 10 := hV 16 (by decide)
  have a17 : hn_isA B 17 false 10 := hV 17 (by decide)
  have a7 : hn_isA B 7 false 12 := hV 7 (by decide)
  have o1 : hn_isO B 1 2 hn_k1 := hV 1 (by decide)
  have o6 : hn_isO B 6 1 hn_k6 := hV 6 (by decide)
  intro n
  induction n with
  | zero => intro l4 μ e; rw [fX3_layFloors_36] at e; cases e
  | succ n ih =>
    intro l4 μ e
    rw [fX3_layFloors_36] at e
    refine hn_iload hF dX3_layFloors_36 (q := 38) rfl 3 rfl ?_
    refine hn_aload_n hF dX3_layFloors_38 (q := 39) rfl 0 rfl ?_
    refine hn_get hF fl_X3_56 o6 rfl rfl dX3_layFloors_39 (q := 42) rfl ?_
    refine hn_icmp_ge hF dX3_layFloors_42 (t := 119) (q := 45) rfl rfl e (fun e => ?_) (fun e => ?_)
    · exact hn_vretM hF hQ dX3_layFloors_119 e
    · refine hn_aload_n hF dX3_layFloors_45 (q := 46) rfl 0 rfl ?_
      refine hn_get hF fl_X3_59 o6 rfl rfl dX3_layFloors_46 (q := 49) rfl ?_
      refine hn_iload hF dX3_layFloors_49 (q := 51) rfl 3 rfl ?_
      refine hn_ald hF a13 dX3_layFloors_51 (q := 52) rfl e (fun v1 e => ?_)
      refine hn_istore hF dX3_layFloors_52 (q := 54) rfl (by decide) (L' := [(5, .int v1), (1, .ref (hn_base B + 6)), (2, .ref (hn_base B + 1)), (3, .ref (hn_base B + d)), (4, .int l4)]) rfl ?_
      refine hn_aload_n hF dX3_layFloors_54 (q := 55) rfl 1 rfl ?_
      refine hn_get hF fl_X3_62 o6 rfl rfl dX3_layFloors_55 (q := 58) rfl ?_
      refine hn_iload hF dX3_layFloors_58 (q := 60) rfl 4 rfl ?_
      refine hn_ald hF a12 dX3_layFloors_60 (q := 61) rfl e (fun v2 e => ?_)
      refine hn_istore hF dX3_layFloors_61 (q := 63) rfl (by decide) (L' := [(6, .int v2), (5, .int v1), (1, .ref (hn_base B + 6)), (2, .ref (hn_base B + 1)), (3, .ref (hn_base B + d)), (4, .int l4)]) rfl ?_
      refine hn_aload_n hF dX3_layFloors_63 (q := 64) rfl 2 rfl ?_
      refine hn_iload hF dX3_layFloors_64 (q := 66) rfl 1 rfl ?_
      refine hn_callVi (rest := []) hF ms_X1_hasHappened mv_X1_hasHappened lk_X3_65 o6 rfl (by decide) [.int v1] rfl (Nat.le_of_ble_eq_true rfl) dX3_layFloors_66 (q := 69) rfl rfl e (fun v hv => cX1_hasHappened_ hV hv) (fun v3 e => ?_)
      refine hn_if_eq hF dX3_layFloors_69 (t := 113) (q := 72) rfl rfl e (fun e => ?_) (fun e => ?_)
      · refine hn_sub [2, 3, 4, 5] (L' := [(1, .ref (hn_base B + 6)), (2, .ref (hn_base B + 1)), (3, .ref (hn_base B + d)), (4, .int l4)]) rfl ?_
        exact gX3_layFloors_113 hF hQ hV h_d ih e
      · refine hn_aload_n hF dX3_layFloors_72 (q := 73) rfl 2 rfl ?_
        refine hn_get hF fl_X3_69 o6 rfl rfl dX3_layFloors_73 (q := 76) rfl ?_
        refine hn_iload hF dX3_layFloors_76 (q := 78) rfl 1 rfl ?_
        refine hn_ald hF a17 dX3_layFloors_78 (q := 79) rfl e (fun v4 e => ?_)
        refine hn_aload_n hF dX3_layFloors_79 (q := 80) rfl 3 rfl ?_
        refine hn_aload_n hF dX3_layFloors_80 (q := 81) rfl 2 rfl ?_
        refine hn_get hF fl_X3_72 o6 rfl rfl dX3_layFloors_81 (q := 84) rfl ?_
        refine hn_iload hF dX3_layFloors_84 (q := 86) rfl 1 rfl ?_
        refine hn_ald hF a16 dX3_layFloors_86 (q := 87) rfl e (fun v5 e => ?_)
        refine hn_aload_n hF dX3_layFloors_87 (q := 88) rfl 2 rfl ?_
        refine hn_get hF fl_X3_75 o6 rfl rfl dX3_layFloors_88 (q := 91) rfl ?_
        refine hn_iload hF dX3_layFloors_91 (q := 93) rfl 0 rfl ?_
        refine hn_ald hF a7 dX3_layFloors_93 (q := 94) rfl e (fun v6 e => ?_)
        refine hn_callVi (rest := [.int v4]) hF ms_X2_days mv_X2_days lk_X3_78 o1 rfl (by decide) [.int v5, .int v6] rfl (Nat.le_of_ble_eq_true rfl) dX3_layFloors_94 (q := 97) rfl rfl e (fun v hv => cX2_days_ hV.P hv) (fun v7 e => ?_)
        refine hn_iadd hF dX3_layFloors_97 (q := 98) rfl ?_
        refine hn_istore hF dX3_layFloors_98 (q := 100) rfl (by decide) (L' := [(7, .int (v4 + v7)), (6, .int v2), (5, .int v1), (1, .ref (hn_base B + 6)), (2, .ref (hn_base B + 1)), (3, .ref (hn_base B + d)), (4, .int l4)]) rfl ?_
        refine hn_aload_n hF dX3_layFloors_100 (q := 101) rfl 5 rfl ?_
        refine hn_iload hF dX3_layFloors_101 (q := 103) rfl 1 rfl ?_
        refine hn_aload_n hF dX3_layFloors_103 (q := 104) rfl 5 rfl ?_
        refine hn_iload hF dX3_layFloors_104 (q := 106) rfl 1 rfl ?_
        refine hn_ald hF (hn_Da hV h_d) dX3_layFloors_106 (q := 107) rfl e (fun v8 e => ?_)
        refine hn_iload hF dX3_layFloors_107 (q := 109) rfl 0 rfl ?_
        refine hn_max hF lm_X3_50 (Nat.le_of_ble_eq_true rfl) (Nat.le_of_ble_eq_true rfl) dX3_layFloors_109 (q := 112) rfl ?_
        refine hn_ast hF (hn_Da hV h_d) dX3_layFloors_112 (q := 113) rfl e (fun μ9 e => ?_)
        refine hn_sub [3, 4, 5, 6] (L' := [(1, .ref (hn_base B + 6)), (2, .ref (hn_base B + 1)), (3, .ref (hn_base B + d)), (4, .int l4)]) rfl ?_
        exact gX3_layFloors_113 hF hQ hV h_d ih e
set_option maxHeartbeats 1000000 in
theorem gX3_layFloors_33 {Z : hn_Z} {B : hn_B} {F : Nat} {d : Nat} {R : hn_M} (hF : hn_F Z B (0, 0) cX3_layFloors 8 RX3 none 1) (hQ : hn_goal Z B (none, R)) (hV : hn_V B hn_nA) (h_d : hn_tD d) {μ : hn_M} (e : fX3_layFloors_33 F d μ = some R) : hn_G Z B (0, 0) 8 33 [(1, .ref (hn_base B + 6)), (2, .ref (hn_base B + 1)), (3, .ref (hn_base B + d))] [] μ := by
  unfold fX3_layFloors_33 at e
  refine hn_iconst hF dX3_layFloors_33 (q := 34) rfl ki_0 ?_
  refine hn_istore hF dX3_layFloors_34 (q := 36) rfl (by decide) (L' := [(4, .int 0), (1, .ref (hn_base B + 6)), (2, .ref (hn_base B + 1)), (3, .ref (hn_base B + d))]) rfl ?_
  refine hn_sub [1, 2, 3, 0] (L' := [(1, .ref (hn_base B + 6)), (2, .ref (hn_base B + 1)), (3, .ref (hn_base B + d)), (4, .int 0)]) rfl ?_
  exact gX3_layFloors_36 hF hQ hV h_d F 0 μ e
set_option maxHeartbeats 1000000 in
theorem gX3_layFloors_3 {Z : hn_Z} {B : hn_B} {F : Nat} {d : Nat} {R : hn_M} (hF : hn_F Z B (0, 0) cX3_layFloors 8 RX3 none 1) (hQ : hn_goal Z B (none, R)) (hV : hn_V B hn_nA) (h_d : hn_tD d) : ∀ (n : Nat) (l4 : Int32) (μ : hn_M), fX3_layFloors_3 F d n l4 μ = some R → hn_G Z B (0, 0) 8 3 [(1, .ref (hn_base B + 6)), (2, .ref (hn_base B + 1)), (3, .ref (hn_base B + d)), (4, .int l4)] [] μ := by
  have a9 : hn_isA B 9 false 12 := hV 9 (by decide)
  have o6 : hn_isO B 6 1 hn_k6 := hV 6 (by decide)
  intro n
  induction n with
  | zero => intro l4 μ e; rw [fX3_layFloors_3] at e; cases e
  | succ n ih =>
    intro l4 μ e
    rw [fX3_layFloors_3] at e
    refine hn_iload hF dX3_layFloors_3 (q := 5) rfl 3 rfl ?_
    refine hn_aload_n hF dX3_layFloors_5 (q := 6) rfl 0 rfl ?_
    refine hn_get hF fl_X3_41 o6 rfl rfl dX3_layFloors_6 (q := 9) rfl ?_
    refine hn_icmp_ge hF dX3_layFloors_9 (t := 33) (q := 12) rfl rfl e (fun e => ?_) (fun e => ?_)
    · refine hn_sub [0, 1, 2] (L' := [(1, .ref (hn_base B + 6)), (2, .ref (hn_base B + 1)), (3, .ref (hn_base B + d))]) rfl ?_
      exact gX3_layFloors_33 hF hQ hV h_d e
    · refine hn_aload_n hF dX3_layFloors_12 (q := 13) rfl 2 rfl ?_
      refine hn_iload hF dX3_layFloors_13 (q := 15) rfl 3 rfl ?_
      refine hn_aload_n hF dX3_layFloors_15 (q := 16) rfl 0 rfl ?_
      refine hn_get hF fl_X3_47 o6 rfl rfl dX3_layFloors_16 (q := 19) rfl ?_
      refine hn_iload hF dX3_layFloors_19 (q := 21) rfl 3 rfl ?_
      refine hn_ald hF a9 dX3_layFloors_21 (q := 22) rfl e (fun v10 e => ?_)
      refine hn_iconst hF dX3_layFloors_22 (q := 23) rfl ki_0 ?_
      refine hn_max hF lm_X3_50 (Nat.le_of_ble_eq_true rfl) (Nat.le_of_ble_eq_true rfl) dX3_layFloors_23 (q := 26) rfl ?_
      refine hn_ast hF (hn_Da hV h_d) dX3_layFloors_26 (q := 27) rfl e (fun μ11 e => ?_)
      refine hn_iinc (p := 3) hF dX3_layFloors_27 (q := 30) rfl rfl (kn_1 _) (by decide) (L' := [(4, .int (l4 + 1)), (1, .ref (hn_base B + 6)), (2, .ref (hn_base B + 1)), (3, .ref (hn_base B + d))]) rfl ?_
      refine hn_goto hF dX3_layFloors_30 (q := 3) rfl ?_
      refine hn_sub [1, 2, 3, 0] (L' := [(1, .ref (hn_base B + 6)), (2, .ref (hn_base B + 1)), (3, .ref (hn_base B + d)), (4, .int (l4 + 1))]) rfl ?_
      exact ih (l4 + 1) μ11 e
set_option maxHeartbeats 1000000 in
theorem gX3_layFloors {Z : hn_Z} {B : hn_B} {F : Nat} {d : Nat} {R : hn_M} (hF : hn_F Z B (0, 0) cX3_layFloors 8 RX3 none 1) (hQ : hn_goal Z B (none, R)) (hV : hn_V B hn_nA) (h_d : hn_tD d) {μ : hn_M} (e : fX3_layFloors F d μ = some R) : hn_G Z B (0, 0) 8 0 [(0, .ref (hn_base B + 46)), (1, .ref (hn_base B + 6)), (2, .ref (hn_base B + 1)), (3, .ref (hn_base B + d))] [] μ := by
  unfold fX3_layFloors at e
  refine hn_iconst hF dX3_layFloors_0 (q := 1) rfl ki_0 ?_
  refine hn_istore hF dX3_layFloors_1 (q := 3) rfl (by decide) (L' := [(4, .int 0), (0, .ref (hn_base B + 46)), (1, .ref (hn_base B + 6)), (2, .ref (hn_base B + 1)), (3, .ref (hn_base B + d))]) rfl ?_
  refine hn_sub [2, 3, 4, 0] (L' := [(1, .ref (hn_base B + 6)), (2, .ref (hn_base B + 1)), (3, .ref (hn_base B + d)), (4, .int 0)]) rfl ?_
  exact gX3_layFloors_3 hF hQ hV h_d F 0 μ e
theorem cX3_layFloors_ {B : hn_B} {F : Nat} {d : Nat} {μ : hn_M} {R : hn_M} (hV : hn_V B hn_nA) (h_d : hn_tD d) (e : fX3_layFloors F d μ = some R) : hn_C yX3_layFloors cX3_layFloors 8 none 1 B [.ref (hn_base B + 46), .ref (hn_base B + 6), .ref (hn_base B + 1), .ref (hn_base B + d)] μ (none, R) :=
  hn_C.of RX3 (by decide) rfl (Nat.le_of_ble_eq_true rfl) (fun _ hF hQ => gX3_layFloors hF hQ hV h_d e)
/-! HandNews$Spans.gap(LHandNews$Papers;LHandNews$Posts;I)I -/
def fX3_gap (μ : hn_M) (l2 : Int32) : Option Int32 := hn_rd μ 11 20 l2 fun v1 => hn_rd μ 7 12 v1 fun v2 => hn_rd μ 10 20 l2 fun v3 => hn_rd μ 7 12 v3 fun v4 => (fX2_days μ v2 v4).bind fun v5 => some v5
set_option maxHeartbeats 1000000 in
theorem gX3_gap {Z : hn_Z} {B : hn_B} {μ : hn_M} {R : Int32} (hF : hn_F Z B (0, 0) cX3_gap 3 RX3 (some .int) 1) (hQ : hn_goal Z B (some (.int R), μ)) (hV : hn_V B hn_nA) {l2 : Int32} (e : fX3_gap μ l2 = some R) : hn_G Z B (0, 0) 3 0 [(0, .ref (hn_base B + 6)), (1, .ref (hn_base B + 1)), (2, .int l2)] [] μ := by
  unfold fX3_gap at e
  have a10 : hn_isA B 10 false 20 := hV 10 (by decide)
  have a11 : hn_isA B 11 false 20 := hV 11 (by decide)
  have a7 : hn_isA B 7 false 12 := hV 7 (by decide)
  have o1 : hn_isO B 1 2 hn_k1 := hV 1 (by decide)
  have o6 : hn_isO B 6 1 hn_k6 := hV 6 (by decide)
  refine hn_aload_n hF dX3_gap_0 (q := 1) rfl 1 rfl ?_
  refine hn_aload_n hF dX3_gap_1 (q := 2) rfl 0 rfl ?_
  refine hn_get hF fl_X3_75 o6 rfl rfl dX3_gap_2 (q := 5) rfl ?_
  refine hn_aload_n hF dX3_gap_5 (q := 6) rfl 0 rfl ?_
  refine hn_get hF fl_X3_98 o6 rfl rfl dX3_gap_6 (q := 9) rfl ?_
  refine hn_iload_n hF dX3_gap_9 (q := 10) rfl 2 rfl ?_
  refine hn_ald hF a11 dX3_gap_10 (q := 11) rfl e (fun v1 e => ?_)
  refine hn_ald hF a7 dX3_gap_11 (q := 12) rfl e (fun v2 e => ?_)
  refine hn_aload_n hF dX3_gap_12 (q := 13) rfl 0 rfl ?_
  refine hn_get hF fl_X3_75 o6 rfl rfl dX3_gap_13 (q := 16) rfl ?_
  refine hn_aload_n hF dX3_gap_16 (q := 17) rfl 0 rfl ?_
  refine hn_get hF fl_X3_105 o6 rfl rfl dX3_gap_17 (q := 20) rfl ?_
  refine hn_iload_n hF dX3_gap_20 (q := 21) rfl 2 rfl ?_
  refine hn_ald hF a10 dX3_gap_21 (q := 22) rfl e (fun v3 e => ?_)
  refine hn_ald hF a7 dX3_gap_22 (q := 23) rfl e (fun v4 e => ?_)
  refine hn_callVi (rest := []) hF ms_X2_days mv_X2_days lk_X3_78 o1 rfl (by decide) [.int v2, .int v4] rfl (Nat.le_of_ble_eq_true rfl) dX3_gap_23 (q := 26) rfl rfl e (fun v hv => cX2_days_ hV.P hv) (fun v5 e => ?_)
  exact hn_iretP hF hQ dX3_gap_26 e
theorem cX3_gap_ {B : hn_B} {μ : hn_M} {R : Int32} {l2 : Int32} (hV : hn_V B hn_nA) (e : fX3_gap μ l2 = some R) : hn_C yX3_gap cX3_gap 3 (some .int) 1 B [.ref (hn_base B + 6), .ref (hn_base B + 1), .int l2] μ (some (.int R), μ) :=
  hn_C.of RX3 (by decide) rfl (Nat.le_of_ble_eq_true rfl) (fun _ hF hQ => gX3_gap hF hQ hV e)
/-! HandNews$Spans.raise(LHandNews$Papers;LHandNews$Posts;[I)Z -/
def fX3_raise_60 (F : Nat) (d : Nat) (k5 : Int32 → Int32 → hn_M → Option (Int32 × hn_M)) (l3 : Int32) (l4 : Int32) (μ : hn_M) : Option (Int32 × hn_M) := k5 l3 (l4 + 1) μ
def fX3_raise_5 (F : Nat) (d : Nat) : Nat → Int32 → Int32 → hn_M → Option (Int32 × hn_M)
  | 0, _, _, _ => none
  | n + 1, l3, l4, μ => if μ 6 4 ≤ l4 then hn_bo l3 (some (l3, μ)) else hn_rd μ 11 20 l4 fun v1 => hn_rd μ d 12 v1 fun v2 => (fX3_gap μ l4).bind fun v3 => hn_rd μ 10 20 l4 fun v4 => hn_rd μ d 12 v4 fun v5 => if v2 + v3 ≤ v5 then fX3_raise_60 F d (fX3_raise_5 F d n) l3 l4 μ else hn_rd μ 10 20 l4 fun v6 => hn_wr μ d 12 v6 (v2 + v3) fun μ7 => fX3_raise_60 F d (fX3_raise_5 F d n) 1 l4 μ7
def fX3_raise (F : Nat) (d : Nat) (μ : hn_M) : Option (Int32 × hn_M) := fX3_raise_5 F d F 0 0 μ
set_option maxHeartbeats 1000000 in
theorem gX3_raise_60 {Z : hn_Z} {B : hn_B} {F : Nat} {d : Nat} {R : Int32 × hn_M} (hF : hn_F Z B (0, 0) cX3_raise 6 RX3 (some .boolean) 2) (hQ : hn_goal Z B (some (.int R.1), R.2)) (hV : hn_V B hn_nA) (h_d : hn_tD d) {k5 : Int32 → Int32 → hn_M → Option (Int32 × hn_M)} (H5 : ∀ (l3 : Int32) (l4 : Int32) (μ : hn_M), k5 l3 l4 μ = some R → hn_G Z B (0, 0) 6 5 [(0, .ref (hn_base B + 6)), (1, .ref (hn_base B + 1)), (2, .ref (hn_base B + d)), (3, .int l3), (4, .int l4)] [] μ) {l3 : Int32} {l4 : Int32} {μ : hn_M} (e : fX3_raise_60 F d k5 l3 l4 μ = some R) : hn_G Z B (0, 0) 6 60 [(0, .ref (hn_base B + 6)), (1, .ref (hn_base B + 1)), (2, .ref (hn_base B + d)), (3, .int l3), (4, .int l4)] [] μ := by
  unfold fX3_raise_60 at e
  refine hn_iinc (p := 4) hF dX3_raise_60 (q := 63) rfl rfl (kn_1 _) (by decide) (L' := [(4, .int (l4 + 1)), (0, .ref (hn_base B + 6)), (1, .ref (hn_base B + 1)), (2, .ref (hn_base B + d)), (3, .int l3)]) rfl ?_
  refine hn_goto hF dX3_raise_63 (q := 5) rfl ?_
  refine hn_sub [1, 2, 3, 4, 0] (L' := [(0, .ref (hn_base B + 6)), (1, .ref (hn_base B + 1)), (2, .ref (hn_base B + d)), (3, .int l3), (4, .int (l4 + 1))]) rfl ?_
  exact H5 l3 (l4 + 1) μ e
set_option maxHeartbeats 1000000 in
theorem gX3_raise_5 {Z : hn_Z} {B : hn_B} {F : Nat} {d : Nat} {R : Int32 × hn_M} (hF : hn_F Z B (0, 0) cX3_raise 6 RX3 (some .boolean) 2) (hQ : hn_goal Z B (some (.int R.1), R.2)) (hV : hn_V B hn_nA) (h_d : hn_tD d) : ∀ (n : Nat) (l3 : Int32) (l4 : Int32) (μ : hn_M), fX3_raise_5 F d n l3 l4 μ = some R → hn_G Z B (0, 0) 6 5 [(0, .ref (hn_base B + 6)), (1, .ref (hn_base B + 1)), (2, .ref (hn_base B + d)), (3, .int l3), (4, .int l4)] [] μ := by
  have a10 : hn_isA B 10 false 20 := hV 10 (by decide)
  have a11 : hn_isA B 11 false 20 := hV 11 (by decide)
  have o6 : hn_isO B 6 1 hn_k6 := hV 6 (by decide)
  intro n
  induction n with
  | zero => intro l3 l4 μ e; rw [fX3_raise_5] at e; cases e
  | succ n ih =>
    intro l3 l4 μ e
    rw [fX3_raise_5] at e
    refine hn_iload hF dX3_raise_5 (q := 7) rfl 4 rfl ?_
    refine hn_aload_n hF dX3_raise_7 (q := 8) rfl 0 rfl ?_
    refine hn_get hF fl_X3_95 o6 rfl rfl dX3_raise_8 (q := 11) rfl ?_
    refine hn_icmp_ge hF dX3_raise_11 (t := 66) (q := 14) rfl rfl e (fun e => ?_) (fun e => ?_)
    · refine hn_iload_n hF dX3_raise_66 (q := 67) rfl 3 rfl ?_
      exact hn_zretMg hF hQ dX3_raise_67 e
    · refine hn_aload_n hF dX3_raise_14 (q := 15) rfl 2 rfl ?_
      refine hn_aload_n hF dX3_raise_15 (q := 16) rfl 0 rfl ?_
      refine hn_get hF fl_X3_98 o6 rfl rfl dX3_raise_16 (q := 19) rfl ?_
      refine hn_iload hF dX3_raise_19 (q := 21) rfl 4 rfl ?_
      refine hn_ald hF a11 dX3_raise_21 (q := 22) rfl e (fun v1 e => ?_)
      refine hn_ald hF (hn_Da hV h_d) dX3_raise_22 (q := 23) rfl e (fun v2 e => ?_)
      refine hn_aload_n hF dX3_raise_23 (q := 24) rfl 0 rfl ?_
      refine hn_aload_n hF dX3_raise_24 (q := 25) rfl 1 rfl ?_
      refine hn_iload hF dX3_raise_25 (q := 27) rfl 4 rfl ?_
      refine hn_callSi (rest := [.int v2]) hF ms_X3_gap mt_X3_gap lk_X3_101 (by decide) [.ref (hn_base B + 6), .ref (hn_base B + 1), .int l4] rfl (Nat.le_of_ble_eq_true rfl) dX3_raise_27 (q := 30) rfl rfl e (fun v hv => cX3_gap_ hV hv) (fun v3 e => ?_)
      refine hn_iadd hF dX3_raise_30 (q := 31) rfl ?_
      refine hn_istore hF dX3_raise_31 (q := 33) rfl (by decide) (L' := [(5, .int (v2 + v3)), (0, .ref (hn_base B + 6)), (1, .ref (hn_base B + 1)), (2, .ref (hn_base B + d)), (3, .int l3), (4, .int l4)]) rfl ?_
      refine hn_aload_n hF dX3_raise_33 (q := 34) rfl 3 rfl ?_
      refine hn_aload_n hF dX3_raise_34 (q := 35) rfl 1 rfl ?_
      refine hn_get hF fl_X3_105 o6 rfl rfl dX3_raise_35 (q := 38) rfl ?_
      refine hn_iload hF dX3_raise_38 (q := 40) rfl 5 rfl ?_
      refine hn_ald hF a10 dX3_raise_40 (q := 41) rfl e (fun v4 e => ?_)
      refine hn_ald hF (hn_Da hV h_d) dX3_raise_41 (q := 42) rfl e (fun v5 e => ?_)
      refine hn_iload hF dX3_raise_42 (q := 44) rfl 0 rfl ?_
      refine hn_icmp_ge hF dX3_raise_44 (t := 60) (q := 47) rfl rfl e (fun e => ?_) (fun e => ?_)
      · refine hn_sub [1, 2, 3, 4, 5] (L' := [(0, .ref (hn_base B + 6)), (1, .ref (hn_base B + 1)), (2, .ref (hn_base B + d)), (3, .int l3), (4, .int l4)]) rfl ?_
        exact gX3_raise_60 hF hQ hV h_d ih e
      · refine hn_aload_n hF dX3_raise_47 (q := 48) rfl 3 rfl ?_
        refine hn_aload_n hF dX3_raise_48 (q := 49) rfl 1 rfl ?_
        refine hn_get hF fl_X3_105 o6 rfl rfl dX3_raise_49 (q := 52) rfl ?_
        refine hn_iload hF dX3_raise_52 (q := 54) rfl 5 rfl ?_
        refine hn_ald hF a10 dX3_raise_54 (q := 55) rfl e (fun v6 e => ?_)
        refine hn_iload hF dX3_raise_55 (q := 57) rfl 0 rfl ?_
        refine hn_ast hF (hn_Da hV h_d) dX3_raise_57 (q := 58) rfl e (fun μ7 e => ?_)
        refine hn_iconst hF dX3_raise_58 (q := 59) rfl ki_1 ?_
        refine hn_istore_n hF dX3_raise_59 (q := 60) rfl (i := 3) rfl (by decide) (L' := [(3, .int 1), (5, .int (v2 + v3)), (0, .ref (hn_base B + 6)), (1, .ref (hn_base B + 1)), (2, .ref (hn_base B + d)), (4, .int l4)]) rfl ?_
        refine hn_sub [2, 3, 4, 0, 5] (L' := [(0, .ref (hn_base B + 6)), (1, .ref (hn_base B + 1)), (2, .ref (hn_base B + d)), (3, .int 1), (4, .int l4)]) rfl ?_
        exact gX3_raise_60 hF hQ hV h_d ih e
set_option maxHeartbeats 1000000 in
theorem gX3_raise {Z : hn_Z} {B : hn_B} {F : Nat} {d : Nat} {R : Int32 × hn_M} (hF : hn_F Z B (0, 0) cX3_raise 6 RX3 (some .boolean) 2) (hQ : hn_goal Z B (some (.int R.1), R.2)) (hV : hn_V B hn_nA) (h_d : hn_tD d) {μ : hn_M} (e : fX3_raise F d μ = some R) : hn_G Z B (0, 0) 6 0 [(0, .ref (hn_base B + 6)), (1, .ref (hn_base B + 1)), (2, .ref (hn_base B + d))] [] μ := by
  unfold fX3_raise at e
  refine hn_iconst hF dX3_raise_0 (q := 1) rfl ki_0 ?_
  refine hn_istore_n hF dX3_raise_1 (q := 2) rfl (i := 3) rfl (by decide) (L' := [(3, .int 0), (0, .ref (hn_base B + 6)), (1, .ref (hn_base B + 1)), (2, .ref (hn_base B + d))]) rfl ?_
  refine hn_iconst hF dX3_raise_2 (q := 3) rfl ki_0 ?_
  refine hn_istore hF dX3_raise_3 (q := 5) rfl (by decide) (L' := [(4, .int 0), (3, .int 0), (0, .ref (hn_base B + 6)), (1, .ref (hn_base B + 1)), (2, .ref (hn_base B + d))]) rfl ?_
  refine hn_sub [2, 3, 4, 1, 0] (L' := [(0, .ref (hn_base B + 6)), (1, .ref (hn_base B + 1)), (2, .ref (hn_base B + d)), (3, .int 0), (4, .int 0)]) rfl ?_
  exact gX3_raise_5 hF hQ hV h_d F 0 0 μ e
theorem cX3_raise_ {B : hn_B} {F : Nat} {d : Nat} {μ : hn_M} {R : Int32 × hn_M} (hV : hn_V B hn_nA) (h_d : hn_tD d) (e : fX3_raise F d μ = some R) : hn_C yX3_raise cX3_raise 6 (some .boolean) 2 B [.ref (hn_base B + 6), .ref (hn_base B + 1), .ref (hn_base B + d)] μ (some (.int R.1), R.2) :=
  hn_C.of RX3 (by decide) rfl (Nat.le_of_ble_eq_true rfl) (fun _ hF hQ => gX3_raise hF hQ hV h_d e)
/-! HandNews$Spans.ceiling(LHandNews$Papers;I)I -/
def fX3_ceiling (μ : hn_M) (l1 : Int32) : Option Int32 := hn_rd μ 9 12 l1 fun v1 => if v1 = (-1) then some 999 else hn_rd μ 9 12 l1 fun v2 => some v2
set_option maxHeartbeats 1000000 in
theorem gX3_ceiling {Z : hn_Z} {B : hn_B} {μ : hn_M} {R : Int32} (hF : hn_F Z B (0, 0) cX3_ceiling 2 RX3 (some .int) 0) (hQ : hn_goal Z B (some (.int R), μ)) (hV : hn_V B hn_nA) {l1 : Int32} (e : fX3_ceiling μ l1 = some R) : hn_G Z B (0, 0) 2 0 [(0, .ref (hn_base B + 6)), (1, .int l1)] [] μ := by
  unfold fX3_ceiling at e
  have a9 : hn_isA B 9 false 12 := hV 9 (by decide)
  have o6 : hn_isO B 6 1 hn_k6 := hV 6 (by decide)
  refine hn_aload_n hF dX3_ceiling_0 (q := 1) rfl 0 rfl ?_
  refine hn_get hF fl_X3_47 o6 rfl rfl dX3_ceiling_1 (q := 4) rfl ?_
  refine hn_iload_n hF dX3_ceiling_4 (q := 5) rfl 1 rfl ?_
  refine hn_ald hF a9 dX3_ceiling_5 (q := 6) rfl e (fun v1 e => ?_)
  refine hn_iconst hF dX3_ceiling_6 (q := 7) rfl ki_m1 ?_
  refine hn_icmp_ne hF dX3_ceiling_7 (t := 16) (q := 10) rfl rfl e (fun e => ?_) (fun e => ?_)
  · refine hn_aload_n hF dX3_ceiling_16 (q := 17) rfl 0 rfl ?_
    refine hn_get hF fl_X3_47 o6 rfl rfl dX3_ceiling_17 (q := 20) rfl ?_
    refine hn_iload_n hF dX3_ceiling_20 (q := 21) rfl 1 rfl ?_
    refine hn_ald hF a9 dX3_ceiling_21 (q := 22) rfl e (fun v2 e => ?_)
    exact hn_iretP hF hQ dX3_ceiling_22 e
  · refine hn_sipush hF dX3_ceiling_10 (q := 13) rfl ks_999 ?_
    refine hn_goto hF dX3_ceiling_13 (q := 22) rfl ?_
    exact hn_iretP hF hQ dX3_ceiling_22 e
theorem cX3_ceiling_ {B : hn_B} {μ : hn_M} {R : Int32} {l1 : Int32} (hV : hn_V B hn_nA) (e : fX3_ceiling μ l1 = some R) : hn_C yX3_ceiling cX3_ceiling 2 (some .int) 0 B [.ref (hn_base B + 6), .int l1] μ (some (.int R), μ) :=
  hn_C.of RX3 (by decide) rfl (Nat.le_of_ble_eq_true rfl) (fun _ hF hQ => gX3_ceiling hF hQ hV e)
/-! HandNews$Spans.staysBelow(LHandNews$Papers;[I)Z -/
def fX3_staysBelow_2 (F : Nat) (d : Nat) (μ : hn_M) : Nat → Int32 → Option Int32
  | 0, _ => none
  | n + 1, l2 => if μ 6 0 ≤ l2 then some 1 else hn_rd μ d 12 l2 fun v1 => (fX3_ceiling μ l2).bind fun v2 => if v1 ≤ v2 then fX3_staysBelow_2 F d μ n (l2 + 1) else some 0
def fX3_staysBelow (F : Nat) (d : Nat) (μ : hn_M) : Option Int32 := fX3_staysBelow_2 F d μ F 0
set_option maxHeartbeats 1000000 in
theorem gX3_staysBelow_2 {Z : hn_Z} {B : hn_B} {F : Nat} {d : Nat} {μ : hn_M} {R : Int32} (hF : hn_F Z B (0, 0) cX3_staysBelow 3 RX3 (some .boolean) 1) (hQ : hn_goal Z B (some (.int R), μ)) (hV : hn_V B hn_nA) (h_d : hn_tD d) : ∀ (n : Nat) (l2 : Int32), fX3_staysBelow_2 F d μ n l2 = some R → hn_G Z B (0, 0) 3 2 [(0, .ref (hn_base B + 6)), (1, .ref (hn_base B + d)), (2, .int l2)] [] μ := by
  have o6 : hn_isO B 6 1 hn_k6 := hV 6 (by decide)
  intro n
  induction n with
  | zero => intro l2 e; rw [fX3_staysBelow_2] at e; cases e
  | succ n ih =>
    intro l2 e
    rw [fX3_staysBelow_2] at e
    refine hn_iload_n hF dX3_staysBelow_2 (q := 3) rfl 2 rfl ?_
    refine hn_aload_n hF dX3_staysBelow_3 (q := 4) rfl 0 rfl ?_
    refine hn_get hF fl_X3_41 o6 rfl rfl dX3_staysBelow_4 (q := 7) rfl ?_
    refine hn_icmp_ge hF dX3_staysBelow_7 (t := 29) (q := 10) rfl rfl e (fun e => ?_) (fun e => ?_)
    · refine hn_iconst hF dX3_staysBelow_29 (q := 30) rfl ki_1 ?_
      exact hn_zretP hF hQ dX3_staysBelow_30 (Or.inr rfl) e
    · refine hn_aload_n hF dX3_staysBelow_10 (q := 11) rfl 1 rfl ?_
      refine hn_iload_n hF dX3_staysBelow_11 (q := 12) rfl 2 rfl ?_
      refine hn_ald hF (hn_Da hV h_d) dX3_staysBelow_12 (q := 13) rfl e (fun v1 e => ?_)
      refine hn_aload_n hF dX3_staysBelow_13 (q := 14) rfl 0 rfl ?_
      refine hn_iload_n hF dX3_staysBelow_14 (q := 15) rfl 2 rfl ?_
      refine hn_callSi (rest := [.int v1]) hF ms_X3_ceiling mt_X3_ceiling lk_X3_83 (by decide) [.ref (hn_base B + 6), .int l2] rfl (Nat.le_of_ble_eq_true rfl) dX3_staysBelow_15 (q := 18) rfl rfl e (fun v hv => cX3_ceiling_ hV hv) (fun v2 e => ?_)
      refine hn_icmp_le hF dX3_staysBelow_18 (t := 23) (q := 21) rfl rfl e (fun e => ?_) (fun e => ?_)
      · refine hn_iinc (p := 2) hF dX3_staysBelow_23 (q := 26) rfl rfl (kn_1 _) (by decide) (L' := [(2, .int (l2 + 1)), (0, .ref (hn_base B + 6)), (1, .ref (hn_base B + d))]) rfl ?_
        refine hn_goto hF dX3_staysBelow_26 (q := 2) rfl ?_
        refine hn_sub [1, 2, 0] (L' := [(0, .ref (hn_base B + 6)), (1, .ref (hn_base B + d)), (2, .int (l2 + 1))]) rfl ?_
        exact ih (l2 + 1) e
      · refine hn_iconst hF dX3_staysBelow_21 (q := 22) rfl ki_0 ?_
        exact hn_zretP hF hQ dX3_staysBelow_22 (Or.inl rfl) e
set_option maxHeartbeats 1000000 in
theorem gX3_staysBelow {Z : hn_Z} {B : hn_B} {F : Nat} {d : Nat} {μ : hn_M} {R : Int32} (hF : hn_F Z B (0, 0) cX3_staysBelow 3 RX3 (some .boolean) 1) (hQ : hn_goal Z B (some (.int R), μ)) (hV : hn_V B hn_nA) (h_d : hn_tD d) (e : fX3_staysBelow F d μ = some R) : hn_G Z B (0, 0) 3 0 [(0, .ref (hn_base B + 6)), (1, .ref (hn_base B + d))] [] μ := by
  unfold fX3_staysBelow at e
  refine hn_iconst hF dX3_staysBelow_0 (q := 1) rfl ki_0 ?_
  refine hn_istore_n hF dX3_staysBelow_1 (q := 2) rfl (i := 2) rfl (by decide) (L' := [(2, .int 0), (0, .ref (hn_base B + 6)), (1, .ref (hn_base B + d))]) rfl ?_
  refine hn_sub [1, 2, 0] (L' := [(0, .ref (hn_base B + 6)), (1, .ref (hn_base B + d)), (2, .int 0)]) rfl ?_
  exact gX3_staysBelow_2 hF hQ hV h_d F 0 e
theorem cX3_staysBelow_ {B : hn_B} {F : Nat} {d : Nat} {μ : hn_M} {R : Int32} (hV : hn_V B hn_nA) (h_d : hn_tD d) (e : fX3_staysBelow F d μ = some R) : hn_C yX3_staysBelow cX3_staysBelow 3 (some .boolean) 1 B [.ref (hn_base B + 6), .ref (hn_base B + d)] μ (some (.int R), μ) :=
  hn_C.of RX3 (by decide) rfl (Nat.le_of_ble_eq_true rfl) (fun _ hF hQ => gX3_staysBelow hF hQ hV h_d e)
/-! HandNews$Spans.rises(LHandNews$Papers;LHandNews$Posts;[III)Z -/
def fX3_rises_54 (F : Nat) (d : Nat) (k6 : Int32 → Int32 → Int32 → Int32 → hn_M → Option (Int32 × hn_M)) (l4 : Int32) (l5 : Int32) (l6 : Int32) (l7 : Int32) (μ : hn_M) : Option (Int32 × hn_M) := k6 l4 l5 l6 (l7 + 1) μ
def fX3_rises_60 (F : Nat) (d : Nat) (l6 : Int32) (μ : hn_M) : Option (Int32 × hn_M) := if l6 = 0 then (fX3_staysBelow F d μ).bind fun v1 => if v1 = 0 then some (0, μ) else some (1, μ) else some (0, μ)
def fX3_rises_6 (F : Nat) (d : Nat) : Nat → Int32 → Int32 → Int32 → Int32 → hn_M → Option (Int32 × hn_M)
  | 0, _, _, _, _, _ => none
  | n + 1, l4, l5, l6, l7, μ => if 12 < l7 then fX3_rises_60 F d l6 μ else if l6 = 0 then fX3_rises_60 F d l6 μ else (fX3_raise F d μ).bind fun w2 => if l4 = (-1) then fX3_rises_54 F d (fX3_rises_6 F d n) l4 l5 w2.1 l7 w2.2 else hn_rd w2.2 d 12 l4 fun v3 => hn_rd w2.2 d 12 l5 fun v4 => if v4 ≤ v3 then fX3_rises_54 F d (fX3_rises_6 F d n) l4 l5 w2.1 l7 w2.2 else hn_rd w2.2 d 12 l5 fun v5 => hn_wr w2.2 d 12 l4 v5 fun μ6 => fX3_rises_54 F d (fX3_rises_6 F d n) l4 l5 1 l7 μ6
def fX3_rises (F : Nat) (d : Nat) (l4 : Int32) (l5 : Int32) (μ : hn_M) : Option (Int32 × hn_M) := fX3_rises_6 F d F l4 l5 1 0 μ
set_option maxHeartbeats 1000000 in
theorem gX3_rises_54 {Z : hn_Z} {B : hn_B} {F : Nat} {d : Nat} {R : Int32 × hn_M} (hF : hn_F Z B (0, 0) cX3_rises 8 RX3 (some .boolean) 3) (hQ : hn_goal Z B (some (.int R.1), R.2)) (hV : hn_V B hn_nA) (h_d : hn_tD d) {k6 : Int32 → Int32 → Int32 → Int32 → hn_M → Option (Int32 × hn_M)} (H6 : ∀ (l4 : Int32) (l5 : Int32) (l6 : Int32) (l7 : Int32) (μ : hn_M), k6 l4 l5 l6 l7 μ = some R → hn_G Z B (0, 0) 8 6 [(1, .ref (hn_base B + 6)), (2, .ref (hn_base B + 1)), (3, .ref (hn_base B + d)), (4, .int l4), (5, .int l5), (6, .int l6), (7, .int l7)] [] μ) {l4 : Int32} {l5 : Int32} {l6 : Int32} {l7 : Int32} {μ : hn_M} (e : fX3_rises_54 F d k6 l4 l5 l6 l7 μ = some R) : hn_G Z B (0, 0) 8 54 [(1, .ref (hn_base B + 6)), (2, .ref (hn_base B + 1)), (3, .ref (hn_base B + d)), (4, .int l4), (5, .int l5), (6, .int l6), (7, .int l7)] [] μ := by
  unfold fX3_rises_54 at e
  refine hn_iinc (p := 6) hF dX3_rises_54 (q := 57) rfl rfl (kn_1 _) (by decide) (L' := [(7, .int (l7 + 1)), (1, .ref (hn_base B + 6)), (2, .ref (hn_base B + 1)), (3, .ref (hn_base B + d)), (4, .int l4), (5, .int l5), (6, .int l6)]) rfl ?_
  refine hn_goto hF dX3_rises_57 (q := 6) rfl ?_
  refine hn_sub [1, 2, 3, 4, 5, 6, 0] (L' := [(1, .ref (hn_base B + 6)), (2, .ref (hn_base B + 1)), (3, .ref (hn_base B + d)), (4, .int l4), (5, .int l5), (6, .int l6), (7, .int (l7 + 1))]) rfl ?_
  exact H6 l4 l5 l6 (l7 + 1) μ e
set_option maxHeartbeats 1000000 in
theorem gX3_rises_60 {Z : hn_Z} {B : hn_B} {F : Nat} {d : Nat} {R : Int32 × hn_M} (hF : hn_F Z B (0, 0) cX3_rises 8 RX3 (some .boolean) 3) (hQ : hn_goal Z B (some (.int R.1), R.2)) (hV : hn_V B hn_nA) (h_d : hn_tD d) {l6 : Int32} {μ : hn_M} (e : fX3_rises_60 F d l6 μ = some R) : hn_G Z B (0, 0) 8 60 [(1, .ref (hn_base B + 6)), (3, .ref (hn_base B + d)), (6, .int l6)] [] μ := by
  unfold fX3_rises_60 at e
  refine hn_iload hF dX3_rises_60 (q := 62) rfl 2 rfl ?_
  refine hn_if_ne hF dX3_rises_62 (t := 77) (q := 65) rfl rfl e (fun e => ?_) (fun e => ?_)
  · refine hn_iconst hF dX3_rises_77 (q := 78) rfl ki_0 ?_
    exact hn_zretM hF hQ dX3_rises_78 (Or.inl rfl) e
  · refine hn_aload_n hF dX3_rises_65 (q := 66) rfl 0 rfl ?_
    refine hn_aload_n hF dX3_rises_66 (q := 67) rfl 1 rfl ?_
    refine hn_callSi (rest := []) hF ms_X3_staysBelow mt_X3_staysBelow lk_X3_91 (by decide) [.ref (hn_base B + 6), .ref (hn_base B + d)] rfl (Nat.le_of_ble_eq_true rfl) dX3_rises_67 (q := 70) rfl rfl e (fun v hv => cX3_staysBelow_ hV h_d hv) (fun v1 e => ?_)
    refine hn_if_eq hF dX3_rises_70 (t := 77) (q := 73) rfl rfl e (fun e => ?_) (fun e => ?_)
    · refine hn_iconst hF dX3_rises_77 (q := 78) rfl ki_0 ?_
      exact hn_zretM hF hQ dX3_rises_78 (Or.inl rfl) e
    · refine hn_iconst hF dX3_rises_73 (q := 74) rfl ki_1 ?_
      refine hn_goto hF dX3_rises_74 (q := 78) rfl ?_
      exact hn_zretM hF hQ dX3_rises_78 (Or.inr rfl) e
set_option maxHeartbeats 1000000 in
theorem gX3_rises_6 {Z : hn_Z} {B : hn_B} {F : Nat} {d : Nat} {R : Int32 × hn_M} (hF : hn_F Z B (0, 0) cX3_rises 8 RX3 (some .boolean) 3) (hQ : hn_goal Z B (some (.int R.1), R.2)) (hV : hn_V B hn_nA) (h_d : hn_tD d) : ∀ (n : Nat) (l4 : Int32) (l5 : Int32) (l6 : Int32) (l7 : Int32) (μ : hn_M), fX3_rises_6 F d n l4 l5 l6 l7 μ = some R → hn_G Z B (0, 0) 8 6 [(1, .ref (hn_base B + 6)), (2, .ref (hn_base B + 1)), (3, .ref (hn_base B + d)), (4, .int l4), (5, .int l5), (6, .int l6), (7, .int l7)] [] μ := by
  intro n
  induction n with
  | zero => intro l4 l5 l6 l7 μ e; rw [fX3_rises_6] at e; cases e
  | succ n ih =>
    intro l4 l5 l6 l7 μ e
    rw [fX3_rises_6] at e
    refine hn_iload hF dX3_rises_6 (q := 8) rfl 6 rfl ?_
    refine hn_bipush hF dX3_rises_8 (q := 10) rfl kb_12 ?_
    refine hn_icmp_gt hF dX3_rises_10 (t := 60) (q := 13) rfl rfl e (fun e => ?_) (fun e => ?_)
    · refine hn_sub [0, 2, 5] (L' := [(1, .ref (hn_base B + 6)), (3, .ref (hn_base B + d)), (6, .int l6)]) rfl ?_
      exact gX3_rises_60 hF hQ hV h_d e
    · refine hn_iload hF dX3_rises_13 (q := 15) rfl 5 rfl ?_
      refine hn_if_eq hF dX3_rises_15 (t := 60) (q := 18) rfl rfl e (fun e => ?_) (fun e => ?_)
      · refine hn_sub [0, 2, 5] (L' := [(1, .ref (hn_base B + 6)), (3, .ref (hn_base B + d)), (6, .int l6)]) rfl ?_
        exact gX3_rises_60 hF hQ hV h_d e
      · refine hn_aload_n hF dX3_rises_18 (q := 19) rfl 0 rfl ?_
        refine hn_aload_n hF dX3_rises_19 (q := 20) rfl 1 rfl ?_
        refine hn_aload_n hF dX3_rises_20 (q := 21) rfl 2 rfl ?_
        refine hn_callSm (rest := []) hF ms_X3_raise mt_X3_raise lk_X3_87 (by decide) [.ref (hn_base B + 6), .ref (hn_base B + 1), .ref (hn_base B + d)] rfl (Nat.le_of_ble_eq_true rfl) dX3_rises_21 (q := 24) rfl rfl e (fun v hv => cX3_raise_ hV h_d hv) (fun w2 e => ?_)
        refine hn_istore hF dX3_rises_24 (q := 26) rfl (by decide) (L' := [(6, .int (w2.1)), (1, .ref (hn_base B + 6)), (2, .ref (hn_base B + 1)), (3, .ref (hn_base B + d)), (4, .int l4), (5, .int l5), (7, .int l7)]) rfl ?_
        refine hn_iload hF dX3_rises_26 (q := 28) rfl 4 rfl ?_
        refine hn_iconst hF dX3_rises_28 (q := 29) rfl ki_m1 ?_
        refine hn_icmp_eq hF dX3_rises_29 (t := 54) (q := 32) rfl rfl e (fun e => ?_) (fun e => ?_)
        · refine hn_sub [1, 2, 3, 4, 5, 0, 6] (L' := [(1, .ref (hn_base B + 6)), (2, .ref (hn_base B + 1)), (3, .ref (hn_base B + d)), (4, .int l4), (5, .int l5), (6, .int (w2.1)), (7, .int l7)]) rfl ?_
          exact gX3_rises_54 hF hQ hV h_d ih e
        · refine hn_aload_n hF dX3_rises_32 (q := 33) rfl 3 rfl ?_
          refine hn_iload hF dX3_rises_33 (q := 35) rfl 4 rfl ?_
          refine hn_ald hF (hn_Da hV h_d) dX3_rises_35 (q := 36) rfl e (fun v3 e => ?_)
          refine hn_aload_n hF dX3_rises_36 (q := 37) rfl 3 rfl ?_
          refine hn_iload hF dX3_rises_37 (q := 39) rfl 5 rfl ?_
          refine hn_ald hF (hn_Da hV h_d) dX3_rises_39 (q := 40) rfl e (fun v4 e => ?_)
          refine hn_icmp_ge hF dX3_rises_40 (t := 54) (q := 43) rfl rfl e (fun e => ?_) (fun e => ?_)
          · refine hn_sub [1, 2, 3, 4, 5, 0, 6] (L' := [(1, .ref (hn_base B + 6)), (2, .ref (hn_base B + 1)), (3, .ref (hn_base B + d)), (4, .int l4), (5, .int l5), (6, .int (w2.1)), (7, .int l7)]) rfl ?_
            exact gX3_rises_54 hF hQ hV h_d ih e
          · refine hn_aload_n hF dX3_rises_43 (q := 44) rfl 3 rfl ?_
            refine hn_iload hF dX3_rises_44 (q := 46) rfl 4 rfl ?_
            refine hn_aload_n hF dX3_rises_46 (q := 47) rfl 3 rfl ?_
            refine hn_iload hF dX3_rises_47 (q := 49) rfl 5 rfl ?_
            refine hn_ald hF (hn_Da hV h_d) dX3_rises_49 (q := 50) rfl e (fun v5 e => ?_)
            refine hn_ast hF (hn_Da hV h_d) dX3_rises_50 (q := 51) rfl e (fun μ6 e => ?_)
            refine hn_iconst hF dX3_rises_51 (q := 52) rfl ki_1 ?_
            refine hn_istore hF dX3_rises_52 (q := 54) rfl (by decide) (L' := [(6, .int 1), (1, .ref (hn_base B + 6)), (2, .ref (hn_base B + 1)), (3, .ref (hn_base B + d)), (4, .int l4), (5, .int l5), (7, .int l7)]) rfl ?_
            refine hn_sub [1, 2, 3, 4, 5, 0, 6] (L' := [(1, .ref (hn_base B + 6)), (2, .ref (hn_base B + 1)), (3, .ref (hn_base B + d)), (4, .int l4), (5, .int l5), (6, .int 1), (7, .int l7)]) rfl ?_
            exact gX3_rises_54 hF hQ hV h_d ih e
set_option maxHeartbeats 1000000 in
theorem gX3_rises {Z : hn_Z} {B : hn_B} {F : Nat} {d : Nat} {R : Int32 × hn_M} (hF : hn_F Z B (0, 0) cX3_rises 8 RX3 (some .boolean) 3) (hQ : hn_goal Z B (some (.int R.1), R.2)) (hV : hn_V B hn_nA) (h_d : hn_tD d) {l4 : Int32} {l5 : Int32} {μ : hn_M} (e : fX3_rises F d l4 l5 μ = some R) : hn_G Z B (0, 0) 8 0 [(0, .ref (hn_base B + 46)), (1, .ref (hn_base B + 6)), (2, .ref (hn_base B + 1)), (3, .ref (hn_base B + d)), (4, .int l4), (5, .int l5)] [] μ := by
  unfold fX3_rises at e
  refine hn_iconst hF dX3_rises_0 (q := 1) rfl ki_1 ?_
  refine hn_istore hF dX3_rises_1 (q := 3) rfl (by decide) (L' := [(6, .int 1), (0, .ref (hn_base B + 46)), (1, .ref (hn_base B + 6)), (2, .ref (hn_base B + 1)), (3, .ref (hn_base B + d)), (4, .int l4), (5, .int l5)]) rfl ?_
  refine hn_iconst hF dX3_rises_3 (q := 4) rfl ki_0 ?_
  refine hn_istore hF dX3_rises_4 (q := 6) rfl (by decide) (L' := [(7, .int 0), (6, .int 1), (0, .ref (hn_base B + 46)), (1, .ref (hn_base B + 6)), (2, .ref (hn_base B + 1)), (3, .ref (hn_base B + d)), (4, .int l4), (5, .int l5)]) rfl ?_
  refine hn_sub [3, 4, 5, 6, 7, 1, 0] (L' := [(1, .ref (hn_base B + 6)), (2, .ref (hn_base B + 1)), (3, .ref (hn_base B + d)), (4, .int l4), (5, .int l5), (6, .int 1), (7, .int 0)]) rfl ?_
  exact gX3_rises_6 hF hQ hV h_d F l4 l5 1 0 μ e
theorem cX3_rises_ {B : hn_B} {F : Nat} {d : Nat} {μ : hn_M} {R : Int32 × hn_M} {l4 : Int32} {l5 : Int32} (hV : hn_V B hn_nA) (h_d : hn_tD d) (e : fX3_rises F d l4 l5 μ = some R) : hn_C yX3_rises cX3_rises 8 (some .boolean) 3 B [.ref (hn_base B + 46), .ref (hn_base B + 6), .ref (hn_base B + 1), .ref (hn_base B + d), .int l4, .int l5] μ (some (.int R.1), R.2) :=
  hn_C.of RX3 (by decide) rfl (Nat.le_of_ble_eq_true rfl) (fun _ hF hQ => gX3_rises hF hQ hV h_d e)
/-! HandNews$Spans.layCeilings(LHandNews$Papers;)V -/
def fX3_layCeilings_2 (F : Nat) : Nat → Int32 → hn_M → Option hn_M
  | 0, _, _ => none
  | n + 1, l2, μ => if μ 6 0 ≤ l2 then some μ else (fX3_ceiling μ l2).bind fun v1 => hn_wr μ 48 12 l2 v1 fun μ2 => fX3_layCeilings_2 F n (l2 + 1) μ2
def fX3_layCeilings (F : Nat) (μ : hn_M) : Option hn_M := fX3_layCeilings_2 F F 0 μ
set_option maxHeartbeats 1000000 in
theorem gX3_layCeilings_2 {Z : hn_Z} {B : hn_B} {F : Nat} {R : hn_M} (hF : hn_F Z B (0, 0) cX3_layCeilings 3 RX3 none 1) (hQ : hn_goal Z B (none, R)) (hV : hn_V B hn_nA) : ∀ (n : Nat) (l2 : Int32) (μ : hn_M), fX3_layCeilings_2 F n l2 μ = some R → hn_G Z B (0, 0) 3 2 [(0, .ref (hn_base B + 46)), (1, .ref (hn_base B + 6)), (2, .int l2)] [] μ := by
  have a48 : hn_isA B 48 false 12 := hV 48 (by decide)
  have o46 : hn_isO B 46 3 hn_k46 := hV 46 (by decide)
  have o6 : hn_isO B 6 1 hn_k6 := hV 6 (by decide)
  intro n
  induction n with
  | zero => intro l2 μ e; rw [fX3_layCeilings_2] at e; cases e
  | succ n ih =>
    intro l2 μ e
    rw [fX3_layCeilings_2] at e
    refine hn_iload_n hF dX3_layCeilings_2 (q := 3) rfl 2 rfl ?_
    refine hn_aload_n hF dX3_layCeilings_3 (q := 4) rfl 1 rfl ?_
    refine hn_get hF fl_X3_41 o6 rfl rfl dX3_layCeilings_4 (q := 7) rfl ?_
    refine hn_icmp_ge hF dX3_layCeilings_7 (t := 27) (q := 10) rfl rfl e (fun e => ?_) (fun e => ?_)
    · exact hn_vretM hF hQ dX3_layCeilings_27 e
    · refine hn_aload_n hF dX3_layCeilings_10 (q := 11) rfl 0 rfl ?_
      refine hn_get hF fl_X3_15 o46 rfl rfl dX3_layCeilings_11 (q := 14) rfl ?_
      refine hn_iload_n hF dX3_layCeilings_14 (q := 15) rfl 2 rfl ?_
      refine hn_aload_n hF dX3_layCeilings_15 (q := 16) rfl 1 rfl ?_
      refine hn_iload_n hF dX3_layCeilings_16 (q := 17) rfl 2 rfl ?_
      refine hn_callSi (rest := [.int l2, .ref (hn_base B + 48)]) hF ms_X3_ceiling mt_X3_ceiling lk_X3_83 (by decide) [.ref (hn_base B + 6), .int l2] rfl (Nat.le_of_ble_eq_true rfl) dX3_layCeilings_17 (q := 20) rfl rfl e (fun v hv => cX3_ceiling_ hV hv) (fun v1 e => ?_)
      refine hn_ast hF a48 dX3_layCeilings_20 (q := 21) rfl e (fun μ2 e => ?_)
      refine hn_iinc (p := 2) hF dX3_layCeilings_21 (q := 24) rfl rfl (kn_1 _) (by decide) (L' := [(2, .int (l2 + 1)), (0, .ref (hn_base B + 46)), (1, .ref (hn_base B + 6))]) rfl ?_
      refine hn_goto hF dX3_layCeilings_24 (q := 2) rfl ?_
      refine hn_sub [1, 2, 0] (L' := [(0, .ref (hn_base B + 46)), (1, .ref (hn_base B + 6)), (2, .int (l2 + 1))]) rfl ?_
      exact ih (l2 + 1) μ2 e
set_option maxHeartbeats 1000000 in
theorem gX3_layCeilings {Z : hn_Z} {B : hn_B} {F : Nat} {R : hn_M} (hF : hn_F Z B (0, 0) cX3_layCeilings 3 RX3 none 1) (hQ : hn_goal Z B (none, R)) (hV : hn_V B hn_nA) {μ : hn_M} (e : fX3_layCeilings F μ = some R) : hn_G Z B (0, 0) 3 0 [(0, .ref (hn_base B + 46)), (1, .ref (hn_base B + 6))] [] μ := by
  unfold fX3_layCeilings at e
  refine hn_iconst hF dX3_layCeilings_0 (q := 1) rfl ki_0 ?_
  refine hn_istore_n hF dX3_layCeilings_1 (q := 2) rfl (i := 2) rfl (by decide) (L' := [(2, .int 0), (0, .ref (hn_base B + 46)), (1, .ref (hn_base B + 6))]) rfl ?_
  refine hn_sub [1, 2, 0] (L' := [(0, .ref (hn_base B + 46)), (1, .ref (hn_base B + 6)), (2, .int 0)]) rfl ?_
  exact gX3_layCeilings_2 hF hQ hV F 0 μ e
theorem cX3_layCeilings_ {B : hn_B} {F : Nat} {μ : hn_M} {R : hn_M} (hV : hn_V B hn_nA) (e : fX3_layCeilings F μ = some R) : hn_C yX3_layCeilings cX3_layCeilings 3 none 1 B [.ref (hn_base B + 46), .ref (hn_base B + 6)] μ (none, R) :=
  hn_C.of RX3 (by decide) rfl (Nat.le_of_ble_eq_true rfl) (fun _ hF hQ => gX3_layCeilings hF hQ hV e)
/-! HandNews$Spans.sink(LHandNews$Papers;LHandNews$Posts;)V -/
def fX3_sink_76 (F : Nat) (k2 : Int32 → hn_M → Option hn_M) (l3 : Int32) (μ : hn_M) : Option hn_M := k2 (l3 + 1) μ
def fX3_sink_11 (F : Nat) (k2 : Int32 → hn_M → Option hn_M) : Nat → Int32 → Int32 → hn_M → Option hn_M
  | 0, _, _, _ => none
  | n + 1, l3, l4, μ => if μ 6 4 ≤ l4 then fX3_sink_76 F k2 l3 μ else hn_rd μ 10 20 l4 fun v1 => hn_rd μ 48 12 v1 fun v2 => (fX3_gap μ l4).bind fun v3 => hn_rd μ 11 20 l4 fun v4 => hn_rd μ 48 12 v4 fun v5 => hn_wr μ 48 12 v4 (if v2 - v3 < v5 then v2 - v3 else v5) fun μ6 => fX3_sink_11 F k2 n l3 (l4 + 1) μ6
def fX3_sink_2 (F : Nat) : Nat → Int32 → hn_M → Option hn_M
  | 0, _, _ => none
  | n + 1, l3, μ => if 12 ≤ l3 then some μ else fX3_sink_11 F (fX3_sink_2 F n) F l3 0 μ
def fX3_sink (F : Nat) (μ : hn_M) : Option hn_M := fX3_sink_2 F F 0 μ
set_option maxHeartbeats 1000000 in
theorem gX3_sink_76 {Z : hn_Z} {B : hn_B} {F : Nat} {R : hn_M} (hF : hn_F Z B (0, 0) cX3_sink 7 RX3 none 2) (hQ : hn_goal Z B (none, R)) (hV : hn_V B hn_nA) {k2 : Int32 → hn_M → Option hn_M} (H2 : ∀ (l3 : Int32) (μ : hn_M), k2 l3 μ = some R → hn_G Z B (0, 0) 7 2 [(0, .ref (hn_base B + 46)), (1, .ref (hn_base B + 6)), (2, .ref (hn_base B + 1)), (3, .int l3)] [] μ) {l3 : Int32} {μ : hn_M} (e : fX3_sink_76 F k2 l3 μ = some R) : hn_G Z B (0, 0) 7 76 [(0, .ref (hn_base B + 46)), (1, .ref (hn_base B + 6)), (2, .ref (hn_base B + 1)), (3, .int l3)] [] μ := by
  unfold fX3_sink_76 at e
  refine hn_iinc (p := 3) hF dX3_sink_76 (q := 79) rfl rfl (kn_1 _) (by decide) (L' := [(3, .int (l3 + 1)), (0, .ref (hn_base B + 46)), (1, .ref (hn_base B + 6)), (2, .ref (hn_base B + 1))]) rfl ?_
  refine hn_goto hF dX3_sink_79 (q := 2) rfl ?_
  refine hn_sub [1, 2, 3, 0] (L' := [(0, .ref (hn_base B + 46)), (1, .ref (hn_base B + 6)), (2, .ref (hn_base B + 1)), (3, .int (l3 + 1))]) rfl ?_
  exact H2 (l3 + 1) μ e
set_option maxHeartbeats 1000000 in
theorem gX3_sink_11 {Z : hn_Z} {B : hn_B} {F : Nat} {R : hn_M} (hF : hn_F Z B (0, 0) cX3_sink 7 RX3 none 2) (hQ : hn_goal Z B (none, R)) (hV : hn_V B hn_nA) {k2 : Int32 → hn_M → Option hn_M} (H2 : ∀ (l3 : Int32) (μ : hn_M), k2 l3 μ = some R → hn_G Z B (0, 0) 7 2 [(0, .ref (hn_base B + 46)), (1, .ref (hn_base B + 6)), (2, .ref (hn_base B + 1)), (3, .int l3)] [] μ) : ∀ (n : Nat) (l3 : Int32) (l4 : Int32) (μ : hn_M), fX3_sink_11 F k2 n l3 l4 μ = some R → hn_G Z B (0, 0) 7 11 [(0, .ref (hn_base B + 46)), (1, .ref (hn_base B + 6)), (2, .ref (hn_base B + 1)), (3, .int l3), (4, .int l4)] [] μ := by
  have a10 : hn_isA B 10 false 20 := hV 10 (by decide)
  have a11 : hn_isA B 11 false 20 := hV 11 (by decide)
  have a48 : hn_isA B 48 false 12 := hV 48 (by decide)
  have o46 : hn_isO B 46 3 hn_k46 := hV 46 (by decide)
  have o6 : hn_isO B 6 1 hn_k6 := hV 6 (by decide)
  intro n
  induction n with
  | zero => intro l3 l4 μ e; rw [fX3_sink_11] at e; cases e
  | succ n ih =>
    intro l3 l4 μ e
    rw [fX3_sink_11] at e
    refine hn_iload hF dX3_sink_11 (q := 13) rfl 4 rfl ?_
    refine hn_aload_n hF dX3_sink_13 (q := 14) rfl 1 rfl ?_
    refine hn_get hF fl_X3_95 o6 rfl rfl dX3_sink_14 (q := 17) rfl ?_
    refine hn_icmp_ge hF dX3_sink_17 (t := 76) (q := 20) rfl rfl e (fun e => ?_) (fun e => ?_)
    · refine hn_sub [0, 1, 2, 3] (L' := [(0, .ref (hn_base B + 46)), (1, .ref (hn_base B + 6)), (2, .ref (hn_base B + 1)), (3, .int l3)]) rfl ?_
      exact gX3_sink_76 hF hQ hV H2 e
    · refine hn_aload_n hF dX3_sink_20 (q := 21) rfl 0 rfl ?_
      refine hn_get hF fl_X3_15 o46 rfl rfl dX3_sink_21 (q := 24) rfl ?_
      refine hn_aload_n hF dX3_sink_24 (q := 25) rfl 1 rfl ?_
      refine hn_get hF fl_X3_105 o6 rfl rfl dX3_sink_25 (q := 28) rfl ?_
      refine hn_iload hF dX3_sink_28 (q := 30) rfl 4 rfl ?_
      refine hn_ald hF a10 dX3_sink_30 (q := 31) rfl e (fun v1 e => ?_)
      refine hn_ald hF a48 dX3_sink_31 (q := 32) rfl e (fun v2 e => ?_)
      refine hn_aload_n hF dX3_sink_32 (q := 33) rfl 1 rfl ?_
      refine hn_aload_n hF dX3_sink_33 (q := 34) rfl 2 rfl ?_
      refine hn_iload hF dX3_sink_34 (q := 36) rfl 4 rfl ?_
      refine hn_callSi (rest := [.int v2]) hF ms_X3_gap mt_X3_gap lk_X3_101 (by decide) [.ref (hn_base B + 6), .ref (hn_base B + 1), .int l4] rfl (Nat.le_of_ble_eq_true rfl) dX3_sink_36 (q := 39) rfl rfl e (fun v hv => cX3_gap_ hV hv) (fun v3 e => ?_)
      refine hn_isub hF dX3_sink_39 (q := 40) rfl ?_
      refine hn_istore hF dX3_sink_40 (q := 42) rfl (by decide) (L' := [(5, .int (v2 - v3)), (0, .ref (hn_base B + 46)), (1, .ref (hn_base B + 6)), (2, .ref (hn_base B + 1)), (3, .int l3), (4, .int l4)]) rfl ?_
      refine hn_aload_n hF dX3_sink_42 (q := 43) rfl 2 rfl ?_
      refine hn_get hF fl_X3_98 o6 rfl rfl dX3_sink_43 (q := 46) rfl ?_
      refine hn_iload hF dX3_sink_46 (q := 48) rfl 5 rfl ?_
      refine hn_ald hF a11 dX3_sink_48 (q := 49) rfl e (fun v4 e => ?_)
      refine hn_istore hF dX3_sink_49 (q := 51) rfl (by decide) (L' := [(6, .int v4), (5, .int (v2 - v3)), (0, .ref (hn_base B + 46)), (1, .ref (hn_base B + 6)), (2, .ref (hn_base B + 1)), (3, .int l3), (4, .int l4)]) rfl ?_
      refine hn_aload_n hF dX3_sink_51 (q := 52) rfl 2 rfl ?_
      refine hn_get hF fl_X3_15 o46 rfl rfl dX3_sink_52 (q := 55) rfl ?_
      refine hn_iload hF dX3_sink_55 (q := 57) rfl 0 rfl ?_
      refine hn_aload_n hF dX3_sink_57 (q := 58) rfl 2 rfl ?_
      refine hn_get hF fl_X3_15 o46 rfl rfl dX3_sink_58 (q := 61) rfl ?_
      refine hn_iload hF dX3_sink_61 (q := 63) rfl 0 rfl ?_
      refine hn_ald hF a48 dX3_sink_63 (q := 64) rfl e (fun v5 e => ?_)
      refine hn_iload hF dX3_sink_64 (q := 66) rfl 1 rfl ?_
      refine hn_min hF lm_X3_108 (Nat.le_of_ble_eq_true rfl) (Nat.le_of_ble_eq_true rfl) dX3_sink_66 (q := 69) rfl ?_
      refine hn_ast hF a48 dX3_sink_69 (q := 70) rfl e (fun μ6 e => ?_)
      refine hn_iinc (p := 6) hF dX3_sink_70 (q := 73) rfl rfl (kn_1 _) (by decide) (L' := [(4, .int (l4 + 1)), (6, .int v4), (5, .int (v2 - v3)), (0, .ref (hn_base B + 46)), (1, .ref (hn_base B + 6)), (2, .ref (hn_base B + 1)), (3, .int l3)]) rfl ?_
      refine hn_goto hF dX3_sink_73 (q := 11) rfl ?_
      refine hn_sub [3, 4, 5, 6, 0] (L' := [(0, .ref (hn_base B + 46)), (1, .ref (hn_base B + 6)), (2, .ref (hn_base B + 1)), (3, .int l3), (4, .int (l4 + 1))]) rfl ?_
      exact ih l3 (l4 + 1) μ6 e
set_option maxHeartbeats 1000000 in
theorem gX3_sink_2 {Z : hn_Z} {B : hn_B} {F : Nat} {R : hn_M} (hF : hn_F Z B (0, 0) cX3_sink 7 RX3 none 2) (hQ : hn_goal Z B (none, R)) (hV : hn_V B hn_nA) : ∀ (n : Nat) (l3 : Int32) (μ : hn_M), fX3_sink_2 F n l3 μ = some R → hn_G Z B (0, 0) 7 2 [(0, .ref (hn_base B + 46)), (1, .ref (hn_base B + 6)), (2, .ref (hn_base B + 1)), (3, .int l3)] [] μ := by
  intro n
  induction n with
  | zero => intro l3 μ e; rw [fX3_sink_2] at e; cases e
  | succ n ih =>
    intro l3 μ e
    rw [fX3_sink_2] at e
    refine hn_iload_n hF dX3_sink_2 (q := 3) rfl 3 rfl ?_
    refine hn_bipush hF dX3_sink_3 (q := 5) rfl kb_12 ?_
    refine hn_icmp_ge hF dX3_sink_5 (t := 82) (q := 8) rfl rfl e (fun e => ?_) (fun e => ?_)
    · exact hn_vretM hF hQ dX3_sink_82 e
    · refine hn_iconst hF dX3_sink_8 (q := 9) rfl ki_0 ?_
      refine hn_istore hF dX3_sink_9 (q := 11) rfl (by decide) (L' := [(4, .int 0), (0, .ref (hn_base B + 46)), (1, .ref (hn_base B + 6)), (2, .ref (hn_base B + 1)), (3, .int l3)]) rfl ?_
      refine hn_sub [1, 2, 3, 4, 0] (L' := [(0, .ref (hn_base B + 46)), (1, .ref (hn_base B + 6)), (2, .ref (hn_base B + 1)), (3, .int l3), (4, .int 0)]) rfl ?_
      exact gX3_sink_11 hF hQ hV ih F l3 0 μ e
set_option maxHeartbeats 1000000 in
theorem gX3_sink {Z : hn_Z} {B : hn_B} {F : Nat} {R : hn_M} (hF : hn_F Z B (0, 0) cX3_sink 7 RX3 none 2) (hQ : hn_goal Z B (none, R)) (hV : hn_V B hn_nA) {μ : hn_M} (e : fX3_sink F μ = some R) : hn_G Z B (0, 0) 7 0 [(0, .ref (hn_base B + 46)), (1, .ref (hn_base B + 6)), (2, .ref (hn_base B + 1))] [] μ := by
  unfold fX3_sink at e
  refine hn_iconst hF dX3_sink_0 (q := 1) rfl ki_0 ?_
  refine hn_istore_n hF dX3_sink_1 (q := 2) rfl (i := 3) rfl (by decide) (L' := [(3, .int 0), (0, .ref (hn_base B + 46)), (1, .ref (hn_base B + 6)), (2, .ref (hn_base B + 1))]) rfl ?_
  refine hn_sub [1, 2, 3, 0] (L' := [(0, .ref (hn_base B + 46)), (1, .ref (hn_base B + 6)), (2, .ref (hn_base B + 1)), (3, .int 0)]) rfl ?_
  exact gX3_sink_2 hF hQ hV F 0 μ e
theorem cX3_sink_ {B : hn_B} {F : Nat} {μ : hn_M} {R : hn_M} (hV : hn_V B hn_nA) (e : fX3_sink F μ = some R) : hn_C yX3_sink cX3_sink 7 none 2 B [.ref (hn_base B + 46), .ref (hn_base B + 6), .ref (hn_base B + 1)] μ (none, R) :=
  hn_C.of RX3 (by decide) rfl (Nat.le_of_ble_eq_true rfl) (fun _ hF hQ => gX3_sink hF hQ hV e)
/-! HandNews$Spans.reckon(LHandNews$Papers;LHandNews$Posts;)V -/
def fX3_reckon_31 (F : Nat) (s0 : Int32) (μ : hn_M) : Option hn_M := hn_bo s0 (hn_pf μ 46 3 s0 fun μ1 => if μ1 46 3 = 0 then (fX3_layCeilings F μ1).bind fun μ2 => (fX3_sink F μ2).bind fun μ3 => some μ3 else some μ1)
def fX3_reckon (F : Nat) (μ : hn_M) : Option hn_M := (fX3_layFloors F 47 μ).bind fun μ4 => (fX3_rises F 47 (-1) (-1) μ4).bind fun w5 => if w5.1 = 0 then fX3_reckon_31 F 1 w5.2 else fX3_reckon_31 F 0 w5.2
set_option maxHeartbeats 1000000 in
theorem gX3_reckon_31 {Z : hn_Z} {B : hn_B} {F : Nat} {R : hn_M} (hF : hn_F Z B (0, 0) cX3_reckon 3 RX3 none 4) (hQ : hn_goal Z B (none, R)) (hV : hn_V B hn_nA) {s0 : Int32} {μ : hn_M} (e : fX3_reckon_31 F s0 μ = some R) : hn_G Z B (0, 0) 3 31 [(0, .ref (hn_base B + 46)), (1, .ref (hn_base B + 6)), (2, .ref (hn_base B + 1))] [.int s0, .ref (hn_base B + 46)] μ := by
  unfold fX3_reckon_31 at e
  have o46 : hn_isO B 46 3 hn_k46 := hV 46 (by decide)
  obtain ⟨hz, e⟩ := hn_bo_some e
  refine hn_put hF fl_X3_21 fp_X3_3 o46 rfl rfl (hn_nb hz) (hn_fb hz) dX3_reckon_31 (q := 34) rfl e (fun μ1 e => ?_)
  refine hn_aload_n hF dX3_reckon_34 (q := 35) rfl 0 rfl ?_
  refine hn_get hF fl_X3_21 o46 rfl rfl dX3_reckon_35 (q := 38) rfl ?_
  refine hn_if_ne hF dX3_reckon_38 (t := 52) (q := 41) rfl rfl e (fun e => ?_) (fun e => ?_)
  · exact hn_vretM hF hQ dX3_reckon_52 e
  · refine hn_aload_n hF dX3_reckon_41 (q := 42) rfl 0 rfl ?_
    refine hn_aload_n hF dX3_reckon_42 (q := 43) rfl 1 rfl ?_
    refine hn_callVv (rest := []) hF ms_X3_layCeilings mv_X3_layCeilings lk_X3_33 o46 rfl (by decide) [.ref (hn_base B + 6)] rfl (Nat.le_of_ble_eq_true rfl) dX3_reckon_43 (q := 46) rfl rfl e (fun v hv => cX3_layCeilings_ hV hv) (fun μ2 e => ?_)
    refine hn_aload_n hF dX3_reckon_46 (q := 47) rfl 0 rfl ?_
    refine hn_aload_n hF dX3_reckon_47 (q := 48) rfl 1 rfl ?_
    refine hn_aload_n hF dX3_reckon_48 (q := 49) rfl 2 rfl ?_
    refine hn_callVv (rest := []) hF ms_X3_sink mv_X3_sink lk_X3_37 o46 rfl (by decide) [.ref (hn_base B + 6), .ref (hn_base B + 1)] rfl (Nat.le_of_ble_eq_true rfl) dX3_reckon_49 (q := 52) rfl rfl e (fun v hv => cX3_sink_ hV hv) (fun μ3 e => ?_)
    exact hn_vretM hF hQ dX3_reckon_52 e
set_option maxHeartbeats 1000000 in
theorem gX3_reckon {Z : hn_Z} {B : hn_B} {F : Nat} {R : hn_M} (hF : hn_F Z B (0, 0) cX3_reckon 3 RX3 none 4) (hQ : hn_goal Z B (none, R)) (hV : hn_V B hn_nA) {μ : hn_M} (e : fX3_reckon F μ = some R) : hn_G Z B (0, 0) 3 0 [(0, .ref (hn_base B + 46)), (1, .ref (hn_base B + 6)), (2, .ref (hn_base B + 1))] [] μ := by
  unfold fX3_reckon at e
  have o46 : hn_isO B 46 3 hn_k46 := hV 46 (by decide)
  refine hn_aload_n hF dX3_reckon_0 (q := 1) rfl 0 rfl ?_
  refine hn_aload_n hF dX3_reckon_1 (q := 2) rfl 1 rfl ?_
  refine hn_aload_n hF dX3_reckon_2 (q := 3) rfl 2 rfl ?_
  refine hn_aload_n hF dX3_reckon_3 (q := 4) rfl 0 rfl ?_
  refine hn_get hF fl_X3_9 o46 rfl rfl dX3_reckon_4 (q := 7) rfl ?_
  refine hn_callVv (rest := []) hF ms_X3_layFloors mv_X3_layFloors lk_X3_25 o46 rfl (by decide) [.ref (hn_base B + 6), .ref (hn_base B + 1), .ref (hn_base B + 47)] rfl (Nat.le_of_ble_eq_true rfl) dX3_reckon_7 (q := 10) rfl rfl e (fun v hv => cX3_layFloors_ hV (by decide) hv) (fun μ4 e => ?_)
  refine hn_aload_n hF dX3_reckon_10 (q := 11) rfl 0 rfl ?_
  refine hn_aload_n hF dX3_reckon_11 (q := 12) rfl 0 rfl ?_
  refine hn_aload_n hF dX3_reckon_12 (q := 13) rfl 1 rfl ?_
  refine hn_aload_n hF dX3_reckon_13 (q := 14) rfl 2 rfl ?_
  refine hn_aload_n hF dX3_reckon_14 (q := 15) rfl 0 rfl ?_
  refine hn_get hF fl_X3_9 o46 rfl rfl dX3_reckon_15 (q := 18) rfl ?_
  refine hn_iconst hF dX3_reckon_18 (q := 19) rfl ki_m1 ?_
  refine hn_iconst hF dX3_reckon_19 (q := 20) rfl ki_m1 ?_
  refine hn_callVm (rest := [.ref (hn_base B + 46)]) hF ms_X3_rises mv_X3_rises lk_X3_29 o46 rfl (by decide) [.ref (hn_base B + 6), .ref (hn_base B + 1), .ref (hn_base B + 47), .int ((-1)), .int ((-1))] rfl (Nat.le_of_ble_eq_true rfl) dX3_reckon_20 (q := 23) rfl rfl e (fun v hv => cX3_rises_ hV (by decide) hv) (fun w5 e => ?_)
  refine hn_if_ne hF dX3_reckon_23 (t := 30) (q := 26) rfl rfl e (fun e => ?_) (fun e => ?_)
  · refine hn_iconst hF dX3_reckon_30 (q := 31) rfl ki_0 ?_
    exact gX3_reckon_31 hF hQ hV e
  · refine hn_iconst hF dX3_reckon_26 (q := 27) rfl ki_1 ?_
    refine hn_goto hF dX3_reckon_27 (q := 31) rfl ?_
    exact gX3_reckon_31 hF hQ hV e
theorem cX3_reckon_ {B : hn_B} {F : Nat} {μ : hn_M} {R : hn_M} (hV : hn_V B hn_nA) (e : fX3_reckon F μ = some R) : hn_C yX3_reckon cX3_reckon 3 none 4 B [.ref (hn_base B + 46), .ref (hn_base B + 6), .ref (hn_base B + 1)] μ (none, R) :=
  hn_C.of RX3 (by decide) rfl (Nat.le_of_ble_eq_true rfl) (fun _ hF hQ => gX3_reckon hF hQ hV e)
/-! HandNews$Spans.canBeNoEarlier(LHandNews$Papers;LHandNews$Posts;II)Z -/
def fX3_canBeNoEarlier (F : Nat) (l3 : Int32) (l4 : Int32) (μ : hn_M) : Option (Int32 × hn_M) := (fX3_layFloors F 49 μ).bind fun μ1 => (fX3_rises F 49 l3 l4 μ1).bind fun w2 => hn_bo w2.1 (some (w2.1, w2.2))
set_option maxHeartbeats 1000000 in
theorem gX3_canBeNoEarlier {Z : hn_Z} {B : hn_B} {F : Nat} {R : Int32 × hn_M} (hF : hn_F Z B (0, 0) cX3_canBeNoEarlier 5 RX3 (some .boolean) 4) (hQ : hn_goal Z B (some (.int R.1), R.2)) (hV : hn_V B hn_nA) {l3 : Int32} {l4 : Int32} {μ : hn_M} (e : fX3_canBeNoEarlier F l3 l4 μ = some R) : hn_G Z B (0, 0) 5 0 [(0, .ref (hn_base B + 46)), (1, .ref (hn_base B + 6)), (2, .ref (hn_base B + 1)), (3, .int l3), (4, .int l4)] [] μ := by
  unfold fX3_canBeNoEarlier at e
  have o46 : hn_isO B 46 3 hn_k46 := hV 46 (by decide)
  refine hn_aload_n hF dX3_canBeNoEarlier_0 (q := 1) rfl 0 rfl ?_
  refine hn_aload_n hF dX3_canBeNoEarlier_1 (q := 2) rfl 1 rfl ?_
  refine hn_aload_n hF dX3_canBeNoEarlier_2 (q := 3) rfl 2 rfl ?_
  refine hn_aload_n hF dX3_canBeNoEarlier_3 (q := 4) rfl 0 rfl ?_
  refine hn_get hF fl_X3_18 o46 rfl rfl dX3_canBeNoEarlier_4 (q := 7) rfl ?_
  refine hn_callVv (rest := []) hF ms_X3_layFloors mv_X3_layFloors lk_X3_25 o46 rfl (by decide) [.ref (hn_base B + 6), .ref (hn_base B + 1), .ref (hn_base B + 49)] rfl (Nat.le_of_ble_eq_true rfl) dX3_canBeNoEarlier_7 (q := 10) rfl rfl e (fun v hv => cX3_layFloors_ hV (by decide) hv) (fun μ1 e => ?_)
  refine hn_aload_n hF dX3_canBeNoEarlier_10 (q := 11) rfl 0 rfl ?_
  refine hn_aload_n hF dX3_canBeNoEarlier_11 (q := 12) rfl 1 rfl ?_
  refine hn_aload_n hF dX3_canBeNoEarlier_12 (q := 13) rfl 2 rfl ?_
  refine hn_aload_n hF dX3_canBeNoEarlier_13 (q := 14) rfl 0 rfl ?_
  refine hn_get hF fl_X3_18 o46 rfl rfl dX3_canBeNoEarlier_14 (q := 17) rfl ?_
  refine hn_iload_n hF dX3_canBeNoEarlier_17 (q := 18) rfl 3 rfl ?_
  refine hn_iload hF dX3_canBeNoEarlier_18 (q := 20) rfl 4 rfl ?_
  refine hn_callVm (rest := []) hF ms_X3_rises mv_X3_rises lk_X3_29 o46 rfl (by decide) [.ref (hn_base B + 6), .ref (hn_base B + 1), .ref (hn_base B + 49), .int l3, .int l4] rfl (Nat.le_of_ble_eq_true rfl) dX3_canBeNoEarlier_20 (q := 23) rfl rfl e (fun v hv => cX3_rises_ hV (by decide) hv) (fun w2 e => ?_)
  exact hn_zretMg hF hQ dX3_canBeNoEarlier_23 e
theorem cX3_canBeNoEarlier_ {B : hn_B} {F : Nat} {μ : hn_M} {R : Int32 × hn_M} {l3 : Int32} {l4 : Int32} (hV : hn_V B hn_nA) (e : fX3_canBeNoEarlier F l3 l4 μ = some R) : hn_C yX3_canBeNoEarlier cX3_canBeNoEarlier 5 (some .boolean) 4 B [.ref (hn_base B + 46), .ref (hn_base B + 6), .ref (hn_base B + 1), .int l3, .int l4] μ (some (.int R.1), R.2) :=
  hn_C.of RX3 (by decide) rfl (Nat.le_of_ble_eq_true rfl) (fun _ hF hQ => gX3_canBeNoEarlier hF hQ hV e)
