/-! HandNews$Tree.couldCopy(LHandNews$Papers;LHandNews$Posts;LHandNews$Spans;II)Z -/
def fX5_couldCopy (μ : hn_M) (l3 : Int32) (l4 : Int32) : Option Int32 := hn_rd μ 12 30 l3 fun v1 => hn_rd μ 12 30 l4 fun v2 => if v1 = v2 then some 0 else hn_rd μ 13 30 l3 fun v3 => hn_rd μ 13 30 l4 fun v4 => if v3 = v4 then (fX1_isDenied μ l3).bind fun v5 => (fX1_isDenied μ l4).bind fun v6 => if v5 = v6 then hn_rd μ 7 12 v2 fun v7 => hn_rd μ 7 12 v1 fun v8 => (fX2_leads μ v7 v8).bind fun v9 => if v9 = 0 then some 0 else hn_rd μ 48 12 v1 fun v10 => hn_rd μ 47 12 v2 fun v11 => (fX2_days μ v7 v8).bind fun v12 => if v11 + v12 ≤ v10 then hn_rd μ 47 12 v2 fun v13 => hn_rd μ 47 12 v1 fun v14 => if v13 < v14 then some 1 else hn_rd μ 47 12 v2 fun v15 => hn_rd μ 47 12 v1 fun v16 => if v15 = v16 then if v1 ≤ v2 then some 0 else some 1 else some 0 else some 0 else some 0 else some 0
set_option maxHeartbeats 1000000 in
theorem gX5_couldCopy {Z : hn_Z} {B : hn_B} {μ : hn_M} {R : Int32} (hF : hn_F Z B (0, 0) cX5_couldCopy 9 RX5 (some .boolean) 2) (hQ : hn_goal Z B (some (.int R), μ)) (hV : hn_V B hn_nA) {l3 : Int32} {l4 : Int32} (e : fX5_couldCopy μ l3 l4 = some R) : hn_G Z B (0, 0) 9 0 [(0, .ref (hn_base B + 6)), (1, .ref (hn_base B + 1)), (2, .ref (hn_base B + 46)), (3, .int l3), (4, .int l4)] [] μ := by
  unfold fX5_couldCopy at e
  have a12 : hn_isA B 12 false 30 := hV 12 (by decide)
  have a13 : hn_isA B 13 false 30 := hV 13 (by decide)
  have a47 : hn_isA B 47 false 12 := hV 47 (by decide)
  have a48 : hn_isA B 48 false 12 := hV 48 (by decide)
  have a7 : hn_isA B 7 false 12 := hV 7 (by decide)
  have o1 : hn_isO B 1 2 hn_k1 := hV 1 (by decide)
  have o46 : hn_isO B 46 3 hn_k46 := hV 46 (by decide)
  have o6 : hn_isO B 6 1 hn_k6 := hV 6 (by decide)
  refine hn_aload_n hF dX5_couldCopy_0 (q := 1) rfl 0 rfl ?_
  refine hn_get hF fl_X5_47 o6 rfl rfl dX5_couldCopy_1 (q := 4) rfl ?_
  refine hn_iload_n hF dX5_couldCopy_4 (q := 5) rfl 3 rfl ?_
  refine hn_ald hF a12 dX5_couldCopy_5 (q := 6) rfl e (fun v1 e => ?_)
  refine hn_istore hF dX5_couldCopy_6 (q := 8) rfl (by decide) (L' := [(5, .int v1), (0, .ref (hn_base B + 6)), (1, .ref (hn_base B + 1)), (2, .ref (hn_base B + 46)), (3, .int l3), (4, .int l4)]) rfl ?_
  refine hn_aload_n hF dX5_couldCopy_8 (q := 9) rfl 1 rfl ?_
  refine hn_get hF fl_X5_47 o6 rfl rfl dX5_couldCopy_9 (q := 12) rfl ?_
  refine hn_iload hF dX5_couldCopy_12 (q := 14) rfl 5 rfl ?_
  refine hn_ald hF a12 dX5_couldCopy_14 (q := 15) rfl e (fun v2 e => ?_)
  refine hn_istore hF dX5_couldCopy_15 (q := 17) rfl (by decide) (L' := [(6, .int v2), (5, .int v1), (0, .ref (hn_base B + 6)), (1, .ref (hn_base B + 1)), (2, .ref (hn_base B + 46)), (3, .int l3), (4, .int l4)]) rfl ?_
  refine hn_iload hF dX5_couldCopy_17 (q := 19) rfl 1 rfl ?_
  refine hn_iload hF dX5_couldCopy_19 (q := 21) rfl 0 rfl ?_
  refine hn_icmp_eq hF dX5_couldCopy_21 (t := 54) (q := 24) rfl rfl e (fun e => ?_) (fun e => ?_)
  · refine hn_iconst hF dX5_couldCopy_54 (q := 55) rfl ki_0 ?_
    exact hn_zretP hF hQ dX5_couldCopy_55 (Or.inl rfl) e
  · refine hn_aload_n hF dX5_couldCopy_24 (q := 25) rfl 2 rfl ?_
    refine hn_get hF fl_X5_50 o6 rfl rfl dX5_couldCopy_25 (q := 28) rfl ?_
    refine hn_iload_n hF dX5_couldCopy_28 (q := 29) rfl 5 rfl ?_
    refine hn_ald hF a13 dX5_couldCopy_29 (q := 30) rfl e (fun v3 e => ?_)
    refine hn_aload_n hF dX5_couldCopy_30 (q := 31) rfl 2 rfl ?_
    refine hn_get hF fl_X5_50 o6 rfl rfl dX5_couldCopy_31 (q := 34) rfl ?_
    refine hn_iload hF dX5_couldCopy_34 (q := 36) rfl 6 rfl ?_
    refine hn_ald hF a13 dX5_couldCopy_36 (q := 37) rfl e (fun v4 e => ?_)
    refine hn_icmp_ne hF dX5_couldCopy_37 (t := 54) (q := 40) rfl rfl e (fun e => ?_) (fun e => ?_)
    · refine hn_iconst hF dX5_couldCopy_54 (q := 55) rfl ki_0 ?_
      exact hn_zretP hF hQ dX5_couldCopy_55 (Or.inl rfl) e
    · refine hn_aload_n hF dX5_couldCopy_40 (q := 41) rfl 2 rfl ?_
      refine hn_iload_n hF dX5_couldCopy_41 (q := 42) rfl 5 rfl ?_
      refine hn_callVi (rest := []) hF ms_X1_isDenied mv_X1_isDenied lk_X5_53 o6 rfl (by decide) [.int l3] rfl (Nat.le_of_ble_eq_true rfl) dX5_couldCopy_42 (q := 45) rfl rfl e (fun v hv => cX1_isDenied_ hV hv) (fun v5 e => ?_)
      refine hn_aload_n hF dX5_couldCopy_45 (q := 46) rfl 2 rfl ?_
      refine hn_iload hF dX5_couldCopy_46 (q := 48) rfl 6 rfl ?_
      refine hn_callVi (rest := [.int v5]) hF ms_X1_isDenied mv_X1_isDenied lk_X5_53 o6 rfl (by decide) [.int l4] rfl (Nat.le_of_ble_eq_true rfl) dX5_couldCopy_48 (q := 51) rfl rfl e (fun v hv => cX1_isDenied_ hV hv) (fun v6 e => ?_)
      refine hn_icmp_eq hF dX5_couldCopy_51 (t := 56) (q := 54) rfl rfl e (fun e => ?_) (fun e => ?_)
      · refine hn_aload_n hF dX5_couldCopy_56 (q := 57) rfl 2 rfl ?_
        refine hn_get hF fl_X5_56 o6 rfl rfl dX5_couldCopy_57 (q := 60) rfl ?_
        refine hn_iload hF dX5_couldCopy_60 (q := 62) rfl 0 rfl ?_
        refine hn_ald hF a7 dX5_couldCopy_62 (q := 63) rfl e (fun v7 e => ?_)
        refine hn_istore hF dX5_couldCopy_63 (q := 65) rfl (by decide) (L' := [(7, .int v7), (6, .int v2), (5, .int v1), (0, .ref (hn_base B + 6)), (1, .ref (hn_base B + 1)), (2, .ref (hn_base B + 46)), (3, .int l3), (4, .int l4)]) rfl ?_
        refine hn_aload_n hF dX5_couldCopy_65 (q := 66) rfl 3 rfl ?_
        refine hn_get hF fl_X5_56 o6 rfl rfl dX5_couldCopy_66 (q := 69) rfl ?_
        refine hn_iload hF dX5_couldCopy_69 (q := 71) rfl 2 rfl ?_
        refine hn_ald hF a7 dX5_couldCopy_71 (q := 72) rfl e (fun v8 e => ?_)
        refine hn_istore hF dX5_couldCopy_72 (q := 74) rfl (by decide) (L' := [(8, .int v8), (7, .int v7), (6, .int v2), (5, .int v1), (0, .ref (hn_base B + 6)), (1, .ref (hn_base B + 1)), (2, .ref (hn_base B + 46)), (3, .int l3), (4, .int l4)]) rfl ?_
        refine hn_aload_n hF dX5_couldCopy_74 (q := 75) rfl 5 rfl ?_
        refine hn_iload hF dX5_couldCopy_75 (q := 77) rfl 1 rfl ?_
        refine hn_iload hF dX5_couldCopy_77 (q := 79) rfl 0 rfl ?_
        refine hn_callVi (rest := []) hF ms_X2_leads mv_X2_leads lk_X5_59 o1 rfl (by decide) [.int v7, .int v8] rfl (Nat.le_of_ble_eq_true rfl) dX5_couldCopy_79 (q := 82) rfl rfl e (fun v hv => cX2_leads_ hV.P hv) (fun v9 e => ?_)
        refine hn_if_eq hF dX5_couldCopy_82 (t := 111) (q := 85) rfl rfl e (fun e => ?_) (fun e => ?_)
        · refine hn_iconst hF dX5_couldCopy_111 (q := 112) rfl ki_0 ?_
          exact hn_zretP hF hQ dX5_couldCopy_112 (Or.inl rfl) e
        · refine hn_aload_n hF dX5_couldCopy_85 (q := 86) rfl 6 rfl ?_
          refine hn_get hF fl_X5_65 o46 rfl rfl dX5_couldCopy_86 (q := 89) rfl ?_
          refine hn_iload hF dX5_couldCopy_89 (q := 91) rfl 3 rfl ?_
          refine hn_ald hF a48 dX5_couldCopy_91 (q := 92) rfl e (fun v10 e => ?_)
          refine hn_aload_n hF dX5_couldCopy_92 (q := 93) rfl 6 rfl ?_
          refine hn_get hF fl_X5_70 o46 rfl rfl dX5_couldCopy_93 (q := 96) rfl ?_
          refine hn_iload hF dX5_couldCopy_96 (q := 98) rfl 2 rfl ?_
          refine hn_ald hF a47 dX5_couldCopy_98 (q := 99) rfl e (fun v11 e => ?_)
          refine hn_aload_n hF dX5_couldCopy_99 (q := 100) rfl 5 rfl ?_
          refine hn_iload hF dX5_couldCopy_100 (q := 102) rfl 1 rfl ?_
          refine hn_iload hF dX5_couldCopy_102 (q := 104) rfl 0 rfl ?_
          refine hn_callVi (rest := [.int v11, .int v10]) hF ms_X2_days mv_X2_days lk_X5_73 o1 rfl (by decide) [.int v7, .int v8] rfl (Nat.le_of_ble_eq_true rfl) dX5_couldCopy_104 (q := 107) rfl rfl e (fun v hv => cX2_days_ hV.P hv) (fun v12 e => ?_)
          refine hn_iadd hF dX5_couldCopy_107 (q := 108) rfl ?_
          refine hn_icmp_ge hF dX5_couldCopy_108 (t := 113) (q := 111) rfl rfl e (fun e => ?_) (fun e => ?_)
          · refine hn_aload_n hF dX5_couldCopy_113 (q := 114) rfl 6 rfl ?_
            refine hn_get hF fl_X5_70 o46 rfl rfl dX5_couldCopy_114 (q := 117) rfl ?_
            refine hn_iload hF dX5_couldCopy_117 (q := 119) rfl 2 rfl ?_
            refine hn_ald hF a47 dX5_couldCopy_119 (q := 120) rfl e (fun v13 e => ?_)
            refine hn_aload_n hF dX5_couldCopy_120 (q := 121) rfl 6 rfl ?_
            refine hn_get hF fl_X5_70 o46 rfl rfl dX5_couldCopy_121 (q := 124) rfl ?_
            refine hn_iload hF dX5_couldCopy_124 (q := 126) rfl 3 rfl ?_
            refine hn_ald hF a47 dX5_couldCopy_126 (q := 127) rfl e (fun v14 e => ?_)
            refine hn_icmp_lt hF dX5_couldCopy_127 (t := 154) (q := 130) rfl rfl e (fun e => ?_) (fun e => ?_)
            · refine hn_iconst hF dX5_couldCopy_154 (q := 155) rfl ki_1 ?_
              refine hn_goto hF dX5_couldCopy_155 (q := 159) rfl ?_
              exact hn_zretP hF hQ dX5_couldCopy_159 (Or.inr rfl) e
            · refine hn_aload_n hF dX5_couldCopy_130 (q := 131) rfl 6 rfl ?_
              refine hn_get hF fl_X5_70 o46 rfl rfl dX5_couldCopy_131 (q := 134) rfl ?_
              refine hn_iload hF dX5_couldCopy_134 (q := 136) rfl 2 rfl ?_
              refine hn_ald hF a47 dX5_couldCopy_136 (q := 137) rfl e (fun v15 e => ?_)
              refine hn_aload_n hF dX5_couldCopy_137 (q := 138) rfl 6 rfl ?_
              refine hn_get hF fl_X5_70 o46 rfl rfl dX5_couldCopy_138 (q := 141) rfl ?_
              refine hn_iload hF dX5_couldCopy_141 (q := 143) rfl 3 rfl ?_
              refine hn_ald hF a47 dX5_couldCopy_143 (q := 144) rfl e (fun v16 e => ?_)
              refine hn_icmp_ne hF dX5_couldCopy_144 (t := 158) (q := 147) rfl rfl e (fun e => ?_) (fun e => ?_)
              · refine hn_iconst hF dX5_couldCopy_158 (q := 159) rfl ki_0 ?_
                exact hn_zretP hF hQ dX5_couldCopy_159 (Or.inl rfl) e
              · refine hn_iload hF dX5_couldCopy_147 (q := 149) rfl 2 rfl ?_
                refine hn_iload hF dX5_couldCopy_149 (q := 151) rfl 3 rfl ?_
                refine hn_icmp_ge hF dX5_couldCopy_151 (t := 158) (q := 154) rfl rfl e (fun e => ?_) (fun e => ?_)
                · refine hn_iconst hF dX5_couldCopy_158 (q := 159) rfl ki_0 ?_
                  exact hn_zretP hF hQ dX5_couldCopy_159 (Or.inl rfl) e
                · refine hn_iconst hF dX5_couldCopy_154 (q := 155) rfl ki_1 ?_
                  refine hn_goto hF dX5_couldCopy_155 (q := 159) rfl ?_
                  exact hn_zretP hF hQ dX5_couldCopy_159 (Or.inr rfl) e
          · refine hn_iconst hF dX5_couldCopy_111 (q := 112) rfl ki_0 ?_
            exact hn_zretP hF hQ dX5_couldCopy_112 (Or.inl rfl) e
      · refine hn_iconst hF dX5_couldCopy_54 (q := 55) rfl ki_0 ?_
        exact hn_zretP hF hQ dX5_couldCopy_55 (Or.inl rfl) e
theorem cX5_couldCopy_ {B : hn_B} {μ : hn_M} {R : Int32} {l3 : Int32} {l4 : Int32} (hV : hn_V B hn_nA) (e : fX5_couldCopy μ l3 l4 = some R) : hn_C yX5_couldCopy cX5_couldCopy 9 (some .boolean) 2 B [.ref (hn_base B + 6), .ref (hn_base B + 1), .ref (hn_base B + 46), .int l3, .int l4] μ (some (.int R), μ) :=
  hn_C.of RX5 (by decide) rfl (Nat.le_of_ble_eq_true rfl) (fun _ hF hQ => gX5_couldCopy hF hQ hV e)
/-! HandNews$Tree.nearest(LHandNews$Papers;LHandNews$Posts;LHandNews$Spans;II)I -/
def fX5_nearest_60 (F : Nat) (μ : hn_M) (k12 : Int32 → Int32 → Int32 → Int32 → Option Int32) (l3 : Int32) (l5 : Int32) (l6 : Int32) (l7 : Int32) : Option Int32 := k12 l3 l5 l6 (l7 + 1)
def fX5_nearest_12 (F : Nat) (μ : hn_M) : Nat → Int32 → Int32 → Int32 → Int32 → Option Int32
  | 0, _, _, _, _ => none
  | n + 1, l3, l5, l6, l7 => if μ 6 7 ≤ l7 then some l5 else (fX5_couldCopy μ l3 l7).bind fun v1 => if v1 = 0 then fX5_nearest_60 F μ (fX5_nearest_12 F μ n) l3 l5 l6 l7 else (fX1_unlikeness F μ l3 l7).bind fun v2 => if l6 ≤ v2 then fX5_nearest_60 F μ (fX5_nearest_12 F μ n) l3 l5 l6 l7 else fX5_nearest_60 F μ (fX5_nearest_12 F μ n) l3 l7 v2 l7
def fX5_nearest (F : Nat) (μ : hn_M) (l3 : Int32) (l4 : Int32) : Option Int32 := fX5_nearest_12 F μ F l3 (-1) (l4 + 1) 0
set_option maxHeartbeats 1000000 in
theorem gX5_nearest_60 {Z : hn_Z} {B : hn_B} {F : Nat} {μ : hn_M} {R : Int32} (hF : hn_F Z B (0, 0) cX5_nearest 9 RX5 (some .int) 3) (hQ : hn_goal Z B (some (.int R), μ)) (hV : hn_V B hn_nA) {k12 : Int32 → Int32 → Int32 → Int32 → Option Int32} (H12 : ∀ (l3 : Int32) (l5 : Int32) (l6 : Int32) (l7 : Int32), k12 l3 l5 l6 l7 = some R → hn_G Z B (0, 0) 9 12 [(0, .ref (hn_base B + 6)), (1, .ref (hn_base B + 1)), (2, .ref (hn_base B + 46)), (3, .int l3), (5, .int l5), (6, .int l6), (7, .int l7)] [] μ) {l3 : Int32} {l5 : Int32} {l6 : Int32} {l7 : Int32} (e : fX5_nearest_60 F μ k12 l3 l5 l6 l7 = some R) : hn_G Z B (0, 0) 9 60 [(0, .ref (hn_base B + 6)), (1, .ref (hn_base B + 1)), (2, .ref (hn_base B + 46)), (3, .int l3), (5, .int l5), (6, .int l6), (7, .int l7)] [] μ := by
  unfold fX5_nearest_60 at e
  refine hn_iinc (p := 6) hF dX5_nearest_60 (q := 63) rfl rfl (kn_1 _) (by decide) (L' := [(7, .int (l7 + 1)), (0, .ref (hn_base B + 6)), (1, .ref (hn_base B + 1)), (2, .ref (hn_base B + 46)), (3, .int l3), (5, .int l5), (6, .int l6)]) rfl ?_
  refine hn_goto hF dX5_nearest_63 (q := 12) rfl ?_
  refine hn_sub [1, 2, 3, 4, 5, 6, 0] (L' := [(0, .ref (hn_base B + 6)), (1, .ref (hn_base B + 1)), (2, .ref (hn_base B + 46)), (3, .int l3), (5, .int l5), (6, .int l6), (7, .int (l7 + 1))]) rfl ?_
  exact H12 l3 l5 l6 (l7 + 1) e
set_option maxHeartbeats 1000000 in
theorem gX5_nearest_12 {Z : hn_Z} {B : hn_B} {F : Nat} {μ : hn_M} {R : Int32} (hF : hn_F Z B (0, 0) cX5_nearest 9 RX5 (some .int) 3) (hQ : hn_goal Z B (some (.int R), μ)) (hV : hn_V B hn_nA) : ∀ (n : Nat) (l3 : Int32) (l5 : Int32) (l6 : Int32) (l7 : Int32), fX5_nearest_12 F μ n l3 l5 l6 l7 = some R → hn_G Z B (0, 0) 9 12 [(0, .ref (hn_base B + 6)), (1, .ref (hn_base B + 1)), (2, .ref (hn_base B + 46)), (3, .int l3), (5, .int l5), (6, .int l6), (7, .int l7)] [] μ := by
  have o6 : hn_isO B 6 1 hn_k6 := hV 6 (by decide)
  intro n
  induction n with
  | zero => intro l3 l5 l6 l7 e; rw [fX5_nearest_12] at e; cases e
  | succ n ih =>
    intro l3 l5 l6 l7 e
    rw [fX5_nearest_12] at e
    refine hn_iload hF dX5_nearest_12 (q := 14) rfl 6 rfl ?_
    refine hn_aload_n hF dX5_nearest_14 (q := 15) rfl 0 rfl ?_
    refine hn_get hF fl_X5_21 o6 rfl rfl dX5_nearest_15 (q := 18) rfl ?_
    refine hn_icmp_ge hF dX5_nearest_18 (t := 66) (q := 21) rfl rfl e (fun e => ?_) (fun e => ?_)
    · refine hn_iload hF dX5_nearest_66 (q := 68) rfl 4 rfl ?_
      exact hn_iretP hF hQ dX5_nearest_68 e
    · refine hn_aload_n hF dX5_nearest_21 (q := 22) rfl 0 rfl ?_
      refine hn_aload_n hF dX5_nearest_22 (q := 23) rfl 1 rfl ?_
      refine hn_aload_n hF dX5_nearest_23 (q := 24) rfl 2 rfl ?_
      refine hn_iload_n hF dX5_nearest_24 (q := 25) rfl 3 rfl ?_
      refine hn_iload hF dX5_nearest_25 (q := 27) rfl 6 rfl ?_
      refine hn_callSi (rest := []) hF ms_X5_couldCopy mt_X5_couldCopy lk_X5_39 (by decide) [.ref (hn_base B + 6), .ref (hn_base B + 1), .ref (hn_base B + 46), .int l3, .int l7] rfl (Nat.le_of_ble_eq_true rfl) dX5_nearest_27 (q := 30) rfl rfl e (fun v hv => cX5_couldCopy_ hV hv) (fun v1 e => ?_)
      refine hn_if_ne hF dX5_nearest_30 (t := 36) (q := 33) rfl rfl e (fun e => ?_) (fun e => ?_)
      · refine hn_aload_n hF dX5_nearest_36 (q := 37) rfl 0 rfl ?_
        refine hn_iload_n hF dX5_nearest_37 (q := 38) rfl 3 rfl ?_
        refine hn_iload hF dX5_nearest_38 (q := 40) rfl 6 rfl ?_
        refine hn_callVi (rest := []) hF ms_X1_unlikeness mv_X1_unlikeness lk_X5_43 o6 rfl (by decide) [.int l3, .int l7] rfl (Nat.le_of_ble_eq_true rfl) dX5_nearest_40 (q := 43) rfl rfl e (fun v hv => cX1_unlikeness_ hV hv) (fun v2 e => ?_)
        refine hn_istore hF dX5_nearest_43 (q := 45) rfl (by decide) (L' := [(8, .int v2), (0, .ref (hn_base B + 6)), (1, .ref (hn_base B + 1)), (2, .ref (hn_base B + 46)), (3, .int l3), (5, .int l5), (6, .int l6), (7, .int l7)]) rfl ?_
        refine hn_iload hF dX5_nearest_45 (q := 47) rfl 0 rfl ?_
        refine hn_iload hF dX5_nearest_47 (q := 49) rfl 6 rfl ?_
        refine hn_icmp_ge hF dX5_nearest_49 (t := 60) (q := 52) rfl rfl e (fun e => ?_) (fun e => ?_)
        · refine hn_sub [1, 2, 3, 4, 5, 6, 7] (L' := [(0, .ref (hn_base B + 6)), (1, .ref (hn_base B + 1)), (2, .ref (hn_base B + 46)), (3, .int l3), (5, .int l5), (6, .int l6), (7, .int l7)]) rfl ?_
          exact gX5_nearest_60 hF hQ hV ih e
        · refine hn_iload hF dX5_nearest_52 (q := 54) rfl 0 rfl ?_
          refine hn_istore hF dX5_nearest_54 (q := 56) rfl (by decide) (L' := [(6, .int v2), (8, .int v2), (0, .ref (hn_base B + 6)), (1, .ref (hn_base B + 1)), (2, .ref (hn_base B + 46)), (3, .int l3), (5, .int l5), (7, .int l7)]) rfl ?_
          refine hn_iload hF dX5_nearest_56 (q := 58) rfl 7 rfl ?_
          refine hn_istore hF dX5_nearest_58 (q := 60) rfl (by decide) (L' := [(5, .int l7), (6, .int v2), (8, .int v2), (0, .ref (hn_base B + 6)), (1, .ref (hn_base B + 1)), (2, .ref (hn_base B + 46)), (3, .int l3), (7, .int l7)]) rfl ?_
          refine hn_sub [3, 4, 5, 6, 0, 1, 7] (L' := [(0, .ref (hn_base B + 6)), (1, .ref (hn_base B + 1)), (2, .ref (hn_base B + 46)), (3, .int l3), (5, .int l7), (6, .int v2), (7, .int l7)]) rfl ?_
          exact gX5_nearest_60 hF hQ hV ih e
      · refine hn_goto hF dX5_nearest_33 (q := 60) rfl ?_
        exact gX5_nearest_60 hF hQ hV ih e
set_option maxHeartbeats 1000000 in
theorem gX5_nearest {Z : hn_Z} {B : hn_B} {F : Nat} {μ : hn_M} {R : Int32} (hF : hn_F Z B (0, 0) cX5_nearest 9 RX5 (some .int) 3) (hQ : hn_goal Z B (some (.int R), μ)) (hV : hn_V B hn_nA) {l3 : Int32} {l4 : Int32} (e : fX5_nearest F μ l3 l4 = some R) : hn_G Z B (0, 0) 9 0 [(0, .ref (hn_base B + 6)), (1, .ref (hn_base B + 1)), (2, .ref (hn_base B + 46)), (3, .int l3), (4, .int l4)] [] μ := by
  unfold fX5_nearest at e
  refine hn_iconst hF dX5_nearest_0 (q := 1) rfl ki_m1 ?_
  refine hn_istore hF dX5_nearest_1 (q := 3) rfl (by decide) (L' := [(5, .int ((-1))), (0, .ref (hn_base B + 6)), (1, .ref (hn_base B + 1)), (2, .ref (hn_base B + 46)), (3, .int l3), (4, .int l4)]) rfl ?_
  refine hn_iload hF dX5_nearest_3 (q := 5) rfl 5 rfl ?_
  refine hn_iconst hF dX5_nearest_5 (q := 6) rfl ki_1 ?_
  refine hn_iadd hF dX5_nearest_6 (q := 7) rfl ?_
  refine hn_istore hF dX5_nearest_7 (q := 9) rfl (by decide) (L' := [(6, .int (l4 + 1)), (5, .int ((-1))), (0, .ref (hn_base B + 6)), (1, .ref (hn_base B + 1)), (2, .ref (hn_base B + 46)), (3, .int l3), (4, .int l4)]) rfl ?_
  refine hn_iconst hF dX5_nearest_9 (q := 10) rfl ki_0 ?_
  refine hn_istore hF dX5_nearest_10 (q := 12) rfl (by decide) (L' := [(7, .int 0), (6, .int (l4 + 1)), (5, .int ((-1))), (0, .ref (hn_base B + 6)), (1, .ref (hn_base B + 1)), (2, .ref (hn_base B + 46)), (3, .int l3), (4, .int l4)]) rfl ?_
  refine hn_sub [3, 4, 5, 6, 2, 1, 0] (L' := [(0, .ref (hn_base B + 6)), (1, .ref (hn_base B + 1)), (2, .ref (hn_base B + 46)), (3, .int l3), (5, .int ((-1))), (6, .int (l4 + 1)), (7, .int 0)]) rfl ?_
  exact gX5_nearest_12 hF hQ hV F l3 (-1) (l4 + 1) 0 e
theorem cX5_nearest_ {B : hn_B} {F : Nat} {μ : hn_M} {R : Int32} {l3 : Int32} {l4 : Int32} (hV : hn_V B hn_nA) (e : fX5_nearest F μ l3 l4 = some R) : hn_C yX5_nearest cX5_nearest 9 (some .int) 3 B [.ref (hn_base B + 6), .ref (hn_base B + 1), .ref (hn_base B + 46), .int l3, .int l4] μ (some (.int R), μ) :=
  hn_C.of RX5 (by decide) rfl (Nat.le_of_ble_eq_true rfl) (fun _ hF hQ => gX5_nearest hF hQ hV e)
/-! HandNews$Tree.climb(I)V -/
def fX5_climb_33 (F : Nat) (l1 : Int32) (l2 : Int32) (l3 : Int32) (μ : hn_M) : Option hn_M := hn_wr μ 52 30 l1 l2 fun μ1 => hn_wr μ1 53 30 l1 l3 fun μ2 => some μ2
def fX5_climb_4 (F : Nat) : Nat → Int32 → Int32 → Int32 → hn_M → Option hn_M
  | 0, _, _, _, _ => none
  | n + 1, l1, l2, l3, μ => if 12 ≤ l3 then fX5_climb_33 F l1 l2 l3 μ else hn_rd μ 51 30 l2 fun v3 => if v3 = (-1) then fX5_climb_33 F l1 l2 l3 μ else hn_rd μ 51 30 l2 fun v4 => fX5_climb_4 F n l1 v4 (l3 + 1) μ
def fX5_climb (F : Nat) (l1 : Int32) (μ : hn_M) : Option hn_M := fX5_climb_4 F F l1 l1 0 μ
set_option maxHeartbeats 1000000 in
theorem gX5_climb_33 {Z : hn_Z} {B : hn_B} {F : Nat} {R : hn_M} (hF : hn_F Z B (0, 0) cX5_climb 4 RX5 none 0) (hQ : hn_goal Z B (none, R)) (hV : hn_V B hn_nA) {l1 : Int32} {l2 : Int32} {l3 : Int32} {μ : hn_M} (e : fX5_climb_33 F l1 l2 l3 μ = some R) : hn_G Z B (0, 0) 4 33 [(0, .ref (hn_base B + 50)), (1, .int l1), (2, .int l2), (3, .int l3)] [] μ := by
  unfold fX5_climb_33 at e
  have a52 : hn_isA B 52 false 30 := hV 52 (by decide)
  have a53 : hn_isA B 53 false 30 := hV 53 (by decide)
  have o50 : hn_isO B 50 5 hn_k50 := hV 50 (by decide)
  refine hn_aload_n hF dX5_climb_33 (q := 34) rfl 0 rfl ?_
  refine hn_get hF fl_X5_15 o50 rfl rfl dX5_climb_34 (q := 37) rfl ?_
  refine hn_iload_n hF dX5_climb_37 (q := 38) rfl 1 rfl ?_
  refine hn_iload_n hF dX5_climb_38 (q := 39) rfl 2 rfl ?_
  refine hn_ast hF a52 dX5_climb_39 (q := 40) rfl e (fun μ1 e => ?_)
  refine hn_aload_n hF dX5_climb_40 (q := 41) rfl 0 rfl ?_
  refine hn_get hF fl_X5_18 o50 rfl rfl dX5_climb_41 (q := 44) rfl ?_
  refine hn_iload_n hF dX5_climb_44 (q := 45) rfl 1 rfl ?_
  refine hn_iload_n hF dX5_climb_45 (q := 46) rfl 3 rfl ?_
  refine hn_ast hF a53 dX5_climb_46 (q := 47) rfl e (fun μ2 e => ?_)
  exact hn_vretM hF hQ dX5_climb_47 e
set_option maxHeartbeats 1000000 in
theorem gX5_climb_4 {Z : hn_Z} {B : hn_B} {F : Nat} {R : hn_M} (hF : hn_F Z B (0, 0) cX5_climb 4 RX5 none 0) (hQ : hn_goal Z B (none, R)) (hV : hn_V B hn_nA) : ∀ (n : Nat) (l1 : Int32) (l2 : Int32) (l3 : Int32) (μ : hn_M), fX5_climb_4 F n l1 l2 l3 μ = some R → hn_G Z B (0, 0) 4 4 [(0, .ref (hn_base B + 50)), (1, .int l1), (2, .int l2), (3, .int l3)] [] μ := by
  have a51 : hn_isA B 51 false 30 := hV 51 (by decide)
  have o50 : hn_isO B 50 5 hn_k50 := hV 50 (by decide)
  intro n
  induction n with
  | zero => intro l1 l2 l3 μ e; rw [fX5_climb_4] at e; cases e
  | succ n ih =>
    intro l1 l2 l3 μ e
    rw [fX5_climb_4] at e
    refine hn_iload_n hF dX5_climb_4 (q := 5) rfl 3 rfl ?_
    refine hn_bipush hF dX5_climb_5 (q := 7) rfl kb_12 ?_
    refine hn_icmp_ge hF dX5_climb_7 (t := 33) (q := 10) rfl rfl e (fun e => ?_) (fun e => ?_)
    · exact gX5_climb_33 hF hQ hV e
    · refine hn_aload_n hF dX5_climb_10 (q := 11) rfl 0 rfl ?_
      refine hn_get hF fl_X5_9 o50 rfl rfl dX5_climb_11 (q := 14) rfl ?_
      refine hn_iload_n hF dX5_climb_14 (q := 15) rfl 2 rfl ?_
      refine hn_ald hF a51 dX5_climb_15 (q := 16) rfl e (fun v3 e => ?_)
      refine hn_iconst hF dX5_climb_16 (q := 17) rfl ki_m1 ?_
      refine hn_icmp_eq hF dX5_climb_17 (t := 33) (q := 20) rfl rfl e (fun e => ?_) (fun e => ?_)
      · exact gX5_climb_33 hF hQ hV e
      · refine hn_aload_n hF dX5_climb_20 (q := 21) rfl 0 rfl ?_
        refine hn_get hF fl_X5_9 o50 rfl rfl dX5_climb_21 (q := 24) rfl ?_
        refine hn_iload_n hF dX5_climb_24 (q := 25) rfl 2 rfl ?_
        refine hn_ald hF a51 dX5_climb_25 (q := 26) rfl e (fun v4 e => ?_)
        refine hn_istore_n hF dX5_climb_26 (q := 27) rfl (i := 2) rfl (by decide) (L' := [(2, .int v4), (0, .ref (hn_base B + 50)), (1, .int l1), (3, .int l3)]) rfl ?_
        refine hn_iinc (p := 3) hF dX5_climb_27 (q := 30) rfl rfl (kn_1 _) (by decide) (L' := [(3, .int (l3 + 1)), (2, .int v4), (0, .ref (hn_base B + 50)), (1, .int l1)]) rfl ?_
        refine hn_goto hF dX5_climb_30 (q := 4) rfl ?_
        refine hn_sub [2, 3, 1, 0] (L' := [(0, .ref (hn_base B + 50)), (1, .int l1), (2, .int v4), (3, .int (l3 + 1))]) rfl ?_
        exact ih l1 v4 (l3 + 1) μ e
set_option maxHeartbeats 1000000 in
theorem gX5_climb {Z : hn_Z} {B : hn_B} {F : Nat} {R : hn_M} (hF : hn_F Z B (0, 0) cX5_climb 4 RX5 none 0) (hQ : hn_goal Z B (none, R)) (hV : hn_V B hn_nA) {l1 : Int32} {μ : hn_M} (e : fX5_climb F l1 μ = some R) : hn_G Z B (0, 0) 4 0 [(0, .ref (hn_base B + 50)), (1, .int l1)] [] μ := by
  unfold fX5_climb at e
  refine hn_iload_n hF dX5_climb_0 (q := 1) rfl 1 rfl ?_
  refine hn_istore_n hF dX5_climb_1 (q := 2) rfl (i := 2) rfl (by decide) (L' := [(2, .int l1), (0, .ref (hn_base B + 50)), (1, .int l1)]) rfl ?_
  refine hn_iconst hF dX5_climb_2 (q := 3) rfl ki_0 ?_
  refine hn_istore_n hF dX5_climb_3 (q := 4) rfl (i := 3) rfl (by decide) (L' := [(3, .int 0), (2, .int l1), (0, .ref (hn_base B + 50)), (1, .int l1)]) rfl ?_
  refine hn_sub [2, 3, 1, 0] (L' := [(0, .ref (hn_base B + 50)), (1, .int l1), (2, .int l1), (3, .int 0)]) rfl ?_
  exact gX5_climb_4 hF hQ hV F l1 l1 0 μ e
theorem cX5_climb_ {B : hn_B} {F : Nat} {μ : hn_M} {R : hn_M} {l1 : Int32} (hV : hn_V B hn_nA) (e : fX5_climb F l1 μ = some R) : hn_C yX5_climb cX5_climb 4 none 0 B [.ref (hn_base B + 50), .int l1] μ (none, R) :=
  hn_C.of RX5 (by decide) rfl (Nat.le_of_ble_eq_true rfl) (fun _ hF hQ => gX5_climb hF hQ hV e)
/-! HandNews$Tree.grow(LHandNews$Papers;LHandNews$Posts;LHandNews$Spans;I)V -/
def fX5_grow_41 (F : Nat) (k3 : Int32 → Int32 → hn_M → Option hn_M) (l4 : Int32) (l5 : Int32) (s0 : Int32) (s1 : Int32) (μ : hn_M) : Option hn_M := hn_wr μ 51 30 s1 s0 fun μ1 => k3 l4 (l5 + 1) μ1
def fX5_grow_51 (F : Nat) : Nat → Int32 → hn_M → Option hn_M
  | 0, _, _ => none
  | n + 1, l5, μ => if μ 6 7 ≤ l5 then some μ else (fX5_climb F l5 μ).bind fun μ2 => fX5_grow_51 F n (l5 + 1) μ2
def fX5_grow_48 (F : Nat) (μ : hn_M) : Option hn_M := fX5_grow_51 F F 0 μ
def fX5_grow_3 (F : Nat) : Nat → Int32 → Int32 → hn_M → Option hn_M
  | 0, _, _, _ => none
  | n + 1, l4, l5, μ => if μ 6 7 ≤ l5 then fX5_grow_48 F μ else (fX1_isSeen μ l5).bind fun v3 => if v3 = 0 then (fX5_nearest F μ l5 l4).bind fun v4 => fX5_grow_41 F (fX5_grow_3 F n) l4 l5 v4 l5 μ else fX5_grow_41 F (fX5_grow_3 F n) l4 l5 (-1) l5 μ
def fX5_grow (F : Nat) (l4 : Int32) (μ : hn_M) : Option hn_M := fX5_grow_3 F F l4 0 μ
set_option maxHeartbeats 1000000 in
theorem gX5_grow_41 {Z : hn_Z} {B : hn_B} {F : Nat} {R : hn_M} (hF : hn_F Z B (0, 0) cX5_grow 6 RX5 none 4) (hQ : hn_goal Z B (none, R)) (hV : hn_V B hn_nA) {k3 : Int32 → Int32 → hn_M → Option hn_M} (H3 : ∀ (l4 : Int32) (l5 : Int32) (μ : hn_M), k3 l4 l5 μ = some R → hn_G Z B (0, 0) 6 3 [(0, .ref (hn_base B + 50)), (1, .ref (hn_base B + 6)), (2, .ref (hn_base B + 1)), (3, .ref (hn_base B + 46)), (4, .int l4), (5, .int l5)] [] μ) {l4 : Int32} {l5 : Int32} {s0 : Int32} {s1 : Int32} {μ : hn_M} (e : fX5_grow_41 F k3 l4 l5 s0 s1 μ = some R) : hn_G Z B (0, 0) 6 41 [(0, .ref (hn_base B + 50)), (1, .ref (hn_base B + 6)), (2, .ref (hn_base B + 1)), (3, .ref (hn_base B + 46)), (4, .int l4), (5, .int l5)] [.int s0, .int s1, .ref (hn_base B + 51)] μ := by
  unfold fX5_grow_41 at e
  have a51 : hn_isA B 51 false 30 := hV 51 (by decide)
  refine hn_ast hF a51 dX5_grow_41 (q := 42) rfl e (fun μ1 e => ?_)
  refine hn_iinc (p := 5) hF dX5_grow_42 (q := 45) rfl rfl (kn_1 _) (by decide) (L' := [(5, .int (l5 + 1)), (0, .ref (hn_base B + 50)), (1, .ref (hn_base B + 6)), (2, .ref (hn_base B + 1)), (3, .ref (hn_base B + 46)), (4, .int l4)]) rfl ?_
  refine hn_goto hF dX5_grow_45 (q := 3) rfl ?_
  refine hn_sub [1, 2, 3, 4, 5, 0] (L' := [(0, .ref (hn_base B + 50)), (1, .ref (hn_base B + 6)), (2, .ref (hn_base B + 1)), (3, .ref (hn_base B + 46)), (4, .int l4), (5, .int (l5 + 1))]) rfl ?_
  exact H3 l4 (l5 + 1) μ1 e
set_option maxHeartbeats 1000000 in
theorem gX5_grow_51 {Z : hn_Z} {B : hn_B} {F : Nat} {R : hn_M} (hF : hn_F Z B (0, 0) cX5_grow 6 RX5 none 4) (hQ : hn_goal Z B (none, R)) (hV : hn_V B hn_nA) : ∀ (n : Nat) (l5 : Int32) (μ : hn_M), fX5_grow_51 F n l5 μ = some R → hn_G Z B (0, 0) 6 51 [(0, .ref (hn_base B + 50)), (1, .ref (hn_base B + 6)), (5, .int l5)] [] μ := by
  have o50 : hn_isO B 50 5 hn_k50 := hV 50 (by decide)
  have o6 : hn_isO B 6 1 hn_k6 := hV 6 (by decide)
  intro n
  induction n with
  | zero => intro l5 μ e; rw [fX5_grow_51] at e; cases e
  | succ n ih =>
    intro l5 μ e
    rw [fX5_grow_51] at e
    refine hn_iload hF dX5_grow_51 (q := 53) rfl 2 rfl ?_
    refine hn_aload_n hF dX5_grow_53 (q := 54) rfl 1 rfl ?_
    refine hn_get hF fl_X5_21 o6 rfl rfl dX5_grow_54 (q := 57) rfl ?_
    refine hn_icmp_ge hF dX5_grow_57 (t := 72) (q := 60) rfl rfl e (fun e => ?_) (fun e => ?_)
    · exact hn_vretM hF hQ dX5_grow_72 e
    · refine hn_aload_n hF dX5_grow_60 (q := 61) rfl 0 rfl ?_
      refine hn_iload hF dX5_grow_61 (q := 63) rfl 2 rfl ?_
      refine hn_callVv (rest := []) hF ms_X5_climb mv_X5_climb lk_X5_35 o50 rfl (by decide) [.int l5] rfl (Nat.le_of_ble_eq_true rfl) dX5_grow_63 (q := 66) rfl rfl e (fun v hv => cX5_climb_ hV hv) (fun μ2 e => ?_)
      refine hn_iinc (p := 2) hF dX5_grow_66 (q := 69) rfl rfl (kn_1 _) (by decide) (L' := [(5, .int (l5 + 1)), (0, .ref (hn_base B + 50)), (1, .ref (hn_base B + 6))]) rfl ?_
      refine hn_goto hF dX5_grow_69 (q := 51) rfl ?_
      refine hn_sub [1, 2, 0] (L' := [(0, .ref (hn_base B + 50)), (1, .ref (hn_base B + 6)), (5, .int (l5 + 1))]) rfl ?_
      exact ih (l5 + 1) μ2 e
set_option maxHeartbeats 1000000 in
theorem gX5_grow_48 {Z : hn_Z} {B : hn_B} {F : Nat} {R : hn_M} (hF : hn_F Z B (0, 0) cX5_grow 6 RX5 none 4) (hQ : hn_goal Z B (none, R)) (hV : hn_V B hn_nA) {μ : hn_M} (e : fX5_grow_48 F μ = some R) : hn_G Z B (0, 0) 6 48 [(0, .ref (hn_base B + 50)), (1, .ref (hn_base B + 6))] [] μ := by
  unfold fX5_grow_48 at e
  refine hn_iconst hF dX5_grow_48 (q := 49) rfl ki_0 ?_
  refine hn_istore hF dX5_grow_49 (q := 51) rfl (by decide) (L' := [(5, .int 0), (0, .ref (hn_base B + 50)), (1, .ref (hn_base B + 6))]) rfl ?_
  refine hn_sub [1, 2, 0] (L' := [(0, .ref (hn_base B + 50)), (1, .ref (hn_base B + 6)), (5, .int 0)]) rfl ?_
  exact gX5_grow_51 hF hQ hV F 0 μ e
set_option maxHeartbeats 1000000 in
theorem gX5_grow_3 {Z : hn_Z} {B : hn_B} {F : Nat} {R : hn_M} (hF : hn_F Z B (0, 0) cX5_grow 6 RX5 none 4) (hQ : hn_goal Z B (none, R)) (hV : hn_V B hn_nA) : ∀ (n : Nat) (l4 : Int32) (l5 : Int32) (μ : hn_M), fX5_grow_3 F n l4 l5 μ = some R → hn_G Z B (0, 0) 6 3 [(0, .ref (hn_base B + 50)), (1, .ref (hn_base B + 6)), (2, .ref (hn_base B + 1)), (3, .ref (hn_base B + 46)), (4, .int l4), (5, .int l5)] [] μ := by
  have o50 : hn_isO B 50 5 hn_k50 := hV 50 (by decide)
  have o6 : hn_isO B 6 1 hn_k6 := hV 6 (by decide)
  intro n
  induction n with
  | zero => intro l4 l5 μ e; rw [fX5_grow_3] at e; cases e
  | succ n ih =>
    intro l4 l5 μ e
    rw [fX5_grow_3] at e
    refine hn_iload hF dX5_grow_3 (q := 5) rfl 5 rfl ?_
    refine hn_aload_n hF dX5_grow_5 (q := 6) rfl 1 rfl ?_
    refine hn_get hF fl_X5_21 o6 rfl rfl dX5_grow_6 (q := 9) rfl ?_
    refine hn_icmp_ge hF dX5_grow_9 (t := 48) (q := 12) rfl rfl e (fun e => ?_) (fun e => ?_)
    · refine hn_sub [0, 1] (L' := [(0, .ref (hn_base B + 50)), (1, .ref (hn_base B + 6))]) rfl ?_
      exact gX5_grow_48 hF hQ hV e
    · refine hn_aload_n hF dX5_grow_12 (q := 13) rfl 0 rfl ?_
      refine hn_get hF fl_X5_9 o50 rfl rfl dX5_grow_13 (q := 16) rfl ?_
      refine hn_iload hF dX5_grow_16 (q := 18) rfl 5 rfl ?_
      refine hn_aload_n hF dX5_grow_18 (q := 19) rfl 1 rfl ?_
      refine hn_iload hF dX5_grow_19 (q := 21) rfl 5 rfl ?_
      refine hn_callVi (rest := [.int l5, .ref (hn_base B + 51)]) hF ms_X1_isSeen mv_X1_isSeen lk_X5_27 o6 rfl (by decide) [.int l5] rfl (Nat.le_of_ble_eq_true rfl) dX5_grow_21 (q := 24) rfl rfl e (fun v hv => cX1_isSeen_ hV hv) (fun v3 e => ?_)
      refine hn_if_eq hF dX5_grow_24 (t := 31) (q := 27) rfl rfl e (fun e => ?_) (fun e => ?_)
      · refine hn_aload_n hF dX5_grow_31 (q := 32) rfl 1 rfl ?_
        refine hn_aload_n hF dX5_grow_32 (q := 33) rfl 2 rfl ?_
        refine hn_aload_n hF dX5_grow_33 (q := 34) rfl 3 rfl ?_
        refine hn_iload hF dX5_grow_34 (q := 36) rfl 5 rfl ?_
        refine hn_iload hF dX5_grow_36 (q := 38) rfl 4 rfl ?_
        refine hn_callSi (rest := [.int l5, .ref (hn_base B + 51)]) hF ms_X5_nearest mt_X5_nearest lk_X5_31 (by decide) [.ref (hn_base B + 6), .ref (hn_base B + 1), .ref (hn_base B + 46), .int l5, .int l4] rfl (Nat.le_of_ble_eq_true rfl) dX5_grow_38 (q := 41) rfl rfl e (fun v hv => cX5_nearest_ hV hv) (fun v4 e => ?_)
        exact gX5_grow_41 hF hQ hV ih e
      · refine hn_iconst hF dX5_grow_27 (q := 28) rfl ki_m1 ?_
        refine hn_goto hF dX5_grow_28 (q := 41) rfl ?_
        exact gX5_grow_41 hF hQ hV ih e
set_option maxHeartbeats 1000000 in
theorem gX5_grow {Z : hn_Z} {B : hn_B} {F : Nat} {R : hn_M} (hF : hn_F Z B (0, 0) cX5_grow 6 RX5 none 4) (hQ : hn_goal Z B (none, R)) (hV : hn_V B hn_nA) {l4 : Int32} {μ : hn_M} (e : fX5_grow F l4 μ = some R) : hn_G Z B (0, 0) 6 0 [(0, .ref (hn_base B + 50)), (1, .ref (hn_base B + 6)), (2, .ref (hn_base B + 1)), (3, .ref (hn_base B + 46)), (4, .int l4)] [] μ := by
  unfold fX5_grow at e
  refine hn_iconst hF dX5_grow_0 (q := 1) rfl ki_0 ?_
  refine hn_istore hF dX5_grow_1 (q := 3) rfl (by decide) (L' := [(5, .int 0), (0, .ref (hn_base B + 50)), (1, .ref (hn_base B + 6)), (2, .ref (hn_base B + 1)), (3, .ref (hn_base B + 46)), (4, .int l4)]) rfl ?_
  refine hn_sub [1, 2, 3, 4, 5, 0] (L' := [(0, .ref (hn_base B + 50)), (1, .ref (hn_base B + 6)), (2, .ref (hn_base B + 1)), (3, .ref (hn_base B + 46)), (4, .int l4), (5, .int 0)]) rfl ?_
  exact gX5_grow_3 hF hQ hV F l4 0 μ e
theorem cX5_grow_ {B : hn_B} {F : Nat} {μ : hn_M} {R : hn_M} {l4 : Int32} (hV : hn_V B hn_nA) (e : fX5_grow F l4 μ = some R) : hn_C yX5_grow cX5_grow 6 none 4 B [.ref (hn_base B + 50), .ref (hn_base B + 6), .ref (hn_base B + 1), .ref (hn_base B + 46), .int l4] μ (none, R) :=
  hn_C.of RX5 (by decide) rfl (Nat.le_of_ble_eq_true rfl) (fun _ hF hQ => gX5_grow hF hQ hV e)
/-! HandNews$Tree.isVoice(I)Z -/
def fX5_isVoice (μ : hn_M) (l1 : Int32) : Option Int32 := hn_rd μ 51 30 l1 fun v1 => if v1 = (-1) then some 1 else some 0
set_option maxHeartbeats 1000000 in
theorem gX5_isVoice {Z : hn_Z} {B : hn_B} {μ : hn_M} {R : Int32} (hF : hn_F Z B (0, 0) cX5_isVoice 2 RX5 (some .boolean) 0) (hQ : hn_goal Z B (some (.int R), μ)) (hV : hn_V B hn_nA) {l1 : Int32} (e : fX5_isVoice μ l1 = some R) : hn_G Z B (0, 0) 2 0 [(0, .ref (hn_base B + 50)), (1, .int l1)] [] μ := by
  unfold fX5_isVoice at e
  have a51 : hn_isA B 51 false 30 := hV 51 (by decide)
  have o50 : hn_isO B 50 5 hn_k50 := hV 50 (by decide)
  refine hn_aload_n hF dX5_isVoice_0 (q := 1) rfl 0 rfl ?_
  refine hn_get hF fl_X5_9 o50 rfl rfl dX5_isVoice_1 (q := 4) rfl ?_
  refine hn_iload_n hF dX5_isVoice_4 (q := 5) rfl 1 rfl ?_
  refine hn_ald hF a51 dX5_isVoice_5 (q := 6) rfl e (fun v1 e => ?_)
  refine hn_iconst hF dX5_isVoice_6 (q := 7) rfl ki_m1 ?_
  refine hn_icmp_ne hF dX5_isVoice_7 (t := 14) (q := 10) rfl rfl e (fun e => ?_) (fun e => ?_)
  · refine hn_iconst hF dX5_isVoice_14 (q := 15) rfl ki_0 ?_
    exact hn_zretP hF hQ dX5_isVoice_15 (Or.inl rfl) e
  · refine hn_iconst hF dX5_isVoice_10 (q := 11) rfl ki_1 ?_
    refine hn_goto hF dX5_isVoice_11 (q := 15) rfl ?_
    exact hn_zretP hF hQ dX5_isVoice_15 (Or.inr rfl) e
theorem cX5_isVoice_ {B : hn_B} {μ : hn_M} {R : Int32} {l1 : Int32} (hV : hn_V B hn_nA) (e : fX5_isVoice μ l1 = some R) : hn_C yX5_isVoice cX5_isVoice 2 (some .boolean) 0 B [.ref (hn_base B + 50), .int l1] μ (some (.int R), μ) :=
  hn_C.of RX5 (by decide) rfl (Nat.le_of_ble_eq_true rfl) (fun _ hF hQ => gX5_isVoice hF hQ hV e)
