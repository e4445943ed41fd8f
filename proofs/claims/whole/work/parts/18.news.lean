/-! HandNews.post(IIII)I -/
def fX7_post (F : Nat) (l1 : Int32) (l2 : Int32) (l3 : Int32) (l4 : Int32) (μ : hn_M) : Option (Int32 × hn_M) := (fX7_isTown l1).bind fun v1 => if v1 = 0 then some ((-1), μ) else (fX7_isTown l2).bind fun v2 => if v2 = 0 then some ((-1), μ) else if l1 = l2 then some ((-1), μ) else if l3 < 1 then some ((-1), μ) else if 60 < l4 then some ((-1), μ) else if l3 ≤ l4 then if μ 6 0 ≤ 0 then (fX2_tell F l1 l2 l3 l4 μ).bind fun μ3 => hn_pf μ3 0 12 0 fun μ4 => some (0, μ4) else some ((-2), μ) else some ((-1), μ)
set_option maxHeartbeats 1000000 in
theorem gX7_post {Z : hn_Z} {B : hn_B} {F : Nat} {R : Int32 × hn_M} (hF : hn_F Z B (0, 0) cX7_post 5 RX7 (some .int) 3) (hQ : hn_goal Z B (some (.int R.1), R.2)) (hV : hn_V B hn_nA) {l1 : Int32} {l2 : Int32} {l3 : Int32} {l4 : Int32} {μ : hn_M} (e : fX7_post F l1 l2 l3 l4 μ = some R) : hn_G Z B (0, 0) 5 0 [(0, .ref (hn_base B + 0)), (1, .int l1), (2, .int l2), (3, .int l3), (4, .int l4)] [] μ := by
  unfold fX7_post at e
  have o0 : hn_isO B 0 7 hn_k0 := hV 0 (by decide)
  have o1 : hn_isO B 1 2 hn_k1 := hV 1 (by decide)
  have o6 : hn_isO B 6 1 hn_k6 := hV 6 (by decide)
  refine hn_iload_n hF dX7_post_0 (q := 1) rfl 1 rfl ?_
  refine hn_callSi (rest := []) hF ms_X7_isTown mt_X7_isTown lk_X7_79 (by decide) [.int l1] rfl (Nat.le_of_ble_eq_true rfl) dX7_post_1 (q := 4) rfl rfl e (fun v hv => cX7_isTown_ hv) (fun v1 e => ?_)
  refine hn_if_eq hF dX7_post_4 (t := 19) (q := 7) rfl rfl e (fun e => ?_) (fun e => ?_)
  · refine hn_iconst hF dX7_post_19 (q := 20) rfl ki_m1 ?_
    exact hn_iretM hF hQ dX7_post_20 e
  · refine hn_iload_n hF dX7_post_7 (q := 8) rfl 2 rfl ?_
    refine hn_callSi (rest := []) hF ms_X7_isTown mt_X7_isTown lk_X7_79 (by decide) [.int l2] rfl (Nat.le_of_ble_eq_true rfl) dX7_post_8 (q := 11) rfl rfl e (fun v hv => cX7_isTown_ hv) (fun v2 e => ?_)
    refine hn_if_eq hF dX7_post_11 (t := 19) (q := 14) rfl rfl e (fun e => ?_) (fun e => ?_)
    · refine hn_iconst hF dX7_post_19 (q := 20) rfl ki_m1 ?_
      exact hn_iretM hF hQ dX7_post_20 e
    · refine hn_iload_n hF dX7_post_14 (q := 15) rfl 1 rfl ?_
      refine hn_iload_n hF dX7_post_15 (q := 16) rfl 2 rfl ?_
      refine hn_icmp_ne hF dX7_post_16 (t := 21) (q := 19) rfl rfl e (fun e => ?_) (fun e => ?_)
      · refine hn_iload_n hF dX7_post_21 (q := 22) rfl 3 rfl ?_
        refine hn_iconst hF dX7_post_22 (q := 23) rfl ki_1 ?_
        refine hn_icmp_lt hF dX7_post_23 (t := 39) (q := 26) rfl rfl e (fun e => ?_) (fun e => ?_)
        · refine hn_iconst hF dX7_post_39 (q := 40) rfl ki_m1 ?_
          exact hn_iretM hF hQ dX7_post_40 e
        · refine hn_iload hF dX7_post_26 (q := 28) rfl 4 rfl ?_
          refine hn_bipush hF dX7_post_28 (q := 30) rfl kb_60 ?_
          refine hn_icmp_gt hF dX7_post_30 (t := 39) (q := 33) rfl rfl e (fun e => ?_) (fun e => ?_)
          · refine hn_iconst hF dX7_post_39 (q := 40) rfl ki_m1 ?_
            exact hn_iretM hF hQ dX7_post_40 e
          · refine hn_iload_n hF dX7_post_33 (q := 34) rfl 3 rfl ?_
            refine hn_iload hF dX7_post_34 (q := 36) rfl 4 rfl ?_
            refine hn_icmp_le hF dX7_post_36 (t := 41) (q := 39) rfl rfl e (fun e => ?_) (fun e => ?_)
            · refine hn_aload_n hF dX7_post_41 (q := 42) rfl 0 rfl ?_
              refine hn_get hF fl_X7_19 o0 rfl rfl dX7_post_42 (q := 45) rfl ?_
              refine hn_get hF fl_X7_83 o6 rfl rfl dX7_post_45 (q := 48) rfl ?_
              refine hn_if_le hF dX7_post_48 (t := 54) (q := 51) rfl rfl e (fun e => ?_) (fun e => ?_)
              · refine hn_aload_n hF dX7_post_54 (q := 55) rfl 0 rfl ?_
                refine hn_get hF fl_X7_10 o0 rfl rfl dX7_post_55 (q := 58) rfl ?_
                refine hn_iload_n hF dX7_post_58 (q := 59) rfl 1 rfl ?_
                refine hn_iload_n hF dX7_post_59 (q := 60) rfl 2 rfl ?_
                refine hn_iload_n hF dX7_post_60 (q := 61) rfl 3 rfl ?_
                refine hn_iload hF dX7_post_61 (q := 63) rfl 4 rfl ?_
                refine hn_callVv (rest := []) hF ms_X2_tell mv_X2_tell lk_X7_86 o1 rfl (by decide) [.int l1, .int l2, .int l3, .int l4] rfl (Nat.le_of_ble_eq_true rfl) dX7_post_63 (q := 66) rfl rfl e (fun v hv => cX2_tell_ hV.P hv) (fun μ3 e => ?_)
                refine hn_aload_n hF dX7_post_66 (q := 67) rfl 0 rfl ?_
                refine hn_iconst hF dX7_post_67 (q := 68) rfl ki_0 ?_
                refine hn_put hF fl_X7_75 fp_X7_12 o0 rfl rfl rfl rfl dX7_post_68 (q := 71) rfl e (fun μ4 e => ?_)
                refine hn_iconst hF dX7_post_71 (q := 72) rfl ki_0 ?_
                exact hn_iretM hF hQ dX7_post_72 e
              · refine hn_bipush hF dX7_post_51 (q := 53) rfl kb_m2 ?_
                exact hn_iretM hF hQ dX7_post_53 e
            · refine hn_iconst hF dX7_post_39 (q := 40) rfl ki_m1 ?_
              exact hn_iretM hF hQ dX7_post_40 e
      · refine hn_iconst hF dX7_post_19 (q := 20) rfl ki_m1 ?_
        exact hn_iretM hF hQ dX7_post_20 e
theorem cX7_post_ {B : hn_B} {F : Nat} {μ : hn_M} {R : Int32 × hn_M} {l1 : Int32} {l2 : Int32} {l3 : Int32} {l4 : Int32} (hV : hn_V B hn_nA) (e : fX7_post F l1 l2 l3 l4 μ = some R) : hn_C yX7_post cX7_post 5 (some .int) 3 B [.ref (hn_base B + 0), .int l1, .int l2, .int l3, .int l4] μ (some (.int R.1), R.2) :=
  hn_C.of RX7 (by decide) rfl (Nat.le_of_ble_eq_true rfl) (fun _ hF hQ => gX7_post hF hQ hV e)
/-! HandNews.way(II)I -/
def fX7_way (μ : hn_M) (l1 : Int32) (l2 : Int32) : Option Int32 := (fX7_isTown l1).bind fun v1 => if v1 = 0 then some (-1) else (fX7_isTown l2).bind fun v2 => if v2 = 0 then some (-1) else (fX2_leads μ l1 l2).bind fun v3 => if v3 = 0 then some (-4) else (fX2_days μ l1 l2).bind fun v4 => some v4
set_option maxHeartbeats 1000000 in
theorem gX7_way {Z : hn_Z} {B : hn_B} {μ : hn_M} {R : Int32} (hF : hn_F Z B (0, 0) cX7_way 3 RX7 (some .int) 1) (hQ : hn_goal Z B (some (.int R), μ)) (hV : hn_V B hn_nA) {l1 : Int32} {l2 : Int32} (e : fX7_way μ l1 l2 = some R) : hn_G Z B (0, 0) 3 0 [(0, .ref (hn_base B + 0)), (1, .int l1), (2, .int l2)] [] μ := by
  unfold fX7_way at e
  have o0 : hn_isO B 0 7 hn_k0 := hV 0 (by decide)
  have o1 : hn_isO B 1 2 hn_k1 := hV 1 (by decide)
  refine hn_iload_n hF dX7_way_0 (q := 1) rfl 1 rfl ?_
  refine hn_callSi (rest := []) hF ms_X7_isTown mt_X7_isTown lk_X7_79 (by decide) [.int l1] rfl (Nat.le_of_ble_eq_true rfl) dX7_way_1 (q := 4) rfl rfl e (fun v hv => cX7_isTown_ hv) (fun v1 e => ?_)
  refine hn_if_eq hF dX7_way_4 (t := 14) (q := 7) rfl rfl e (fun e => ?_) (fun e => ?_)
  · refine hn_iconst hF dX7_way_14 (q := 15) rfl ki_m1 ?_
    exact hn_iretP hF hQ dX7_way_15 e
  · refine hn_iload_n hF dX7_way_7 (q := 8) rfl 2 rfl ?_
    refine hn_callSi (rest := []) hF ms_X7_isTown mt_X7_isTown lk_X7_79 (by decide) [.int l2] rfl (Nat.le_of_ble_eq_true rfl) dX7_way_8 (q := 11) rfl rfl e (fun v hv => cX7_isTown_ hv) (fun v2 e => ?_)
    refine hn_if_ne hF dX7_way_11 (t := 16) (q := 14) rfl rfl e (fun e => ?_) (fun e => ?_)
    · refine hn_aload_n hF dX7_way_16 (q := 17) rfl 0 rfl ?_
      refine hn_get hF fl_X7_10 o0 rfl rfl dX7_way_17 (q := 20) rfl ?_
      refine hn_iload_n hF dX7_way_20 (q := 21) rfl 1 rfl ?_
      refine hn_iload_n hF dX7_way_21 (q := 22) rfl 2 rfl ?_
      refine hn_callVi (rest := []) hF ms_X2_leads mv_X2_leads lk_X7_90 o1 rfl (by decide) [.int l1, .int l2] rfl (Nat.le_of_ble_eq_true rfl) dX7_way_22 (q := 25) rfl rfl e (fun v hv => cX2_leads_ hV.P hv) (fun v3 e => ?_)
      refine hn_if_eq hF dX7_way_25 (t := 40) (q := 28) rfl rfl e (fun e => ?_) (fun e => ?_)
      · refine hn_bipush hF dX7_way_40 (q := 42) rfl kb_m4 ?_
        exact hn_iretP hF hQ dX7_way_42 e
      · refine hn_aload_n hF dX7_way_28 (q := 29) rfl 0 rfl ?_
        refine hn_get hF fl_X7_10 o0 rfl rfl dX7_way_29 (q := 32) rfl ?_
        refine hn_iload_n hF dX7_way_32 (q := 33) rfl 1 rfl ?_
        refine hn_iload_n hF dX7_way_33 (q := 34) rfl 2 rfl ?_
        refine hn_callVi (rest := []) hF ms_X2_days mv_X2_days lk_X7_94 o1 rfl (by decide) [.int l1, .int l2] rfl (Nat.le_of_ble_eq_true rfl) dX7_way_34 (q := 37) rfl rfl e (fun v hv => cX2_days_ hV.P hv) (fun v4 e => ?_)
        refine hn_goto hF dX7_way_37 (q := 42) rfl ?_
        exact hn_iretP hF hQ dX7_way_42 e
    · refine hn_iconst hF dX7_way_14 (q := 15) rfl ki_m1 ?_
      exact hn_iretP hF hQ dX7_way_15 e
theorem cX7_way_ {B : hn_B} {μ : hn_M} {R : Int32} {l1 : Int32} {l2 : Int32} (hV : hn_V B hn_nA) (e : fX7_way μ l1 l2 = some R) : hn_C yX7_way cX7_way 3 (some .int) 1 B [.ref (hn_base B + 0), .int l1, .int l2] μ (some (.int R), μ) :=
  hn_C.of RX7 (by decide) rfl (Nat.le_of_ble_eq_true rfl) (fun _ hF hQ => gX7_way hF hQ hV e)
/-! HandNews.slow(II)I -/
def fX7_slow (μ : hn_M) (l1 : Int32) (l2 : Int32) : Option Int32 := (fX7_isTown l1).bind fun v1 => if v1 = 0 then some (-1) else (fX7_isTown l2).bind fun v2 => if v2 = 0 then some (-1) else (fX2_leads μ l1 l2).bind fun v3 => if v3 = 0 then some (-4) else (fX2_slowestDays μ l1 l2).bind fun v4 => some v4
set_option maxHeartbeats 1000000 in
theorem gX7_slow {Z : hn_Z} {B : hn_B} {μ : hn_M} {R : Int32} (hF : hn_F Z B (0, 0) cX7_slow 3 RX7 (some .int) 1) (hQ : hn_goal Z B (some (.int R), μ)) (hV : hn_V B hn_nA) {l1 : Int32} {l2 : Int32} (e : fX7_slow μ l1 l2 = some R) : hn_G Z B (0, 0) 3 0 [(0, .ref (hn_base B + 0)), (1, .int l1), (2, .int l2)] [] μ := by
  unfold fX7_slow at e
  have o0 : hn_isO B 0 7 hn_k0 := hV 0 (by decide)
  have o1 : hn_isO B 1 2 hn_k1 := hV 1 (by decide)
  refine hn_iload_n hF dX7_slow_0 (q := 1) rfl 1 rfl ?_
  refine hn_callSi (rest := []) hF ms_X7_isTown mt_X7_isTown lk_X7_79 (by decide) [.int l1] rfl (Nat.le_of_ble_eq_true rfl) dX7_slow_1 (q := 4) rfl rfl e (fun v hv => cX7_isTown_ hv) (fun v1 e => ?_)
  refine hn_if_eq hF dX7_slow_4 (t := 14) (q := 7) rfl rfl e (fun e => ?_) (fun e => ?_)
  · refine hn_iconst hF dX7_slow_14 (q := 15) rfl ki_m1 ?_
    exact hn_iretP hF hQ dX7_slow_15 e
  · refine hn_iload_n hF dX7_slow_7 (q := 8) rfl 2 rfl ?_
    refine hn_callSi (rest := []) hF ms_X7_isTown mt_X7_isTown lk_X7_79 (by decide) [.int l2] rfl (Nat.le_of_ble_eq_true rfl) dX7_slow_8 (q := 11) rfl rfl e (fun v hv => cX7_isTown_ hv) (fun v2 e => ?_)
    refine hn_if_ne hF dX7_slow_11 (t := 16) (q := 14) rfl rfl e (fun e => ?_) (fun e => ?_)
    · refine hn_aload_n hF dX7_slow_16 (q := 17) rfl 0 rfl ?_
      refine hn_get hF fl_X7_10 o0 rfl rfl dX7_slow_17 (q := 20) rfl ?_
      refine hn_iload_n hF dX7_slow_20 (q := 21) rfl 1 rfl ?_
      refine hn_iload_n hF dX7_slow_21 (q := 22) rfl 2 rfl ?_
      refine hn_callVi (rest := []) hF ms_X2_leads mv_X2_leads lk_X7_90 o1 rfl (by decide) [.int l1, .int l2] rfl (Nat.le_of_ble_eq_true rfl) dX7_slow_22 (q := 25) rfl rfl e (fun v hv => cX2_leads_ hV.P hv) (fun v3 e => ?_)
      refine hn_if_eq hF dX7_slow_25 (t := 40) (q := 28) rfl rfl e (fun e => ?_) (fun e => ?_)
      · refine hn_bipush hF dX7_slow_40 (q := 42) rfl kb_m4 ?_
        exact hn_iretP hF hQ dX7_slow_42 e
      · refine hn_aload_n hF dX7_slow_28 (q := 29) rfl 0 rfl ?_
        refine hn_get hF fl_X7_10 o0 rfl rfl dX7_slow_29 (q := 32) rfl ?_
        refine hn_iload_n hF dX7_slow_32 (q := 33) rfl 1 rfl ?_
        refine hn_iload_n hF dX7_slow_33 (q := 34) rfl 2 rfl ?_
        refine hn_callVi (rest := []) hF ms_X2_slowestDays mv_X2_slowestDays lk_X7_98 o1 rfl (by decide) [.int l1, .int l2] rfl (Nat.le_of_ble_eq_true rfl) dX7_slow_34 (q := 37) rfl rfl e (fun v hv => cX2_slowestDays_ hV.P hv) (fun v4 e => ?_)
        refine hn_goto hF dX7_slow_37 (q := 42) rfl ?_
        exact hn_iretP hF hQ dX7_slow_42 e
    · refine hn_iconst hF dX7_slow_14 (q := 15) rfl ki_m1 ?_
      exact hn_iretP hF hQ dX7_slow_15 e
theorem cX7_slow_ {B : hn_B} {μ : hn_M} {R : Int32} {l1 : Int32} {l2 : Int32} (hV : hn_V B hn_nA) (e : fX7_slow μ l1 l2 = some R) : hn_C yX7_slow cX7_slow 3 (some .int) 1 B [.ref (hn_base B + 0), .int l1, .int l2] μ (some (.int R), μ) :=
  hn_C.of RX7 (by decide) rfl (Nat.le_of_ble_eq_true rfl) (fun _ hF hQ => gX7_slow hF hQ hV e)
/-! HandNews.sheet(III)I -/
def fX7_sheet (l1 : Int32) (l2 : Int32) (l3 : Int32) (μ : hn_M) : Option (Int32 × hn_M) := (fX7_isTown l1).bind fun v1 => if v1 = 0 then some ((-1), μ) else (fX7_isWriter l2).bind fun v2 => if v2 = 0 then some ((-1), μ) else (fX7_isDayOrNone l3).bind fun v3 => if v3 = 0 then some ((-1), μ) else if μ 6 0 < 12 then hn_pf μ 0 12 0 fun μ4 => (fX1_addSheet l1 l2 l3 μ4).bind fun w5 => some (w5.1, w5.2) else some ((-3), μ)
set_option maxHeartbeats 1000000 in
theorem gX7_sheet {Z : hn_Z} {B : hn_B} {R : Int32 × hn_M} (hF : hn_F Z B (0, 0) cX7_sheet 4 RX7 (some .int) 2) (hQ : hn_goal Z B (some (.int R.1), R.2)) (hV : hn_V B hn_nA) {l1 : Int32} {l2 : Int32} {l3 : Int32} {μ : hn_M} (e : fX7_sheet l1 l2 l3 μ = some R) : hn_G Z B (0, 0) 4 0 [(0, .ref (hn_base B + 0)), (1, .int l1), (2, .int l2), (3, .int l3)] [] μ := by
  unfold fX7_sheet at e
  have o0 : hn_isO B 0 7 hn_k0 := hV 0 (by decide)
  have o6 : hn_isO B 6 1 hn_k6 := hV 6 (by decide)
  refine hn_iload_n hF dX7_sheet_0 (q := 1) rfl 1 rfl ?_
  refine hn_callSi (rest := []) hF ms_X7_isTown mt_X7_isTown lk_X7_79 (by decide) [.int l1] rfl (Nat.le_of_ble_eq_true rfl) dX7_sheet_1 (q := 4) rfl rfl e (fun v hv => cX7_isTown_ hv) (fun v1 e => ?_)
  refine hn_if_eq hF dX7_sheet_4 (t := 21) (q := 7) rfl rfl e (fun e => ?_) (fun e => ?_)
  · refine hn_iconst hF dX7_sheet_21 (q := 22) rfl ki_m1 ?_
    exact hn_iretM hF hQ dX7_sheet_22 e
  · refine hn_iload_n hF dX7_sheet_7 (q := 8) rfl 2 rfl ?_
    refine hn_callSi (rest := []) hF ms_X7_isWriter mt_X7_isWriter lk_X7_101 (by decide) [.int l2] rfl (Nat.le_of_ble_eq_true rfl) dX7_sheet_8 (q := 11) rfl rfl e (fun v hv => cX7_isWriter_ hv) (fun v2 e => ?_)
    refine hn_if_eq hF dX7_sheet_11 (t := 21) (q := 14) rfl rfl e (fun e => ?_) (fun e => ?_)
    · refine hn_iconst hF dX7_sheet_21 (q := 22) rfl ki_m1 ?_
      exact hn_iretM hF hQ dX7_sheet_22 e
    · refine hn_iload_n hF dX7_sheet_14 (q := 15) rfl 3 rfl ?_
      refine hn_callSi (rest := []) hF ms_X7_isDayOrNone mt_X7_isDayOrNone lk_X7_104 (by decide) [.int l3] rfl (Nat.le_of_ble_eq_true rfl) dX7_sheet_15 (q := 18) rfl rfl e (fun v hv => cX7_isDayOrNone_ hv) (fun v3 e => ?_)
      refine hn_if_ne hF dX7_sheet_18 (t := 23) (q := 21) rfl rfl e (fun e => ?_) (fun e => ?_)
      · refine hn_aload_n hF dX7_sheet_23 (q := 24) rfl 0 rfl ?_
        refine hn_get hF fl_X7_19 o0 rfl rfl dX7_sheet_24 (q := 27) rfl ?_
        refine hn_get hF fl_X7_83 o6 rfl rfl dX7_sheet_27 (q := 30) rfl ?_
        refine hn_bipush hF dX7_sheet_30 (q := 32) rfl kb_12 ?_
        refine hn_icmp_lt hF dX7_sheet_32 (t := 38) (q := 35) rfl rfl e (fun e => ?_) (fun e => ?_)
        · refine hn_aload_n hF dX7_sheet_38 (q := 39) rfl 0 rfl ?_
          refine hn_iconst hF dX7_sheet_39 (q := 40) rfl ki_0 ?_
          refine hn_put hF fl_X7_75 fp_X7_12 o0 rfl rfl rfl rfl dX7_sheet_40 (q := 43) rfl e (fun μ4 e => ?_)
          refine hn_aload_n hF dX7_sheet_43 (q := 44) rfl 0 rfl ?_
          refine hn_get hF fl_X7_19 o0 rfl rfl dX7_sheet_44 (q := 47) rfl ?_
          refine hn_iload_n hF dX7_sheet_47 (q := 48) rfl 1 rfl ?_
          refine hn_iload_n hF dX7_sheet_48 (q := 49) rfl 2 rfl ?_
          refine hn_iload_n hF dX7_sheet_49 (q := 50) rfl 3 rfl ?_
          refine hn_callVm (rest := []) hF ms_X1_addSheet mv_X1_addSheet lk_X7_107 o6 rfl (by decide) [.int l1, .int l2, .int l3] rfl (Nat.le_of_ble_eq_true rfl) dX7_sheet_50 (q := 53) rfl rfl e (fun v hv => cX1_addSheet_ hV hv) (fun w5 e => ?_)
          exact hn_iretM hF hQ dX7_sheet_53 e
        · refine hn_bipush hF dX7_sheet_35 (q := 37) rfl kb_m3 ?_
          exact hn_iretM hF hQ dX7_sheet_37 e
      · refine hn_iconst hF dX7_sheet_21 (q := 22) rfl ki_m1 ?_
        exact hn_iretM hF hQ dX7_sheet_22 e
theorem cX7_sheet_ {B : hn_B} {μ : hn_M} {R : Int32 × hn_M} {l1 : Int32} {l2 : Int32} {l3 : Int32} (hV : hn_V B hn_nA) (e : fX7_sheet l1 l2 l3 μ = some R) : hn_C yX7_sheet cX7_sheet 4 (some .int) 2 B [.ref (hn_base B + 0), .int l1, .int l2, .int l3] μ (some (.int R.1), R.2) :=
  hn_C.of RX7 (by decide) rfl (Nat.le_of_ble_eq_true rfl) (fun _ hF hQ => gX7_sheet hF hQ hV e)
/-! HandNews.isSheet(I)Z -/
def fX7_isSheet (μ : hn_M) (l1 : Int32) : Option Int32 := if l1 < 0 then some 0 else if μ 6 0 ≤ l1 then some 0 else some 1
set_option maxHeartbeats 1000000 in
theorem gX7_isSheet {Z : hn_Z} {B : hn_B} {μ : hn_M} {R : Int32} (hF : hn_F Z B (0, 0) cX7_isSheet 2 RX7 (some .boolean) 0) (hQ : hn_goal Z B (some (.int R), μ)) (hV : hn_V B hn_nA) {l1 : Int32} (e : fX7_isSheet μ l1 = some R) : hn_G Z B (0, 0) 2 0 [(0, .ref (hn_base B + 0)), (1, .int l1)] [] μ := by
  unfold fX7_isSheet at e
  have o0 : hn_isO B 0 7 hn_k0 := hV 0 (by decide)
  have o6 : hn_isO B 6 1 hn_k6 := hV 6 (by decide)
  refine hn_iload_n hF dX7_isSheet_0 (q := 1) rfl 1 rfl ?_
  refine hn_if_lt hF dX7_isSheet_1 (t := 19) (q := 4) rfl rfl e (fun e => ?_) (fun e => ?_)
  · refine hn_iconst hF dX7_isSheet_19 (q := 20) rfl ki_0 ?_
    exact hn_zretP hF hQ dX7_isSheet_20 (Or.inl rfl) e
  · refine hn_iload_n hF dX7_isSheet_4 (q := 5) rfl 1 rfl ?_
    refine hn_aload_n hF dX7_isSheet_5 (q := 6) rfl 0 rfl ?_
    refine hn_get hF fl_X7_19 o0 rfl rfl dX7_isSheet_6 (q := 9) rfl ?_
    refine hn_get hF fl_X7_83 o6 rfl rfl dX7_isSheet_9 (q := 12) rfl ?_
    refine hn_icmp_ge hF dX7_isSheet_12 (t := 19) (q := 15) rfl rfl e (fun e => ?_) (fun e => ?_)
    · refine hn_iconst hF dX7_isSheet_19 (q := 20) rfl ki_0 ?_
      exact hn_zretP hF hQ dX7_isSheet_20 (Or.inl rfl) e
    · refine hn_iconst hF dX7_isSheet_15 (q := 16) rfl ki_1 ?_
      refine hn_goto hF dX7_isSheet_16 (q := 20) rfl ?_
      exact hn_zretP hF hQ dX7_isSheet_20 (Or.inr rfl) e
theorem cX7_isSheet_ {B : hn_B} {μ : hn_M} {R : Int32} {l1 : Int32} (hV : hn_V B hn_nA) (e : fX7_isSheet μ l1 = some R) : hn_C yX7_isSheet cX7_isSheet 2 (some .boolean) 0 B [.ref (hn_base B + 0), .int l1] μ (some (.int R), μ) :=
  hn_C.of RX7 (by decide) rfl (Nat.le_of_ble_eq_true rfl) (fun _ hF hQ => gX7_isSheet hF hQ hV e)
/-! HandNews.dated(II)I -/
def fX7_dated (l1 : Int32) (l2 : Int32) (μ : hn_M) : Option (Int32 × hn_M) := (fX7_isSheet μ l1).bind fun v1 => if v1 = 0 then some ((-100), μ) else (fX7_isDayOrNone l2).bind fun v2 => if v2 = 0 then some ((-100), μ) else hn_rd μ 9 12 l1 fun v3 => hn_wr μ 9 12 l1 l2 fun μ4 => hn_pf μ4 0 12 0 fun μ5 => some (v3, μ5)
set_option maxHeartbeats 1000000 in
theorem gX7_dated {Z : hn_Z} {B : hn_B} {R : Int32 × hn_M} (hF : hn_F Z B (0, 0) cX7_dated 4 RX7 (some .int) 2) (hQ : hn_goal Z B (some (.int R.1), R.2)) (hV : hn_V B hn_nA) {l1 : Int32} {l2 : Int32} {μ : hn_M} (e : fX7_dated l1 l2 μ = some R) : hn_G Z B (0, 0) 4 0 [(0, .ref (hn_base B + 0)), (1, .int l1), (2, .int l2)] [] μ := by
  unfold fX7_dated at e
  have a9 : hn_isA B 9 false 12 := hV 9 (by decide)
  have o0 : hn_isO B 0 7 hn_k0 := hV 0 (by decide)
  have o6 : hn_isO B 6 1 hn_k6 := hV 6 (by decide)
  refine hn_aload_n hF dX7_dated_0 (q := 1) rfl 0 rfl ?_
  refine hn_iload_n hF dX7_dated_1 (q := 2) rfl 1 rfl ?_
  refine hn_callVi (rest := []) hF ms_X7_isSheet mv_X7_isSheet lk_X7_111 o0 rfl (by decide) [.int l1] rfl (Nat.le_of_ble_eq_true rfl) dX7_dated_2 (q := 5) rfl rfl e (fun v hv => cX7_isSheet_ hV hv) (fun v1 e => ?_)
  refine hn_if_eq hF dX7_dated_5 (t := 15) (q := 8) rfl rfl e (fun e => ?_) (fun e => ?_)
  · refine hn_bipush hF dX7_dated_15 (q := 17) rfl kb_m100 ?_
    exact hn_iretM hF hQ dX7_dated_17 e
  · refine hn_iload_n hF dX7_dated_8 (q := 9) rfl 2 rfl ?_
    refine hn_callSi (rest := []) hF ms_X7_isDayOrNone mt_X7_isDayOrNone lk_X7_104 (by decide) [.int l2] rfl (Nat.le_of_ble_eq_true rfl) dX7_dated_9 (q := 12) rfl rfl e (fun v hv => cX7_isDayOrNone_ hv) (fun v2 e => ?_)
    refine hn_if_ne hF dX7_dated_12 (t := 18) (q := 15) rfl rfl e (fun e => ?_) (fun e => ?_)
    · refine hn_aload_n hF dX7_dated_18 (q := 19) rfl 0 rfl ?_
      refine hn_get hF fl_X7_19 o0 rfl rfl dX7_dated_19 (q := 22) rfl ?_
      refine hn_get hF fl_X7_114 o6 rfl rfl dX7_dated_22 (q := 25) rfl ?_
      refine hn_iload_n hF dX7_dated_25 (q := 26) rfl 1 rfl ?_
      refine hn_ald hF a9 dX7_dated_26 (q := 27) rfl e (fun v3 e => ?_)
      refine hn_istore_n hF dX7_dated_27 (q := 28) rfl (i := 3) rfl (by decide) (L' := [(3, .int v3), (0, .ref (hn_base B + 0)), (1, .int l1), (2, .int l2)]) rfl ?_
      refine hn_aload_n hF dX7_dated_28 (q := 29) rfl 1 rfl ?_
      refine hn_get hF fl_X7_19 o0 rfl rfl dX7_dated_29 (q := 32) rfl ?_
      refine hn_get hF fl_X7_114 o6 rfl rfl dX7_dated_32 (q := 35) rfl ?_
      refine hn_iload_n hF dX7_dated_35 (q := 36) rfl 2 rfl ?_
      refine hn_iload_n hF dX7_dated_36 (q := 37) rfl 3 rfl ?_
      refine hn_ast hF a9 dX7_dated_37 (q := 38) rfl e (fun μ4 e => ?_)
      refine hn_aload_n hF dX7_dated_38 (q := 39) rfl 1 rfl ?_
      refine hn_iconst hF dX7_dated_39 (q := 40) rfl ki_0 ?_
      refine hn_put hF fl_X7_75 fp_X7_12 o0 rfl rfl rfl rfl dX7_dated_40 (q := 43) rfl e (fun μ5 e => ?_)
      refine hn_iload_n hF dX7_dated_43 (q := 44) rfl 0 rfl ?_
      exact hn_iretM hF hQ dX7_dated_44 e
    · refine hn_bipush hF dX7_dated_15 (q := 17) rfl kb_m100 ?_
      exact hn_iretM hF hQ dX7_dated_17 e
theorem cX7_dated_ {B : hn_B} {μ : hn_M} {R : Int32 × hn_M} {l1 : Int32} {l2 : Int32} (hV : hn_V B hn_nA) (e : fX7_dated l1 l2 μ = some R) : hn_C yX7_dated cX7_dated 4 (some .int) 2 B [.ref (hn_base B + 0), .int l1, .int l2] μ (some (.int R.1), R.2) :=
  hn_C.of RX7 (by decide) rfl (Nat.le_of_ble_eq_true rfl) (fun _ hF hQ => gX7_dated hF hQ hV e)
/-! HandNews.behind(II)I -/
def fX7_behind (l1 : Int32) (l2 : Int32) (μ : hn_M) : Option (Int32 × hn_M) := (fX7_isSheet μ l1).bind fun v1 => if v1 = 0 then some ((-1), μ) else (fX7_isSheet μ l2).bind fun v2 => if v2 = 0 then some ((-1), μ) else if l1 = l2 then some ((-1), μ) else hn_rd μ 7 12 l2 fun v3 => hn_rd μ 7 12 l1 fun v4 => (fX2_leads μ v3 v4).bind fun v5 => if v5 = 0 then some ((-2), μ) else if μ 6 4 < 20 then hn_pf μ 0 12 0 fun μ6 => (fX1_addPair l1 l2 μ6).bind fun w7 => some (w7.1, w7.2) else some ((-3), μ)
set_option maxHeartbeats 1000000 in
theorem gX7_behind {Z : hn_Z} {B : hn_B} {R : Int32 × hn_M} (hF : hn_F Z B (0, 0) cX7_behind 3 RX7 (some .int) 1) (hQ : hn_goal Z B (some (.int R.1), R.2)) (hV : hn_V B hn_nA) {l1 : Int32} {l2 : Int32} {μ : hn_M} (e : fX7_behind l1 l2 μ = some R) : hn_G Z B (0, 0) 3 0 [(0, .ref (hn_base B + 0)), (1, .int l1), (2, .int l2)] [] μ := by
  unfold fX7_behind at e
  have a7 : hn_isA B 7 false 12 := hV 7 (by decide)
  have o0 : hn_isO B 0 7 hn_k0 := hV 0 (by decide)
  have o1 : hn_isO B 1 2 hn_k1 := hV 1 (by decide)
  have o6 : hn_isO B 6 1 hn_k6 := hV 6 (by decide)
  refine hn_aload_n hF dX7_behind_0 (q := 1) rfl 0 rfl ?_
  refine hn_iload_n hF dX7_behind_1 (q := 2) rfl 1 rfl ?_
  refine hn_callVi (rest := []) hF ms_X7_isSheet mv_X7_isSheet lk_X7_111 o0 rfl (by decide) [.int l1] rfl (Nat.le_of_ble_eq_true rfl) dX7_behind_2 (q := 5) rfl rfl e (fun v hv => cX7_isSheet_ hV hv) (fun v1 e => ?_)
  refine hn_if_eq hF dX7_behind_5 (t := 21) (q := 8) rfl rfl e (fun e => ?_) (fun e => ?_)
  · refine hn_iconst hF dX7_behind_21 (q := 22) rfl ki_m1 ?_
    exact hn_iretM hF hQ dX7_behind_22 e
  · refine hn_aload_n hF dX7_behind_8 (q := 9) rfl 0 rfl ?_
    refine hn_iload_n hF dX7_behind_9 (q := 10) rfl 2 rfl ?_
    refine hn_callVi (rest := []) hF ms_X7_isSheet mv_X7_isSheet lk_X7_111 o0 rfl (by decide) [.int l2] rfl (Nat.le_of_ble_eq_true rfl) dX7_behind_10 (q := 13) rfl rfl e (fun v hv => cX7_isSheet_ hV hv) (fun v2 e => ?_)
    refine hn_if_eq hF dX7_behind_13 (t := 21) (q := 16) rfl rfl e (fun e => ?_) (fun e => ?_)
    · refine hn_iconst hF dX7_behind_21 (q := 22) rfl ki_m1 ?_
      exact hn_iretM hF hQ dX7_behind_22 e
    · refine hn_iload_n hF dX7_behind_16 (q := 17) rfl 1 rfl ?_
      refine hn_iload_n hF dX7_behind_17 (q := 18) rfl 2 rfl ?_
      refine hn_icmp_ne hF dX7_behind_18 (t := 23) (q := 21) rfl rfl e (fun e => ?_) (fun e => ?_)
      · refine hn_aload_n hF dX7_behind_23 (q := 24) rfl 0 rfl ?_
        refine hn_get hF fl_X7_10 o0 rfl rfl dX7_behind_24 (q := 27) rfl ?_
        refine hn_aload_n hF dX7_behind_27 (q := 28) rfl 0 rfl ?_
        refine hn_get hF fl_X7_19 o0 rfl rfl dX7_behind_28 (q := 31) rfl ?_
        refine hn_get hF fl_X7_118 o6 rfl rfl dX7_behind_31 (q := 34) rfl ?_
        refine hn_iload_n hF dX7_behind_34 (q := 35) rfl 2 rfl ?_
        refine hn_ald hF a7 dX7_behind_35 (q := 36) rfl e (fun v3 e => ?_)
        refine hn_aload_n hF dX7_behind_36 (q := 37) rfl 0 rfl ?_
        refine hn_get hF fl_X7_19 o0 rfl rfl dX7_behind_37 (q := 40) rfl ?_
        refine hn_get hF fl_X7_118 o6 rfl rfl dX7_behind_40 (q := 43) rfl ?_
        refine hn_iload_n hF dX7_behind_43 (q := 44) rfl 1 rfl ?_
        refine hn_ald hF a7 dX7_behind_44 (q := 45) rfl e (fun v4 e => ?_)
        refine hn_callVi (rest := []) hF ms_X2_leads mv_X2_leads lk_X7_90 o1 rfl (by decide) [.int v3, .int v4] rfl (Nat.le_of_ble_eq_true rfl) dX7_behind_45 (q := 48) rfl rfl e (fun v hv => cX2_leads_ hV.P hv) (fun v5 e => ?_)
        refine hn_if_ne hF dX7_behind_48 (t := 54) (q := 51) rfl rfl e (fun e => ?_) (fun e => ?_)
        · refine hn_aload_n hF dX7_behind_54 (q := 55) rfl 0 rfl ?_
          refine hn_get hF fl_X7_19 o0 rfl rfl dX7_behind_55 (q := 58) rfl ?_
          refine hn_get hF fl_X7_121 o6 rfl rfl dX7_behind_58 (q := 61) rfl ?_
          refine hn_bipush hF dX7_behind_61 (q := 63) rfl kb_20 ?_
          refine hn_icmp_lt hF dX7_behind_63 (t := 69) (q := 66) rfl rfl e (fun e => ?_) (fun e => ?_)
          · refine hn_aload_n hF dX7_behind_69 (q := 70) rfl 0 rfl ?_
            refine hn_iconst hF dX7_behind_70 (q := 71) rfl ki_0 ?_
            refine hn_put hF fl_X7_75 fp_X7_12 o0 rfl rfl rfl rfl dX7_behind_71 (q := 74) rfl e (fun μ6 e => ?_)
            refine hn_aload_n hF dX7_behind_74 (q := 75) rfl 0 rfl ?_
            refine hn_get hF fl_X7_19 o0 rfl rfl dX7_behind_75 (q := 78) rfl ?_
            refine hn_iload_n hF dX7_behind_78 (q := 79) rfl 1 rfl ?_
            refine hn_iload_n hF dX7_behind_79 (q := 80) rfl 2 rfl ?_
            refine hn_callVm (rest := []) hF ms_X1_addPair mv_X1_addPair lk_X7_124 o6 rfl (by decide) [.int l1, .int l2] rfl (Nat.le_of_ble_eq_true rfl) dX7_behind_80 (q := 83) rfl rfl e (fun v hv => cX1_addPair_ hV hv) (fun w7 e => ?_)
            exact hn_iretM hF hQ dX7_behind_83 e
          · refine hn_bipush hF dX7_behind_66 (q := 68) rfl kb_m3 ?_
            exact hn_iretM hF hQ dX7_behind_68 e
        · refine hn_bipush hF dX7_behind_51 (q := 53) rfl kb_m2 ?_
          exact hn_iretM hF hQ dX7_behind_53 e
      · refine hn_iconst hF dX7_behind_21 (q := 22) rfl ki_m1 ?_
        exact hn_iretM hF hQ dX7_behind_22 e
theorem cX7_behind_ {B : hn_B} {μ : hn_M} {R : Int32 × hn_M} {l1 : Int32} {l2 : Int32} (hV : hn_V B hn_nA) (e : fX7_behind l1 l2 μ = some R) : hn_C yX7_behind cX7_behind 3 (some .int) 1 B [.ref (hn_base B + 0), .int l1, .int l2] μ (some (.int R.1), R.2) :=
  hn_C.of RX7 (by decide) rfl (Nat.le_of_ble_eq_true rfl) (fun _ hF hQ => gX7_behind hF hQ hV e)
/-! HandNews.reachesAllThatSay(II)Z -/
def fX7_reachesAllThatSay_47 (F : Nat) (μ : hn_M) (k2 : Int32 → Int32 → Int32 → Option Int32) (l1 : Int32) (l2 : Int32) (l3 : Int32) : Option Int32 := k2 l1 l2 (l3 + 1)
def fX7_reachesAllThatSay_2 (F : Nat) (μ : hn_M) : Nat → Int32 → Int32 → Int32 → Option Int32
  | 0, _, _, _ => none
  | n + 1, l1, l2, l3 => if μ 6 7 ≤ l3 then some 1 else hn_rd μ 13 30 l3 fun v1 => if v1 = l1 then (fX1_townOf μ l3).bind fun v2 => (fX2_leads μ l2 v2).bind fun v3 => if v3 = 0 then some 0 else fX7_reachesAllThatSay_47 F μ (fX7_reachesAllThatSay_2 F μ n) l1 l2 l3 else fX7_reachesAllThatSay_47 F μ (fX7_reachesAllThatSay_2 F μ n) l1 l2 l3
def fX7_reachesAllThatSay (F : Nat) (μ : hn_M) (l1 : Int32) (l2 : Int32) : Option Int32 := fX7_reachesAllThatSay_2 F μ F l1 l2 0
set_option maxHeartbeats 1000000 in
theorem gX7_reachesAllThatSay_47 {Z : hn_Z} {B : hn_B} {F : Nat} {μ : hn_M} {R : Int32} (hF : hn_F Z B (0, 0) cX7_reachesAllThatSay 4 RX7 (some .boolean) 1) (hQ : hn_goal Z B (some (.int R), μ)) (hV : hn_V B hn_nA) {k2 : Int32 → Int32 → Int32 → Option Int32} (H2 : ∀ (l1 : Int32) (l2 : Int32) (l3 : Int32), k2 l1 l2 l3 = some R → hn_G Z B (0, 0) 4 2 [(0, .ref (hn_base B + 0)), (1, .int l1), (2, .int l2), (3, .int l3)] [] μ) {l1 : Int32} {l2 : Int32} {l3 : Int32} (e : fX7_reachesAllThatSay_47 F μ k2 l1 l2 l3 = some R) : hn_G Z B (0, 0) 4 47 [(0, .ref (hn_base B + 0)), (1, .int l1), (2, .int l2), (3, .int l3)] [] μ := by
  unfold fX7_reachesAllThatSay_47 at e
  refine hn_iinc (p := 3) hF dX7_reachesAllThatSay_47 (q := 50) rfl rfl (kn_1 _) (by decide) (L' := [(3, .int (l3 + 1)), (0, .ref (hn_base B + 0)), (1, .int l1), (2, .int l2)]) rfl ?_
  refine hn_goto hF dX7_reachesAllThatSay_50 (q := 2) rfl ?_
  refine hn_sub [1, 2, 3, 0] (L' := [(0, .ref (hn_base B + 0)), (1, .int l1), (2, .int l2), (3, .int (l3 + 1))]) rfl ?_
  exact H2 l1 l2 (l3 + 1) e
set_option maxHeartbeats 1000000 in
theorem gX7_reachesAllThatSay_2 {Z : hn_Z} {B : hn_B} {F : Nat} {μ : hn_M} {R : Int32} (hF : hn_F Z B (0, 0) cX7_reachesAllThatSay 4 RX7 (some .boolean) 1) (hQ : hn_goal Z B (some (.int R), μ)) (hV : hn_V B hn_nA) : ∀ (n : Nat) (l1 : Int32) (l2 : Int32) (l3 : Int32), fX7_reachesAllThatSay_2 F μ n l1 l2 l3 = some R → hn_G Z B (0, 0) 4 2 [(0, .ref (hn_base B + 0)), (1, .int l1), (2, .int l2), (3, .int l3)] [] μ := by
  have a13 : hn_isA B 13 false 30 := hV 13 (by decide)
  have o0 : hn_isO B 0 7 hn_k0 := hV 0 (by decide)
  have o1 : hn_isO B 1 2 hn_k1 := hV 1 (by decide)
  have o6 : hn_isO B 6 1 hn_k6 := hV 6 (by decide)
  intro n
  induction n with
  | zero => intro l1 l2 l3 e; rw [fX7_reachesAllThatSay_2] at e; cases e
  | succ n ih =>
    intro l1 l2 l3 e
    rw [fX7_reachesAllThatSay_2] at e
    refine hn_iload_n hF dX7_reachesAllThatSay_2 (q := 3) rfl 3 rfl ?_
    refine hn_aload_n hF dX7_reachesAllThatSay_3 (q := 4) rfl 0 rfl ?_
    refine hn_get hF fl_X7_19 o0 rfl rfl dX7_reachesAllThatSay_4 (q := 7) rfl ?_
    refine hn_get hF fl_X7_159 o6 rfl rfl dX7_reachesAllThatSay_7 (q := 10) rfl ?_
    refine hn_icmp_ge hF dX7_reachesAllThatSay_10 (t := 53) (q := 13) rfl rfl e (fun e => ?_) (fun e => ?_)
    · refine hn_iconst hF dX7_reachesAllThatSay_53 (q := 54) rfl ki_1 ?_
      exact hn_zretP hF hQ dX7_reachesAllThatSay_54 (Or.inr rfl) e
    · refine hn_aload_n hF dX7_reachesAllThatSay_13 (q := 14) rfl 0 rfl ?_
      refine hn_get hF fl_X7_19 o0 rfl rfl dX7_reachesAllThatSay_14 (q := 17) rfl ?_
      refine hn_get hF fl_X7_173 o6 rfl rfl dX7_reachesAllThatSay_17 (q := 20) rfl ?_
      refine hn_iload_n hF dX7_reachesAllThatSay_20 (q := 21) rfl 3 rfl ?_
      refine hn_ald hF a13 dX7_reachesAllThatSay_21 (q := 22) rfl e (fun v1 e => ?_)
      refine hn_iload_n hF dX7_reachesAllThatSay_22 (q := 23) rfl 1 rfl ?_
      refine hn_icmp_ne hF dX7_reachesAllThatSay_23 (t := 47) (q := 26) rfl rfl e (fun e => ?_) (fun e => ?_)
      · exact gX7_reachesAllThatSay_47 hF hQ hV ih e
      · refine hn_aload_n hF dX7_reachesAllThatSay_26 (q := 27) rfl 0 rfl ?_
        refine hn_get hF fl_X7_10 o0 rfl rfl dX7_reachesAllThatSay_27 (q := 30) rfl ?_
        refine hn_iload_n hF dX7_reachesAllThatSay_30 (q := 31) rfl 2 rfl ?_
        refine hn_aload_n hF dX7_reachesAllThatSay_31 (q := 32) rfl 0 rfl ?_
        refine hn_get hF fl_X7_19 o0 rfl rfl dX7_reachesAllThatSay_32 (q := 35) rfl ?_
        refine hn_iload_n hF dX7_reachesAllThatSay_35 (q := 36) rfl 3 rfl ?_
        refine hn_callVi (rest := [.int l2, .ref (hn_base B + 1)]) hF ms_X1_townOf mv_X1_townOf lk_X7_305 o6 rfl (by decide) [.int l3] rfl (Nat.le_of_ble_eq_true rfl) dX7_reachesAllThatSay_36 (q := 39) rfl rfl e (fun v hv => cX1_townOf_ hV hv) (fun v2 e => ?_)
        refine hn_callVi (rest := []) hF ms_X2_leads mv_X2_leads lk_X7_90 o1 rfl (by decide) [.int l2, .int v2] rfl (Nat.le_of_ble_eq_true rfl) dX7_reachesAllThatSay_39 (q := 42) rfl rfl e (fun v hv => cX2_leads_ hV.P hv) (fun v3 e => ?_)
        refine hn_if_ne hF dX7_reachesAllThatSay_42 (t := 47) (q := 45) rfl rfl e (fun e => ?_) (fun e => ?_)
        · exact gX7_reachesAllThatSay_47 hF hQ hV ih e
        · refine hn_iconst hF dX7_reachesAllThatSay_45 (q := 46) rfl ki_0 ?_
          exact hn_zretP hF hQ dX7_reachesAllThatSay_46 (Or.inl rfl) e
set_option maxHeartbeats 1000000 in
theorem gX7_reachesAllThatSay {Z : hn_Z} {B : hn_B} {F : Nat} {μ : hn_M} {R : Int32} (hF : hn_F Z B (0, 0) cX7_reachesAllThatSay 4 RX7 (some .boolean) 1) (hQ : hn_goal Z B (some (.int R), μ)) (hV : hn_V B hn_nA) {l1 : Int32} {l2 : Int32} (e : fX7_reachesAllThatSay F μ l1 l2 = some R) : hn_G Z B (0, 0) 4 0 [(0, .ref (hn_base B + 0)), (1, .int l1), (2, .int l2)] [] μ := by
  unfold fX7_reachesAllThatSay at e
  refine hn_iconst hF dX7_reachesAllThatSay_0 (q := 1) rfl ki_0 ?_
  refine hn_istore_n hF dX7_reachesAllThatSay_1 (q := 2) rfl (i := 3) rfl (by decide) (L' := [(3, .int 0), (0, .ref (hn_base B + 0)), (1, .int l1), (2, .int l2)]) rfl ?_
  refine hn_sub [1, 2, 3, 0] (L' := [(0, .ref (hn_base B + 0)), (1, .int l1), (2, .int l2), (3, .int 0)]) rfl ?_
  exact gX7_reachesAllThatSay_2 hF hQ hV F l1 l2 0 e
theorem cX7_reachesAllThatSay_ {B : hn_B} {F : Nat} {μ : hn_M} {R : Int32} {l1 : Int32} {l2 : Int32} (hV : hn_V B hn_nA) (e : fX7_reachesAllThatSay F μ l1 l2 = some R) : hn_C yX7_reachesAllThatSay cX7_reachesAllThatSay 4 (some .boolean) 1 B [.ref (hn_base B + 0), .int l1, .int l2] μ (some (.int R), μ) :=
  hn_C.of RX7 (by decide) rfl (Nat.le_of_ble_eq_true rfl) (fun _ hF hQ => gX7_reachesAllThatSay hF hQ hV e)
/-! HandNews.happened(III)I -/
def fX7_happened (F : Nat) (l1 : Int32) (l2 : Int32) (l3 : Int32) (μ : hn_M) : Option (Int32 × hn_M) := (fX7_isThing l1).bind fun v1 => if v1 = 0 then some ((-1), μ) else (fX7_isTown l2).bind fun v2 => if v2 = 0 then some ((-1), μ) else (fX7_isDay l3).bind fun v3 => if v3 = 0 then some ((-1), μ) else (fX1_hasHappened μ l1).bind fun v4 => if v4 = 0 then (fX7_reachesAllThatSay F μ l1 l2).bind fun v5 => if v5 = 0 then some ((-2), μ) else hn_wr μ 16 10 l1 l2 fun μ6 => hn_wr μ6 17 10 l1 l3 fun μ7 => hn_pf μ7 0 12 0 fun μ8 => some (0, μ8) else some ((-2), μ)
set_option maxHeartbeats 1000000 in
theorem gX7_happened {Z : hn_Z} {B : hn_B} {F : Nat} {R : Int32 × hn_M} (hF : hn_F Z B (0, 0) cX7_happened 4 RX7 (some .int) 2) (hQ : hn_goal Z B (some (.int R.1), R.2)) (hV : hn_V B hn_nA) {l1 : Int32} {l2 : Int32} {l3 : Int32} {μ : hn_M} (e : fX7_happened F l1 l2 l3 μ = some R) : hn_G Z B (0, 0) 4 0 [(0, .ref (hn_base B + 0)), (1, .int l1), (2, .int l2), (3, .int l3)] [] μ := by
  unfold fX7_happened at e
  have a16 : hn_isA B 16 false 10 := hV 16 (by decide)
  have a17 : hn_isA B 17 false 10 := hV 17 (by decide)
  have o0 : hn_isO B 0 7 hn_k0 := hV 0 (by decide)
  have o6 : hn_isO B 6 1 hn_k6 := hV 6 (by decide)
  refine hn_iload_n hF dX7_happened_0 (q := 1) rfl 1 rfl ?_
  refine hn_callSi (rest := []) hF ms_X7_isThing mt_X7_isThing lk_X7_127 (by decide) [.int l1] rfl (Nat.le_of_ble_eq_true rfl) dX7_happened_1 (q := 4) rfl rfl e (fun v hv => cX7_isThing_ hv) (fun v1 e => ?_)
  refine hn_if_eq hF dX7_happened_4 (t := 21) (q := 7) rfl rfl e (fun e => ?_) (fun e => ?_)
  · refine hn_iconst hF dX7_happened_21 (q := 22) rfl ki_m1 ?_
    exact hn_iretM hF hQ dX7_happened_22 e
  · refine hn_iload_n hF dX7_happened_7 (q := 8) rfl 2 rfl ?_
    refine hn_callSi (rest := []) hF ms_X7_isTown mt_X7_isTown lk_X7_79 (by decide) [.int l2] rfl (Nat.le_of_ble_eq_true rfl) dX7_happened_8 (q := 11) rfl rfl e (fun v hv => cX7_isTown_ hv) (fun v2 e => ?_)
    refine hn_if_eq hF dX7_happened_11 (t := 21) (q := 14) rfl rfl e (fun e => ?_) (fun e => ?_)
    · refine hn_iconst hF dX7_happened_21 (q := 22) rfl ki_m1 ?_
      exact hn_iretM hF hQ dX7_happened_22 e
    · refine hn_iload_n hF dX7_happened_14 (q := 15) rfl 3 rfl ?_
      refine hn_callSi (rest := []) hF ms_X7_isDay mt_X7_isDay lk_X7_130 (by decide) [.int l3] rfl (Nat.le_of_ble_eq_true rfl) dX7_happened_15 (q := 18) rfl rfl e (fun v hv => cX7_isDay_ hv) (fun v3 e => ?_)
      refine hn_if_ne hF dX7_happened_18 (t := 23) (q := 21) rfl rfl e (fun e => ?_) (fun e => ?_)
      · refine hn_aload_n hF dX7_happened_23 (q := 24) rfl 0 rfl ?_
        refine hn_get hF fl_X7_19 o0 rfl rfl dX7_happened_24 (q := 27) rfl ?_
        refine hn_iload_n hF dX7_happened_27 (q := 28) rfl 1 rfl ?_
        refine hn_callVi (rest := []) hF ms_X1_hasHappened mv_X1_hasHappened lk_X7_133 o6 rfl (by decide) [.int l1] rfl (Nat.le_of_ble_eq_true rfl) dX7_happened_28 (q := 31) rfl rfl e (fun v hv => cX1_hasHappened_ hV hv) (fun v4 e => ?_)
        refine hn_if_ne hF dX7_happened_31 (t := 43) (q := 34) rfl rfl e (fun e => ?_) (fun e => ?_)
        · refine hn_bipush hF dX7_happened_43 (q := 45) rfl kb_m2 ?_
          exact hn_iretM hF hQ dX7_happened_45 e
        · refine hn_aload_n hF dX7_happened_34 (q := 35) rfl 0 rfl ?_
          refine hn_iload_n hF dX7_happened_35 (q := 36) rfl 1 rfl ?_
          refine hn_iload_n hF dX7_happened_36 (q := 37) rfl 2 rfl ?_
          refine hn_callVi (rest := []) hF ms_X7_reachesAllThatSay mv_X7_reachesAllThatSay lk_X7_136 o0 rfl (by decide) [.int l1, .int l2] rfl (Nat.le_of_ble_eq_true rfl) dX7_happened_37 (q := 40) rfl rfl e (fun v hv => cX7_reachesAllThatSay_ hV hv) (fun v5 e => ?_)
          refine hn_if_ne hF dX7_happened_40 (t := 46) (q := 43) rfl rfl e (fun e => ?_) (fun e => ?_)
          · refine hn_aload_n hF dX7_happened_46 (q := 47) rfl 0 rfl ?_
            refine hn_get hF fl_X7_19 o0 rfl rfl dX7_happened_47 (q := 50) rfl ?_
            refine hn_get hF fl_X7_139 o6 rfl rfl dX7_happened_50 (q := 53) rfl ?_
            refine hn_iload_n hF dX7_happened_53 (q := 54) rfl 1 rfl ?_
            refine hn_iload_n hF dX7_happened_54 (q := 55) rfl 2 rfl ?_
            refine hn_ast hF a16 dX7_happened_55 (q := 56) rfl e (fun μ6 e => ?_)
            refine hn_aload_n hF dX7_happened_56 (q := 57) rfl 0 rfl ?_
            refine hn_get hF fl_X7_19 o0 rfl rfl dX7_happened_57 (q := 60) rfl ?_
            refine hn_get hF fl_X7_142 o6 rfl rfl dX7_happened_60 (q := 63) rfl ?_
            refine hn_iload_n hF dX7_happened_63 (q := 64) rfl 1 rfl ?_
            refine hn_iload_n hF dX7_happened_64 (q := 65) rfl 3 rfl ?_
            refine hn_ast hF a17 dX7_happened_65 (q := 66) rfl e (fun μ7 e => ?_)
            refine hn_aload_n hF dX7_happened_66 (q := 67) rfl 0 rfl ?_
            refine hn_iconst hF dX7_happened_67 (q := 68) rfl ki_0 ?_
            refine hn_put hF fl_X7_75 fp_X7_12 o0 rfl rfl rfl rfl dX7_happened_68 (q := 71) rfl e (fun μ8 e => ?_)
            refine hn_iconst hF dX7_happened_71 (q := 72) rfl ki_0 ?_
            exact hn_iretM hF hQ dX7_happened_72 e
          · refine hn_bipush hF dX7_happened_43 (q := 45) rfl kb_m2 ?_
            exact hn_iretM hF hQ dX7_happened_45 e
      · refine hn_iconst hF dX7_happened_21 (q := 22) rfl ki_m1 ?_
        exact hn_iretM hF hQ dX7_happened_22 e
theorem cX7_happened_ {B : hn_B} {F : Nat} {μ : hn_M} {R : Int32 × hn_M} {l1 : Int32} {l2 : Int32} {l3 : Int32} (hV : hn_V B hn_nA) (e : fX7_happened F l1 l2 l3 μ = some R) : hn_C yX7_happened cX7_happened 4 (some .int) 2 B [.ref (hn_base B + 0), .int l1, .int l2, .int l3] μ (some (.int R.1), R.2) :=
  hn_C.of RX7 (by decide) rfl (Nat.le_of_ble_eq_true rfl) (fun _ hF hQ => gX7_happened hF hQ hV e)
/-! HandNews.isQuarrel()Z -/
def fX7_isQuarrel_55 (F : Nat) (μ : hn_M) : Option (Int32 × hn_M) := hn_pf μ 0 12 1 fun μ1 => hn_bo (μ1 46 3) (some (μ1 46 3, μ1))
def fX7_isQuarrel (F : Nat) (μ : hn_M) : Option (Int32 × hn_M) := if μ 0 12 = 0 then (fX3_reckon F μ).bind fun μ2 => if μ2 46 3 = 0 then (fX5_grow F (μ2 0 10) μ2).bind fun μ3 => fX7_isQuarrel_55 F μ3 else fX7_isQuarrel_55 F μ2 else hn_bo (μ 46 3) (some (μ 46 3, μ))
set_option maxHeartbeats 1000000 in
theorem gX7_isQuarrel_55 {Z : hn_Z} {B : hn_B} {F : Nat} {R : Int32 × hn_M} (hF : hn_F Z B (0, 0) cX7_isQuarrel 1 RX7 (some .boolean) 5) (hQ : hn_goal Z B (some (.int R.1), R.2)) (hV : hn_V B hn_nA) {μ : hn_M} (e : fX7_isQuarrel_55 F μ = some R) : hn_G Z B (0, 0) 1 55 [(0, .ref (hn_base B + 0))] [] μ := by
  unfold fX7_isQuarrel_55 at e
  have o0 : hn_isO B 0 7 hn_k0 := hV 0 (by decide)
  have o46 : hn_isO B 46 3 hn_k46 := hV 46 (by decide)
  refine hn_aload_n hF dX7_isQuarrel_55 (q := 56) rfl 0 rfl ?_
  refine hn_iconst hF dX7_isQuarrel_56 (q := 57) rfl ki_1 ?_
  refine hn_put hF fl_X7_75 fp_X7_12 o0 rfl rfl rfl rfl dX7_isQuarrel_57 (q := 60) rfl e (fun μ1 e => ?_)
  refine hn_aload_n hF dX7_isQuarrel_60 (q := 61) rfl 0 rfl ?_
  refine hn_get hF fl_X7_30 o0 rfl rfl dX7_isQuarrel_61 (q := 64) rfl ?_
  refine hn_get hF fl_X7_298 o46 rfl rfl dX7_isQuarrel_64 (q := 67) rfl ?_
  exact hn_zretMg hF hQ dX7_isQuarrel_67 e
set_option maxHeartbeats 1000000 in
theorem gX7_isQuarrel {Z : hn_Z} {B : hn_B} {F : Nat} {R : Int32 × hn_M} (hF : hn_F Z B (0, 0) cX7_isQuarrel 1 RX7 (some .boolean) 5) (hQ : hn_goal Z B (some (.int R.1), R.2)) (hV : hn_V B hn_nA) {μ : hn_M} (e : fX7_isQuarrel F μ = some R) : hn_G Z B (0, 0) 1 0 [(0, .ref (hn_base B + 0))] [] μ := by
  unfold fX7_isQuarrel at e
  have o0 : hn_isO B 0 7 hn_k0 := hV 0 (by decide)
  have o46 : hn_isO B 46 3 hn_k46 := hV 46 (by decide)
  have o50 : hn_isO B 50 5 hn_k50 := hV 50 (by decide)
  refine hn_aload_n hF dX7_isQuarrel_0 (q := 1) rfl 0 rfl ?_
  refine hn_get hF fl_X7_75 o0 rfl rfl dX7_isQuarrel_1 (q := 4) rfl ?_
  refine hn_if_ne hF dX7_isQuarrel_4 (t := 60) (q := 7) rfl rfl e (fun e => ?_) (fun e => ?_)
  · refine hn_aload_n hF dX7_isQuarrel_60 (q := 61) rfl 0 rfl ?_
    refine hn_get hF fl_X7_30 o0 rfl rfl dX7_isQuarrel_61 (q := 64) rfl ?_
    refine hn_get hF fl_X7_298 o46 rfl rfl dX7_isQuarrel_64 (q := 67) rfl ?_
    exact hn_zretMg hF hQ dX7_isQuarrel_67 e
  · refine hn_aload_n hF dX7_isQuarrel_7 (q := 8) rfl 0 rfl ?_
    refine hn_get hF fl_X7_30 o0 rfl rfl dX7_isQuarrel_8 (q := 11) rfl ?_
    refine hn_aload_n hF dX7_isQuarrel_11 (q := 12) rfl 0 rfl ?_
    refine hn_get hF fl_X7_19 o0 rfl rfl dX7_isQuarrel_12 (q := 15) rfl ?_
    refine hn_aload_n hF dX7_isQuarrel_15 (q := 16) rfl 0 rfl ?_
    refine hn_get hF fl_X7_10 o0 rfl rfl dX7_isQuarrel_16 (q := 19) rfl ?_
    refine hn_callVv (rest := []) hF ms_X3_reckon mv_X3_reckon lk_X7_294 o46 rfl (by decide) [.ref (hn_base B + 6), .ref (hn_base B + 1)] rfl (Nat.le_of_ble_eq_true rfl) dX7_isQuarrel_19 (q := 22) rfl rfl e (fun v hv => cX3_reckon_ hV hv) (fun μ2 e => ?_)
    refine hn_aload_n hF dX7_isQuarrel_22 (q := 23) rfl 0 rfl ?_
    refine hn_get hF fl_X7_30 o0 rfl rfl dX7_isQuarrel_23 (q := 26) rfl ?_
    refine hn_get hF fl_X7_298 o46 rfl rfl dX7_isQuarrel_26 (q := 29) rfl ?_
    refine hn_if_ne hF dX7_isQuarrel_29 (t := 55) (q := 32) rfl rfl e (fun e => ?_) (fun e => ?_)
    · exact gX7_isQuarrel_55 hF hQ hV e
    · refine hn_aload_n hF dX7_isQuarrel_32 (q := 33) rfl 0 rfl ?_
      refine hn_get hF fl_X7_37 o0 rfl rfl dX7_isQuarrel_33 (q := 36) rfl ?_
      refine hn_aload_n hF dX7_isQuarrel_36 (q := 37) rfl 0 rfl ?_
      refine hn_get hF fl_X7_19 o0 rfl rfl dX7_isQuarrel_37 (q := 40) rfl ?_
      refine hn_aload_n hF dX7_isQuarrel_40 (q := 41) rfl 0 rfl ?_
      refine hn_get hF fl_X7_10 o0 rfl rfl dX7_isQuarrel_41 (q := 44) rfl ?_
      refine hn_aload_n hF dX7_isQuarrel_44 (q := 45) rfl 0 rfl ?_
      refine hn_get hF fl_X7_30 o0 rfl rfl dX7_isQuarrel_45 (q := 48) rfl ?_
      refine hn_aload_n hF dX7_isQuarrel_48 (q := 49) rfl 0 rfl ?_
      refine hn_get hF fl_X7_69 o0 rfl rfl dX7_isQuarrel_49 (q := 52) rfl ?_
      refine hn_callVv (rest := []) hF ms_X5_grow mv_X5_grow lk_X7_301 o50 rfl (by decide) [.ref (hn_base B + 6), .ref (hn_base B + 1), .ref (hn_base B + 46), .int (μ2 0 10)] rfl (Nat.le_of_ble_eq_true rfl) dX7_isQuarrel_52 (q := 55) rfl rfl e (fun v hv => cX5_grow_ hV hv) (fun μ3 e => ?_)
      exact gX7_isQuarrel_55 hF hQ hV e
theorem cX7_isQuarrel_ {B : hn_B} {F : Nat} {μ : hn_M} {R : Int32 × hn_M} (hV : hn_V B hn_nA) (e : fX7_isQuarrel F μ = some R) : hn_C yX7_isQuarrel cX7_isQuarrel 1 (some .boolean) 5 B [.ref (hn_base B + 0)] μ (some (.int R.1), R.2) :=
  hn_C.of RX7 (by decide) rfl (Nat.le_of_ble_eq_true rfl) (fun _ hF hQ => gX7_isQuarrel hF hQ hV e)
/-! HandNews.span(II)I -/
def fX7_span (F : Nat) (l1 : Int32) (l2 : Int32) (μ : hn_M) : Option (Int32 × hn_M) := (fX7_isSheet μ l1).bind fun v1 => if v1 = 0 then some ((-1), μ) else if l2 < 0 then some ((-1), μ) else if l2 ≤ 1 then (fX7_isQuarrel F μ).bind fun w2 => if w2.1 = 0 then if l2 = 0 then hn_rd w2.2 47 12 l1 fun v4 => some (v4, w2.2) else hn_rd w2.2 48 12 l1 fun v3 => some (v3, w2.2) else some ((-2), w2.2) else some ((-1), μ)
set_option maxHeartbeats 1000000 in
theorem gX7_span {Z : hn_Z} {B : hn_B} {F : Nat} {R : Int32 × hn_M} (hF : hn_F Z B (0, 0) cX7_span 3 RX7 (some .int) 6) (hQ : hn_goal Z B (some (.int R.1), R.2)) (hV : hn_V B hn_nA) {l1 : Int32} {l2 : Int32} {μ : hn_M} (e : fX7_span F l1 l2 μ = some R) : hn_G Z B (0, 0) 3 0 [(0, .ref (hn_base B + 0)), (1, .int l1), (2, .int l2)] [] μ := by
  unfold fX7_span at e
  have a47 : hn_isA B 47 false 12 := hV 47 (by decide)
  have a48 : hn_isA B 48 false 12 := hV 48 (by decide)
  have o0 : hn_isO B 0 7 hn_k0 := hV 0 (by decide)
  have o46 : hn_isO B 46 3 hn_k46 := hV 46 (by decide)
  refine hn_aload_n hF dX7_span_0 (q := 1) rfl 0 rfl ?_
  refine hn_iload_n hF dX7_span_1 (q := 2) rfl 1 rfl ?_
  refine hn_callVi (rest := []) hF ms_X7_isSheet mv_X7_isSheet lk_X7_111 o0 rfl (by decide) [.int l1] rfl (Nat.le_of_ble_eq_true rfl) dX7_span_2 (q := 5) rfl rfl e (fun v hv => cX7_isSheet_ hV hv) (fun v1 e => ?_)
  refine hn_if_eq hF dX7_span_5 (t := 17) (q := 8) rfl rfl e (fun e => ?_) (fun e => ?_)
  · refine hn_iconst hF dX7_span_17 (q := 18) rfl ki_m1 ?_
    exact hn_iretM hF hQ dX7_span_18 e
  · refine hn_iload_n hF dX7_span_8 (q := 9) rfl 2 rfl ?_
    refine hn_if_lt hF dX7_span_9 (t := 17) (q := 12) rfl rfl e (fun e => ?_) (fun e => ?_)
    · refine hn_iconst hF dX7_span_17 (q := 18) rfl ki_m1 ?_
      exact hn_iretM hF hQ dX7_span_18 e
    · refine hn_iload_n hF dX7_span_12 (q := 13) rfl 2 rfl ?_
      refine hn_iconst hF dX7_span_13 (q := 14) rfl ki_1 ?_
      refine hn_icmp_le hF dX7_span_14 (t := 19) (q := 17) rfl rfl e (fun e => ?_) (fun e => ?_)
      · refine hn_aload_n hF dX7_span_19 (q := 20) rfl 0 rfl ?_
        refine hn_callVm (rest := []) hF ms_X7_isQuarrel mv_X7_isQuarrel lk_X7_145 o0 rfl (by decide) [] rfl (Nat.le_of_ble_eq_true rfl) dX7_span_20 (q := 23) rfl rfl e (fun v hv => cX7_isQuarrel_ hV hv) (fun w2 e => ?_)
        refine hn_if_eq hF dX7_span_23 (t := 29) (q := 26) rfl rfl e (fun e => ?_) (fun e => ?_)
        · refine hn_iload_n hF dX7_span_29 (q := 30) rfl 2 rfl ?_
          refine hn_if_ne hF dX7_span_30 (t := 45) (q := 33) rfl rfl e (fun e => ?_) (fun e => ?_)
          · refine hn_aload_n hF dX7_span_45 (q := 46) rfl 0 rfl ?_
            refine hn_get hF fl_X7_30 o0 rfl rfl dX7_span_46 (q := 49) rfl ?_
            refine hn_get hF fl_X7_152 o46 rfl rfl dX7_span_49 (q := 52) rfl ?_
            refine hn_iload_n hF dX7_span_52 (q := 53) rfl 1 rfl ?_
            refine hn_ald hF a48 dX7_span_53 (q := 54) rfl e (fun v3 e => ?_)
            exact hn_iretM hF hQ dX7_span_54 e
          · refine hn_aload_n hF dX7_span_33 (q := 34) rfl 0 rfl ?_
            refine hn_get hF fl_X7_30 o0 rfl rfl dX7_span_34 (q := 37) rfl ?_
            refine hn_get hF fl_X7_149 o46 rfl rfl dX7_span_37 (q := 40) rfl ?_
            refine hn_iload_n hF dX7_span_40 (q := 41) rfl 1 rfl ?_
            refine hn_ald hF a47 dX7_span_41 (q := 42) rfl e (fun v4 e => ?_)
            refine hn_goto hF dX7_span_42 (q := 54) rfl ?_
            exact hn_iretM hF hQ dX7_span_54 e
        · refine hn_bipush hF dX7_span_26 (q := 28) rfl kb_m2 ?_
          exact hn_iretM hF hQ dX7_span_28 e
      · refine hn_iconst hF dX7_span_17 (q := 18) rfl ki_m1 ?_
        exact hn_iretM hF hQ dX7_span_18 e
theorem cX7_span_ {B : hn_B} {F : Nat} {μ : hn_M} {R : Int32 × hn_M} {l1 : Int32} {l2 : Int32} (hV : hn_V B hn_nA) (e : fX7_span F l1 l2 μ = some R) : hn_C yX7_span cX7_span 3 (some .int) 6 B [.ref (hn_base B + 0), .int l1, .int l2] μ (some (.int R.1), R.2) :=
  hn_C.of RX7 (by decide) rfl (Nat.le_of_ble_eq_true rfl) (fun _ hF hQ => gX7_span hF hQ hV e)
/-! HandNews.ahead(II)I -/
def fX7_ahead (F : Nat) (l1 : Int32) (l2 : Int32) (μ : hn_M) : Option (Int32 × hn_M) := (fX7_isSheet μ l1).bind fun v1 => if v1 = 0 then some ((-1), μ) else (fX7_isSheet μ l2).bind fun v2 => if v2 = 0 then some ((-1), μ) else (fX7_isQuarrel F μ).bind fun w3 => if w3.1 = 0 then (fX3_canBeNoEarlier F l1 l2 w3.2).bind fun w4 => if w4.1 = 0 then some (1, w4.2) else some (0, w4.2) else some ((-2), w3.2)
set_option maxHeartbeats 1000000 in
theorem gX7_ahead {Z : hn_Z} {B : hn_B} {F : Nat} {R : Int32 × hn_M} (hF : hn_F Z B (0, 0) cX7_ahead 3 RX7 (some .int) 6) (hQ : hn_goal Z B (some (.int R.1), R.2)) (hV : hn_V B hn_nA) {l1 : Int32} {l2 : Int32} {μ : hn_M} (e : fX7_ahead F l1 l2 μ = some R) : hn_G Z B (0, 0) 3 0 [(0, .ref (hn_base B + 0)), (1, .int l1), (2, .int l2)] [] μ := by
  unfold fX7_ahead at e
  have o0 : hn_isO B 0 7 hn_k0 := hV 0 (by decide)
  have o46 : hn_isO B 46 3 hn_k46 := hV 46 (by decide)
  refine hn_aload_n hF dX7_ahead_0 (q := 1) rfl 0 rfl ?_
  refine hn_iload_n hF dX7_ahead_1 (q := 2) rfl 1 rfl ?_
  refine hn_callVi (rest := []) hF ms_X7_isSheet mv_X7_isSheet lk_X7_111 o0 rfl (by decide) [.int l1] rfl (Nat.le_of_ble_eq_true rfl) dX7_ahead_2 (q := 5) rfl rfl e (fun v hv => cX7_isSheet_ hV hv) (fun v1 e => ?_)
  refine hn_if_eq hF dX7_ahead_5 (t := 16) (q := 8) rfl rfl e (fun e => ?_) (fun e => ?_)
  · refine hn_iconst hF dX7_ahead_16 (q := 17) rfl ki_m1 ?_
    exact hn_iretM hF hQ dX7_ahead_17 e
  · refine hn_aload_n hF dX7_ahead_8 (q := 9) rfl 0 rfl ?_
    refine hn_iload_n hF dX7_ahead_9 (q := 10) rfl 2 rfl ?_
    refine hn_callVi (rest := []) hF ms_X7_isSheet mv_X7_isSheet lk_X7_111 o0 rfl (by decide) [.int l2] rfl (Nat.le_of_ble_eq_true rfl) dX7_ahead_10 (q := 13) rfl rfl e (fun v hv => cX7_isSheet_ hV hv) (fun v2 e => ?_)
    refine hn_if_ne hF dX7_ahead_13 (t := 18) (q := 16) rfl rfl e (fun e => ?_) (fun e => ?_)
    · refine hn_aload_n hF dX7_ahead_18 (q := 19) rfl 0 rfl ?_
      refine hn_callVm (rest := []) hF ms_X7_isQuarrel mv_X7_isQuarrel lk_X7_145 o0 rfl (by decide) [] rfl (Nat.le_of_ble_eq_true rfl) dX7_ahead_19 (q := 22) rfl rfl e (fun v hv => cX7_isQuarrel_ hV hv) (fun w3 e => ?_)
      refine hn_if_eq hF dX7_ahead_22 (t := 28) (q := 25) rfl rfl e (fun e => ?_) (fun e => ?_)
      · refine hn_aload_n hF dX7_ahead_28 (q := 29) rfl 0 rfl ?_
        refine hn_get hF fl_X7_30 o0 rfl rfl dX7_ahead_29 (q := 32) rfl ?_
        refine hn_aload_n hF dX7_ahead_32 (q := 33) rfl 0 rfl ?_
        refine hn_get hF fl_X7_19 o0 rfl rfl dX7_ahead_33 (q := 36) rfl ?_
        refine hn_aload_n hF dX7_ahead_36 (q := 37) rfl 0 rfl ?_
        refine hn_get hF fl_X7_10 o0 rfl rfl dX7_ahead_37 (q := 40) rfl ?_
        refine hn_iload_n hF dX7_ahead_40 (q := 41) rfl 1 rfl ?_
        refine hn_iload_n hF dX7_ahead_41 (q := 42) rfl 2 rfl ?_
        refine hn_callVm (rest := []) hF ms_X3_canBeNoEarlier mv_X3_canBeNoEarlier lk_X7_155 o46 rfl (by decide) [.ref (hn_base B + 6), .ref (hn_base B + 1), .int l1, .int l2] rfl (Nat.le_of_ble_eq_true rfl) dX7_ahead_42 (q := 45) rfl rfl e (fun v hv => cX3_canBeNoEarlier_ hV hv) (fun w4 e => ?_)
        refine hn_if_eq hF dX7_ahead_45 (t := 52) (q := 48) rfl rfl e (fun e => ?_) (fun e => ?_)
        · refine hn_iconst hF dX7_ahead_52 (q := 53) rfl ki_1 ?_
          exact hn_iretM hF hQ dX7_ahead_53 e
        · refine hn_iconst hF dX7_ahead_48 (q := 49) rfl ki_0 ?_
          refine hn_goto hF dX7_ahead_49 (q := 53) rfl ?_
          exact hn_iretM hF hQ dX7_ahead_53 e
      · refine hn_bipush hF dX7_ahead_25 (q := 27) rfl kb_m2 ?_
        exact hn_iretM hF hQ dX7_ahead_27 e
    · refine hn_iconst hF dX7_ahead_16 (q := 17) rfl ki_m1 ?_
      exact hn_iretM hF hQ dX7_ahead_17 e
theorem cX7_ahead_ {B : hn_B} {F : Nat} {μ : hn_M} {R : Int32 × hn_M} {l1 : Int32} {l2 : Int32} (hV : hn_V B hn_nA) (e : fX7_ahead F l1 l2 μ = some R) : hn_C yX7_ahead cX7_ahead 3 (some .int) 6 B [.ref (hn_base B + 0), .int l1, .int l2] μ (some (.int R.1), R.2) :=
  hn_C.of RX7 (by decide) rfl (Nat.le_of_ble_eq_true rfl) (fun _ hF hQ => gX7_ahead hF hQ hV e)
/-! HandNews.say(IIIIZZ)I -/
def fX7_say_85 (l1 : Int32) (l2 : Int32) (l3 : Int32) (l4 : Int32) (l5 : Int32) (l6 : Int32) (μ : hn_M) : Option (Int32 × hn_M) := if μ 6 7 < 30 then hn_pf μ 0 12 0 fun μ1 => (fX1_addSaying l1 l2 l3 l4 μ1).bind fun w2 => (fX1_mark w2.1 l5 l6 w2.2).bind fun μ3 => some (w2.1, μ3) else some ((-3), μ)
def fX7_say (l1 : Int32) (l2 : Int32) (l3 : Int32) (l4 : Int32) (l5 : Int32) (l6 : Int32) (μ : hn_M) : Option (Int32 × hn_M) := (fX7_isSheet μ l1).bind fun v4 => if v4 = 0 then some ((-1), μ) else (fX7_isThing l2).bind fun v5 => if v5 = 0 then some ((-1), μ) else if l3 < 0 then some ((-1), μ) else if 9999 < l3 then some ((-1), μ) else if l4 < 0 then some ((-1), μ) else if l4 ≤ 255 then (fX1_hasHappened μ l2).bind fun v6 => if v6 = 0 then fX7_say_85 l1 l2 l3 l4 l5 l6 μ else hn_rd μ 16 10 l2 fun v7 => hn_rd μ 7 12 l1 fun v8 => (fX2_leads μ v7 v8).bind fun v9 => if v9 = 0 then some ((-2), μ) else fX7_say_85 l1 l2 l3 l4 l5 l6 μ else some ((-1), μ)
set_option maxHeartbeats 1000000 in
theorem gX7_say_85 {Z : hn_Z} {B : hn_B} {R : Int32 × hn_M} (hF : hn_F Z B (0, 0) cX7_say 8 RX7 (some .int) 2) (hQ : hn_goal Z B (some (.int R.1), R.2)) (hV : hn_V B hn_nA) {l1 : Int32} {l2 : Int32} {l3 : Int32} {l4 : Int32} {l5 : Int32} {l6 : Int32} {μ : hn_M} (e : fX7_say_85 l1 l2 l3 l4 l5 l6 μ = some R) : hn_G Z B (0, 0) 8 85 [(0, .ref (hn_base B + 0)), (1, .int l1), (2, .int l2), (3, .int l3), (4, .int l4), (5, .int l5), (6, .int l6)] [] μ := by
  unfold fX7_say_85 at e
  have o0 : hn_isO B 0 7 hn_k0 := hV 0 (by decide)
  have o6 : hn_isO B 6 1 hn_k6 := hV 6 (by decide)
  refine hn_aload_n hF dX7_say_85 (q := 86) rfl 0 rfl ?_
  refine hn_get hF fl_X7_19 o0 rfl rfl dX7_say_86 (q := 89) rfl ?_
  refine hn_get hF fl_X7_159 o6 rfl rfl dX7_say_89 (q := 92) rfl ?_
  refine hn_bipush hF dX7_say_92 (q := 94) rfl kb_30 ?_
  refine hn_icmp_lt hF dX7_say_94 (t := 100) (q := 97) rfl rfl e (fun e => ?_) (fun e => ?_)
  · refine hn_aload_n hF dX7_say_100 (q := 101) rfl 0 rfl ?_
    refine hn_iconst hF dX7_say_101 (q := 102) rfl ki_0 ?_
    refine hn_put hF fl_X7_75 fp_X7_12 o0 rfl rfl rfl rfl dX7_say_102 (q := 105) rfl e (fun μ1 e => ?_)
    refine hn_aload_n hF dX7_say_105 (q := 106) rfl 0 rfl ?_
    refine hn_get hF fl_X7_19 o0 rfl rfl dX7_say_106 (q := 109) rfl ?_
    refine hn_iload_n hF dX7_say_109 (q := 110) rfl 1 rfl ?_
    refine hn_iload_n hF dX7_say_110 (q := 111) rfl 2 rfl ?_
    refine hn_iload_n hF dX7_say_111 (q := 112) rfl 3 rfl ?_
    refine hn_iload hF dX7_say_112 (q := 114) rfl 4 rfl ?_
    refine hn_callVm (rest := []) hF ms_X1_addSaying mv_X1_addSaying lk_X7_162 o6 rfl (by decide) [.int l1, .int l2, .int l3, .int l4] rfl (Nat.le_of_ble_eq_true rfl) dX7_say_114 (q := 117) rfl rfl e (fun v hv => cX1_addSaying_ hV hv) (fun w2 e => ?_)
    refine hn_istore hF dX7_say_117 (q := 119) rfl (by decide) (L' := [(7, .int (w2.1)), (0, .ref (hn_base B + 0)), (1, .int l1), (2, .int l2), (3, .int l3), (4, .int l4), (5, .int l5), (6, .int l6)]) rfl ?_
    refine hn_aload_n hF dX7_say_119 (q := 120) rfl 1 rfl ?_
    refine hn_get hF fl_X7_19 o0 rfl rfl dX7_say_120 (q := 123) rfl ?_
    refine hn_iload hF dX7_say_123 (q := 125) rfl 0 rfl ?_
    refine hn_iload hF dX7_say_125 (q := 127) rfl 6 rfl ?_
    refine hn_iload hF dX7_say_127 (q := 129) rfl 7 rfl ?_
    refine hn_callVv (rest := []) hF ms_X1_mark mv_X1_mark lk_X7_166 o6 rfl (by decide) [.int (w2.1), .int l5, .int l6] rfl (Nat.le_of_ble_eq_true rfl) dX7_say_129 (q := 132) rfl rfl e (fun v hv => cX1_mark_ hV hv) (fun μ3 e => ?_)
    refine hn_iload hF dX7_say_132 (q := 134) rfl 0 rfl ?_
    exact hn_iretM hF hQ dX7_say_134 e
  · refine hn_bipush hF dX7_say_97 (q := 99) rfl kb_m3 ?_
    exact hn_iretM hF hQ dX7_say_99 e
set_option maxHeartbeats 1000000 in
theorem gX7_say {Z : hn_Z} {B : hn_B} {R : Int32 × hn_M} (hF : hn_F Z B (0, 0) cX7_say 8 RX7 (some .int) 2) (hQ : hn_goal Z B (some (.int R.1), R.2)) (hV : hn_V B hn_nA) {l1 : Int32} {l2 : Int32} {l3 : Int32} {l4 : Int32} {l5 : Int32} {l6 : Int32} {μ : hn_M} (e : fX7_say l1 l2 l3 l4 l5 l6 μ = some R) : hn_G Z B (0, 0) 8 0 [(0, .ref (hn_base B + 0)), (1, .int l1), (2, .int l2), (3, .int l3), (4, .int l4), (5, .int l5), (6, .int l6)] [] μ := by
  unfold fX7_say at e
  have a16 : hn_isA B 16 false 10 := hV 16 (by decide)
  have a7 : hn_isA B 7 false 12 := hV 7 (by decide)
  have o0 : hn_isO B 0 7 hn_k0 := hV 0 (by decide)
  have o1 : hn_isO B 1 2 hn_k1 := hV 1 (by decide)
  have o6 : hn_isO B 6 1 hn_k6 := hV 6 (by decide)
  refine hn_aload_n hF dX7_say_0 (q := 1) rfl 0 rfl ?_
  refine hn_iload_n hF dX7_say_1 (q := 2) rfl 1 rfl ?_
  refine hn_callVi (rest := []) hF ms_X7_isSheet mv_X7_isSheet lk_X7_111 o0 rfl (by decide) [.int l1] rfl (Nat.le_of_ble_eq_true rfl) dX7_say_2 (q := 5) rfl rfl e (fun v hv => cX7_isSheet_ hV hv) (fun v4 e => ?_)
  refine hn_if_eq hF dX7_say_5 (t := 15) (q := 8) rfl rfl e (fun e => ?_) (fun e => ?_)
  · refine hn_iconst hF dX7_say_15 (q := 16) rfl ki_m1 ?_
    exact hn_iretM hF hQ dX7_say_16 e
  · refine hn_iload_n hF dX7_say_8 (q := 9) rfl 2 rfl ?_
    refine hn_callSi (rest := []) hF ms_X7_isThing mt_X7_isThing lk_X7_127 (by decide) [.int l2] rfl (Nat.le_of_ble_eq_true rfl) dX7_say_9 (q := 12) rfl rfl e (fun v hv => cX7_isThing_ hv) (fun v5 e => ?_)
    refine hn_if_ne hF dX7_say_12 (t := 17) (q := 15) rfl rfl e (fun e => ?_) (fun e => ?_)
    · refine hn_iload_n hF dX7_say_17 (q := 18) rfl 3 rfl ?_
      refine hn_if_lt hF dX7_say_18 (t := 41) (q := 21) rfl rfl e (fun e => ?_) (fun e => ?_)
      · refine hn_iconst hF dX7_say_41 (q := 42) rfl ki_m1 ?_
        exact hn_iretM hF hQ dX7_say_42 e
      · refine hn_iload_n hF dX7_say_21 (q := 22) rfl 3 rfl ?_
        refine hn_sipush hF dX7_say_22 (q := 25) rfl ks_9999 ?_
        refine hn_icmp_gt hF dX7_say_25 (t := 41) (q := 28) rfl rfl e (fun e => ?_) (fun e => ?_)
        · refine hn_iconst hF dX7_say_41 (q := 42) rfl ki_m1 ?_
          exact hn_iretM hF hQ dX7_say_42 e
        · refine hn_iload hF dX7_say_28 (q := 30) rfl 4 rfl ?_
          refine hn_if_lt hF dX7_say_30 (t := 41) (q := 33) rfl rfl e (fun e => ?_) (fun e => ?_)
          · refine hn_iconst hF dX7_say_41 (q := 42) rfl ki_m1 ?_
            exact hn_iretM hF hQ dX7_say_42 e
          · refine hn_iload hF dX7_say_33 (q := 35) rfl 4 rfl ?_
            refine hn_sipush hF dX7_say_35 (q := 38) rfl ks_255 ?_
            refine hn_icmp_le hF dX7_say_38 (t := 43) (q := 41) rfl rfl e (fun e => ?_) (fun e => ?_)
            · refine hn_aload_n hF dX7_say_43 (q := 44) rfl 0 rfl ?_
              refine hn_get hF fl_X7_19 o0 rfl rfl dX7_say_44 (q := 47) rfl ?_
              refine hn_iload_n hF dX7_say_47 (q := 48) rfl 2 rfl ?_
              refine hn_callVi (rest := []) hF ms_X1_hasHappened mv_X1_hasHappened lk_X7_133 o6 rfl (by decide) [.int l2] rfl (Nat.le_of_ble_eq_true rfl) dX7_say_48 (q := 51) rfl rfl e (fun v hv => cX1_hasHappened_ hV hv) (fun v6 e => ?_)
              refine hn_if_eq hF dX7_say_51 (t := 85) (q := 54) rfl rfl e (fun e => ?_) (fun e => ?_)
              · exact gX7_say_85 hF hQ hV e
              · refine hn_aload_n hF dX7_say_54 (q := 55) rfl 0 rfl ?_
                refine hn_get hF fl_X7_10 o0 rfl rfl dX7_say_55 (q := 58) rfl ?_
                refine hn_aload_n hF dX7_say_58 (q := 59) rfl 0 rfl ?_
                refine hn_get hF fl_X7_19 o0 rfl rfl dX7_say_59 (q := 62) rfl ?_
                refine hn_get hF fl_X7_139 o6 rfl rfl dX7_say_62 (q := 65) rfl ?_
                refine hn_iload_n hF dX7_say_65 (q := 66) rfl 2 rfl ?_
                refine hn_ald hF a16 dX7_say_66 (q := 67) rfl e (fun v7 e => ?_)
                refine hn_aload_n hF dX7_say_67 (q := 68) rfl 0 rfl ?_
                refine hn_get hF fl_X7_19 o0 rfl rfl dX7_say_68 (q := 71) rfl ?_
                refine hn_get hF fl_X7_118 o6 rfl rfl dX7_say_71 (q := 74) rfl ?_
                refine hn_iload_n hF dX7_say_74 (q := 75) rfl 1 rfl ?_
                refine hn_ald hF a7 dX7_say_75 (q := 76) rfl e (fun v8 e => ?_)
                refine hn_callVi (rest := []) hF ms_X2_leads mv_X2_leads lk_X7_90 o1 rfl (by decide) [.int v7, .int v8] rfl (Nat.le_of_ble_eq_true rfl) dX7_say_76 (q := 79) rfl rfl e (fun v hv => cX2_leads_ hV.P hv) (fun v9 e => ?_)
                refine hn_if_ne hF dX7_say_79 (t := 85) (q := 82) rfl rfl e (fun e => ?_) (fun e => ?_)
                · exact gX7_say_85 hF hQ hV e
                · refine hn_bipush hF dX7_say_82 (q := 84) rfl kb_m2 ?_
                  exact hn_iretM hF hQ dX7_say_84 e
            · refine hn_iconst hF dX7_say_41 (q := 42) rfl ki_m1 ?_
              exact hn_iretM hF hQ dX7_say_42 e
    · refine hn_iconst hF dX7_say_15 (q := 16) rfl ki_m1 ?_
      exact hn_iretM hF hQ dX7_say_16 e
theorem cX7_say_ {B : hn_B} {μ : hn_M} {R : Int32 × hn_M} {l1 : Int32} {l2 : Int32} {l3 : Int32} {l4 : Int32} {l5 : Int32} {l6 : Int32} (hV : hn_V B hn_nA) (e : fX7_say l1 l2 l3 l4 l5 l6 μ = some R) : hn_C yX7_say cX7_say 8 (some .int) 2 B [.ref (hn_base B + 0), .int l1, .int l2, .int l3, .int l4, .int l5, .int l6] μ (some (.int R.1), R.2) :=
  hn_C.of RX7 (by decide) rfl (Nat.le_of_ble_eq_true rfl) (fun _ hF hQ => gX7_say hF hQ hV e)
/-! HandNews.isSaying(I)Z -/
def fX7_isSaying (μ : hn_M) (l1 : Int32) : Option Int32 := if l1 < 0 then some 0 else if μ 6 7 ≤ l1 then some 0 else some 1
set_option maxHeartbeats 1000000 in
theorem gX7_isSaying {Z : hn_Z} {B : hn_B} {μ : hn_M} {R : Int32} (hF : hn_F Z B (0, 0) cX7_isSaying 2 RX7 (some .boolean) 0) (hQ : hn_goal Z B (some (.int R), μ)) (hV : hn_V B hn_nA) {l1 : Int32} (e : fX7_isSaying μ l1 = some R) : hn_G Z B (0, 0) 2 0 [(0, .ref (hn_base B + 0)), (1, .int l1)] [] μ := by
  unfold fX7_isSaying at e
  have o0 : hn_isO B 0 7 hn_k0 := hV 0 (by decide)
  have o6 : hn_isO B 6 1 hn_k6 := hV 6 (by decide)
  refine hn_iload_n hF dX7_isSaying_0 (q := 1) rfl 1 rfl ?_
  refine hn_if_lt hF dX7_isSaying_1 (t := 19) (q := 4) rfl rfl e (fun e => ?_) (fun e => ?_)
  · refine hn_iconst hF dX7_isSaying_19 (q := 20) rfl ki_0 ?_
    exact hn_zretP hF hQ dX7_isSaying_20 (Or.inl rfl) e
  · refine hn_iload_n hF dX7_isSaying_4 (q := 5) rfl 1 rfl ?_
    refine hn_aload_n hF dX7_isSaying_5 (q := 6) rfl 0 rfl ?_
    refine hn_get hF fl_X7_19 o0 rfl rfl dX7_isSaying_6 (q := 9) rfl ?_
    refine hn_get hF fl_X7_159 o6 rfl rfl dX7_isSaying_9 (q := 12) rfl ?_
    refine hn_icmp_ge hF dX7_isSaying_12 (t := 19) (q := 15) rfl rfl e (fun e => ?_) (fun e => ?_)
    · refine hn_iconst hF dX7_isSaying_19 (q := 20) rfl ki_0 ?_
      exact hn_zretP hF hQ dX7_isSaying_20 (Or.inl rfl) e
    · refine hn_iconst hF dX7_isSaying_15 (q := 16) rfl ki_1 ?_
      refine hn_goto hF dX7_isSaying_16 (q := 20) rfl ?_
      exact hn_zretP hF hQ dX7_isSaying_20 (Or.inr rfl) e
theorem cX7_isSaying_ {B : hn_B} {μ : hn_M} {R : Int32} {l1 : Int32} (hV : hn_V B hn_nA) (e : fX7_isSaying μ l1 = some R) : hn_C yX7_isSaying cX7_isSaying 2 (some .boolean) 0 B [.ref (hn_base B + 0), .int l1] μ (some (.int R), μ) :=
  hn_C.of RX7 (by decide) rfl (Nat.le_of_ble_eq_true rfl) (fun _ hF hQ => gX7_isSaying hF hQ hV e)
/-! HandNews.change(II)I -/
def fX7_change (F : Nat) (μ : hn_M) (l1 : Int32) (l2 : Int32) : Option Int32 := (fX7_isSaying μ l1).bind fun v1 => if v1 = 0 then some (-1) else (fX7_isSaying μ l2).bind fun v2 => if v2 = 0 then some (-1) else hn_rd μ 13 30 l1 fun v3 => hn_rd μ 13 30 l2 fun v4 => if v3 = v4 then (fX1_unlikeness F μ l1 l2).bind fun v5 => some v5 else some (-1)
set_option maxHeartbeats 1000000 in
theorem gX7_change {Z : hn_Z} {B : hn_B} {F : Nat} {μ : hn_M} {R : Int32} (hF : hn_F Z B (0, 0) cX7_change 3 RX7 (some .int) 2) (hQ : hn_goal Z B (some (.int R), μ)) (hV : hn_V B hn_nA) {l1 : Int32} {l2 : Int32} (e : fX7_change F μ l1 l2 = some R) : hn_G Z B (0, 0) 3 0 [(0, .ref (hn_base B + 0)), (1, .int l1), (2, .int l2)] [] μ := by
  unfold fX7_change at e
  have a13 : hn_isA B 13 false 30 := hV 13 (by decide)
  have o0 : hn_isO B 0 7 hn_k0 := hV 0 (by decide)
  have o6 : hn_isO B 6 1 hn_k6 := hV 6 (by decide)
  refine hn_aload_n hF dX7_change_0 (q := 1) rfl 0 rfl ?_
  refine hn_iload_n hF dX7_change_1 (q := 2) rfl 1 rfl ?_
  refine hn_callVi (rest := []) hF ms_X7_isSaying mv_X7_isSaying lk_X7_170 o0 rfl (by decide) [.int l1] rfl (Nat.le_of_ble_eq_true rfl) dX7_change_2 (q := 5) rfl rfl e (fun v hv => cX7_isSaying_ hV hv) (fun v1 e => ?_)
  refine hn_if_eq hF dX7_change_5 (t := 37) (q := 8) rfl rfl e (fun e => ?_) (fun e => ?_)
  · refine hn_iconst hF dX7_change_37 (q := 38) rfl ki_m1 ?_
    exact hn_iretP hF hQ dX7_change_38 e
  · refine hn_aload_n hF dX7_change_8 (q := 9) rfl 0 rfl ?_
    refine hn_iload_n hF dX7_change_9 (q := 10) rfl 2 rfl ?_
    refine hn_callVi (rest := []) hF ms_X7_isSaying mv_X7_isSaying lk_X7_170 o0 rfl (by decide) [.int l2] rfl (Nat.le_of_ble_eq_true rfl) dX7_change_10 (q := 13) rfl rfl e (fun v hv => cX7_isSaying_ hV hv) (fun v2 e => ?_)
    refine hn_if_eq hF dX7_change_13 (t := 37) (q := 16) rfl rfl e (fun e => ?_) (fun e => ?_)
    · refine hn_iconst hF dX7_change_37 (q := 38) rfl ki_m1 ?_
      exact hn_iretP hF hQ dX7_change_38 e
    · refine hn_aload_n hF dX7_change_16 (q := 17) rfl 0 rfl ?_
      refine hn_get hF fl_X7_19 o0 rfl rfl dX7_change_17 (q := 20) rfl ?_
      refine hn_get hF fl_X7_173 o6 rfl rfl dX7_change_20 (q := 23) rfl ?_
      refine hn_iload_n hF dX7_change_23 (q := 24) rfl 1 rfl ?_
      refine hn_ald hF a13 dX7_change_24 (q := 25) rfl e (fun v3 e => ?_)
      refine hn_aload_n hF dX7_change_25 (q := 26) rfl 0 rfl ?_
      refine hn_get hF fl_X7_19 o0 rfl rfl dX7_change_26 (q := 29) rfl ?_
      refine hn_get hF fl_X7_173 o6 rfl rfl dX7_change_29 (q := 32) rfl ?_
      refine hn_iload_n hF dX7_change_32 (q := 33) rfl 2 rfl ?_
      refine hn_ald hF a13 dX7_change_33 (q := 34) rfl e (fun v4 e => ?_)
      refine hn_icmp_eq hF dX7_change_34 (t := 39) (q := 37) rfl rfl e (fun e => ?_) (fun e => ?_)
      · refine hn_aload_n hF dX7_change_39 (q := 40) rfl 0 rfl ?_
        refine hn_get hF fl_X7_19 o0 rfl rfl dX7_change_40 (q := 43) rfl ?_
        refine hn_iload_n hF dX7_change_43 (q := 44) rfl 1 rfl ?_
        refine hn_iload_n hF dX7_change_44 (q := 45) rfl 2 rfl ?_
        refine hn_callVi (rest := []) hF ms_X1_unlikeness mv_X1_unlikeness lk_X7_176 o6 rfl (by decide) [.int l1, .int l2] rfl (Nat.le_of_ble_eq_true rfl) dX7_change_45 (q := 48) rfl rfl e (fun v hv => cX1_unlikeness_ hV hv) (fun v5 e => ?_)
        exact hn_iretP hF hQ dX7_change_48 e
      · refine hn_iconst hF dX7_change_37 (q := 38) rfl ki_m1 ?_
        exact hn_iretP hF hQ dX7_change_38 e
theorem cX7_change_ {B : hn_B} {F : Nat} {μ : hn_M} {R : Int32} {l1 : Int32} {l2 : Int32} (hV : hn_V B hn_nA) (e : fX7_change F μ l1 l2 = some R) : hn_C yX7_change cX7_change 3 (some .int) 2 B [.ref (hn_base B + 0), .int l1, .int l2] μ (some (.int R), μ) :=
  hn_C.of RX7 (by decide) rfl (Nat.le_of_ble_eq_true rfl) (fun _ hF hQ => gX7_change hF hQ hV e)
/-! HandNews.own(I)I -/
def fX7_own (l1 : Int32) (μ : hn_M) : Option (Int32 × hn_M) := if l1 < 0 then some ((-1), μ) else if l1 ≤ 40 then hn_pf μ 0 10 l1 fun μ1 => hn_pf μ1 0 12 0 fun μ2 => some (μ 0 10, μ2) else some ((-1), μ)
set_option maxHeartbeats 1000000 in
theorem gX7_own {Z : hn_Z} {B : hn_B} {R : Int32 × hn_M} (hF : hn_F Z B (0, 0) cX7_own 3 RX7 (some .int) 0) (hQ : hn_goal Z B (some (.int R.1), R.2)) (hV : hn_V B hn_nA) {l1 : Int32} {μ : hn_M} (e : fX7_own l1 μ = some R) : hn_G Z B (0, 0) 3 0 [(0, .ref (hn_base B + 0)), (1, .int l1)] [] μ := by
  unfold fX7_own at e
  have o0 : hn_isO B 0 7 hn_k0 := hV 0 (by decide)
  refine hn_iload_n hF dX7_own_0 (q := 1) rfl 1 rfl ?_
  refine hn_if_lt hF dX7_own_1 (t := 10) (q := 4) rfl rfl e (fun e => ?_) (fun e => ?_)
  · refine hn_iconst hF dX7_own_10 (q := 11) rfl ki_m1 ?_
    exact hn_iretM hF hQ dX7_own_11 e
  · refine hn_iload_n hF dX7_own_4 (q := 5) rfl 1 rfl ?_
    refine hn_bipush hF dX7_own_5 (q := 7) rfl kb_40 ?_
    refine hn_icmp_le hF dX7_own_7 (t := 12) (q := 10) rfl rfl e (fun e => ?_) (fun e => ?_)
    · refine hn_aload_n hF dX7_own_12 (q := 13) rfl 0 rfl ?_
      refine hn_get hF fl_X7_69 o0 rfl rfl dX7_own_13 (q := 16) rfl ?_
      refine hn_istore_n hF dX7_own_16 (q := 17) rfl (i := 2) rfl (by decide) (L' := [(2, .int (μ 0 10)), (0, .ref (hn_base B + 0)), (1, .int l1)]) rfl ?_
      refine hn_aload_n hF dX7_own_17 (q := 18) rfl 1 rfl ?_
      refine hn_iload_n hF dX7_own_18 (q := 19) rfl 2 rfl ?_
      refine hn_put hF fl_X7_69 fp_X7_10 o0 rfl rfl rfl rfl dX7_own_19 (q := 22) rfl e (fun μ1 e => ?_)
      refine hn_aload_n hF dX7_own_22 (q := 23) rfl 1 rfl ?_
      refine hn_iconst hF dX7_own_23 (q := 24) rfl ki_0 ?_
      refine hn_put hF fl_X7_75 fp_X7_12 o0 rfl rfl rfl rfl dX7_own_24 (q := 27) rfl e (fun μ2 e => ?_)
      refine hn_iload_n hF dX7_own_27 (q := 28) rfl 0 rfl ?_
      exact hn_iretM hF hQ dX7_own_28 e
    · refine hn_iconst hF dX7_own_10 (q := 11) rfl ki_m1 ?_
      exact hn_iretM hF hQ dX7_own_11 e
theorem cX7_own_ {B : hn_B} {μ : hn_M} {R : Int32 × hn_M} {l1 : Int32} (hV : hn_V B hn_nA) (e : fX7_own l1 μ = some R) : hn_C yX7_own cX7_own 3 (some .int) 0 B [.ref (hn_base B + 0), .int l1] μ (some (.int R.1), R.2) :=
  hn_C.of RX7 (by decide) rfl (Nat.le_of_ble_eq_true rfl) (fun _ hF hQ => gX7_own hF hQ hV e)
/-! HandNews.from(I)I -/
def fX7_from (F : Nat) (l1 : Int32) (μ : hn_M) : Option (Int32 × hn_M) := (fX7_isSaying μ l1).bind fun v1 => if v1 = 0 then some ((-1), μ) else (fX7_isQuarrel F μ).bind fun w2 => if w2.1 = 0 then (fX5_isVoice w2.2 l1).bind fun v3 => if v3 = 0 then hn_rd w2.2 51 30 l1 fun v4 => some (v4, w2.2) else some ((-4), w2.2) else some ((-2), w2.2)
set_option maxHeartbeats 1000000 in
theorem gX7_from {Z : hn_Z} {B : hn_B} {F : Nat} {R : Int32 × hn_M} (hF : hn_F Z B (0, 0) cX7_from 2 RX7 (some .int) 6) (hQ : hn_goal Z B (some (.int R.1), R.2)) (hV : hn_V B hn_nA) {l1 : Int32} {μ : hn_M} (e : fX7_from F l1 μ = some R) : hn_G Z B (0, 0) 2 0 [(0, .ref (hn_base B + 0)), (1, .int l1)] [] μ := by
  unfold fX7_from at e
  have a51 : hn_isA B 51 false 30 := hV 51 (by decide)
  have o0 : hn_isO B 0 7 hn_k0 := hV 0 (by decide)
  have o50 : hn_isO B 50 5 hn_k50 := hV 50 (by decide)
  refine hn_aload_n hF dX7_from_0 (q := 1) rfl 0 rfl ?_
  refine hn_iload_n hF dX7_from_1 (q := 2) rfl 1 rfl ?_
  refine hn_callVi (rest := []) hF ms_X7_isSaying mv_X7_isSaying lk_X7_170 o0 rfl (by decide) [.int l1] rfl (Nat.le_of_ble_eq_true rfl) dX7_from_2 (q := 5) rfl rfl e (fun v hv => cX7_isSaying_ hV hv) (fun v1 e => ?_)
  refine hn_if_ne hF dX7_from_5 (t := 10) (q := 8) rfl rfl e (fun e => ?_) (fun e => ?_)
  · refine hn_aload_n hF dX7_from_10 (q := 11) rfl 0 rfl ?_
    refine hn_callVm (rest := []) hF ms_X7_isQuarrel mv_X7_isQuarrel lk_X7_145 o0 rfl (by decide) [] rfl (Nat.le_of_ble_eq_true rfl) dX7_from_11 (q := 14) rfl rfl e (fun v hv => cX7_isQuarrel_ hV hv) (fun w2 e => ?_)
    refine hn_if_eq hF dX7_from_14 (t := 20) (q := 17) rfl rfl e (fun e => ?_) (fun e => ?_)
    · refine hn_aload_n hF dX7_from_20 (q := 21) rfl 0 rfl ?_
      refine hn_get hF fl_X7_37 o0 rfl rfl dX7_from_21 (q := 24) rfl ?_
      refine hn_iload_n hF dX7_from_24 (q := 25) rfl 1 rfl ?_
      refine hn_callVi (rest := []) hF ms_X5_isVoice mv_X5_isVoice lk_X7_179 o50 rfl (by decide) [.int l1] rfl (Nat.le_of_ble_eq_true rfl) dX7_from_25 (q := 28) rfl rfl e (fun v hv => cX5_isVoice_ hV hv) (fun v3 e => ?_)
      refine hn_if_eq hF dX7_from_28 (t := 36) (q := 31) rfl rfl e (fun e => ?_) (fun e => ?_)
      · refine hn_aload_n hF dX7_from_36 (q := 37) rfl 0 rfl ?_
        refine hn_get hF fl_X7_37 o0 rfl rfl dX7_from_37 (q := 40) rfl ?_
        refine hn_get hF fl_X7_182 o50 rfl rfl dX7_from_40 (q := 43) rfl ?_
        refine hn_iload_n hF dX7_from_43 (q := 44) rfl 1 rfl ?_
        refine hn_ald hF a51 dX7_from_44 (q := 45) rfl e (fun v4 e => ?_)
        exact hn_iretM hF hQ dX7_from_45 e
      · refine hn_bipush hF dX7_from_31 (q := 33) rfl kb_m4 ?_
        refine hn_goto hF dX7_from_33 (q := 45) rfl ?_
        exact hn_iretM hF hQ dX7_from_45 e
    · refine hn_bipush hF dX7_from_17 (q := 19) rfl kb_m2 ?_
      exact hn_iretM hF hQ dX7_from_19 e
  · refine hn_iconst hF dX7_from_8 (q := 9) rfl ki_m1 ?_
    exact hn_iretM hF hQ dX7_from_9 e
theorem cX7_from_ {B : hn_B} {F : Nat} {μ : hn_M} {R : Int32 × hn_M} {l1 : Int32} (hV : hn_V B hn_nA) (e : fX7_from F l1 μ = some R) : hn_C yX7_from cX7_from 2 (some .int) 6 B [.ref (hn_base B + 0), .int l1] μ (some (.int R.1), R.2) :=
  hn_C.of RX7 (by decide) rfl (Nat.le_of_ble_eq_true rfl) (fun _ hF hQ => gX7_from hF hQ hV e)
/-! HandNews.followers(I)I -/
def fX7_followers_31 (F : Nat) (μ : hn_M) (k4 : Int32 → Int32 → Int32 → Option Int32) (l1 : Int32) (l2 : Int32) (l3 : Int32) : Option Int32 := k4 l1 l2 (l3 + 1)
def fX7_followers_4 (F : Nat) (μ : hn_M) : Nat → Int32 → Int32 → Int32 → Option Int32
  | 0, _, _, _ => none
  | n + 1, l1, l2, l3 => if μ 6 7 ≤ l3 then some l2 else hn_rd μ 52 30 l3 fun v1 => if v1 = l1 then fX7_followers_31 F μ (fX7_followers_4 F μ n) l1 (l2 + 1) l3 else fX7_followers_31 F μ (fX7_followers_4 F μ n) l1 l2 l3
def fX7_followers (F : Nat) (μ : hn_M) (l1 : Int32) : Option Int32 := fX7_followers_4 F μ F l1 0 0
set_option maxHeartbeats 1000000 in
theorem gX7_followers_31 {Z : hn_Z} {B : hn_B} {F : Nat} {μ : hn_M} {R : Int32} (hF : hn_F Z B (0, 0) cX7_followers 4 RX7 (some .int) 0) (hQ : hn_goal Z B (some (.int R), μ)) (hV : hn_V B hn_nA) {k4 : Int32 → Int32 → Int32 → Option Int32} (H4 : ∀ (l1 : Int32) (l2 : Int32) (l3 : Int32), k4 l1 l2 l3 = some R → hn_G Z B (0, 0) 4 4 [(0, .ref (hn_base B + 0)), (1, .int l1), (2, .int l2), (3, .int l3)] [] μ) {l1 : Int32} {l2 : Int32} {l3 : Int32} (e : fX7_followers_31 F μ k4 l1 l2 l3 = some R) : hn_G Z B (0, 0) 4 31 [(0, .ref (hn_base B + 0)), (1, .int l1), (2, .int l2), (3, .int l3)] [] μ := by
  unfold fX7_followers_31 at e
  refine hn_iinc (p := 3) hF dX7_followers_31 (q := 34) rfl rfl (kn_1 _) (by decide) (L' := [(3, .int (l3 + 1)), (0, .ref (hn_base B + 0)), (1, .int l1), (2, .int l2)]) rfl ?_
  refine hn_goto hF dX7_followers_34 (q := 4) rfl ?_
  refine hn_sub [1, 2, 3, 0] (L' := [(0, .ref (hn_base B + 0)), (1, .int l1), (2, .int l2), (3, .int (l3 + 1))]) rfl ?_
  exact H4 l1 l2 (l3 + 1) e
set_option maxHeartbeats 1000000 in
theorem gX7_followers_4 {Z : hn_Z} {B : hn_B} {F : Nat} {μ : hn_M} {R : Int32} (hF : hn_F Z B (0, 0) cX7_followers 4 RX7 (some .int) 0) (hQ : hn_goal Z B (some (.int R), μ)) (hV : hn_V B hn_nA) : ∀ (n : Nat) (l1 : Int32) (l2 : Int32) (l3 : Int32), fX7_followers_4 F μ n l1 l2 l3 = some R → hn_G Z B (0, 0) 4 4 [(0, .ref (hn_base B + 0)), (1, .int l1), (2, .int l2), (3, .int l3)] [] μ := by
  have a52 : hn_isA B 52 false 30 := hV 52 (by decide)
  have o0 : hn_isO B 0 7 hn_k0 := hV 0 (by decide)
  have o50 : hn_isO B 50 5 hn_k50 := hV 50 (by decide)
  have o6 : hn_isO B 6 1 hn_k6 := hV 6 (by decide)
  intro n
  induction n with
  | zero => intro l1 l2 l3 e; rw [fX7_followers_4] at e; cases e
  | succ n ih =>
    intro l1 l2 l3 e
    rw [fX7_followers_4] at e
    refine hn_iload_n hF dX7_followers_4 (q := 5) rfl 3 rfl ?_
    refine hn_aload_n hF dX7_followers_5 (q := 6) rfl 0 rfl ?_
    refine hn_get hF fl_X7_19 o0 rfl rfl dX7_followers_6 (q := 9) rfl ?_
    refine hn_get hF fl_X7_159 o6 rfl rfl dX7_followers_9 (q := 12) rfl ?_
    refine hn_icmp_ge hF dX7_followers_12 (t := 37) (q := 15) rfl rfl e (fun e => ?_) (fun e => ?_)
    · refine hn_iload_n hF dX7_followers_37 (q := 38) rfl 2 rfl ?_
      exact hn_iretP hF hQ dX7_followers_38 e
    · refine hn_aload_n hF dX7_followers_15 (q := 16) rfl 0 rfl ?_
      refine hn_get hF fl_X7_37 o0 rfl rfl dX7_followers_16 (q := 19) rfl ?_
      refine hn_get hF fl_X7_185 o50 rfl rfl dX7_followers_19 (q := 22) rfl ?_
      refine hn_iload_n hF dX7_followers_22 (q := 23) rfl 3 rfl ?_
      refine hn_ald hF a52 dX7_followers_23 (q := 24) rfl e (fun v1 e => ?_)
      refine hn_iload_n hF dX7_followers_24 (q := 25) rfl 1 rfl ?_
      refine hn_icmp_ne hF dX7_followers_25 (t := 31) (q := 28) rfl rfl e (fun e => ?_) (fun e => ?_)
      · exact gX7_followers_31 hF hQ hV ih e
      · refine hn_iinc (p := 2) hF dX7_followers_28 (q := 31) rfl rfl (kn_1 _) (by decide) (L' := [(2, .int (l2 + 1)), (0, .ref (hn_base B + 0)), (1, .int l1), (3, .int l3)]) rfl ?_
        refine hn_sub [1, 2, 0, 3] (L' := [(0, .ref (hn_base B + 0)), (1, .int l1), (2, .int (l2 + 1)), (3, .int l3)]) rfl ?_
        exact gX7_followers_31 hF hQ hV ih e
set_option maxHeartbeats 1000000 in
theorem gX7_followers {Z : hn_Z} {B : hn_B} {F : Nat} {μ : hn_M} {R : Int32} (hF : hn_F Z B (0, 0) cX7_followers 4 RX7 (some .int) 0) (hQ : hn_goal Z B (some (.int R), μ)) (hV : hn_V B hn_nA) {l1 : Int32} (e : fX7_followers F μ l1 = some R) : hn_G Z B (0, 0) 4 0 [(0, .ref (hn_base B + 0)), (1, .int l1)] [] μ := by
  unfold fX7_followers at e
  refine hn_iconst hF dX7_followers_0 (q := 1) rfl ki_0 ?_
  refine hn_istore_n hF dX7_followers_1 (q := 2) rfl (i := 2) rfl (by decide) (L' := [(2, .int 0), (0, .ref (hn_base B + 0)), (1, .int l1)]) rfl ?_
  refine hn_iconst hF dX7_followers_2 (q := 3) rfl ki_0 ?_
  refine hn_istore_n hF dX7_followers_3 (q := 4) rfl (i := 3) rfl (by decide) (L' := [(3, .int 0), (2, .int 0), (0, .ref (hn_base B + 0)), (1, .int l1)]) rfl ?_
  refine hn_sub [2, 3, 1, 0] (L' := [(0, .ref (hn_base B + 0)), (1, .int l1), (2, .int 0), (3, .int 0)]) rfl ?_
  exact gX7_followers_4 hF hQ hV F l1 0 0 e
theorem cX7_followers_ {B : hn_B} {F : Nat} {μ : hn_M} {R : Int32} {l1 : Int32} (hV : hn_V B hn_nA) (e : fX7_followers F μ l1 = some R) : hn_C yX7_followers cX7_followers 4 (some .int) 0 B [.ref (hn_base B + 0), .int l1] μ (some (.int R), μ) :=
  hn_C.of RX7 (by decide) rfl (Nat.le_of_ble_eq_true rfl) (fun _ hF hQ => gX7_followers hF hQ hV e)
/-! HandNews.voice(II)I -/
def fX7_voice (F : Nat) (l1 : Int32) (l2 : Int32) (μ : hn_M) : Option (Int32 × hn_M) := (fX7_isSaying μ l1).bind fun v1 => if v1 = 0 then some ((-1), μ) else if l2 < 0 then some ((-1), μ) else if l2 ≤ 2 then (fX7_isQuarrel F μ).bind fun w2 => if w2.1 = 0 then if l2 = 0 then hn_rd w2.2 52 30 l1 fun v6 => some (v6, w2.2) else if l2 = 1 then hn_rd w2.2 52 30 l1 fun v4 => (fX7_followers F w2.2 v4).bind fun v5 => some (v5, w2.2) else hn_rd w2.2 53 30 l1 fun v3 => some (v3, w2.2) else some ((-2), w2.2) else some ((-1), μ)
set_option maxHeartbeats 1000000 in
theorem gX7_voice {Z : hn_Z} {B : hn_B} {F : Nat} {R : Int32 × hn_M} (hF : hn_F Z B (0, 0) cX7_voice 3 RX7 (some .int) 6) (hQ : hn_goal Z B (some (.int R.1), R.2)) (hV : hn_V B hn_nA) {l1 : Int32} {l2 : Int32} {μ : hn_M} (e : fX7_voice F l1 l2 μ = some R) : hn_G Z B (0, 0) 3 0 [(0, .ref (hn_base B + 0)), (1, .int l1), (2, .int l2)] [] μ := by
  unfold fX7_voice at e
  have a52 : hn_isA B 52 false 30 := hV 52 (by decide)
  have a53 : hn_isA B 53 false 30 := hV 53 (by decide)
  have o0 : hn_isO B 0 7 hn_k0 := hV 0 (by decide)
  have o50 : hn_isO B 50 5 hn_k50 := hV 50 (by decide)
  refine hn_aload_n hF dX7_voice_0 (q := 1) rfl 0 rfl ?_
  refine hn_iload_n hF dX7_voice_1 (q := 2) rfl 1 rfl ?_
  refine hn_callVi (rest := []) hF ms_X7_isSaying mv_X7_isSaying lk_X7_170 o0 rfl (by decide) [.int l1] rfl (Nat.le_of_ble_eq_true rfl) dX7_voice_2 (q := 5) rfl rfl e (fun v hv => cX7_isSaying_ hV hv) (fun v1 e => ?_)
  refine hn_if_eq hF dX7_voice_5 (t := 17) (q := 8) rfl rfl e (fun e => ?_) (fun e => ?_)
  · refine hn_iconst hF dX7_voice_17 (q := 18) rfl ki_m1 ?_
    exact hn_iretM hF hQ dX7_voice_18 e
  · refine hn_iload_n hF dX7_voice_8 (q := 9) rfl 2 rfl ?_
    refine hn_if_lt hF dX7_voice_9 (t := 17) (q := 12) rfl rfl e (fun e => ?_) (fun e => ?_)
    · refine hn_iconst hF dX7_voice_17 (q := 18) rfl ki_m1 ?_
      exact hn_iretM hF hQ dX7_voice_18 e
    · refine hn_iload_n hF dX7_voice_12 (q := 13) rfl 2 rfl ?_
      refine hn_iconst hF dX7_voice_13 (q := 14) rfl ki_2 ?_
      refine hn_icmp_le hF dX7_voice_14 (t := 19) (q := 17) rfl rfl e (fun e => ?_) (fun e => ?_)
      · refine hn_aload_n hF dX7_voice_19 (q := 20) rfl 0 rfl ?_
        refine hn_callVm (rest := []) hF ms_X7_isQuarrel mv_X7_isQuarrel lk_X7_145 o0 rfl (by decide) [] rfl (Nat.le_of_ble_eq_true rfl) dX7_voice_20 (q := 23) rfl rfl e (fun v hv => cX7_isQuarrel_ hV hv) (fun w2 e => ?_)
        refine hn_if_eq hF dX7_voice_23 (t := 29) (q := 26) rfl rfl e (fun e => ?_) (fun e => ?_)
        · refine hn_iload_n hF dX7_voice_29 (q := 30) rfl 2 rfl ?_
          refine hn_if_ne hF dX7_voice_30 (t := 43) (q := 33) rfl rfl e (fun e => ?_) (fun e => ?_)
          · refine hn_iload_n hF dX7_voice_43 (q := 44) rfl 2 rfl ?_
            refine hn_iconst hF dX7_voice_44 (q := 45) rfl ki_1 ?_
            refine hn_icmp_ne hF dX7_voice_45 (t := 64) (q := 48) rfl rfl e (fun e => ?_) (fun e => ?_)
            · refine hn_aload_n hF dX7_voice_64 (q := 65) rfl 0 rfl ?_
              refine hn_get hF fl_X7_37 o0 rfl rfl dX7_voice_65 (q := 68) rfl ?_
              refine hn_get hF fl_X7_192 o50 rfl rfl dX7_voice_68 (q := 71) rfl ?_
              refine hn_iload_n hF dX7_voice_71 (q := 72) rfl 1 rfl ?_
              refine hn_ald hF a53 dX7_voice_72 (q := 73) rfl e (fun v3 e => ?_)
              exact hn_iretM hF hQ dX7_voice_73 e
            · refine hn_aload_n hF dX7_voice_48 (q := 49) rfl 0 rfl ?_
              refine hn_aload_n hF dX7_voice_49 (q := 50) rfl 0 rfl ?_
              refine hn_get hF fl_X7_37 o0 rfl rfl dX7_voice_50 (q := 53) rfl ?_
              refine hn_get hF fl_X7_185 o50 rfl rfl dX7_voice_53 (q := 56) rfl ?_
              refine hn_iload_n hF dX7_voice_56 (q := 57) rfl 1 rfl ?_
              refine hn_ald hF a52 dX7_voice_57 (q := 58) rfl e (fun v4 e => ?_)
              refine hn_callVi (rest := []) hF ms_X7_followers mv_X7_followers lk_X7_188 o0 rfl (by decide) [.int v4] rfl (Nat.le_of_ble_eq_true rfl) dX7_voice_58 (q := 61) rfl rfl e (fun v hv => cX7_followers_ hV hv) (fun v5 e => ?_)
              refine hn_goto hF dX7_voice_61 (q := 73) rfl ?_
              exact hn_iretM hF hQ dX7_voice_73 e
          · refine hn_aload_n hF dX7_voice_33 (q := 34) rfl 0 rfl ?_
            refine hn_get hF fl_X7_37 o0 rfl rfl dX7_voice_34 (q := 37) rfl ?_
            refine hn_get hF fl_X7_185 o50 rfl rfl dX7_voice_37 (q := 40) rfl ?_
            refine hn_iload_n hF dX7_voice_40 (q := 41) rfl 1 rfl ?_
            refine hn_ald hF a52 dX7_voice_41 (q := 42) rfl e (fun v6 e => ?_)
            exact hn_iretM hF hQ dX7_voice_42 e
        · refine hn_bipush hF dX7_voice_26 (q := 28) rfl kb_m2 ?_
          exact hn_iretM hF hQ dX7_voice_28 e
      · refine hn_iconst hF dX7_voice_17 (q := 18) rfl ki_m1 ?_
        exact hn_iretM hF hQ dX7_voice_18 e
theorem cX7_voice_ {B : hn_B} {F : Nat} {μ : hn_M} {R : Int32 × hn_M} {l1 : Int32} {l2 : Int32} (hV : hn_V B hn_nA) (e : fX7_voice F l1 l2 μ = some R) : hn_C yX7_voice cX7_voice 3 (some .int) 6 B [.ref (hn_base B + 0), .int l1, .int l2] μ (some (.int R.1), R.2) :=
  hn_C.of RX7 (by decide) rfl (Nat.le_of_ble_eq_true rfl) (fun _ hF hQ => gX7_voice hF hQ hV e)
/-! HandNews.voices(IZ)I -/
def fX7_voices_78 (F : Nat) (k24 : Int32 → Int32 → Int32 → Int32 → hn_M → Option (Int32 × hn_M)) (l1 : Int32) (l2 : Int32) (l3 : Int32) (l4 : Int32) (μ : hn_M) : Option (Int32 × hn_M) := k24 l1 l2 l3 (l4 + 1) μ
def fX7_voices_24 (F : Nat) : Nat → Int32 → Int32 → Int32 → Int32 → hn_M → Option (Int32 × hn_M)
  | 0, _, _, _, _, _ => none
  | n + 1, l1, l2, l3, l4, μ => if μ 6 7 ≤ l4 then some (l3, μ) else hn_rd μ 13 30 l4 fun v1 => if v1 = l1 then (fX1_isDenied μ l4).bind fun v2 => if v2 = l2 then (fX5_isVoice μ l4).bind fun v3 => if v3 = 0 then fX7_voices_78 F (fX7_voices_24 F n) l1 l2 l3 l4 μ else fX7_voices_78 F (fX7_voices_24 F n) l1 l2 (l3 + 1) l4 μ else fX7_voices_78 F (fX7_voices_24 F n) l1 l2 l3 l4 μ else fX7_voices_78 F (fX7_voices_24 F n) l1 l2 l3 l4 μ
def fX7_voices (F : Nat) (l1 : Int32) (l2 : Int32) (μ : hn_M) : Option (Int32 × hn_M) := (fX7_isThing l1).bind fun v4 => if v4 = 0 then some ((-1), μ) else (fX7_isQuarrel F μ).bind fun w5 => if w5.1 = 0 then fX7_voices_24 F F l1 l2 0 0 w5.2 else some ((-2), w5.2)
set_option maxHeartbeats 1000000 in
theorem gX7_voices_78 {Z : hn_Z} {B : hn_B} {F : Nat} {R : Int32 × hn_M} (hF : hn_F Z B (0, 0) cX7_voices 5 RX7 (some .int) 6) (hQ : hn_goal Z B (some (.int R.1), R.2)) (hV : hn_V B hn_nA) {k24 : Int32 → Int32 → Int32 → Int32 → hn_M → Option (Int32 × hn_M)} (H24 : ∀ (l1 : Int32) (l2 : Int32) (l3 : Int32) (l4 : Int32) (μ : hn_M), k24 l1 l2 l3 l4 μ = some R → hn_G Z B (0, 0) 5 24 [(0, .ref (hn_base B + 0)), (1, .int l1), (2, .int l2), (3, .int l3), (4, .int l4)] [] μ) {l1 : Int32} {l2 : Int32} {l3 : Int32} {l4 : Int32} {μ : hn_M} (e : fX7_voices_78 F k24 l1 l2 l3 l4 μ = some R) : hn_G Z B (0, 0) 5 78 [(0, .ref (hn_base B + 0)), (1, .int l1), (2, .int l2), (3, .int l3), (4, .int l4)] [] μ := by
  unfold fX7_voices_78 at e
  refine hn_iinc (p := 4) hF dX7_voices_78 (q := 81) rfl rfl (kn_1 _) (by decide) (L' := [(4, .int (l4 + 1)), (0, .ref (hn_base B + 0)), (1, .int l1), (2, .int l2), (3, .int l3)]) rfl ?_
  refine hn_goto hF dX7_voices_81 (q := 24) rfl ?_
  refine hn_sub [1, 2, 3, 4, 0] (L' := [(0, .ref (hn_base B + 0)), (1, .int l1), (2, .int l2), (3, .int l3), (4, .int (l4 + 1))]) rfl ?_
  exact H24 l1 l2 l3 (l4 + 1) μ e
set_option maxHeartbeats 1000000 in
theorem gX7_voices_24 {Z : hn_Z} {B : hn_B} {F : Nat} {R : Int32 × hn_M} (hF : hn_F Z B (0, 0) cX7_voices 5 RX7 (some .int) 6) (hQ : hn_goal Z B (some (.int R.1), R.2)) (hV : hn_V B hn_nA) : ∀ (n : Nat) (l1 : Int32) (l2 : Int32) (l3 : Int32) (l4 : Int32) (μ : hn_M), fX7_voices_24 F n l1 l2 l3 l4 μ = some R → hn_G Z B (0, 0) 5 24 [(0, .ref (hn_base B + 0)), (1, .int l1), (2, .int l2), (3, .int l3), (4, .int l4)] [] μ := by
  have a13 : hn_isA B 13 false 30 := hV 13 (by decide)
  have o0 : hn_isO B 0 7 hn_k0 := hV 0 (by decide)
  have o50 : hn_isO B 50 5 hn_k50 := hV 50 (by decide)
  have o6 : hn_isO B 6 1 hn_k6 := hV 6 (by decide)
  intro n
  induction n with
  | zero => intro l1 l2 l3 l4 μ e; rw [fX7_voices_24] at e; cases e
  | succ n ih =>
    intro l1 l2 l3 l4 μ e
    rw [fX7_voices_24] at e
    refine hn_iload hF dX7_voices_24 (q := 26) rfl 4 rfl ?_
    refine hn_aload_n hF dX7_voices_26 (q := 27) rfl 0 rfl ?_
    refine hn_get hF fl_X7_19 o0 rfl rfl dX7_voices_27 (q := 30) rfl ?_
    refine hn_get hF fl_X7_159 o6 rfl rfl dX7_voices_30 (q := 33) rfl ?_
    refine hn_icmp_ge hF dX7_voices_33 (t := 84) (q := 36) rfl rfl e (fun e => ?_) (fun e => ?_)
    · refine hn_iload_n hF dX7_voices_84 (q := 85) rfl 3 rfl ?_
      exact hn_iretM hF hQ dX7_voices_85 e
    · refine hn_aload_n hF dX7_voices_36 (q := 37) rfl 0 rfl ?_
      refine hn_get hF fl_X7_19 o0 rfl rfl dX7_voices_37 (q := 40) rfl ?_
      refine hn_get hF fl_X7_173 o6 rfl rfl dX7_voices_40 (q := 43) rfl ?_
      refine hn_iload hF dX7_voices_43 (q := 45) rfl 4 rfl ?_
      refine hn_ald hF a13 dX7_voices_45 (q := 46) rfl e (fun v1 e => ?_)
      refine hn_iload_n hF dX7_voices_46 (q := 47) rfl 1 rfl ?_
      refine hn_icmp_ne hF dX7_voices_47 (t := 78) (q := 50) rfl rfl e (fun e => ?_) (fun e => ?_)
      · exact gX7_voices_78 hF hQ hV ih e
      · refine hn_aload_n hF dX7_voices_50 (q := 51) rfl 0 rfl ?_
        refine hn_get hF fl_X7_19 o0 rfl rfl dX7_voices_51 (q := 54) rfl ?_
        refine hn_iload hF dX7_voices_54 (q := 56) rfl 4 rfl ?_
        refine hn_callVi (rest := []) hF ms_X1_isDenied mv_X1_isDenied lk_X7_195 o6 rfl (by decide) [.int l4] rfl (Nat.le_of_ble_eq_true rfl) dX7_voices_56 (q := 59) rfl rfl e (fun v hv => cX1_isDenied_ hV hv) (fun v2 e => ?_)
        refine hn_iload_n hF dX7_voices_59 (q := 60) rfl 2 rfl ?_
        refine hn_icmp_ne hF dX7_voices_60 (t := 78) (q := 63) rfl rfl e (fun e => ?_) (fun e => ?_)
        · exact gX7_voices_78 hF hQ hV ih e
        · refine hn_aload_n hF dX7_voices_63 (q := 64) rfl 0 rfl ?_
          refine hn_get hF fl_X7_37 o0 rfl rfl dX7_voices_64 (q := 67) rfl ?_
          refine hn_iload hF dX7_voices_67 (q := 69) rfl 4 rfl ?_
          refine hn_callVi (rest := []) hF ms_X5_isVoice mv_X5_isVoice lk_X7_179 o50 rfl (by decide) [.int l4] rfl (Nat.le_of_ble_eq_true rfl) dX7_voices_69 (q := 72) rfl rfl e (fun v hv => cX5_isVoice_ hV hv) (fun v3 e => ?_)
          refine hn_if_eq hF dX7_voices_72 (t := 78) (q := 75) rfl rfl e (fun e => ?_) (fun e => ?_)
          · exact gX7_voices_78 hF hQ hV ih e
          · refine hn_iinc (p := 3) hF dX7_voices_75 (q := 78) rfl rfl (kn_1 _) (by decide) (L' := [(3, .int (l3 + 1)), (0, .ref (hn_base B + 0)), (1, .int l1), (2, .int l2), (4, .int l4)]) rfl ?_
            refine hn_sub [1, 2, 3, 0, 4] (L' := [(0, .ref (hn_base B + 0)), (1, .int l1), (2, .int l2), (3, .int (l3 + 1)), (4, .int l4)]) rfl ?_
            exact gX7_voices_78 hF hQ hV ih e
set_option maxHeartbeats 1000000 in
theorem gX7_voices {Z : hn_Z} {B : hn_B} {F : Nat} {R : Int32 × hn_M} (hF : hn_F Z B (0, 0) cX7_voices 5 RX7 (some .int) 6) (hQ : hn_goal Z B (some (.int R.1), R.2)) (hV : hn_V B hn_nA) {l1 : Int32} {l2 : Int32} {μ : hn_M} (e : fX7_voices F l1 l2 μ = some R) : hn_G Z B (0, 0) 5 0 [(0, .ref (hn_base B + 0)), (1, .int l1), (2, .int l2)] [] μ := by
  unfold fX7_voices at e
  have o0 : hn_isO B 0 7 hn_k0 := hV 0 (by decide)
  refine hn_iload_n hF dX7_voices_0 (q := 1) rfl 1 rfl ?_
  refine hn_callSi (rest := []) hF ms_X7_isThing mt_X7_isThing lk_X7_127 (by decide) [.int l1] rfl (Nat.le_of_ble_eq_true rfl) dX7_voices_1 (q := 4) rfl rfl e (fun v hv => cX7_isThing_ hv) (fun v4 e => ?_)
  refine hn_if_ne hF dX7_voices_4 (t := 9) (q := 7) rfl rfl e (fun e => ?_) (fun e => ?_)
  · refine hn_aload_n hF dX7_voices_9 (q := 10) rfl 0 rfl ?_
    refine hn_callVm (rest := []) hF ms_X7_isQuarrel mv_X7_isQuarrel lk_X7_145 o0 rfl (by decide) [] rfl (Nat.le_of_ble_eq_true rfl) dX7_voices_10 (q := 13) rfl rfl e (fun v hv => cX7_isQuarrel_ hV hv) (fun w5 e => ?_)
    refine hn_if_eq hF dX7_voices_13 (t := 19) (q := 16) rfl rfl e (fun e => ?_) (fun e => ?_)
    · refine hn_iconst hF dX7_voices_19 (q := 20) rfl ki_0 ?_
      refine hn_istore_n hF dX7_voices_20 (q := 21) rfl (i := 3) rfl (by decide) (L' := [(3, .int 0), (0, .ref (hn_base B + 0)), (1, .int l1), (2, .int l2)]) rfl ?_
      refine hn_iconst hF dX7_voices_21 (q := 22) rfl ki_0 ?_
      refine hn_istore hF dX7_voices_22 (q := 24) rfl (by decide) (L' := [(4, .int 0), (3, .int 0), (0, .ref (hn_base B + 0)), (1, .int l1), (2, .int l2)]) rfl ?_
      refine hn_sub [2, 3, 4, 1, 0] (L' := [(0, .ref (hn_base B + 0)), (1, .int l1), (2, .int l2), (3, .int 0), (4, .int 0)]) rfl ?_
      exact gX7_voices_24 hF hQ hV F l1 l2 0 0 w5.2 e
    · refine hn_bipush hF dX7_voices_16 (q := 18) rfl kb_m2 ?_
      exact hn_iretM hF hQ dX7_voices_18 e
  · refine hn_iconst hF dX7_voices_7 (q := 8) rfl ki_m1 ?_
    exact hn_iretM hF hQ dX7_voices_8 e
theorem cX7_voices_ {B : hn_B} {F : Nat} {μ : hn_M} {R : Int32 × hn_M} {l1 : Int32} {l2 : Int32} (hV : hn_V B hn_nA) (e : fX7_voices F l1 l2 μ = some R) : hn_C yX7_voices cX7_voices 5 (some .int) 6 B [.ref (hn_base B + 0), .int l1, .int l2] μ (some (.int R.1), R.2) :=
  hn_C.of RX7 (by decide) rfl (Nat.le_of_ble_eq_true rfl) (fun _ hF hQ => gX7_voices hF hQ hV e)
/-! HandNews.growth(I)I -/
def fX7_growth (μ : hn_M) (l1 : Int32) : Option Int32 := (fX5_isVoice μ l1).bind fun v1 => if v1 = 0 then hn_rd μ 14 30 l1 fun v2 => hn_rd μ 51 30 l1 fun v3 => hn_rd μ 14 30 v3 fun v4 => some (v2 - v4) else some 0
set_option maxHeartbeats 1000000 in
theorem gX7_growth {Z : hn_Z} {B : hn_B} {μ : hn_M} {R : Int32} (hF : hn_F Z B (0, 0) cX7_growth 2 RX7 (some .int) 1) (hQ : hn_goal Z B (some (.int R), μ)) (hV : hn_V B hn_nA) {l1 : Int32} (e : fX7_growth μ l1 = some R) : hn_G Z B (0, 0) 2 0 [(0, .ref (hn_base B + 0)), (1, .int l1)] [] μ := by
  unfold fX7_growth at e
  have a14 : hn_isA B 14 false 30 := hV 14 (by decide)
  have a51 : hn_isA B 51 false 30 := hV 51 (by decide)
  have o0 : hn_isO B 0 7 hn_k0 := hV 0 (by decide)
  have o50 : hn_isO B 50 5 hn_k50 := hV 50 (by decide)
  have o6 : hn_isO B 6 1 hn_k6 := hV 6 (by decide)
  refine hn_aload_n hF dX7_growth_0 (q := 1) rfl 0 rfl ?_
  refine hn_get hF fl_X7_37 o0 rfl rfl dX7_growth_1 (q := 4) rfl ?_
  refine hn_iload_n hF dX7_growth_4 (q := 5) rfl 1 rfl ?_
  refine hn_callVi (rest := []) hF ms_X5_isVoice mv_X5_isVoice lk_X7_179 o50 rfl (by decide) [.int l1] rfl (Nat.le_of_ble_eq_true rfl) dX7_growth_5 (q := 8) rfl rfl e (fun v hv => cX5_isVoice_ hV hv) (fun v1 e => ?_)
  refine hn_if_eq hF dX7_growth_8 (t := 13) (q := 11) rfl rfl e (fun e => ?_) (fun e => ?_)
  · refine hn_aload_n hF dX7_growth_13 (q := 14) rfl 0 rfl ?_
    refine hn_get hF fl_X7_19 o0 rfl rfl dX7_growth_14 (q := 17) rfl ?_
    refine hn_get hF fl_X7_308 o6 rfl rfl dX7_growth_17 (q := 20) rfl ?_
    refine hn_iload_n hF dX7_growth_20 (q := 21) rfl 1 rfl ?_
    refine hn_ald hF a14 dX7_growth_21 (q := 22) rfl e (fun v2 e => ?_)
    refine hn_aload_n hF dX7_growth_22 (q := 23) rfl 0 rfl ?_
    refine hn_get hF fl_X7_19 o0 rfl rfl dX7_growth_23 (q := 26) rfl ?_
    refine hn_get hF fl_X7_308 o6 rfl rfl dX7_growth_26 (q := 29) rfl ?_
    refine hn_aload_n hF dX7_growth_29 (q := 30) rfl 0 rfl ?_
    refine hn_get hF fl_X7_37 o0 rfl rfl dX7_growth_30 (q := 33) rfl ?_
    refine hn_get hF fl_X7_182 o50 rfl rfl dX7_growth_33 (q := 36) rfl ?_
    refine hn_iload_n hF dX7_growth_36 (q := 37) rfl 1 rfl ?_
    refine hn_ald hF a51 dX7_growth_37 (q := 38) rfl e (fun v3 e => ?_)
    refine hn_ald hF a14 dX7_growth_38 (q := 39) rfl e (fun v4 e => ?_)
    refine hn_isub hF dX7_growth_39 (q := 40) rfl ?_
    exact hn_iretP hF hQ dX7_growth_40 e
  · refine hn_iconst hF dX7_growth_11 (q := 12) rfl ki_0 ?_
    exact hn_iretP hF hQ dX7_growth_12 e
theorem cX7_growth_ {B : hn_B} {μ : hn_M} {R : Int32} {l1 : Int32} (hV : hn_V B hn_nA) (e : fX7_growth μ l1 = some R) : hn_C yX7_growth cX7_growth 2 (some .int) 1 B [.ref (hn_base B + 0), .int l1] μ (some (.int R), μ) :=
  hn_C.of RX7 (by decide) rfl (Nat.le_of_ble_eq_true rfl) (fun _ hF hQ => gX7_growth hF hQ hV e)
/-! HandNews.grew(I)I -/
def fX7_grew (F : Nat) (l1 : Int32) (μ : hn_M) : Option (Int32 × hn_M) := (fX7_isSaying μ l1).bind fun v1 => if v1 = 0 then some ((-100000), μ) else (fX7_isQuarrel F μ).bind fun w2 => if w2.1 = 0 then (fX7_growth w2.2 l1).bind fun v3 => some (v3, w2.2) else some ((-100002), w2.2)
set_option maxHeartbeats 1000000 in
theorem gX7_grew {Z : hn_Z} {B : hn_B} {F : Nat} {R : Int32 × hn_M} (hF : hn_F Z B (0, 0) cX7_grew 2 RX7 (some .int) 6) (hQ : hn_goal Z B (some (.int R.1), R.2)) (hV : hn_V B hn_nA) {l1 : Int32} {μ : hn_M} (e : fX7_grew F l1 μ = some R) : hn_G Z B (0, 0) 2 0 [(0, .ref (hn_base B + 0)), (1, .int l1)] [] μ := by
  unfold fX7_grew at e
  have o0 : hn_isO B 0 7 hn_k0 := hV 0 (by decide)
  refine hn_aload_n hF dX7_grew_0 (q := 1) rfl 0 rfl ?_
  refine hn_iload_n hF dX7_grew_1 (q := 2) rfl 1 rfl ?_
  refine hn_callVi (rest := []) hF ms_X7_isSaying mv_X7_isSaying lk_X7_170 o0 rfl (by decide) [.int l1] rfl (Nat.le_of_ble_eq_true rfl) dX7_grew_2 (q := 5) rfl rfl e (fun v hv => cX7_isSaying_ hV hv) (fun v1 e => ?_)
  refine hn_if_ne hF dX7_grew_5 (t := 11) (q := 8) rfl rfl e (fun e => ?_) (fun e => ?_)
  · refine hn_aload_n hF dX7_grew_11 (q := 12) rfl 0 rfl ?_
    refine hn_callVm (rest := []) hF ms_X7_isQuarrel mv_X7_isQuarrel lk_X7_145 o0 rfl (by decide) [] rfl (Nat.le_of_ble_eq_true rfl) dX7_grew_12 (q := 15) rfl rfl e (fun v hv => cX7_isQuarrel_ hV hv) (fun w2 e => ?_)
    refine hn_if_eq hF dX7_grew_15 (t := 23) (q := 18) rfl rfl e (fun e => ?_) (fun e => ?_)
    · refine hn_aload_n hF dX7_grew_23 (q := 24) rfl 0 rfl ?_
      refine hn_iload_n hF dX7_grew_24 (q := 25) rfl 1 rfl ?_
      refine hn_callVi (rest := []) hF ms_X7_growth mv_X7_growth lk_X7_200 o0 rfl (by decide) [.int l1] rfl (Nat.le_of_ble_eq_true rfl) dX7_grew_25 (q := 28) rfl rfl e (fun v hv => cX7_growth_ hV hv) (fun v3 e => ?_)
      exact hn_iretM hF hQ dX7_grew_28 e
    · refine hn_ldc hF kd_X7_199 dX7_grew_18 (q := 20) rfl ?_
      refine hn_goto hF dX7_grew_20 (q := 28) rfl ?_
      exact hn_iretM hF hQ dX7_grew_28 e
  · refine hn_ldc hF kd_X7_198 dX7_grew_8 (q := 10) rfl ?_
    exact hn_iretM hF hQ dX7_grew_10 e
theorem cX7_grew_ {B : hn_B} {F : Nat} {μ : hn_M} {R : Int32 × hn_M} {l1 : Int32} (hV : hn_V B hn_nA) (e : fX7_grew F l1 μ = some R) : hn_C yX7_grew cX7_grew 2 (some .int) 6 B [.ref (hn_base B + 0), .int l1] μ (some (.int R.1), R.2) :=
  hn_C.of RX7 (by decide) rfl (Nat.le_of_ble_eq_true rfl) (fun _ hF hQ => gX7_grew hF hQ hV e)
/-! HandNews.habit(I)I -/
def fX7_habit_55 (F : Nat) (k24 : Int32 → Int32 → Int32 → hn_M → Option (Int32 × hn_M)) (l1 : Int32) (l2 : Int32) (l3 : Int32) (μ : hn_M) : Option (Int32 × hn_M) := k24 l1 l2 (l3 + 1) μ
def fX7_habit_24 (F : Nat) : Nat → Int32 → Int32 → Int32 → hn_M → Option (Int32 × hn_M)
  | 0, _, _, _, _ => none
  | n + 1, l1, l2, l3, μ => if μ 6 7 ≤ l3 then some (l2, μ) else (fX1_writerOf μ l3).bind fun v1 => if v1 = l1 then (fX7_growth μ l3).bind fun v2 => fX7_habit_55 F (fX7_habit_24 F n) l1 (l2 + v2) l3 μ else fX7_habit_55 F (fX7_habit_24 F n) l1 l2 l3 μ
def fX7_habit (F : Nat) (l1 : Int32) (μ : hn_M) : Option (Int32 × hn_M) := (fX7_isWriter l1).bind fun v3 => if v3 = 0 then some ((-1000000), μ) else (fX7_isQuarrel F μ).bind fun w4 => if w4.1 = 0 then fX7_habit_24 F F l1 0 0 w4.2 else some ((-1000002), w4.2)
set_option maxHeartbeats 1000000 in
theorem gX7_habit_55 {Z : hn_Z} {B : hn_B} {F : Nat} {R : Int32 × hn_M} (hF : hn_F Z B (0, 0) cX7_habit 4 RX7 (some .int) 6) (hQ : hn_goal Z B (some (.int R.1), R.2)) (hV : hn_V B hn_nA) {k24 : Int32 → Int32 → Int32 → hn_M → Option (Int32 × hn_M)} (H24 : ∀ (l1 : Int32) (l2 : Int32) (l3 : Int32) (μ : hn_M), k24 l1 l2 l3 μ = some R → hn_G Z B (0, 0) 4 24 [(0, .ref (hn_base B + 0)), (1, .int l1), (2, .int l2), (3, .int l3)] [] μ) {l1 : Int32} {l2 : Int32} {l3 : Int32} {μ : hn_M} (e : fX7_habit_55 F k24 l1 l2 l3 μ = some R) : hn_G Z B (0, 0) 4 55 [(0, .ref (hn_base B + 0)), (1, .int l1), (2, .int l2), (3, .int l3)] [] μ := by
  unfold fX7_habit_55 at e
  refine hn_iinc (p := 3) hF dX7_habit_55 (q := 58) rfl rfl (kn_1 _) (by decide) (L' := [(3, .int (l3 + 1)), (0, .ref (hn_base B + 0)), (1, .int l1), (2, .int l2)]) rfl ?_
  refine hn_goto hF dX7_habit_58 (q := 24) rfl ?_
  refine hn_sub [1, 2, 3, 0] (L' := [(0, .ref (hn_base B + 0)), (1, .int l1), (2, .int l2), (3, .int (l3 + 1))]) rfl ?_
  exact H24 l1 l2 (l3 + 1) μ e
set_option maxHeartbeats 1000000 in
theorem gX7_habit_24 {Z : hn_Z} {B : hn_B} {F : Nat} {R : Int32 × hn_M} (hF : hn_F Z B (0, 0) cX7_habit 4 RX7 (some .int) 6) (hQ : hn_goal Z B (some (.int R.1), R.2)) (hV : hn_V B hn_nA) : ∀ (n : Nat) (l1 : Int32) (l2 : Int32) (l3 : Int32) (μ : hn_M), fX7_habit_24 F n l1 l2 l3 μ = some R → hn_G Z B (0, 0) 4 24 [(0, .ref (hn_base B + 0)), (1, .int l1), (2, .int l2), (3, .int l3)] [] μ := by
  have o0 : hn_isO B 0 7 hn_k0 := hV 0 (by decide)
  have o6 : hn_isO B 6 1 hn_k6 := hV 6 (by decide)
  intro n
  induction n with
  | zero => intro l1 l2 l3 μ e; rw [fX7_habit_24] at e; cases e
  | succ n ih =>
    intro l1 l2 l3 μ e
    rw [fX7_habit_24] at e
    refine hn_iload_n hF dX7_habit_24 (q := 25) rfl 3 rfl ?_
    refine hn_aload_n hF dX7_habit_25 (q := 26) rfl 0 rfl ?_
    refine hn_get hF fl_X7_19 o0 rfl rfl dX7_habit_26 (q := 29) rfl ?_
    refine hn_get hF fl_X7_159 o6 rfl rfl dX7_habit_29 (q := 32) rfl ?_
    refine hn_icmp_ge hF dX7_habit_32 (t := 61) (q := 35) rfl rfl e (fun e => ?_) (fun e => ?_)
    · refine hn_iload_n hF dX7_habit_61 (q := 62) rfl 2 rfl ?_
      exact hn_iretM hF hQ dX7_habit_62 e
    · refine hn_aload_n hF dX7_habit_35 (q := 36) rfl 0 rfl ?_
      refine hn_get hF fl_X7_19 o0 rfl rfl dX7_habit_36 (q := 39) rfl ?_
      refine hn_iload_n hF dX7_habit_39 (q := 40) rfl 3 rfl ?_
      refine hn_callVi (rest := []) hF ms_X1_writerOf mv_X1_writerOf lk_X7_205 o6 rfl (by decide) [.int l3] rfl (Nat.le_of_ble_eq_true rfl) dX7_habit_40 (q := 43) rfl rfl e (fun v hv => cX1_writerOf_ hV hv) (fun v1 e => ?_)
      refine hn_iload_n hF dX7_habit_43 (q := 44) rfl 1 rfl ?_
      refine hn_icmp_ne hF dX7_habit_44 (t := 55) (q := 47) rfl rfl e (fun e => ?_) (fun e => ?_)
      · exact gX7_habit_55 hF hQ hV ih e
      · refine hn_iload_n hF dX7_habit_47 (q := 48) rfl 2 rfl ?_
        refine hn_aload_n hF dX7_habit_48 (q := 49) rfl 0 rfl ?_
        refine hn_iload_n hF dX7_habit_49 (q := 50) rfl 3 rfl ?_
        refine hn_callVi (rest := [.int l2]) hF ms_X7_growth mv_X7_growth lk_X7_200 o0 rfl (by decide) [.int l3] rfl (Nat.le_of_ble_eq_true rfl) dX7_habit_50 (q := 53) rfl rfl e (fun v hv => cX7_growth_ hV hv) (fun v2 e => ?_)
        refine hn_iadd hF dX7_habit_53 (q := 54) rfl ?_
        refine hn_istore_n hF dX7_habit_54 (q := 55) rfl (i := 2) rfl (by decide) (L' := [(2, .int (l2 + v2)), (0, .ref (hn_base B + 0)), (1, .int l1), (3, .int l3)]) rfl ?_
        refine hn_sub [1, 2, 0, 3] (L' := [(0, .ref (hn_base B + 0)), (1, .int l1), (2, .int (l2 + v2)), (3, .int l3)]) rfl ?_
        exact gX7_habit_55 hF hQ hV ih e
set_option maxHeartbeats 1000000 in
theorem gX7_habit {Z : hn_Z} {B : hn_B} {F : Nat} {R : Int32 × hn_M} (hF : hn_F Z B (0, 0) cX7_habit 4 RX7 (some .int) 6) (hQ : hn_goal Z B (some (.int R.1), R.2)) (hV : hn_V B hn_nA) {l1 : Int32} {μ : hn_M} (e : fX7_habit F l1 μ = some R) : hn_G Z B (0, 0) 4 0 [(0, .ref (hn_base B + 0)), (1, .int l1)] [] μ := by
  unfold fX7_habit at e
  have o0 : hn_isO B 0 7 hn_k0 := hV 0 (by decide)
  refine hn_iload_n hF dX7_habit_0 (q := 1) rfl 1 rfl ?_
  refine hn_callSi (rest := []) hF ms_X7_isWriter mt_X7_isWriter lk_X7_101 (by decide) [.int l1] rfl (Nat.le_of_ble_eq_true rfl) dX7_habit_1 (q := 4) rfl rfl e (fun v hv => cX7_isWriter_ hv) (fun v3 e => ?_)
  refine hn_if_ne hF dX7_habit_4 (t := 10) (q := 7) rfl rfl e (fun e => ?_) (fun e => ?_)
  · refine hn_aload_n hF dX7_habit_10 (q := 11) rfl 0 rfl ?_
    refine hn_callVm (rest := []) hF ms_X7_isQuarrel mv_X7_isQuarrel lk_X7_145 o0 rfl (by decide) [] rfl (Nat.le_of_ble_eq_true rfl) dX7_habit_11 (q := 14) rfl rfl e (fun v hv => cX7_isQuarrel_ hV hv) (fun w4 e => ?_)
    refine hn_if_eq hF dX7_habit_14 (t := 20) (q := 17) rfl rfl e (fun e => ?_) (fun e => ?_)
    · refine hn_iconst hF dX7_habit_20 (q := 21) rfl ki_0 ?_
      refine hn_istore_n hF dX7_habit_21 (q := 22) rfl (i := 2) rfl (by decide) (L' := [(2, .int 0), (0, .ref (hn_base B + 0)), (1, .int l1)]) rfl ?_
      refine hn_iconst hF dX7_habit_22 (q := 23) rfl ki_0 ?_
      refine hn_istore_n hF dX7_habit_23 (q := 24) rfl (i := 3) rfl (by decide) (L' := [(3, .int 0), (2, .int 0), (0, .ref (hn_base B + 0)), (1, .int l1)]) rfl ?_
      refine hn_sub [2, 3, 1, 0] (L' := [(0, .ref (hn_base B + 0)), (1, .int l1), (2, .int 0), (3, .int 0)]) rfl ?_
      exact gX7_habit_24 hF hQ hV F l1 0 0 w4.2 e
    · refine hn_ldc hF kd_X7_204 dX7_habit_17 (q := 19) rfl ?_
      exact hn_iretM hF hQ dX7_habit_19 e
  · refine hn_ldc hF kd_X7_203 dX7_habit_7 (q := 9) rfl ?_
    exact hn_iretM hF hQ dX7_habit_9 e
theorem cX7_habit_ {B : hn_B} {F : Nat} {μ : hn_M} {R : Int32 × hn_M} {l1 : Int32} (hV : hn_V B hn_nA) (e : fX7_habit F l1 μ = some R) : hn_C yX7_habit cX7_habit 4 (some .int) 6 B [.ref (hn_base B + 0), .int l1] μ (some (.int R.1), R.2) :=
  hn_C.of RX7 (by decide) rfl (Nat.le_of_ble_eq_true rfl) (fun _ hF hQ => gX7_habit hF hQ hV e)
/-! HandNews.write(IJ)I -/
def fX7_write (F : Nat) (l1 : Int32) (l2 : Int64) (μ : hn_M) : Option (Int32 × hn_M) := if l1 < 1 then some ((-1), μ) else if l1 ≤ 8 then if (μ 54 1) + l1 ≤ 200 then (fX4_append F l1 l2 μ).bind fun μ1 => some (μ1 54 1, μ1) else some ((-3), μ) else some ((-1), μ)
set_option maxHeartbeats 1000000 in
theorem gX7_write {Z : hn_Z} {B : hn_B} {F : Nat} {R : Int32 × hn_M} (hF : hn_F Z B (0, 0) cX7_write 4 RX7 (some .int) 1) (hQ : hn_goal Z B (some (.int R.1), R.2)) (hV : hn_V B hn_nA) {l1 : Int32} {l2 : Int64} {μ : hn_M} (e : fX7_write F l1 l2 μ = some R) : hn_G Z B (0, 0) 4 0 [(0, .ref (hn_base B + 0)), (1, .int l1), (2, .long l2)] [] μ := by
  unfold fX7_write at e
  have o0 : hn_isO B 0 7 hn_k0 := hV 0 (by decide)
  have o54 : hn_isO B 54 4 hn_k54 := hV 54 (by decide)
  refine hn_iload_n hF dX7_write_0 (q := 1) rfl 1 rfl ?_
  refine hn_iconst hF dX7_write_1 (q := 2) rfl ki_1 ?_
  refine hn_icmp_lt hF dX7_write_2 (t := 11) (q := 5) rfl rfl e (fun e => ?_) (fun e => ?_)
  · refine hn_iconst hF dX7_write_11 (q := 12) rfl ki_m1 ?_
    exact hn_iretM hF hQ dX7_write_12 e
  · refine hn_iload_n hF dX7_write_5 (q := 6) rfl 1 rfl ?_
    refine hn_bipush hF dX7_write_6 (q := 8) rfl kb_8 ?_
    refine hn_icmp_le hF dX7_write_8 (t := 13) (q := 11) rfl rfl e (fun e => ?_) (fun e => ?_)
    · refine hn_aload_n hF dX7_write_13 (q := 14) rfl 0 rfl ?_
      refine hn_get hF fl_X7_44 o0 rfl rfl dX7_write_14 (q := 17) rfl ?_
      refine hn_get hF fl_X7_208 o54 rfl rfl dX7_write_17 (q := 20) rfl ?_
      refine hn_iload_n hF dX7_write_20 (q := 21) rfl 1 rfl ?_
      refine hn_iadd hF dX7_write_21 (q := 22) rfl ?_
      refine hn_sipush hF dX7_write_22 (q := 25) rfl ks_200 ?_
      refine hn_icmp_le hF dX7_write_25 (t := 31) (q := 28) rfl rfl e (fun e => ?_) (fun e => ?_)
      · refine hn_aload_n hF dX7_write_31 (q := 32) rfl 0 rfl ?_
        refine hn_get hF fl_X7_44 o0 rfl rfl dX7_write_32 (q := 35) rfl ?_
        refine hn_iload_n hF dX7_write_35 (q := 36) rfl 1 rfl ?_
        refine hn_lload_n hF dX7_write_36 (q := 37) rfl 2 rfl ?_
        refine hn_callVv (rest := []) hF ms_X4_append mv_X4_append lk_X7_211 o54 rfl (by decide) [.int l1, .long l2] rfl (Nat.le_of_ble_eq_true rfl) dX7_write_37 (q := 40) rfl rfl e (fun v hv => cX4_append_ hV hv) (fun μ1 e => ?_)
        refine hn_aload_n hF dX7_write_40 (q := 41) rfl 0 rfl ?_
        refine hn_get hF fl_X7_44 o0 rfl rfl dX7_write_41 (q := 44) rfl ?_
        refine hn_get hF fl_X7_208 o54 rfl rfl dX7_write_44 (q := 47) rfl ?_
        exact hn_iretM hF hQ dX7_write_47 e
      · refine hn_bipush hF dX7_write_28 (q := 30) rfl kb_m3 ?_
        exact hn_iretM hF hQ dX7_write_30 e
    · refine hn_iconst hF dX7_write_11 (q := 12) rfl ki_m1 ?_
      exact hn_iretM hF hQ dX7_write_12 e
theorem cX7_write_ {B : hn_B} {F : Nat} {μ : hn_M} {R : Int32 × hn_M} {l1 : Int32} {l2 : Int64} (hV : hn_V B hn_nA) (e : fX7_write F l1 l2 μ = some R) : hn_C yX7_write cX7_write 4 (some .int) 1 B [.ref (hn_base B + 0), .int l1, .long l2] μ (some (.int R.1), R.2) :=
  hn_C.of RX7 (by decide) rfl (Nat.le_of_ble_eq_true rfl) (fun _ hF hQ => gX7_write hF hQ hV e)
/-! HandNews.wipe()I -/
def fX7_wipe (μ : hn_M) : Option (Int32 × hn_M) := hn_pf μ 54 1 0 fun μ1 => some (μ 54 1, μ1)
set_option maxHeartbeats 1000000 in
theorem gX7_wipe {Z : hn_Z} {B : hn_B} {R : Int32 × hn_M} (hF : hn_F Z B (0, 0) cX7_wipe 2 RX7 (some .int) 0) (hQ : hn_goal Z B (some (.int R.1), R.2)) (hV : hn_V B hn_nA) {μ : hn_M} (e : fX7_wipe μ = some R) : hn_G Z B (0, 0) 2 0 [(0, .ref (hn_base B + 0))] [] μ := by
  unfold fX7_wipe at e
  have o0 : hn_isO B 0 7 hn_k0 := hV 0 (by decide)
  have o54 : hn_isO B 54 4 hn_k54 := hV 54 (by decide)
  refine hn_aload_n hF dX7_wipe_0 (q := 1) rfl 0 rfl ?_
  refine hn_get hF fl_X7_44 o0 rfl rfl dX7_wipe_1 (q := 4) rfl ?_
  refine hn_get hF fl_X7_208 o54 rfl rfl dX7_wipe_4 (q := 7) rfl ?_
  refine hn_istore_n hF dX7_wipe_7 (q := 8) rfl (i := 1) rfl (by decide) (L' := [(1, .int (μ 54 1)), (0, .ref (hn_base B + 0))]) rfl ?_
  refine hn_aload_n hF dX7_wipe_8 (q := 9) rfl 1 rfl ?_
  refine hn_get hF fl_X7_44 o0 rfl rfl dX7_wipe_9 (q := 12) rfl ?_
  refine hn_iconst hF dX7_wipe_12 (q := 13) rfl ki_0 ?_
  refine hn_put hF fl_X7_208 fp_X4_1 o54 rfl rfl rfl rfl dX7_wipe_13 (q := 16) rfl e (fun μ1 e => ?_)
  refine hn_iload_n hF dX7_wipe_16 (q := 17) rfl 0 rfl ?_
  exact hn_iretM hF hQ dX7_wipe_17 e
theorem cX7_wipe_ {B : hn_B} {μ : hn_M} {R : Int32 × hn_M} (hV : hn_V B hn_nA) (e : fX7_wipe μ = some R) : hn_C yX7_wipe cX7_wipe 2 (some .int) 0 B [.ref (hn_base B + 0)] μ (some (.int R.1), R.2) :=
  hn_C.of RX7 (by decide) rfl (Nat.le_of_ble_eq_true rfl) (fun _ hF hQ => gX7_wipe hF hQ hV e)
/-! HandNews.fault()I -/
def fX7_fault (F : Nat) (μ : hn_M) : Option (Int32 × hn_M) := hn_it (μ 0 8) fun t1 => (fX0_read F t1 μ).bind fun w2 => some (w2.1, w2.2)
set_option maxHeartbeats 1000000 in
theorem gX7_fault {Z : hn_Z} {B : hn_B} {F : Nat} {R : Int32 × hn_M} (hF : hn_F Z B (0, 0) cX7_fault 1 RX7 (some .int) 8) (hQ : hn_goal Z B (some (.int R.1), R.2)) (hV : hn_V B hn_nA) {μ : hn_M} (e : fX7_fault F μ = some R) : hn_G Z B (0, 0) 1 0 [(0, .ref (hn_base B + 0))] [] μ := by
  unfold fX7_fault at e
  have o0 : hn_isO B 0 7 hn_k0 := hV 0 (by decide)
  refine hn_aload_n hF dX7_fault_0 (q := 1) rfl 0 rfl ?_
  refine hn_getIt hF fl_X7_62 o0 rfl dX7_fault_1 (q := 4) rfl e (fun t1 h_t1 e => ?_)
  refine hn_aload_n hF dX7_fault_4 (q := 5) rfl 0 rfl ?_
  refine hn_get hF fl_X7_44 o0 rfl rfl dX7_fault_5 (q := 8) rfl ?_
  refine hn_callVm (rest := []) hF ms_X0_read mv_X0_read lk_X7_215 (hn_Io hV h_t1) rfl (by decide) [.ref (hn_base B + 54)] rfl (Nat.le_of_ble_eq_true rfl) dX7_fault_8 (q := 11) rfl rfl e (fun v hv => cX0_read_ hV h_t1 hv) (fun w2 e => ?_)
  exact hn_iretM hF hQ dX7_fault_11 e
theorem cX7_fault_ {B : hn_B} {F : Nat} {μ : hn_M} {R : Int32 × hn_M} (hV : hn_V B hn_nA) (e : fX7_fault F μ = some R) : hn_C yX7_fault cX7_fault 1 (some .int) 8 B [.ref (hn_base B + 0)] μ (some (.int R.1), R.2) :=
  hn_C.of RX7 (by decide) rfl (Nat.le_of_ble_eq_true rfl) (fun _ hF hQ => gX7_fault hF hQ hV e)
/-! HandNews.force()I -/
def fX7_force (F : Nat) (μ : hn_M) : Option (Int32 × hn_M) := hn_it (μ 0 8) fun t1 => (fX0_read F t1 μ).bind fun w2 => if w2.1 = (-4) then hn_it (w2.2 0 7) fun t3 => hn_it (w2.2 0 8) fun t4 => hn_pf w2.2 0 7 (Int32.ofNat t4) fun μ5 => hn_pf μ5 0 8 (Int32.ofNat t3) fun μ6 => hn_it (μ6 0 7) fun t7 => some (μ6 t7 6, μ6) else some ((-2), w2.2)
set_option maxHeartbeats 1000000 in
theorem gX7_force {Z : hn_Z} {B : hn_B} {F : Nat} {R : Int32 × hn_M} (hF : hn_F Z B (0, 0) cX7_force 2 RX7 (some .int) 8) (hQ : hn_goal Z B (some (.int R.1), R.2)) (hV : hn_V B hn_nA) {μ : hn_M} (e : fX7_force F μ = some R) : hn_G Z B (0, 0) 2 0 [(0, .ref (hn_base B + 0))] [] μ := by
  unfold fX7_force at e
  have o0 : hn_isO B 0 7 hn_k0 := hV 0 (by decide)
  refine hn_aload_n hF dX7_force_0 (q := 1) rfl 0 rfl ?_
  refine hn_getIt hF fl_X7_62 o0 rfl dX7_force_1 (q := 4) rfl e (fun t1 h_t1 e => ?_)
  refine hn_aload_n hF dX7_force_4 (q := 5) rfl 0 rfl ?_
  refine hn_get hF fl_X7_44 o0 rfl rfl dX7_force_5 (q := 8) rfl ?_
  refine hn_callVm (rest := []) hF ms_X0_read mv_X0_read lk_X7_215 (hn_Io hV h_t1) rfl (by decide) [.ref (hn_base B + 54)] rfl (Nat.le_of_ble_eq_true rfl) dX7_force_8 (q := 11) rfl rfl e (fun v hv => cX0_read_ hV h_t1 hv) (fun w2 e => ?_)
  refine hn_bipush hF dX7_force_11 (q := 13) rfl kb_m4 ?_
  refine hn_icmp_eq hF dX7_force_13 (t := 19) (q := 16) rfl rfl e (fun e => ?_) (fun e => ?_)
  · refine hn_aload_n hF dX7_force_19 (q := 20) rfl 0 rfl ?_
    refine hn_getIt hF fl_X7_58 o0 rfl dX7_force_20 (q := 23) rfl e (fun t3 h_t3 e => ?_)
    refine hn_astore_n hF dX7_force_23 (q := 24) rfl (i := 1) rfl (by decide) (L' := [(1, .ref (hn_base B + t3)), (0, .ref (hn_base B + 0))]) rfl ?_
    refine hn_aload_n hF dX7_force_24 (q := 25) rfl 1 rfl ?_
    refine hn_aload_n hF dX7_force_25 (q := 26) rfl 1 rfl ?_
    refine hn_getIt hF fl_X7_62 o0 rfl dX7_force_26 (q := 29) rfl e (fun t4 h_t4 e => ?_)
    refine hn_put hF fl_X7_58 fp_X7_7 o0 rfl (hn_dv h_t4) rfl rfl dX7_force_29 (q := 32) rfl e (fun μ5 e => ?_)
    refine hn_aload_n hF dX7_force_32 (q := 33) rfl 1 rfl ?_
    refine hn_aload_n hF dX7_force_33 (q := 34) rfl 0 rfl ?_
    refine hn_put hF fl_X7_62 fp_X7_8 o0 rfl (hn_dv h_t3) rfl rfl dX7_force_34 (q := 37) rfl e (fun μ6 e => ?_)
    refine hn_aload_n hF dX7_force_37 (q := 38) rfl 1 rfl ?_
    refine hn_getIt hF fl_X7_58 o0 rfl dX7_force_38 (q := 41) rfl e (fun t7 h_t7 e => ?_)
    refine hn_get hF fl_X7_219 (hn_Io hV h_t7) rfl rfl dX7_force_41 (q := 44) rfl ?_
    exact hn_iretM hF hQ dX7_force_44 e
  · refine hn_bipush hF dX7_force_16 (q := 18) rfl kb_m2 ?_
    exact hn_iretM hF hQ dX7_force_18 e
theorem cX7_force_ {B : hn_B} {F : Nat} {μ : hn_M} {R : Int32 × hn_M} (hV : hn_V B hn_nA) (e : fX7_force F μ = some R) : hn_C yX7_force cX7_force 2 (some .int) 8 B [.ref (hn_base B + 0)] μ (some (.int R.1), R.2) :=
  hn_C.of RX7 (by decide) rfl (Nat.le_of_ble_eq_true rfl) (fun _ hF hQ => gX7_force hF hQ hV e)
/-! HandNews.rule(III)I -/
def fX7_rule (F : Nat) (μ : hn_M) (l1 : Int32) (l2 : Int32) (l3 : Int32) : Option Int32 := (fX7_isRule l1 l2).bind fun v1 => if v1 = 0 then some (-1) else (fX7_isDay l3).bind fun v2 => if v2 = 0 then some (-1) else hn_it (μ 0 7) fun t3 => (fX0_amountOn F t3 μ l1 l2 l3).bind fun v4 => some v4
set_option maxHeartbeats 1000000 in
theorem gX7_rule {Z : hn_Z} {B : hn_B} {F : Nat} {μ : hn_M} {R : Int32} (hF : hn_F Z B (0, 0) cX7_rule 4 RX7 (some .int) 2) (hQ : hn_goal Z B (some (.int R), μ)) (hV : hn_V B hn_nA) {l1 : Int32} {l2 : Int32} {l3 : Int32} (e : fX7_rule F μ l1 l2 l3 = some R) : hn_G Z B (0, 0) 4 0 [(0, .ref (hn_base B + 0)), (1, .int l1), (2, .int l2), (3, .int l3)] [] μ := by
  unfold fX7_rule at e
  have o0 : hn_isO B 0 7 hn_k0 := hV 0 (by decide)
  refine hn_iload_n hF dX7_rule_0 (q := 1) rfl 1 rfl ?_
  refine hn_iload_n hF dX7_rule_1 (q := 2) rfl 2 rfl ?_
  refine hn_callSi (rest := []) hF ms_X7_isRule mt_X7_isRule lk_X7_222 (by decide) [.int l1, .int l2] rfl (Nat.le_of_ble_eq_true rfl) dX7_rule_2 (q := 5) rfl rfl e (fun v hv => cX7_isRule_ hv) (fun v1 e => ?_)
  refine hn_if_eq hF dX7_rule_5 (t := 15) (q := 8) rfl rfl e (fun e => ?_) (fun e => ?_)
  · refine hn_iconst hF dX7_rule_15 (q := 16) rfl ki_m1 ?_
    exact hn_iretP hF hQ dX7_rule_16 e
  · refine hn_iload_n hF dX7_rule_8 (q := 9) rfl 3 rfl ?_
    refine hn_callSi (rest := []) hF ms_X7_isDay mt_X7_isDay lk_X7_130 (by decide) [.int l3] rfl (Nat.le_of_ble_eq_true rfl) dX7_rule_9 (q := 12) rfl rfl e (fun v hv => cX7_isDay_ hv) (fun v2 e => ?_)
    refine hn_if_ne hF dX7_rule_12 (t := 17) (q := 15) rfl rfl e (fun e => ?_) (fun e => ?_)
    · refine hn_aload_n hF dX7_rule_17 (q := 18) rfl 0 rfl ?_
      refine hn_getIt hF fl_X7_58 o0 rfl dX7_rule_18 (q := 21) rfl e (fun t3 h_t3 e => ?_)
      refine hn_iload_n hF dX7_rule_21 (q := 22) rfl 1 rfl ?_
      refine hn_iload_n hF dX7_rule_22 (q := 23) rfl 2 rfl ?_
      refine hn_iload_n hF dX7_rule_23 (q := 24) rfl 3 rfl ?_
      refine hn_callVi (rest := []) hF ms_X0_amountOn mv_X0_amountOn lk_X7_225 (hn_Io hV h_t3) rfl (by decide) [.int l1, .int l2, .int l3] rfl (Nat.le_of_ble_eq_true rfl) dX7_rule_24 (q := 27) rfl rfl e (fun v hv => cX0_amountOn_ hV h_t3 hv) (fun v4 e => ?_)
      exact hn_iretP hF hQ dX7_rule_27 e
    · refine hn_iconst hF dX7_rule_15 (q := 16) rfl ki_m1 ?_
      exact hn_iretP hF hQ dX7_rule_16 e
theorem cX7_rule_ {B : hn_B} {F : Nat} {μ : hn_M} {R : Int32} {l1 : Int32} {l2 : Int32} {l3 : Int32} (hV : hn_V B hn_nA) (e : fX7_rule F μ l1 l2 l3 = some R) : hn_C yX7_rule cX7_rule 4 (some .int) 2 B [.ref (hn_base B + 0), .int l1, .int l2, .int l3] μ (some (.int R), μ) :=
  hn_C.of RX7 (by decide) rfl (Nat.le_of_ble_eq_true rfl) (fun _ hF hQ => gX7_rule hF hQ hV e)
/-! HandNews.why(III)I -/
def fX7_why (F : Nat) (μ : hn_M) (l1 : Int32) (l2 : Int32) (l3 : Int32) : Option Int32 := (fX7_isRule l1 l2).bind fun v1 => if v1 = 0 then some (-1) else (fX7_isDay l3).bind fun v2 => if v2 = 0 then some (-1) else hn_it (μ 0 7) fun t3 => (fX0_holding F t3 μ l1 l2 l3).bind fun v4 => some v4
set_option maxHeartbeats 1000000 in
theorem gX7_why {Z : hn_Z} {B : hn_B} {F : Nat} {μ : hn_M} {R : Int32} (hF : hn_F Z B (0, 0) cX7_why 4 RX7 (some .int) 2) (hQ : hn_goal Z B (some (.int R), μ)) (hV : hn_V B hn_nA) {l1 : Int32} {l2 : Int32} {l3 : Int32} (e : fX7_why F μ l1 l2 l3 = some R) : hn_G Z B (0, 0) 4 0 [(0, .ref (hn_base B + 0)), (1, .int l1), (2, .int l2), (3, .int l3)] [] μ := by
  unfold fX7_why at e
  have o0 : hn_isO B 0 7 hn_k0 := hV 0 (by decide)
  refine hn_iload_n hF dX7_why_0 (q := 1) rfl 1 rfl ?_
  refine hn_iload_n hF dX7_why_1 (q := 2) rfl 2 rfl ?_
  refine hn_callSi (rest := []) hF ms_X7_isRule mt_X7_isRule lk_X7_222 (by decide) [.int l1, .int l2] rfl (Nat.le_of_ble_eq_true rfl) dX7_why_2 (q := 5) rfl rfl e (fun v hv => cX7_isRule_ hv) (fun v1 e => ?_)
  refine hn_if_eq hF dX7_why_5 (t := 15) (q := 8) rfl rfl e (fun e => ?_) (fun e => ?_)
  · refine hn_iconst hF dX7_why_15 (q := 16) rfl ki_m1 ?_
    exact hn_iretP hF hQ dX7_why_16 e
  · refine hn_iload_n hF dX7_why_8 (q := 9) rfl 3 rfl ?_
    refine hn_callSi (rest := []) hF ms_X7_isDay mt_X7_isDay lk_X7_130 (by decide) [.int l3] rfl (Nat.le_of_ble_eq_true rfl) dX7_why_9 (q := 12) rfl rfl e (fun v hv => cX7_isDay_ hv) (fun v2 e => ?_)
    refine hn_if_ne hF dX7_why_12 (t := 17) (q := 15) rfl rfl e (fun e => ?_) (fun e => ?_)
    · refine hn_aload_n hF dX7_why_17 (q := 18) rfl 0 rfl ?_
      refine hn_getIt hF fl_X7_58 o0 rfl dX7_why_18 (q := 21) rfl e (fun t3 h_t3 e => ?_)
      refine hn_iload_n hF dX7_why_21 (q := 22) rfl 1 rfl ?_
      refine hn_iload_n hF dX7_why_22 (q := 23) rfl 2 rfl ?_
      refine hn_iload_n hF dX7_why_23 (q := 24) rfl 3 rfl ?_
      refine hn_callVi (rest := []) hF ms_X0_holding mv_X0_holding lk_X7_228 (hn_Io hV h_t3) rfl (by decide) [.int l1, .int l2, .int l3] rfl (Nat.le_of_ble_eq_true rfl) dX7_why_24 (q := 27) rfl rfl e (fun v hv => cX0_holding_ hV h_t3 hv) (fun v4 e => ?_)
      exact hn_iretP hF hQ dX7_why_27 e
    · refine hn_iconst hF dX7_why_15 (q := 16) rfl ki_m1 ?_
      exact hn_iretP hF hQ dX7_why_16 e
theorem cX7_why_ {B : hn_B} {F : Nat} {μ : hn_M} {R : Int32} {l1 : Int32} {l2 : Int32} {l3 : Int32} (hV : hn_V B hn_nA) (e : fX7_why F μ l1 l2 l3 = some R) : hn_C yX7_why cX7_why 4 (some .int) 2 B [.ref (hn_base B + 0), .int l1, .int l2, .int l3] μ (some (.int R), μ) :=
  hn_C.of RX7 (by decide) rfl (Nat.le_of_ble_eq_true rfl) (fun _ hF hQ => gX7_why hF hQ hV e)
/-! HandNews.quarrel()I -/
def fX7_quarrel (F : Nat) (μ : hn_M) : Option Int32 := hn_it (μ 0 7) fun t1 => (fX0_firstQuarrel F t1 μ).bind fun v2 => some v2
set_option maxHeartbeats 1000000 in
theorem gX7_quarrel {Z : hn_Z} {B : hn_B} {F : Nat} {μ : hn_M} {R : Int32} (hF : hn_F Z B (0, 0) cX7_quarrel 1 RX7 (some .int) 2) (hQ : hn_goal Z B (some (.int R), μ)) (hV : hn_V B hn_nA) (e : fX7_quarrel F μ = some R) : hn_G Z B (0, 0) 1 0 [(0, .ref (hn_base B + 0))] [] μ := by
  unfold fX7_quarrel at e
  have o0 : hn_isO B 0 7 hn_k0 := hV 0 (by decide)
  refine hn_aload_n hF dX7_quarrel_0 (q := 1) rfl 0 rfl ?_
  refine hn_getIt hF fl_X7_58 o0 rfl dX7_quarrel_1 (q := 4) rfl e (fun t1 h_t1 e => ?_)
  refine hn_callVi (rest := []) hF ms_X0_firstQuarrel mv_X0_firstQuarrel lk_X7_231 (hn_Io hV h_t1) rfl (by decide) [] rfl (Nat.le_of_ble_eq_true rfl) dX7_quarrel_4 (q := 7) rfl rfl e (fun v hv => cX0_firstQuarrel_ hV h_t1 hv) (fun v2 e => ?_)
  exact hn_iretP hF hQ dX7_quarrel_7 e
theorem cX7_quarrel_ {B : hn_B} {F : Nat} {μ : hn_M} {R : Int32} (hV : hn_V B hn_nA) (e : fX7_quarrel F μ = some R) : hn_C yX7_quarrel cX7_quarrel 1 (some .int) 2 B [.ref (hn_base B + 0)] μ (some (.int R), μ) :=
  hn_C.of RX7 (by decide) rfl (Nat.le_of_ble_eq_true rfl) (fun _ hF hQ => gX7_quarrel hF hQ hV e)
/-! HandNews.closet(I)I -/
def fX7_closet (l1 : Int32) (μ : hn_M) : Option (Int32 × hn_M) := (fX7_isTown l1).bind fun v1 => if v1 = 0 then some ((-1), μ) else hn_pf μ 0 11 l1 fun μ2 => some (μ 0 11, μ2)
set_option maxHeartbeats 1000000 in
theorem gX7_closet {Z : hn_Z} {B : hn_B} {R : Int32 × hn_M} (hF : hn_F Z B (0, 0) cX7_closet 3 RX7 (some .int) 1) (hQ : hn_goal Z B (some (.int R.1), R.2)) (hV : hn_V B hn_nA) {l1 : Int32} {μ : hn_M} (e : fX7_closet l1 μ = some R) : hn_G Z B (0, 0) 3 0 [(0, .ref (hn_base B + 0)), (1, .int l1)] [] μ := by
  unfold fX7_closet at e
  have o0 : hn_isO B 0 7 hn_k0 := hV 0 (by decide)
  refine hn_iload_n hF dX7_closet_0 (q := 1) rfl 1 rfl ?_
  refine hn_callSi (rest := []) hF ms_X7_isTown mt_X7_isTown lk_X7_79 (by decide) [.int l1] rfl (Nat.le_of_ble_eq_true rfl) dX7_closet_1 (q := 4) rfl rfl e (fun v hv => cX7_isTown_ hv) (fun v1 e => ?_)
  refine hn_if_ne hF dX7_closet_4 (t := 9) (q := 7) rfl rfl e (fun e => ?_) (fun e => ?_)
  · refine hn_aload_n hF dX7_closet_9 (q := 10) rfl 0 rfl ?_
    refine hn_get hF fl_X7_72 o0 rfl rfl dX7_closet_10 (q := 13) rfl ?_
    refine hn_istore_n hF dX7_closet_13 (q := 14) rfl (i := 2) rfl (by decide) (L' := [(2, .int (μ 0 11)), (0, .ref (hn_base B + 0)), (1, .int l1)]) rfl ?_
    refine hn_aload_n hF dX7_closet_14 (q := 15) rfl 1 rfl ?_
    refine hn_iload_n hF dX7_closet_15 (q := 16) rfl 2 rfl ?_
    refine hn_put hF fl_X7_72 fp_X7_11 o0 rfl rfl rfl rfl dX7_closet_16 (q := 19) rfl e (fun μ2 e => ?_)
    refine hn_iload_n hF dX7_closet_19 (q := 20) rfl 0 rfl ?_
    exact hn_iretM hF hQ dX7_closet_20 e
  · refine hn_iconst hF dX7_closet_7 (q := 8) rfl ki_m1 ?_
    exact hn_iretM hF hQ dX7_closet_8 e
theorem cX7_closet_ {B : hn_B} {μ : hn_M} {R : Int32 × hn_M} {l1 : Int32} (hV : hn_V B hn_nA) (e : fX7_closet l1 μ = some R) : hn_C yX7_closet cX7_closet 3 (some .int) 1 B [.ref (hn_base B + 0), .int l1] μ (some (.int R.1), R.2) :=
  hn_C.of RX7 (by decide) rfl (Nat.le_of_ble_eq_true rfl) (fun _ hF hQ => gX7_closet hF hQ hV e)
/-! HandNews.arrival(I)I -/
def fX7_arrival (μ : hn_M) (l1 : Int32) : Option Int32 := (fX1_townOf μ l1).bind fun v1 => (fX2_leads μ v1 (μ 0 11)).bind fun v2 => if v2 = 0 then some (-4) else hn_rd μ 12 30 l1 fun v3 => hn_rd μ 47 12 v3 fun v4 => (fX2_days μ v1 (μ 0 11)).bind fun v5 => some (v4 + v5)
set_option maxHeartbeats 1000000 in
theorem gX7_arrival {Z : hn_Z} {B : hn_B} {μ : hn_M} {R : Int32} (hF : hn_F Z B (0, 0) cX7_arrival 3 RX7 (some .int) 1) (hQ : hn_goal Z B (some (.int R), μ)) (hV : hn_V B hn_nA) {l1 : Int32} (e : fX7_arrival μ l1 = some R) : hn_G Z B (0, 0) 3 0 [(0, .ref (hn_base B + 0)), (1, .int l1)] [] μ := by
  unfold fX7_arrival at e
  have a12 : hn_isA B 12 false 30 := hV 12 (by decide)
  have a47 : hn_isA B 47 false 12 := hV 47 (by decide)
  have o0 : hn_isO B 0 7 hn_k0 := hV 0 (by decide)
  have o1 : hn_isO B 1 2 hn_k1 := hV 1 (by decide)
  have o46 : hn_isO B 46 3 hn_k46 := hV 46 (by decide)
  have o6 : hn_isO B 6 1 hn_k6 := hV 6 (by decide)
  refine hn_aload_n hF dX7_arrival_0 (q := 1) rfl 0 rfl ?_
  refine hn_get hF fl_X7_19 o0 rfl rfl dX7_arrival_1 (q := 4) rfl ?_
  refine hn_iload_n hF dX7_arrival_4 (q := 5) rfl 1 rfl ?_
  refine hn_callVi (rest := []) hF ms_X1_townOf mv_X1_townOf lk_X7_305 o6 rfl (by decide) [.int l1] rfl (Nat.le_of_ble_eq_true rfl) dX7_arrival_5 (q := 8) rfl rfl e (fun v hv => cX1_townOf_ hV hv) (fun v1 e => ?_)
  refine hn_istore_n hF dX7_arrival_8 (q := 9) rfl (i := 2) rfl (by decide) (L' := [(2, .int v1), (0, .ref (hn_base B + 0)), (1, .int l1)]) rfl ?_
  refine hn_aload_n hF dX7_arrival_9 (q := 10) rfl 1 rfl ?_
  refine hn_get hF fl_X7_10 o0 rfl rfl dX7_arrival_10 (q := 13) rfl ?_
  refine hn_iload_n hF dX7_arrival_13 (q := 14) rfl 0 rfl ?_
  refine hn_aload_n hF dX7_arrival_14 (q := 15) rfl 1 rfl ?_
  refine hn_get hF fl_X7_72 o0 rfl rfl dX7_arrival_15 (q := 18) rfl ?_
  refine hn_callVi (rest := []) hF ms_X2_leads mv_X2_leads lk_X7_90 o1 rfl (by decide) [.int v1, .int (μ 0 11)] rfl (Nat.le_of_ble_eq_true rfl) dX7_arrival_18 (q := 21) rfl rfl e (fun v hv => cX2_leads_ hV.P hv) (fun v2 e => ?_)
  refine hn_if_ne hF dX7_arrival_21 (t := 27) (q := 24) rfl rfl e (fun e => ?_) (fun e => ?_)
  · refine hn_aload_n hF dX7_arrival_27 (q := 28) rfl 1 rfl ?_
    refine hn_get hF fl_X7_30 o0 rfl rfl dX7_arrival_28 (q := 31) rfl ?_
    refine hn_get hF fl_X7_149 o46 rfl rfl dX7_arrival_31 (q := 34) rfl ?_
    refine hn_aload_n hF dX7_arrival_34 (q := 35) rfl 1 rfl ?_
    refine hn_get hF fl_X7_19 o0 rfl rfl dX7_arrival_35 (q := 38) rfl ?_
    refine hn_get hF fl_X7_311 o6 rfl rfl dX7_arrival_38 (q := 41) rfl ?_
    refine hn_iload_n hF dX7_arrival_41 (q := 42) rfl 2 rfl ?_
    refine hn_ald hF a12 dX7_arrival_42 (q := 43) rfl e (fun v3 e => ?_)
    refine hn_ald hF a47 dX7_arrival_43 (q := 44) rfl e (fun v4 e => ?_)
    refine hn_aload_n hF dX7_arrival_44 (q := 45) rfl 1 rfl ?_
    refine hn_get hF fl_X7_10 o0 rfl rfl dX7_arrival_45 (q := 48) rfl ?_
    refine hn_iload_n hF dX7_arrival_48 (q := 49) rfl 0 rfl ?_
    refine hn_aload_n hF dX7_arrival_49 (q := 50) rfl 1 rfl ?_
    refine hn_get hF fl_X7_72 o0 rfl rfl dX7_arrival_50 (q := 53) rfl ?_
    refine hn_callVi (rest := [.int v4]) hF ms_X2_days mv_X2_days lk_X7_94 o1 rfl (by decide) [.int v1, .int (μ 0 11)] rfl (Nat.le_of_ble_eq_true rfl) dX7_arrival_53 (q := 56) rfl rfl e (fun v hv => cX2_days_ hV.P hv) (fun v5 e => ?_)
    refine hn_iadd hF dX7_arrival_56 (q := 57) rfl ?_
    exact hn_iretP hF hQ dX7_arrival_57 e
  · refine hn_bipush hF dX7_arrival_24 (q := 26) rfl kb_m4 ?_
    exact hn_iretP hF hQ dX7_arrival_26 e
theorem cX7_arrival_ {B : hn_B} {μ : hn_M} {R : Int32} {l1 : Int32} (hV : hn_V B hn_nA) (e : fX7_arrival μ l1 = some R) : hn_C yX7_arrival cX7_arrival 3 (some .int) 1 B [.ref (hn_base B + 0), .int l1] μ (some (.int R), μ) :=
  hn_C.of RX7 (by decide) rfl (Nat.le_of_ble_eq_true rfl) (fun _ hF hQ => gX7_arrival hF hQ hV e)
/-! HandNews.came(I)I -/
def fX7_came (F : Nat) (l1 : Int32) (μ : hn_M) : Option (Int32 × hn_M) := (fX7_isSaying μ l1).bind fun v1 => if v1 = 0 then some ((-1), μ) else (fX7_isQuarrel F μ).bind fun w2 => if w2.1 = 0 then (fX7_arrival w2.2 l1).bind fun v3 => some (v3, w2.2) else some ((-2), w2.2)
set_option maxHeartbeats 1000000 in
theorem gX7_came {Z : hn_Z} {B : hn_B} {F : Nat} {R : Int32 × hn_M} (hF : hn_F Z B (0, 0) cX7_came 2 RX7 (some .int) 6) (hQ : hn_goal Z B (some (.int R.1), R.2)) (hV : hn_V B hn_nA) {l1 : Int32} {μ : hn_M} (e : fX7_came F l1 μ = some R) : hn_G Z B (0, 0) 2 0 [(0, .ref (hn_base B + 0)), (1, .int l1)] [] μ := by
  unfold fX7_came at e
  have o0 : hn_isO B 0 7 hn_k0 := hV 0 (by decide)
  refine hn_aload_n hF dX7_came_0 (q := 1) rfl 0 rfl ?_
  refine hn_iload_n hF dX7_came_1 (q := 2) rfl 1 rfl ?_
  refine hn_callVi (rest := []) hF ms_X7_isSaying mv_X7_isSaying lk_X7_170 o0 rfl (by decide) [.int l1] rfl (Nat.le_of_ble_eq_true rfl) dX7_came_2 (q := 5) rfl rfl e (fun v hv => cX7_isSaying_ hV hv) (fun v1 e => ?_)
  refine hn_if_ne hF dX7_came_5 (t := 10) (q := 8) rfl rfl e (fun e => ?_) (fun e => ?_)
  · refine hn_aload_n hF dX7_came_10 (q := 11) rfl 0 rfl ?_
    refine hn_callVm (rest := []) hF ms_X7_isQuarrel mv_X7_isQuarrel lk_X7_145 o0 rfl (by decide) [] rfl (Nat.le_of_ble_eq_true rfl) dX7_came_11 (q := 14) rfl rfl e (fun v hv => cX7_isQuarrel_ hV hv) (fun w2 e => ?_)
    refine hn_if_eq hF dX7_came_14 (t := 20) (q := 17) rfl rfl e (fun e => ?_) (fun e => ?_)
    · refine hn_aload_n hF dX7_came_20 (q := 21) rfl 0 rfl ?_
      refine hn_iload_n hF dX7_came_21 (q := 22) rfl 1 rfl ?_
      refine hn_callVi (rest := []) hF ms_X7_arrival mv_X7_arrival lk_X7_235 o0 rfl (by decide) [.int l1] rfl (Nat.le_of_ble_eq_true rfl) dX7_came_22 (q := 25) rfl rfl e (fun v hv => cX7_arrival_ hV hv) (fun v3 e => ?_)
      exact hn_iretM hF hQ dX7_came_25 e
    · refine hn_bipush hF dX7_came_17 (q := 19) rfl kb_m2 ?_
      exact hn_iretM hF hQ dX7_came_19 e
  · refine hn_iconst hF dX7_came_8 (q := 9) rfl ki_m1 ?_
    exact hn_iretM hF hQ dX7_came_9 e
theorem cX7_came_ {B : hn_B} {F : Nat} {μ : hn_M} {R : Int32 × hn_M} {l1 : Int32} (hV : hn_V B hn_nA) (e : fX7_came F l1 μ = some R) : hn_C yX7_came cX7_came 2 (some .int) 6 B [.ref (hn_base B + 0), .int l1] μ (some (.int R.1), R.2) :=
  hn_C.of RX7 (by decide) rfl (Nat.le_of_ble_eq_true rfl) (fun _ hF hQ => gX7_came hF hQ hV e)
/-! HandNews.voicesHeard(II)I -/
def fX7_voicesHeard_111 (F : Nat) (μ : hn_M) (k17 : Int32 → Int32 → Int32 → Int32 → Int32 → Option Int32) (l1 : Int32) (l2 : Int32) (l3 : Int32) (l4 : Int32) (l5 : Int32) : Option Int32 := k17 l1 l2 l3 l4 (l5 + 1)
def fX7_voicesHeard_17 (F : Nat) (μ : hn_M) : Nat → Int32 → Int32 → Int32 → Int32 → Int32 → Option Int32
  | 0, _, _, _, _, _ => none
  | n + 1, l1, l2, l3, l4, l5 => if μ 6 7 ≤ l5 then some l3 else hn_rd μ 13 30 l5 fun v1 => if v1 = l1 then (fX7_arrival μ l5).bind fun v2 => hn_rd μ 12 30 l5 fun v3 => hn_rd μ 47 12 v3 fun v4 => if v2 = (-4) then fX7_voicesHeard_111 F μ (fX7_voicesHeard_17 F μ n) l1 l2 l3 l4 l5 else if l2 < v2 then fX7_voicesHeard_111 F μ (fX7_voicesHeard_17 F μ n) l1 l2 l3 l4 l5 else if l4 < l2 - v4 then fX7_voicesHeard_111 F μ (fX7_voicesHeard_17 F μ n) l1 l2 l3 l4 l5 else hn_rd μ 52 30 l5 fun v5 => fX7_voicesHeard_111 F μ (fX7_voicesHeard_17 F μ n) l1 l2 (l3 ||| (1 <<< (v5 &&& 31))) l4 l5 else fX7_voicesHeard_111 F μ (fX7_voicesHeard_17 F μ n) l1 l2 l3 l4 l5
def fX7_voicesHeard (F : Nat) (μ : hn_M) (l1 : Int32) (l2 : Int32) : Option Int32 := hn_it (μ 0 7) fun t6 => (fX0_amountOn F t6 μ 2 0 l2).bind fun v7 => fX7_voicesHeard_17 F μ F l1 l2 0 v7 0
set_option maxHeartbeats 1000000 in
theorem gX7_voicesHeard_111 {Z : hn_Z} {B : hn_B} {F : Nat} {μ : hn_M} {R : Int32} (hF : hn_F Z B (0, 0) cX7_voicesHeard 8 RX7 (some .int) 2) (hQ : hn_goal Z B (some (.int R), μ)) (hV : hn_V B hn_nA) {k17 : Int32 → Int32 → Int32 → Int32 → Int32 → Option Int32} (H17 : ∀ (l1 : Int32) (l2 : Int32) (l3 : Int32) (l4 : Int32) (l5 : Int32), k17 l1 l2 l3 l4 l5 = some R → hn_G Z B (0, 0) 8 17 [(0, .ref (hn_base B + 0)), (1, .int l1), (2, .int l2), (3, .int l3), (4, .int l4), (5, .int l5)] [] μ) {l1 : Int32} {l2 : Int32} {l3 : Int32} {l4 : Int32} {l5 : Int32} (e : fX7_voicesHeard_111 F μ k17 l1 l2 l3 l4 l5 = some R) : hn_G Z B (0, 0) 8 111 [(0, .ref (hn_base B + 0)), (1, .int l1), (2, .int l2), (3, .int l3), (4, .int l4), (5, .int l5)] [] μ := by
  unfold fX7_voicesHeard_111 at e
  refine hn_iinc (p := 5) hF dX7_voicesHeard_111 (q := 114) rfl rfl (kn_1 _) (by decide) (L' := [(5, .int (l5 + 1)), (0, .ref (hn_base B + 0)), (1, .int l1), (2, .int l2), (3, .int l3), (4, .int l4)]) rfl ?_
  refine hn_goto hF dX7_voicesHeard_114 (q := 17) rfl ?_
  refine hn_sub [1, 2, 3, 4, 5, 0] (L' := [(0, .ref (hn_base B + 0)), (1, .int l1), (2, .int l2), (3, .int l3), (4, .int l4), (5, .int (l5 + 1))]) rfl ?_
  exact H17 l1 l2 l3 l4 (l5 + 1) e
set_option maxHeartbeats 1000000 in
theorem gX7_voicesHeard_17 {Z : hn_Z} {B : hn_B} {F : Nat} {μ : hn_M} {R : Int32} (hF : hn_F Z B (0, 0) cX7_voicesHeard 8 RX7 (some .int) 2) (hQ : hn_goal Z B (some (.int R), μ)) (hV : hn_V B hn_nA) : ∀ (n : Nat) (l1 : Int32) (l2 : Int32) (l3 : Int32) (l4 : Int32) (l5 : Int32), fX7_voicesHeard_17 F μ n l1 l2 l3 l4 l5 = some R → hn_G Z B (0, 0) 8 17 [(0, .ref (hn_base B + 0)), (1, .int l1), (2, .int l2), (3, .int l3), (4, .int l4), (5, .int l5)] [] μ := by
  have a12 : hn_isA B 12 false 30 := hV 12 (by decide)
  have a13 : hn_isA B 13 false 30 := hV 13 (by decide)
  have a47 : hn_isA B 47 false 12 := hV 47 (by decide)
  have a52 : hn_isA B 52 false 30 := hV 52 (by decide)
  have o0 : hn_isO B 0 7 hn_k0 := hV 0 (by decide)
  have o46 : hn_isO B 46 3 hn_k46 := hV 46 (by decide)
  have o50 : hn_isO B 50 5 hn_k50 := hV 50 (by decide)
  have o6 : hn_isO B 6 1 hn_k6 := hV 6 (by decide)
  intro n
  induction n with
  | zero => intro l1 l2 l3 l4 l5 e; rw [fX7_voicesHeard_17] at e; cases e
  | succ n ih =>
    intro l1 l2 l3 l4 l5 e
    rw [fX7_voicesHeard_17] at e
    refine hn_iload hF dX7_voicesHeard_17 (q := 19) rfl 5 rfl ?_
    refine hn_aload_n hF dX7_voicesHeard_19 (q := 20) rfl 0 rfl ?_
    refine hn_get hF fl_X7_19 o0 rfl rfl dX7_voicesHeard_20 (q := 23) rfl ?_
    refine hn_get hF fl_X7_159 o6 rfl rfl dX7_voicesHeard_23 (q := 26) rfl ?_
    refine hn_icmp_ge hF dX7_voicesHeard_26 (t := 117) (q := 29) rfl rfl e (fun e => ?_) (fun e => ?_)
    · refine hn_iload_n hF dX7_voicesHeard_117 (q := 118) rfl 3 rfl ?_
      exact hn_iretP hF hQ dX7_voicesHeard_118 e
    · refine hn_aload_n hF dX7_voicesHeard_29 (q := 30) rfl 0 rfl ?_
      refine hn_get hF fl_X7_19 o0 rfl rfl dX7_voicesHeard_30 (q := 33) rfl ?_
      refine hn_get hF fl_X7_173 o6 rfl rfl dX7_voicesHeard_33 (q := 36) rfl ?_
      refine hn_iload hF dX7_voicesHeard_36 (q := 38) rfl 5 rfl ?_
      refine hn_ald hF a13 dX7_voicesHeard_38 (q := 39) rfl e (fun v1 e => ?_)
      refine hn_iload_n hF dX7_voicesHeard_39 (q := 40) rfl 1 rfl ?_
      refine hn_icmp_eq hF dX7_voicesHeard_40 (t := 46) (q := 43) rfl rfl e (fun e => ?_) (fun e => ?_)
      · refine hn_aload_n hF dX7_voicesHeard_46 (q := 47) rfl 0 rfl ?_
        refine hn_iload hF dX7_voicesHeard_47 (q := 49) rfl 5 rfl ?_
        refine hn_callVi (rest := []) hF ms_X7_arrival mv_X7_arrival lk_X7_235 o0 rfl (by decide) [.int l5] rfl (Nat.le_of_ble_eq_true rfl) dX7_voicesHeard_49 (q := 52) rfl rfl e (fun v hv => cX7_arrival_ hV hv) (fun v2 e => ?_)
        refine hn_istore hF dX7_voicesHeard_52 (q := 54) rfl (by decide) (L' := [(6, .int v2), (0, .ref (hn_base B + 0)), (1, .int l1), (2, .int l2), (3, .int l3), (4, .int l4), (5, .int l5)]) rfl ?_
        refine hn_iload_n hF dX7_voicesHeard_54 (q := 55) rfl 3 rfl ?_
        refine hn_aload_n hF dX7_voicesHeard_55 (q := 56) rfl 1 rfl ?_
        refine hn_get hF fl_X7_30 o0 rfl rfl dX7_voicesHeard_56 (q := 59) rfl ?_
        refine hn_get hF fl_X7_149 o46 rfl rfl dX7_voicesHeard_59 (q := 62) rfl ?_
        refine hn_aload_n hF dX7_voicesHeard_62 (q := 63) rfl 1 rfl ?_
        refine hn_get hF fl_X7_19 o0 rfl rfl dX7_voicesHeard_63 (q := 66) rfl ?_
        refine hn_get hF fl_X7_311 o6 rfl rfl dX7_voicesHeard_66 (q := 69) rfl ?_
        refine hn_iload hF dX7_voicesHeard_69 (q := 71) rfl 6 rfl ?_
        refine hn_ald hF a12 dX7_voicesHeard_71 (q := 72) rfl e (fun v3 e => ?_)
        refine hn_ald hF a47 dX7_voicesHeard_72 (q := 73) rfl e (fun v4 e => ?_)
        refine hn_isub hF dX7_voicesHeard_73 (q := 74) rfl ?_
        refine hn_istore hF dX7_voicesHeard_74 (q := 76) rfl (by decide) (L' := [(7, .int (l2 - v4)), (6, .int v2), (0, .ref (hn_base B + 0)), (1, .int l1), (2, .int l2), (3, .int l3), (4, .int l4), (5, .int l5)]) rfl ?_
        refine hn_iload hF dX7_voicesHeard_76 (q := 78) rfl 1 rfl ?_
        refine hn_bipush hF dX7_voicesHeard_78 (q := 80) rfl kb_m4 ?_
        refine hn_icmp_eq hF dX7_voicesHeard_80 (t := 111) (q := 83) rfl rfl e (fun e => ?_) (fun e => ?_)
        · refine hn_sub [2, 3, 4, 5, 6, 7] (L' := [(0, .ref (hn_base B + 0)), (1, .int l1), (2, .int l2), (3, .int l3), (4, .int l4), (5, .int l5)]) rfl ?_
          exact gX7_voicesHeard_111 hF hQ hV ih e
        · refine hn_iload hF dX7_voicesHeard_83 (q := 85) rfl 1 rfl ?_
          refine hn_iload_n hF dX7_voicesHeard_85 (q := 86) rfl 4 rfl ?_
          refine hn_icmp_gt hF dX7_voicesHeard_86 (t := 111) (q := 89) rfl rfl e (fun e => ?_) (fun e => ?_)
          · refine hn_sub [2, 3, 4, 5, 6, 7] (L' := [(0, .ref (hn_base B + 0)), (1, .int l1), (2, .int l2), (3, .int l3), (4, .int l4), (5, .int l5)]) rfl ?_
            exact gX7_voicesHeard_111 hF hQ hV ih e
          · refine hn_iload hF dX7_voicesHeard_89 (q := 91) rfl 0 rfl ?_
            refine hn_iload hF dX7_voicesHeard_91 (q := 93) rfl 6 rfl ?_
            refine hn_icmp_gt hF dX7_voicesHeard_93 (t := 111) (q := 96) rfl rfl e (fun e => ?_) (fun e => ?_)
            · refine hn_sub [2, 3, 4, 5, 6, 7] (L' := [(0, .ref (hn_base B + 0)), (1, .int l1), (2, .int l2), (3, .int l3), (4, .int l4), (5, .int l5)]) rfl ?_
              exact gX7_voicesHeard_111 hF hQ hV ih e
            · refine hn_iload_n hF dX7_voicesHeard_96 (q := 97) rfl 5 rfl ?_
              refine hn_iconst hF dX7_voicesHeard_97 (q := 98) rfl ki_1 ?_
              refine hn_aload_n hF dX7_voicesHeard_98 (q := 99) rfl 2 rfl ?_
              refine hn_get hF fl_X7_37 o0 rfl rfl dX7_voicesHeard_99 (q := 102) rfl ?_
              refine hn_get hF fl_X7_185 o50 rfl rfl dX7_voicesHeard_102 (q := 105) rfl ?_
              refine hn_iload hF dX7_voicesHeard_105 (q := 107) rfl 7 rfl ?_
              refine hn_ald hF a52 dX7_voicesHeard_107 (q := 108) rfl e (fun v5 e => ?_)
              refine hn_ishl hF dX7_voicesHeard_108 (q := 109) rfl ?_
              refine hn_ior hF dX7_voicesHeard_109 (q := 110) rfl ?_
              refine hn_istore_n hF dX7_voicesHeard_110 (q := 111) rfl (i := 3) rfl (by decide) (L' := [(3, .int (l3 ||| (1 <<< (v5 &&& 31)))), (7, .int (l2 - v4)), (6, .int v2), (0, .ref (hn_base B + 0)), (1, .int l1), (2, .int l2), (4, .int l4), (5, .int l5)]) rfl ?_
              refine hn_sub [3, 4, 5, 0, 6, 7] (L' := [(0, .ref (hn_base B + 0)), (1, .int l1), (2, .int l2), (3, .int (l3 ||| (1 <<< (v5 &&& 31)))), (4, .int l4), (5, .int l5)]) rfl ?_
              exact gX7_voicesHeard_111 hF hQ hV ih e
      · refine hn_goto hF dX7_voicesHeard_43 (q := 111) rfl ?_
        exact gX7_voicesHeard_111 hF hQ hV ih e
set_option maxHeartbeats 1000000 in
theorem gX7_voicesHeard {Z : hn_Z} {B : hn_B} {F : Nat} {μ : hn_M} {R : Int32} (hF : hn_F Z B (0, 0) cX7_voicesHeard 8 RX7 (some .int) 2) (hQ : hn_goal Z B (some (.int R), μ)) (hV : hn_V B hn_nA) {l1 : Int32} {l2 : Int32} (e : fX7_voicesHeard F μ l1 l2 = some R) : hn_G Z B (0, 0) 8 0 [(0, .ref (hn_base B + 0)), (1, .int l1), (2, .int l2)] [] μ := by
  unfold fX7_voicesHeard at e
  have o0 : hn_isO B 0 7 hn_k0 := hV 0 (by decide)
  refine hn_iconst hF dX7_voicesHeard_0 (q := 1) rfl ki_0 ?_
  refine hn_istore_n hF dX7_voicesHeard_1 (q := 2) rfl (i := 3) rfl (by decide) (L' := [(3, .int 0), (0, .ref (hn_base B + 0)), (1, .int l1), (2, .int l2)]) rfl ?_
  refine hn_aload_n hF dX7_voicesHeard_2 (q := 3) rfl 1 rfl ?_
  refine hn_getIt hF fl_X7_58 o0 rfl dX7_voicesHeard_3 (q := 6) rfl e (fun t6 h_t6 e => ?_)
  refine hn_iconst hF dX7_voicesHeard_6 (q := 7) rfl ki_2 ?_
  refine hn_iconst hF dX7_voicesHeard_7 (q := 8) rfl ki_0 ?_
  refine hn_iload_n hF dX7_voicesHeard_8 (q := 9) rfl 3 rfl ?_
  refine hn_callVi (rest := []) hF ms_X0_amountOn mv_X0_amountOn lk_X7_225 (hn_Io hV h_t6) rfl (by decide) [.int 2, .int 0, .int l2] rfl (Nat.le_of_ble_eq_true rfl) dX7_voicesHeard_9 (q := 12) rfl rfl e (fun v hv => cX0_amountOn_ hV h_t6 hv) (fun v7 e => ?_)
  refine hn_istore hF dX7_voicesHeard_12 (q := 14) rfl (by decide) (L' := [(4, .int v7), (3, .int 0), (0, .ref (hn_base B + 0)), (1, .int l1), (2, .int l2)]) rfl ?_
  refine hn_iconst hF dX7_voicesHeard_14 (q := 15) rfl ki_0 ?_
  refine hn_istore hF dX7_voicesHeard_15 (q := 17) rfl (by decide) (L' := [(5, .int 0), (4, .int v7), (3, .int 0), (0, .ref (hn_base B + 0)), (1, .int l1), (2, .int l2)]) rfl ?_
  refine hn_sub [3, 4, 5, 2, 1, 0] (L' := [(0, .ref (hn_base B + 0)), (1, .int l1), (2, .int l2), (3, .int 0), (4, .int v7), (5, .int 0)]) rfl ?_
  exact gX7_voicesHeard_17 hF hQ hV F l1 l2 0 v7 0 e
theorem cX7_voicesHeard_ {B : hn_B} {F : Nat} {μ : hn_M} {R : Int32} {l1 : Int32} {l2 : Int32} (hV : hn_V B hn_nA) (e : fX7_voicesHeard F μ l1 l2 = some R) : hn_C yX7_voicesHeard cX7_voicesHeard 8 (some .int) 2 B [.ref (hn_base B + 0), .int l1, .int l2] μ (some (.int R), μ) :=
  hn_C.of RX7 (by decide) rfl (Nat.le_of_ble_eq_true rfl) (fun _ hF hQ => gX7_voicesHeard hF hQ hV e)
/-! HandNews.weightOfVoice(II)I -/
def fX7_weightOfVoice (F : Nat) (μ : hn_M) (l1 : Int32) (l2 : Int32) : Option Int32 := hn_it (μ 0 7) fun t1 => (fX1_townOf μ l1).bind fun v2 => (fX0_amountOn F t1 μ 0 v2 l2).bind fun v3 => hn_it (μ 0 7) fun t4 => (fX1_writerOf μ l1).bind fun v5 => (fX0_amountOn F t4 μ 1 v5 l2).bind fun v6 => (fX1_isDenied μ l1).bind fun v7 => if v7 = 0 then some (v3 + v6) else hn_it (μ 0 7) fun t8 => (fX0_amountOn F t8 μ 4 0 l2).bind fun v9 => some ((-(v3 + v6)) * v9)
set_option maxHeartbeats 1000000 in
theorem gX7_weightOfVoice {Z : hn_Z} {B : hn_B} {F : Nat} {μ : hn_M} {R : Int32} (hF : hn_F Z B (0, 0) cX7_weightOfVoice 4 RX7 (some .int) 2) (hQ : hn_goal Z B (some (.int R), μ)) (hV : hn_V B hn_nA) {l1 : Int32} {l2 : Int32} (e : fX7_weightOfVoice F μ l1 l2 = some R) : hn_G Z B (0, 0) 4 0 [(0, .ref (hn_base B + 0)), (1, .int l1), (2, .int l2)] [] μ := by
  unfold fX7_weightOfVoice at e
  have o0 : hn_isO B 0 7 hn_k0 := hV 0 (by decide)
  have o6 : hn_isO B 6 1 hn_k6 := hV 6 (by decide)
  refine hn_aload_n hF dX7_weightOfVoice_0 (q := 1) rfl 0 rfl ?_
  refine hn_getIt hF fl_X7_58 o0 rfl dX7_weightOfVoice_1 (q := 4) rfl e (fun t1 h_t1 e => ?_)
  refine hn_iconst hF dX7_weightOfVoice_4 (q := 5) rfl ki_0 ?_
  refine hn_aload_n hF dX7_weightOfVoice_5 (q := 6) rfl 0 rfl ?_
  refine hn_get hF fl_X7_19 o0 rfl rfl dX7_weightOfVoice_6 (q := 9) rfl ?_
  refine hn_iload_n hF dX7_weightOfVoice_9 (q := 10) rfl 1 rfl ?_
  refine hn_callVi (rest := [.int 0, .ref (hn_base B + t1)]) hF ms_X1_townOf mv_X1_townOf lk_X7_305 o6 rfl (by decide) [.int l1] rfl (Nat.le_of_ble_eq_true rfl) dX7_weightOfVoice_10 (q := 13) rfl rfl e (fun v hv => cX1_townOf_ hV hv) (fun v2 e => ?_)
  refine hn_iload_n hF dX7_weightOfVoice_13 (q := 14) rfl 2 rfl ?_
  refine hn_callVi (rest := []) hF ms_X0_amountOn mv_X0_amountOn lk_X7_225 (hn_Io hV h_t1) rfl (by decide) [.int 0, .int v2, .int l2] rfl (Nat.le_of_ble_eq_true rfl) dX7_weightOfVoice_14 (q := 17) rfl rfl e (fun v hv => cX0_amountOn_ hV h_t1 hv) (fun v3 e => ?_)
  refine hn_aload_n hF dX7_weightOfVoice_17 (q := 18) rfl 0 rfl ?_
  refine hn_getIt hF fl_X7_58 o0 rfl dX7_weightOfVoice_18 (q := 21) rfl e (fun t4 h_t4 e => ?_)
  refine hn_iconst hF dX7_weightOfVoice_21 (q := 22) rfl ki_1 ?_
  refine hn_aload_n hF dX7_weightOfVoice_22 (q := 23) rfl 0 rfl ?_
  refine hn_get hF fl_X7_19 o0 rfl rfl dX7_weightOfVoice_23 (q := 26) rfl ?_
  refine hn_iload_n hF dX7_weightOfVoice_26 (q := 27) rfl 1 rfl ?_
  refine hn_callVi (rest := [.int 1, .ref (hn_base B + t4), .int v3]) hF ms_X1_writerOf mv_X1_writerOf lk_X7_205 o6 rfl (by decide) [.int l1] rfl (Nat.le_of_ble_eq_true rfl) dX7_weightOfVoice_27 (q := 30) rfl rfl e (fun v hv => cX1_writerOf_ hV hv) (fun v5 e => ?_)
  refine hn_iload_n hF dX7_weightOfVoice_30 (q := 31) rfl 2 rfl ?_
  refine hn_callVi (rest := [.int v3]) hF ms_X0_amountOn mv_X0_amountOn lk_X7_225 (hn_Io hV h_t4) rfl (by decide) [.int 1, .int v5, .int l2] rfl (Nat.le_of_ble_eq_true rfl) dX7_weightOfVoice_31 (q := 34) rfl rfl e (fun v hv => cX0_amountOn_ hV h_t4 hv) (fun v6 e => ?_)
  refine hn_iadd hF dX7_weightOfVoice_34 (q := 35) rfl ?_
  refine hn_istore_n hF dX7_weightOfVoice_35 (q := 36) rfl (i := 3) rfl (by decide) (L' := [(3, .int (v3 + v6)), (0, .ref (hn_base B + 0)), (1, .int l1), (2, .int l2)]) rfl ?_
  refine hn_aload_n hF dX7_weightOfVoice_36 (q := 37) rfl 1 rfl ?_
  refine hn_get hF fl_X7_19 o0 rfl rfl dX7_weightOfVoice_37 (q := 40) rfl ?_
  refine hn_iload_n hF dX7_weightOfVoice_40 (q := 41) rfl 2 rfl ?_
  refine hn_callVi (rest := []) hF ms_X1_isDenied mv_X1_isDenied lk_X7_195 o6 rfl (by decide) [.int l1] rfl (Nat.le_of_ble_eq_true rfl) dX7_weightOfVoice_41 (q := 44) rfl rfl e (fun v hv => cX1_isDenied_ hV hv) (fun v7 e => ?_)
  refine hn_if_eq hF dX7_weightOfVoice_44 (t := 63) (q := 47) rfl rfl e (fun e => ?_) (fun e => ?_)
  · refine hn_iload_n hF dX7_weightOfVoice_63 (q := 64) rfl 0 rfl ?_
    exact hn_iretP hF hQ dX7_weightOfVoice_64 e
  · refine hn_iload_n hF dX7_weightOfVoice_47 (q := 48) rfl 0 rfl ?_
    refine hn_ineg hF dX7_weightOfVoice_48 (q := 49) rfl ?_
    refine hn_aload_n hF dX7_weightOfVoice_49 (q := 50) rfl 1 rfl ?_
    refine hn_getIt hF fl_X7_58 o0 rfl dX7_weightOfVoice_50 (q := 53) rfl e (fun t8 h_t8 e => ?_)
    refine hn_iconst hF dX7_weightOfVoice_53 (q := 54) rfl ki_4 ?_
    refine hn_iconst hF dX7_weightOfVoice_54 (q := 55) rfl ki_0 ?_
    refine hn_iload_n hF dX7_weightOfVoice_55 (q := 56) rfl 3 rfl ?_
    refine hn_callVi (rest := [.int (-(v3 + v6))]) hF ms_X0_amountOn mv_X0_amountOn lk_X7_225 (hn_Io hV h_t8) rfl (by decide) [.int 4, .int 0, .int l2] rfl (Nat.le_of_ble_eq_true rfl) dX7_weightOfVoice_56 (q := 59) rfl rfl e (fun v hv => cX0_amountOn_ hV h_t8 hv) (fun v9 e => ?_)
    refine hn_imul hF dX7_weightOfVoice_59 (q := 60) rfl ?_
    refine hn_goto hF dX7_weightOfVoice_60 (q := 64) rfl ?_
    exact hn_iretP hF hQ dX7_weightOfVoice_64 e
theorem cX7_weightOfVoice_ {B : hn_B} {F : Nat} {μ : hn_M} {R : Int32} {l1 : Int32} {l2 : Int32} (hV : hn_V B hn_nA) (e : fX7_weightOfVoice F μ l1 l2 = some R) : hn_C yX7_weightOfVoice cX7_weightOfVoice 4 (some .int) 2 B [.ref (hn_base B + 0), .int l1, .int l2] μ (some (.int R), μ) :=
  hn_C.of RX7 (by decide) rfl (Nat.le_of_ble_eq_true rfl) (fun _ hF hQ => gX7_weightOfVoice hF hQ hV e)
/-! HandNews.weightOf(II)I -/
def fX7_weightOf_46 (F : Nat) (μ : hn_M) (k13 : Int32 → Int32 → Int32 → Int32 → Option Int32) (l2 : Int32) (l3 : Int32) (l4 : Int32) (l5 : Int32) : Option Int32 := k13 l2 l3 l4 (l5 + 1)
def fX7_weightOf_13 (F : Nat) (μ : hn_M) : Nat → Int32 → Int32 → Int32 → Int32 → Option Int32
  | 0, _, _, _, _ => none
  | n + 1, l2, l3, l4, l5 => if μ 6 7 ≤ l5 then some l4 else (fX7_isIn l3 l5).bind fun v1 => if v1 = 0 then fX7_weightOf_46 F μ (fX7_weightOf_13 F μ n) l2 l3 l4 l5 else (fX7_weightOfVoice F μ l5 l2).bind fun v2 => fX7_weightOf_46 F μ (fX7_weightOf_13 F μ n) l2 l3 (l4 + v2) l5
def fX7_weightOf (F : Nat) (μ : hn_M) (l1 : Int32) (l2 : Int32) : Option Int32 := (fX7_voicesHeard F μ l1 l2).bind fun v3 => fX7_weightOf_13 F μ F l2 v3 0 0
set_option maxHeartbeats 1000000 in
theorem gX7_weightOf_46 {Z : hn_Z} {B : hn_B} {F : Nat} {μ : hn_M} {R : Int32} (hF : hn_F Z B (0, 0) cX7_weightOf 6 RX7 (some .int) 3) (hQ : hn_goal Z B (some (.int R), μ)) (hV : hn_V B hn_nA) {k13 : Int32 → Int32 → Int32 → Int32 → Option Int32} (H13 : ∀ (l2 : Int32) (l3 : Int32) (l4 : Int32) (l5 : Int32), k13 l2 l3 l4 l5 = some R → hn_G Z B (0, 0) 6 13 [(0, .ref (hn_base B + 0)), (2, .int l2), (3, .int l3), (4, .int l4), (5, .int l5)] [] μ) {l2 : Int32} {l3 : Int32} {l4 : Int32} {l5 : Int32} (e : fX7_weightOf_46 F μ k13 l2 l3 l4 l5 = some R) : hn_G Z B (0, 0) 6 46 [(0, .ref (hn_base B + 0)), (2, .int l2), (3, .int l3), (4, .int l4), (5, .int l5)] [] μ := by
  unfold fX7_weightOf_46 at e
  refine hn_iinc (p := 4) hF dX7_weightOf_46 (q := 49) rfl rfl (kn_1 _) (by decide) (L' := [(5, .int (l5 + 1)), (0, .ref (hn_base B + 0)), (2, .int l2), (3, .int l3), (4, .int l4)]) rfl ?_
  refine hn_goto hF dX7_weightOf_49 (q := 13) rfl ?_
  refine hn_sub [1, 2, 3, 4, 0] (L' := [(0, .ref (hn_base B + 0)), (2, .int l2), (3, .int l3), (4, .int l4), (5, .int (l5 + 1))]) rfl ?_
  exact H13 l2 l3 l4 (l5 + 1) e
set_option maxHeartbeats 1000000 in
theorem gX7_weightOf_13 {Z : hn_Z} {B : hn_B} {F : Nat} {μ : hn_M} {R : Int32} (hF : hn_F Z B (0, 0) cX7_weightOf 6 RX7 (some .int) 3) (hQ : hn_goal Z B (some (.int R), μ)) (hV : hn_V B hn_nA) : ∀ (n : Nat) (l2 : Int32) (l3 : Int32) (l4 : Int32) (l5 : Int32), fX7_weightOf_13 F μ n l2 l3 l4 l5 = some R → hn_G Z B (0, 0) 6 13 [(0, .ref (hn_base B + 0)), (2, .int l2), (3, .int l3), (4, .int l4), (5, .int l5)] [] μ := by
  have o0 : hn_isO B 0 7 hn_k0 := hV 0 (by decide)
  have o6 : hn_isO B 6 1 hn_k6 := hV 6 (by decide)
  intro n
  induction n with
  | zero => intro l2 l3 l4 l5 e; rw [fX7_weightOf_13] at e; cases e
  | succ n ih =>
    intro l2 l3 l4 l5 e
    rw [fX7_weightOf_13] at e
    refine hn_iload hF dX7_weightOf_13 (q := 15) rfl 4 rfl ?_
    refine hn_aload_n hF dX7_weightOf_15 (q := 16) rfl 0 rfl ?_
    refine hn_get hF fl_X7_19 o0 rfl rfl dX7_weightOf_16 (q := 19) rfl ?_
    refine hn_get hF fl_X7_159 o6 rfl rfl dX7_weightOf_19 (q := 22) rfl ?_
    refine hn_icmp_ge hF dX7_weightOf_22 (t := 52) (q := 25) rfl rfl e (fun e => ?_) (fun e => ?_)
    · refine hn_iload hF dX7_weightOf_52 (q := 54) rfl 3 rfl ?_
      exact hn_iretP hF hQ dX7_weightOf_54 e
    · refine hn_iload_n hF dX7_weightOf_25 (q := 26) rfl 2 rfl ?_
      refine hn_iload hF dX7_weightOf_26 (q := 28) rfl 4 rfl ?_
      refine hn_callSi (rest := []) hF ms_X7_isIn mt_X7_isIn lk_X7_317 (by decide) [.int l3, .int l5] rfl (Nat.le_of_ble_eq_true rfl) dX7_weightOf_28 (q := 31) rfl rfl e (fun v hv => cX7_isIn_ hv) (fun v1 e => ?_)
      refine hn_if_eq hF dX7_weightOf_31 (t := 46) (q := 34) rfl rfl e (fun e => ?_) (fun e => ?_)
      · exact gX7_weightOf_46 hF hQ hV ih e
      · refine hn_iload hF dX7_weightOf_34 (q := 36) rfl 3 rfl ?_
        refine hn_aload_n hF dX7_weightOf_36 (q := 37) rfl 0 rfl ?_
        refine hn_iload hF dX7_weightOf_37 (q := 39) rfl 4 rfl ?_
        refine hn_iload_n hF dX7_weightOf_39 (q := 40) rfl 1 rfl ?_
        refine hn_callVi (rest := [.int l4]) hF ms_X7_weightOfVoice mv_X7_weightOfVoice lk_X7_320 o0 rfl (by decide) [.int l5, .int l2] rfl (Nat.le_of_ble_eq_true rfl) dX7_weightOf_40 (q := 43) rfl rfl e (fun v hv => cX7_weightOfVoice_ hV hv) (fun v2 e => ?_)
        refine hn_iadd hF dX7_weightOf_43 (q := 44) rfl ?_
        refine hn_istore hF dX7_weightOf_44 (q := 46) rfl (by decide) (L' := [(4, .int (l4 + v2)), (0, .ref (hn_base B + 0)), (2, .int l2), (3, .int l3), (5, .int l5)]) rfl ?_
        refine hn_sub [1, 2, 3, 0, 4] (L' := [(0, .ref (hn_base B + 0)), (2, .int l2), (3, .int l3), (4, .int (l4 + v2)), (5, .int l5)]) rfl ?_
        exact gX7_weightOf_46 hF hQ hV ih e
set_option maxHeartbeats 1000000 in
theorem gX7_weightOf {Z : hn_Z} {B : hn_B} {F : Nat} {μ : hn_M} {R : Int32} (hF : hn_F Z B (0, 0) cX7_weightOf 6 RX7 (some .int) 3) (hQ : hn_goal Z B (some (.int R), μ)) (hV : hn_V B hn_nA) {l1 : Int32} {l2 : Int32} (e : fX7_weightOf F μ l1 l2 = some R) : hn_G Z B (0, 0) 6 0 [(0, .ref (hn_base B + 0)), (1, .int l1), (2, .int l2)] [] μ := by
  unfold fX7_weightOf at e
  have o0 : hn_isO B 0 7 hn_k0 := hV 0 (by decide)
  refine hn_aload_n hF dX7_weightOf_0 (q := 1) rfl 0 rfl ?_
  refine hn_iload_n hF dX7_weightOf_1 (q := 2) rfl 1 rfl ?_
  refine hn_iload_n hF dX7_weightOf_2 (q := 3) rfl 2 rfl ?_
  refine hn_callVi (rest := []) hF ms_X7_voicesHeard mv_X7_voicesHeard lk_X7_314 o0 rfl (by decide) [.int l1, .int l2] rfl (Nat.le_of_ble_eq_true rfl) dX7_weightOf_3 (q := 6) rfl rfl e (fun v hv => cX7_voicesHeard_ hV hv) (fun v3 e => ?_)
  refine hn_istore_n hF dX7_weightOf_6 (q := 7) rfl (i := 3) rfl (by decide) (L' := [(3, .int v3), (0, .ref (hn_base B + 0)), (1, .int l1), (2, .int l2)]) rfl ?_
  refine hn_iconst hF dX7_weightOf_7 (q := 8) rfl ki_0 ?_
  refine hn_istore hF dX7_weightOf_8 (q := 10) rfl (by decide) (L' := [(4, .int 0), (3, .int v3), (0, .ref (hn_base B + 0)), (1, .int l1), (2, .int l2)]) rfl ?_
  refine hn_iconst hF dX7_weightOf_10 (q := 11) rfl ki_0 ?_
  refine hn_istore hF dX7_weightOf_11 (q := 13) rfl (by decide) (L' := [(5, .int 0), (4, .int 0), (3, .int v3), (0, .ref (hn_base B + 0)), (1, .int l1), (2, .int l2)]) rfl ?_
  refine hn_sub [3, 5, 2, 1, 0] (L' := [(0, .ref (hn_base B + 0)), (2, .int l2), (3, .int v3), (4, .int 0), (5, .int 0)]) rfl ?_
  exact gX7_weightOf_13 hF hQ hV F l2 v3 0 0 e
theorem cX7_weightOf_ {B : hn_B} {F : Nat} {μ : hn_M} {R : Int32} {l1 : Int32} {l2 : Int32} (hV : hn_V B hn_nA) (e : fX7_weightOf F μ l1 l2 = some R) : hn_C yX7_weightOf cX7_weightOf 6 (some .int) 3 B [.ref (hn_base B + 0), .int l1, .int l2] μ (some (.int R), μ) :=
  hn_C.of RX7 (by decide) rfl (Nat.le_of_ble_eq_true rfl) (fun _ hF hQ => gX7_weightOf hF hQ hV e)
/-! HandNews.belief(III)I -/
def fX7_belief (F : Nat) (l1 : Int32) (l2 : Int32) (l3 : Int32) (μ : hn_M) : Option (Int32 × hn_M) := (fX7_isThing l1).bind fun v1 => if v1 = 0 then some ((-1000000), μ) else (fX7_isDay l2).bind fun v2 => if v2 = 0 then some ((-1000000), μ) else if l3 < 0 then some ((-1000000), μ) else if l3 ≤ 1 then (fX7_isQuarrel F μ).bind fun w3 => if w3.1 = 0 then (fX7_weightOf F w3.2 l1 l2).bind fun v4 => if l3 = 0 then some (v4, w3.2) else hn_it (w3.2 0 7) fun t5 => (fX0_amountOn F t5 w3.2 3 0 l2).bind fun v6 => if v4 < v6 then some (0, w3.2) else some (1, w3.2) else some ((-1000002), w3.2) else some ((-1000000), μ)
set_option maxHeartbeats 1000000 in
theorem gX7_belief {Z : hn_Z} {B : hn_B} {F : Nat} {R : Int32 × hn_M} (hF : hn_F Z B (0, 0) cX7_belief 5 RX7 (some .int) 6) (hQ : hn_goal Z B (some (.int R.1), R.2)) (hV : hn_V B hn_nA) {l1 : Int32} {l2 : Int32} {l3 : Int32} {μ : hn_M} (e : fX7_belief F l1 l2 l3 μ = some R) : hn_G Z B (0, 0) 5 0 [(0, .ref (hn_base B + 0)), (1, .int l1), (2, .int l2), (3, .int l3)] [] μ := by
  unfold fX7_belief at e
  have o0 : hn_isO B 0 7 hn_k0 := hV 0 (by decide)
  refine hn_iload_n hF dX7_belief_0 (q := 1) rfl 1 rfl ?_
  refine hn_callSi (rest := []) hF ms_X7_isThing mt_X7_isThing lk_X7_127 (by decide) [.int l1] rfl (Nat.le_of_ble_eq_true rfl) dX7_belief_1 (q := 4) rfl rfl e (fun v hv => cX7_isThing_ hv) (fun v1 e => ?_)
  refine hn_if_eq hF dX7_belief_4 (t := 23) (q := 7) rfl rfl e (fun e => ?_) (fun e => ?_)
  · refine hn_ldc hF kd_X7_203 dX7_belief_23 (q := 25) rfl ?_
    exact hn_iretM hF hQ dX7_belief_25 e
  · refine hn_iload_n hF dX7_belief_7 (q := 8) rfl 2 rfl ?_
    refine hn_callSi (rest := []) hF ms_X7_isDay mt_X7_isDay lk_X7_130 (by decide) [.int l2] rfl (Nat.le_of_ble_eq_true rfl) dX7_belief_8 (q := 11) rfl rfl e (fun v hv => cX7_isDay_ hv) (fun v2 e => ?_)
    refine hn_if_eq hF dX7_belief_11 (t := 23) (q := 14) rfl rfl e (fun e => ?_) (fun e => ?_)
    · refine hn_ldc hF kd_X7_203 dX7_belief_23 (q := 25) rfl ?_
      exact hn_iretM hF hQ dX7_belief_25 e
    · refine hn_iload_n hF dX7_belief_14 (q := 15) rfl 3 rfl ?_
      refine hn_if_lt hF dX7_belief_15 (t := 23) (q := 18) rfl rfl e (fun e => ?_) (fun e => ?_)
      · refine hn_ldc hF kd_X7_203 dX7_belief_23 (q := 25) rfl ?_
        exact hn_iretM hF hQ dX7_belief_25 e
      · refine hn_iload_n hF dX7_belief_18 (q := 19) rfl 3 rfl ?_
        refine hn_iconst hF dX7_belief_19 (q := 20) rfl ki_1 ?_
        refine hn_icmp_le hF dX7_belief_20 (t := 26) (q := 23) rfl rfl e (fun e => ?_) (fun e => ?_)
        · refine hn_aload_n hF dX7_belief_26 (q := 27) rfl 0 rfl ?_
          refine hn_callVm (rest := []) hF ms_X7_isQuarrel mv_X7_isQuarrel lk_X7_145 o0 rfl (by decide) [] rfl (Nat.le_of_ble_eq_true rfl) dX7_belief_27 (q := 30) rfl rfl e (fun v hv => cX7_isQuarrel_ hV hv) (fun w3 e => ?_)
          refine hn_if_eq hF dX7_belief_30 (t := 36) (q := 33) rfl rfl e (fun e => ?_) (fun e => ?_)
          · refine hn_aload_n hF dX7_belief_36 (q := 37) rfl 0 rfl ?_
            refine hn_iload_n hF dX7_belief_37 (q := 38) rfl 1 rfl ?_
            refine hn_iload_n hF dX7_belief_38 (q := 39) rfl 2 rfl ?_
            refine hn_callVi (rest := []) hF ms_X7_weightOf mv_X7_weightOf lk_X7_238 o0 rfl (by decide) [.int l1, .int l2] rfl (Nat.le_of_ble_eq_true rfl) dX7_belief_39 (q := 42) rfl rfl e (fun v hv => cX7_weightOf_ hV hv) (fun v4 e => ?_)
            refine hn_istore hF dX7_belief_42 (q := 44) rfl (by decide) (L' := [(4, .int v4), (0, .ref (hn_base B + 0)), (1, .int l1), (2, .int l2), (3, .int l3)]) rfl ?_
            refine hn_iload_n hF dX7_belief_44 (q := 45) rfl 4 rfl ?_
            refine hn_if_ne hF dX7_belief_45 (t := 51) (q := 48) rfl rfl e (fun e => ?_) (fun e => ?_)
            · refine hn_iload hF dX7_belief_51 (q := 53) rfl 0 rfl ?_
              refine hn_aload_n hF dX7_belief_53 (q := 54) rfl 1 rfl ?_
              refine hn_getIt hF fl_X7_58 o0 rfl dX7_belief_54 (q := 57) rfl e (fun t5 h_t5 e => ?_)
              refine hn_iconst hF dX7_belief_57 (q := 58) rfl ki_3 ?_
              refine hn_iconst hF dX7_belief_58 (q := 59) rfl ki_0 ?_
              refine hn_iload_n hF dX7_belief_59 (q := 60) rfl 3 rfl ?_
              refine hn_callVi (rest := [.int v4]) hF ms_X0_amountOn mv_X0_amountOn lk_X7_225 (hn_Io hV h_t5) rfl (by decide) [.int 3, .int 0, .int l2] rfl (Nat.le_of_ble_eq_true rfl) dX7_belief_60 (q := 63) rfl rfl e (fun v hv => cX0_amountOn_ hV h_t5 hv) (fun v6 e => ?_)
              refine hn_icmp_lt hF dX7_belief_63 (t := 70) (q := 66) rfl rfl e (fun e => ?_) (fun e => ?_)
              · refine hn_iconst hF dX7_belief_70 (q := 71) rfl ki_0 ?_
                exact hn_iretM hF hQ dX7_belief_71 e
              · refine hn_iconst hF dX7_belief_66 (q := 67) rfl ki_1 ?_
                refine hn_goto hF dX7_belief_67 (q := 71) rfl ?_
                exact hn_iretM hF hQ dX7_belief_71 e
            · refine hn_iload hF dX7_belief_48 (q := 50) rfl 0 rfl ?_
              exact hn_iretM hF hQ dX7_belief_50 e
          · refine hn_ldc hF kd_X7_204 dX7_belief_33 (q := 35) rfl ?_
            exact hn_iretM hF hQ dX7_belief_35 e
        · refine hn_ldc hF kd_X7_203 dX7_belief_23 (q := 25) rfl ?_
          exact hn_iretM hF hQ dX7_belief_25 e
theorem cX7_belief_ {B : hn_B} {F : Nat} {μ : hn_M} {R : Int32 × hn_M} {l1 : Int32} {l2 : Int32} {l3 : Int32} (hV : hn_V B hn_nA) (e : fX7_belief F l1 l2 l3 μ = some R) : hn_C yX7_belief cX7_belief 5 (some .int) 6 B [.ref (hn_base B + 0), .int l1, .int l2, .int l3] μ (some (.int R.1), R.2) :=
  hn_C.of RX7 (by decide) rfl (Nat.le_of_ble_eq_true rfl) (fun _ hF hQ => gX7_belief hF hQ hV e)
/-! HandNews.isForbidden(I)Z -/
def fX7_isForbidden (F : Nat) (μ : hn_M) (l1 : Int32) : Option Int32 := hn_rd μ 12 30 l1 fun v1 => hn_it (μ 0 7) fun t2 => hn_rd μ 7 12 v1 fun v3 => hn_rd μ 13 30 l1 fun v4 => hn_rd μ 47 12 v1 fun v5 => hn_rd μ 48 12 v1 fun v6 => (fX0_forbids F t2 μ v3 v4 v5 v6).bind fun v7 => hn_bo v7 (some v7)
set_option maxHeartbeats 1000000 in
theorem gX7_isForbidden {Z : hn_Z} {B : hn_B} {F : Nat} {μ : hn_M} {R : Int32} (hF : hn_F Z B (0, 0) cX7_isForbidden 3 RX7 (some .boolean) 1) (hQ : hn_goal Z B (some (.int R), μ)) (hV : hn_V B hn_nA) {l1 : Int32} (e : fX7_isForbidden F μ l1 = some R) : hn_G Z B (0, 0) 3 0 [(0, .ref (hn_base B + 0)), (1, .int l1)] [] μ := by
  unfold fX7_isForbidden at e
  have a12 : hn_isA B 12 false 30 := hV 12 (by decide)
  have a13 : hn_isA B 13 false 30 := hV 13 (by decide)
  have a47 : hn_isA B 47 false 12 := hV 47 (by decide)
  have a48 : hn_isA B 48 false 12 := hV 48 (by decide)
  have a7 : hn_isA B 7 false 12 := hV 7 (by decide)
  have o0 : hn_isO B 0 7 hn_k0 := hV 0 (by decide)
  have o46 : hn_isO B 46 3 hn_k46 := hV 46 (by decide)
  have o6 : hn_isO B 6 1 hn_k6 := hV 6 (by decide)
  refine hn_aload_n hF dX7_isForbidden_0 (q := 1) rfl 0 rfl ?_
  refine hn_get hF fl_X7_19 o0 rfl rfl dX7_isForbidden_1 (q := 4) rfl ?_
  refine hn_get hF fl_X7_311 o6 rfl rfl dX7_isForbidden_4 (q := 7) rfl ?_
  refine hn_iload_n hF dX7_isForbidden_7 (q := 8) rfl 1 rfl ?_
  refine hn_ald hF a12 dX7_isForbidden_8 (q := 9) rfl e (fun v1 e => ?_)
  refine hn_istore_n hF dX7_isForbidden_9 (q := 10) rfl (i := 2) rfl (by decide) (L' := [(2, .int v1), (0, .ref (hn_base B + 0)), (1, .int l1)]) rfl ?_
  refine hn_aload_n hF dX7_isForbidden_10 (q := 11) rfl 1 rfl ?_
  refine hn_getIt hF fl_X7_58 o0 rfl dX7_isForbidden_11 (q := 14) rfl e (fun t2 h_t2 e => ?_)
  refine hn_aload_n hF dX7_isForbidden_14 (q := 15) rfl 1 rfl ?_
  refine hn_get hF fl_X7_19 o0 rfl rfl dX7_isForbidden_15 (q := 18) rfl ?_
  refine hn_get hF fl_X7_118 o6 rfl rfl dX7_isForbidden_18 (q := 21) rfl ?_
  refine hn_iload_n hF dX7_isForbidden_21 (q := 22) rfl 0 rfl ?_
  refine hn_ald hF a7 dX7_isForbidden_22 (q := 23) rfl e (fun v3 e => ?_)
  refine hn_aload_n hF dX7_isForbidden_23 (q := 24) rfl 1 rfl ?_
  refine hn_get hF fl_X7_19 o0 rfl rfl dX7_isForbidden_24 (q := 27) rfl ?_
  refine hn_get hF fl_X7_173 o6 rfl rfl dX7_isForbidden_27 (q := 30) rfl ?_
  refine hn_iload_n hF dX7_isForbidden_30 (q := 31) rfl 2 rfl ?_
  refine hn_ald hF a13 dX7_isForbidden_31 (q := 32) rfl e (fun v4 e => ?_)
  refine hn_aload_n hF dX7_isForbidden_32 (q := 33) rfl 1 rfl ?_
  refine hn_get hF fl_X7_30 o0 rfl rfl dX7_isForbidden_33 (q := 36) rfl ?_
  refine hn_get hF fl_X7_149 o46 rfl rfl dX7_isForbidden_36 (q := 39) rfl ?_
  refine hn_iload_n hF dX7_isForbidden_39 (q := 40) rfl 0 rfl ?_
  refine hn_ald hF a47 dX7_isForbidden_40 (q := 41) rfl e (fun v5 e => ?_)
  refine hn_aload_n hF dX7_isForbidden_41 (q := 42) rfl 1 rfl ?_
  refine hn_get hF fl_X7_30 o0 rfl rfl dX7_isForbidden_42 (q := 45) rfl ?_
  refine hn_get hF fl_X7_152 o46 rfl rfl dX7_isForbidden_45 (q := 48) rfl ?_
  refine hn_iload_n hF dX7_isForbidden_48 (q := 49) rfl 0 rfl ?_
  refine hn_ald hF a48 dX7_isForbidden_49 (q := 50) rfl e (fun v6 e => ?_)
  refine hn_callVi (rest := []) hF ms_X0_forbids mv_X0_forbids lk_X7_323 (hn_Io hV h_t2) rfl (by decide) [.int v3, .int v4, .int v5, .int v6] rfl (Nat.le_of_ble_eq_true rfl) dX7_isForbidden_50 (q := 53) rfl rfl e (fun v hv => cX0_forbids_ hV h_t2 hv) (fun v7 e => ?_)
  exact hn_zretPg hF hQ dX7_isForbidden_53 e
theorem cX7_isForbidden_ {B : hn_B} {F : Nat} {μ : hn_M} {R : Int32} {l1 : Int32} (hV : hn_V B hn_nA) (e : fX7_isForbidden F μ l1 = some R) : hn_C yX7_isForbidden cX7_isForbidden 3 (some .boolean) 1 B [.ref (hn_base B + 0), .int l1] μ (some (.int R), μ) :=
  hn_C.of RX7 (by decide) rfl (Nat.le_of_ble_eq_true rfl) (fun _ hF hQ => gX7_isForbidden hF hQ hV e)
/-! HandNews.banned(I)I -/
def fX7_banned_53 (F : Nat) (k21 : Int32 → Int32 → Int32 → hn_M → Option (Int32 × hn_M)) (l1 : Int32) (l2 : Int32) (l3 : Int32) (μ : hn_M) : Option (Int32 × hn_M) := k21 l1 l2 (l3 + 1) μ
def fX7_banned_59 (F : Nat) (l1 : Int32) (l2 : Int32) (μ : hn_M) : Option (Int32 × hn_M) := if l1 = (-1) then some (l2, μ) else some ((-4), μ)
def fX7_banned_21 (F : Nat) : Nat → Int32 → Int32 → Int32 → hn_M → Option (Int32 × hn_M)
  | 0, _, _, _, _ => none
  | n + 1, l1, l2, l3, μ => if μ 6 7 ≤ l3 then fX7_banned_59 F l1 l2 μ else (fX7_isForbidden F μ l3).bind fun v1 => if v1 = 0 then fX7_banned_53 F (fX7_banned_21 F n) l1 l2 l3 μ else if l2 = l1 then some (l3, μ) else fX7_banned_53 F (fX7_banned_21 F n) l1 (l2 + 1) l3 μ
def fX7_banned (F : Nat) (l1 : Int32) (μ : hn_M) : Option (Int32 × hn_M) := if (-1) ≤ l1 then (fX7_isQuarrel F μ).bind fun w2 => if w2.1 = 0 then fX7_banned_21 F F l1 0 0 w2.2 else some ((-2), w2.2) else some ((-1), μ)
set_option maxHeartbeats 1000000 in
theorem gX7_banned_53 {Z : hn_Z} {B : hn_B} {F : Nat} {R : Int32 × hn_M} (hF : hn_F Z B (0, 0) cX7_banned 4 RX7 (some .int) 6) (hQ : hn_goal Z B (some (.int R.1), R.2)) (hV : hn_V B hn_nA) {k21 : Int32 → Int32 → Int32 → hn_M → Option (Int32 × hn_M)} (H21 : ∀ (l1 : Int32) (l2 : Int32) (l3 : Int32) (μ : hn_M), k21 l1 l2 l3 μ = some R → hn_G Z B (0, 0) 4 21 [(0, .ref (hn_base B + 0)), (1, .int l1), (2, .int l2), (3, .int l3)] [] μ) {l1 : Int32} {l2 : Int32} {l3 : Int32} {μ : hn_M} (e : fX7_banned_53 F k21 l1 l2 l3 μ = some R) : hn_G Z B (0, 0) 4 53 [(0, .ref (hn_base B + 0)), (1, .int l1), (2, .int l2), (3, .int l3)] [] μ := by
  unfold fX7_banned_53 at e
  refine hn_iinc (p := 3) hF dX7_banned_53 (q := 56) rfl rfl (kn_1 _) (by decide) (L' := [(3, .int (l3 + 1)), (0, .ref (hn_base B + 0)), (1, .int l1), (2, .int l2)]) rfl ?_
  refine hn_goto hF dX7_banned_56 (q := 21) rfl ?_
  refine hn_sub [1, 2, 3, 0] (L' := [(0, .ref (hn_base B + 0)), (1, .int l1), (2, .int l2), (3, .int (l3 + 1))]) rfl ?_
  exact H21 l1 l2 (l3 + 1) μ e
set_option maxHeartbeats 1000000 in
theorem gX7_banned_59 {Z : hn_Z} {B : hn_B} {F : Nat} {R : Int32 × hn_M} (hF : hn_F Z B (0, 0) cX7_banned 4 RX7 (some .int) 6) (hQ : hn_goal Z B (some (.int R.1), R.2)) (hV : hn_V B hn_nA) {l1 : Int32} {l2 : Int32} {μ : hn_M} (e : fX7_banned_59 F l1 l2 μ = some R) : hn_G Z B (0, 0) 4 59 [(1, .int l1), (2, .int l2)] [] μ := by
  unfold fX7_banned_59 at e
  refine hn_iload_n hF dX7_banned_59 (q := 60) rfl 0 rfl ?_
  refine hn_iconst hF dX7_banned_60 (q := 61) rfl ki_m1 ?_
  refine hn_icmp_ne hF dX7_banned_61 (t := 68) (q := 64) rfl rfl e (fun e => ?_) (fun e => ?_)
  · refine hn_bipush hF dX7_banned_68 (q := 70) rfl kb_m4 ?_
    exact hn_iretM hF hQ dX7_banned_70 e
  · refine hn_iload_n hF dX7_banned_64 (q := 65) rfl 1 rfl ?_
    refine hn_goto hF dX7_banned_65 (q := 70) rfl ?_
    exact hn_iretM hF hQ dX7_banned_70 e
set_option maxHeartbeats 1000000 in
theorem gX7_banned_21 {Z : hn_Z} {B : hn_B} {F : Nat} {R : Int32 × hn_M} (hF : hn_F Z B (0, 0) cX7_banned 4 RX7 (some .int) 6) (hQ : hn_goal Z B (some (.int R.1), R.2)) (hV : hn_V B hn_nA) : ∀ (n : Nat) (l1 : Int32) (l2 : Int32) (l3 : Int32) (μ : hn_M), fX7_banned_21 F n l1 l2 l3 μ = some R → hn_G Z B (0, 0) 4 21 [(0, .ref (hn_base B + 0)), (1, .int l1), (2, .int l2), (3, .int l3)] [] μ := by
  have o0 : hn_isO B 0 7 hn_k0 := hV 0 (by decide)
  have o6 : hn_isO B 6 1 hn_k6 := hV 6 (by decide)
  intro n
  induction n with
  | zero => intro l1 l2 l3 μ e; rw [fX7_banned_21] at e; cases e
  | succ n ih =>
    intro l1 l2 l3 μ e
    rw [fX7_banned_21] at e
    refine hn_iload_n hF dX7_banned_21 (q := 22) rfl 3 rfl ?_
    refine hn_aload_n hF dX7_banned_22 (q := 23) rfl 0 rfl ?_
    refine hn_get hF fl_X7_19 o0 rfl rfl dX7_banned_23 (q := 26) rfl ?_
    refine hn_get hF fl_X7_159 o6 rfl rfl dX7_banned_26 (q := 29) rfl ?_
    refine hn_icmp_ge hF dX7_banned_29 (t := 59) (q := 32) rfl rfl e (fun e => ?_) (fun e => ?_)
    · refine hn_sub [1, 2] (L' := [(1, .int l1), (2, .int l2)]) rfl ?_
      exact gX7_banned_59 hF hQ hV e
    · refine hn_aload_n hF dX7_banned_32 (q := 33) rfl 0 rfl ?_
      refine hn_iload_n hF dX7_banned_33 (q := 34) rfl 3 rfl ?_
      refine hn_callVi (rest := []) hF ms_X7_isForbidden mv_X7_isForbidden lk_X7_241 o0 rfl (by decide) [.int l3] rfl (Nat.le_of_ble_eq_true rfl) dX7_banned_34 (q := 37) rfl rfl e (fun v hv => cX7_isForbidden_ hV hv) (fun v1 e => ?_)
      refine hn_if_ne hF dX7_banned_37 (t := 43) (q := 40) rfl rfl e (fun e => ?_) (fun e => ?_)
      · refine hn_iload_n hF dX7_banned_43 (q := 44) rfl 2 rfl ?_
        refine hn_iload_n hF dX7_banned_44 (q := 45) rfl 1 rfl ?_
        refine hn_icmp_ne hF dX7_banned_45 (t := 50) (q := 48) rfl rfl e (fun e => ?_) (fun e => ?_)
        · refine hn_iinc (p := 2) hF dX7_banned_50 (q := 53) rfl rfl (kn_1 _) (by decide) (L' := [(2, .int (l2 + 1)), (0, .ref (hn_base B + 0)), (1, .int l1), (3, .int l3)]) rfl ?_
          refine hn_sub [1, 2, 0, 3] (L' := [(0, .ref (hn_base B + 0)), (1, .int l1), (2, .int (l2 + 1)), (3, .int l3)]) rfl ?_
          exact gX7_banned_53 hF hQ hV ih e
        · refine hn_iload_n hF dX7_banned_48 (q := 49) rfl 3 rfl ?_
          exact hn_iretM hF hQ dX7_banned_49 e
      · refine hn_goto hF dX7_banned_40 (q := 53) rfl ?_
        exact gX7_banned_53 hF hQ hV ih e
set_option maxHeartbeats 1000000 in
theorem gX7_banned {Z : hn_Z} {B : hn_B} {F : Nat} {R : Int32 × hn_M} (hF : hn_F Z B (0, 0) cX7_banned 4 RX7 (some .int) 6) (hQ : hn_goal Z B (some (.int R.1), R.2)) (hV : hn_V B hn_nA) {l1 : Int32} {μ : hn_M} (e : fX7_banned F l1 μ = some R) : hn_G Z B (0, 0) 4 0 [(0, .ref (hn_base B + 0)), (1, .int l1)] [] μ := by
  unfold fX7_banned at e
  have o0 : hn_isO B 0 7 hn_k0 := hV 0 (by decide)
  refine hn_iload_n hF dX7_banned_0 (q := 1) rfl 1 rfl ?_
  refine hn_iconst hF dX7_banned_1 (q := 2) rfl ki_m1 ?_
  refine hn_icmp_ge hF dX7_banned_2 (t := 7) (q := 5) rfl rfl e (fun e => ?_) (fun e => ?_)
  · refine hn_aload_n hF dX7_banned_7 (q := 8) rfl 0 rfl ?_
    refine hn_callVm (rest := []) hF ms_X7_isQuarrel mv_X7_isQuarrel lk_X7_145 o0 rfl (by decide) [] rfl (Nat.le_of_ble_eq_true rfl) dX7_banned_8 (q := 11) rfl rfl e (fun v hv => cX7_isQuarrel_ hV hv) (fun w2 e => ?_)
    refine hn_if_eq hF dX7_banned_11 (t := 17) (q := 14) rfl rfl e (fun e => ?_) (fun e => ?_)
    · refine hn_iconst hF dX7_banned_17 (q := 18) rfl ki_0 ?_
      refine hn_istore_n hF dX7_banned_18 (q := 19) rfl (i := 2) rfl (by decide) (L' := [(2, .int 0), (0, .ref (hn_base B + 0)), (1, .int l1)]) rfl ?_
      refine hn_iconst hF dX7_banned_19 (q := 20) rfl ki_0 ?_
      refine hn_istore_n hF dX7_banned_20 (q := 21) rfl (i := 3) rfl (by decide) (L' := [(3, .int 0), (2, .int 0), (0, .ref (hn_base B + 0)), (1, .int l1)]) rfl ?_
      refine hn_sub [2, 3, 1, 0] (L' := [(0, .ref (hn_base B + 0)), (1, .int l1), (2, .int 0), (3, .int 0)]) rfl ?_
      exact gX7_banned_21 hF hQ hV F l1 0 0 w2.2 e
    · refine hn_bipush hF dX7_banned_14 (q := 16) rfl kb_m2 ?_
      exact hn_iretM hF hQ dX7_banned_16 e
  · refine hn_iconst hF dX7_banned_5 (q := 6) rfl ki_m1 ?_
    exact hn_iretM hF hQ dX7_banned_6 e
theorem cX7_banned_ {B : hn_B} {F : Nat} {μ : hn_M} {R : Int32 × hn_M} {l1 : Int32} (hV : hn_V B hn_nA) (e : fX7_banned F l1 μ = some R) : hn_C yX7_banned cX7_banned 4 (some .int) 6 B [.ref (hn_base B + 0), .int l1] μ (some (.int R.1), R.2) :=
  hn_C.of RX7 (by decide) rfl (Nat.le_of_ble_eq_true rfl) (fun _ hF hQ => gX7_banned hF hQ hV e)
/-! HandNews.truth(II)I -/
def fX7_truth (l1 : Int32) (l2 : Int32) (μ : hn_M) : Option (Int32 × hn_M) := (fX7_isThing l1).bind fun v1 => if v1 = 0 then some ((-100), μ) else if l2 < (-1) then some ((-100), μ) else if l2 ≤ 9999 then hn_rd μ 18 10 l1 fun v2 => hn_wr μ 18 10 l1 l2 fun μ3 => some (v2, μ3) else some ((-100), μ)
set_option maxHeartbeats 1000000 in
theorem gX7_truth {Z : hn_Z} {B : hn_B} {R : Int32 × hn_M} (hF : hn_F Z B (0, 0) cX7_truth 4 RX7 (some .int) 1) (hQ : hn_goal Z B (some (.int R.1), R.2)) (hV : hn_V B hn_nA) {l1 : Int32} {l2 : Int32} {μ : hn_M} (e : fX7_truth l1 l2 μ = some R) : hn_G Z B (0, 0) 4 0 [(0, .ref (hn_base B + 0)), (1, .int l1), (2, .int l2)] [] μ := by
  unfold fX7_truth at e
  have a18 : hn_isA B 18 false 10 := hV 18 (by decide)
  have o0 : hn_isO B 0 7 hn_k0 := hV 0 (by decide)
  have o6 : hn_isO B 6 1 hn_k6 := hV 6 (by decide)
  refine hn_iload_n hF dX7_truth_0 (q := 1) rfl 1 rfl ?_
  refine hn_callSi (rest := []) hF ms_X7_isThing mt_X7_isThing lk_X7_127 (by decide) [.int l1] rfl (Nat.le_of_ble_eq_true rfl) dX7_truth_1 (q := 4) rfl rfl e (fun v hv => cX7_isThing_ hv) (fun v1 e => ?_)
  refine hn_if_eq hF dX7_truth_4 (t := 19) (q := 7) rfl rfl e (fun e => ?_) (fun e => ?_)
  · refine hn_bipush hF dX7_truth_19 (q := 21) rfl kb_m100 ?_
    exact hn_iretM hF hQ dX7_truth_21 e
  · refine hn_iload_n hF dX7_truth_7 (q := 8) rfl 2 rfl ?_
    refine hn_iconst hF dX7_truth_8 (q := 9) rfl ki_m1 ?_
    refine hn_icmp_lt hF dX7_truth_9 (t := 19) (q := 12) rfl rfl e (fun e => ?_) (fun e => ?_)
    · refine hn_bipush hF dX7_truth_19 (q := 21) rfl kb_m100 ?_
      exact hn_iretM hF hQ dX7_truth_21 e
    · refine hn_iload_n hF dX7_truth_12 (q := 13) rfl 2 rfl ?_
      refine hn_sipush hF dX7_truth_13 (q := 16) rfl ks_9999 ?_
      refine hn_icmp_le hF dX7_truth_16 (t := 22) (q := 19) rfl rfl e (fun e => ?_) (fun e => ?_)
      · refine hn_aload_n hF dX7_truth_22 (q := 23) rfl 0 rfl ?_
        refine hn_get hF fl_X7_19 o0 rfl rfl dX7_truth_23 (q := 26) rfl ?_
        refine hn_get hF fl_X7_244 o6 rfl rfl dX7_truth_26 (q := 29) rfl ?_
        refine hn_iload_n hF dX7_truth_29 (q := 30) rfl 1 rfl ?_
        refine hn_ald hF a18 dX7_truth_30 (q := 31) rfl e (fun v2 e => ?_)
        refine hn_istore_n hF dX7_truth_31 (q := 32) rfl (i := 3) rfl (by decide) (L' := [(3, .int v2), (0, .ref (hn_base B + 0)), (1, .int l1), (2, .int l2)]) rfl ?_
        refine hn_aload_n hF dX7_truth_32 (q := 33) rfl 1 rfl ?_
        refine hn_get hF fl_X7_19 o0 rfl rfl dX7_truth_33 (q := 36) rfl ?_
        refine hn_get hF fl_X7_244 o6 rfl rfl dX7_truth_36 (q := 39) rfl ?_
        refine hn_iload_n hF dX7_truth_39 (q := 40) rfl 2 rfl ?_
        refine hn_iload_n hF dX7_truth_40 (q := 41) rfl 3 rfl ?_
        refine hn_ast hF a18 dX7_truth_41 (q := 42) rfl e (fun μ3 e => ?_)
        refine hn_iload_n hF dX7_truth_42 (q := 43) rfl 0 rfl ?_
        exact hn_iretM hF hQ dX7_truth_43 e
      · refine hn_bipush hF dX7_truth_19 (q := 21) rfl kb_m100 ?_
        exact hn_iretM hF hQ dX7_truth_21 e
theorem cX7_truth_ {B : hn_B} {μ : hn_M} {R : Int32 × hn_M} {l1 : Int32} {l2 : Int32} (hV : hn_V B hn_nA) (e : fX7_truth l1 l2 μ = some R) : hn_C yX7_truth cX7_truth 4 (some .int) 1 B [.ref (hn_base B + 0), .int l1, .int l2] μ (some (.int R.1), R.2) :=
  hn_C.of RX7 (by decide) rfl (Nat.le_of_ble_eq_true rfl) (fun _ hF hQ => gX7_truth hF hQ hV e)
/-! HandNews.isTried(I)Z -/
def fX7_isTried (μ : hn_M) (l1 : Int32) : Option Int32 := (fX1_isDenied μ l1).bind fun v1 => if v1 = 0 then (fX5_isVoice μ l1).bind fun v2 => if v2 = 0 then some 0 else hn_rd μ 13 30 l1 fun v3 => hn_rd μ 18 10 v3 fun v4 => if v4 = (-1) then some 0 else some 1 else some 0
set_option maxHeartbeats 1000000 in
theorem gX7_isTried {Z : hn_Z} {B : hn_B} {μ : hn_M} {R : Int32} (hF : hn_F Z B (0, 0) cX7_isTried 2 RX7 (some .boolean) 2) (hQ : hn_goal Z B (some (.int R), μ)) (hV : hn_V B hn_nA) {l1 : Int32} (e : fX7_isTried μ l1 = some R) : hn_G Z B (0, 0) 2 0 [(0, .ref (hn_base B + 0)), (1, .int l1)] [] μ := by
  unfold fX7_isTried at e
  have a13 : hn_isA B 13 false 30 := hV 13 (by decide)
  have a18 : hn_isA B 18 false 10 := hV 18 (by decide)
  have o0 : hn_isO B 0 7 hn_k0 := hV 0 (by decide)
  have o50 : hn_isO B 50 5 hn_k50 := hV 50 (by decide)
  have o6 : hn_isO B 6 1 hn_k6 := hV 6 (by decide)
  refine hn_aload_n hF dX7_isTried_0 (q := 1) rfl 0 rfl ?_
  refine hn_get hF fl_X7_19 o0 rfl rfl dX7_isTried_1 (q := 4) rfl ?_
  refine hn_iload_n hF dX7_isTried_4 (q := 5) rfl 1 rfl ?_
  refine hn_callVi (rest := []) hF ms_X1_isDenied mv_X1_isDenied lk_X7_195 o6 rfl (by decide) [.int l1] rfl (Nat.le_of_ble_eq_true rfl) dX7_isTried_5 (q := 8) rfl rfl e (fun v hv => cX1_isDenied_ hV hv) (fun v1 e => ?_)
  refine hn_if_ne hF dX7_isTried_8 (t := 47) (q := 11) rfl rfl e (fun e => ?_) (fun e => ?_)
  · refine hn_iconst hF dX7_isTried_47 (q := 48) rfl ki_0 ?_
    exact hn_zretP hF hQ dX7_isTried_48 (Or.inl rfl) e
  · refine hn_aload_n hF dX7_isTried_11 (q := 12) rfl 0 rfl ?_
    refine hn_get hF fl_X7_37 o0 rfl rfl dX7_isTried_12 (q := 15) rfl ?_
    refine hn_iload_n hF dX7_isTried_15 (q := 16) rfl 1 rfl ?_
    refine hn_callVi (rest := []) hF ms_X5_isVoice mv_X5_isVoice lk_X7_179 o50 rfl (by decide) [.int l1] rfl (Nat.le_of_ble_eq_true rfl) dX7_isTried_16 (q := 19) rfl rfl e (fun v hv => cX5_isVoice_ hV hv) (fun v2 e => ?_)
    refine hn_if_eq hF dX7_isTried_19 (t := 47) (q := 22) rfl rfl e (fun e => ?_) (fun e => ?_)
    · refine hn_iconst hF dX7_isTried_47 (q := 48) rfl ki_0 ?_
      exact hn_zretP hF hQ dX7_isTried_48 (Or.inl rfl) e
    · refine hn_aload_n hF dX7_isTried_22 (q := 23) rfl 0 rfl ?_
      refine hn_get hF fl_X7_19 o0 rfl rfl dX7_isTried_23 (q := 26) rfl ?_
      refine hn_get hF fl_X7_244 o6 rfl rfl dX7_isTried_26 (q := 29) rfl ?_
      refine hn_aload_n hF dX7_isTried_29 (q := 30) rfl 0 rfl ?_
      refine hn_get hF fl_X7_19 o0 rfl rfl dX7_isTried_30 (q := 33) rfl ?_
      refine hn_get hF fl_X7_173 o6 rfl rfl dX7_isTried_33 (q := 36) rfl ?_
      refine hn_iload_n hF dX7_isTried_36 (q := 37) rfl 1 rfl ?_
      refine hn_ald hF a13 dX7_isTried_37 (q := 38) rfl e (fun v3 e => ?_)
      refine hn_ald hF a18 dX7_isTried_38 (q := 39) rfl e (fun v4 e => ?_)
      refine hn_iconst hF dX7_isTried_39 (q := 40) rfl ki_m1 ?_
      refine hn_icmp_eq hF dX7_isTried_40 (t := 47) (q := 43) rfl rfl e (fun e => ?_) (fun e => ?_)
      · refine hn_iconst hF dX7_isTried_47 (q := 48) rfl ki_0 ?_
        exact hn_zretP hF hQ dX7_isTried_48 (Or.inl rfl) e
      · refine hn_iconst hF dX7_isTried_43 (q := 44) rfl ki_1 ?_
        refine hn_goto hF dX7_isTried_44 (q := 48) rfl ?_
        exact hn_zretP hF hQ dX7_isTried_48 (Or.inr rfl) e
theorem cX7_isTried_ {B : hn_B} {μ : hn_M} {R : Int32} {l1 : Int32} (hV : hn_V B hn_nA) (e : fX7_isTried μ l1 = some R) : hn_C yX7_isTried cX7_isTried 2 (some .boolean) 2 B [.ref (hn_base B + 0), .int l1] μ (some (.int R), μ) :=
  hn_C.of RX7 (by decide) rfl (Nat.le_of_ble_eq_true rfl) (fun _ hF hQ => gX7_isTried hF hQ hV e)
/-! HandNews.outcome(II)I -/
def fX7_outcome (μ : hn_M) (l1 : Int32) (l2 : Int32) : Option Int32 := hn_rd μ 14 30 l1 fun v1 => hn_rd μ 13 30 l1 fun v2 => hn_rd μ 18 10 v2 fun v3 => if l2 = 0 then if (if 0 ≤ v1 - v3 then v1 - v3 else 0 - (v1 - v3)) = 0 then some 1 else some 0 else if l2 = 1 then some 1 else some (if 0 ≤ v1 - v3 then v1 - v3 else 0 - (v1 - v3))
set_option maxHeartbeats 1000000 in
theorem gX7_outcome {Z : hn_Z} {B : hn_B} {μ : hn_M} {R : Int32} (hF : hn_F Z B (0, 0) cX7_outcome 4 RX7 (some .int) 1) (hQ : hn_goal Z B (some (.int R), μ)) (hV : hn_V B hn_nA) {l1 : Int32} {l2 : Int32} (e : fX7_outcome μ l1 l2 = some R) : hn_G Z B (0, 0) 4 0 [(0, .ref (hn_base B + 0)), (1, .int l1), (2, .int l2)] [] μ := by
  unfold fX7_outcome at e
  have a13 : hn_isA B 13 false 30 := hV 13 (by decide)
  have a14 : hn_isA B 14 false 30 := hV 14 (by decide)
  have a18 : hn_isA B 18 false 10 := hV 18 (by decide)
  have o0 : hn_isO B 0 7 hn_k0 := hV 0 (by decide)
  have o6 : hn_isO B 6 1 hn_k6 := hV 6 (by decide)
  refine hn_aload_n hF dX7_outcome_0 (q := 1) rfl 0 rfl ?_
  refine hn_get hF fl_X7_19 o0 rfl rfl dX7_outcome_1 (q := 4) rfl ?_
  refine hn_get hF fl_X7_308 o6 rfl rfl dX7_outcome_4 (q := 7) rfl ?_
  refine hn_iload_n hF dX7_outcome_7 (q := 8) rfl 1 rfl ?_
  refine hn_ald hF a14 dX7_outcome_8 (q := 9) rfl e (fun v1 e => ?_)
  refine hn_aload_n hF dX7_outcome_9 (q := 10) rfl 0 rfl ?_
  refine hn_get hF fl_X7_19 o0 rfl rfl dX7_outcome_10 (q := 13) rfl ?_
  refine hn_get hF fl_X7_244 o6 rfl rfl dX7_outcome_13 (q := 16) rfl ?_
  refine hn_aload_n hF dX7_outcome_16 (q := 17) rfl 0 rfl ?_
  refine hn_get hF fl_X7_19 o0 rfl rfl dX7_outcome_17 (q := 20) rfl ?_
  refine hn_get hF fl_X7_173 o6 rfl rfl dX7_outcome_20 (q := 23) rfl ?_
  refine hn_iload_n hF dX7_outcome_23 (q := 24) rfl 1 rfl ?_
  refine hn_ald hF a13 dX7_outcome_24 (q := 25) rfl e (fun v2 e => ?_)
  refine hn_ald hF a18 dX7_outcome_25 (q := 26) rfl e (fun v3 e => ?_)
  refine hn_isub hF dX7_outcome_26 (q := 27) rfl ?_
  refine hn_abs hF lm_X7_327 (Nat.le_of_ble_eq_true rfl) (Nat.le_of_ble_eq_true rfl) dX7_outcome_27 (q := 30) rfl ?_
  refine hn_istore_n hF dX7_outcome_30 (q := 31) rfl (i := 3) rfl (by decide) (L' := [(3, .int (if 0 ≤ v1 - v3 then v1 - v3 else 0 - (v1 - v3))), (0, .ref (hn_base B + 0)), (1, .int l1), (2, .int l2)]) rfl ?_
  refine hn_iload_n hF dX7_outcome_31 (q := 32) rfl 3 rfl ?_
  refine hn_if_ne hF dX7_outcome_32 (t := 45) (q := 35) rfl rfl e (fun e => ?_) (fun e => ?_)
  · refine hn_iload_n hF dX7_outcome_45 (q := 46) rfl 3 rfl ?_
    refine hn_iconst hF dX7_outcome_46 (q := 47) rfl ki_1 ?_
    refine hn_icmp_ne hF dX7_outcome_47 (t := 54) (q := 50) rfl rfl e (fun e => ?_) (fun e => ?_)
    · refine hn_iload_n hF dX7_outcome_54 (q := 55) rfl 0 rfl ?_
      exact hn_iretP hF hQ dX7_outcome_55 e
    · refine hn_iconst hF dX7_outcome_50 (q := 51) rfl ki_1 ?_
      refine hn_goto hF dX7_outcome_51 (q := 55) rfl ?_
      exact hn_iretP hF hQ dX7_outcome_55 e
  · refine hn_iload_n hF dX7_outcome_35 (q := 36) rfl 0 rfl ?_
    refine hn_if_ne hF dX7_outcome_36 (t := 43) (q := 39) rfl rfl e (fun e => ?_) (fun e => ?_)
    · refine hn_iconst hF dX7_outcome_43 (q := 44) rfl ki_0 ?_
      exact hn_iretP hF hQ dX7_outcome_44 e
    · refine hn_iconst hF dX7_outcome_39 (q := 40) rfl ki_1 ?_
      refine hn_goto hF dX7_outcome_40 (q := 44) rfl ?_
      exact hn_iretP hF hQ dX7_outcome_44 e
theorem cX7_outcome_ {B : hn_B} {μ : hn_M} {R : Int32} {l1 : Int32} {l2 : Int32} (hV : hn_V B hn_nA) (e : fX7_outcome μ l1 l2 = some R) : hn_C yX7_outcome cX7_outcome 4 (some .int) 1 B [.ref (hn_base B + 0), .int l1, .int l2] μ (some (.int R), μ) :=
  hn_C.of RX7 (by decide) rfl (Nat.le_of_ble_eq_true rfl) (fun _ hF hQ => gX7_outcome hF hQ hV e)
/-! HandNews.right(II)I -/
def fX7_right_77 (F : Nat) (k33 : Int32 → Int32 → Int32 → Int32 → hn_M → Option (Int32 × hn_M)) (l1 : Int32) (l2 : Int32) (l3 : Int32) (l4 : Int32) (μ : hn_M) : Option (Int32 × hn_M) := k33 l1 l2 l3 (l4 + 1) μ
def fX7_right_33 (F : Nat) : Nat → Int32 → Int32 → Int32 → Int32 → hn_M → Option (Int32 × hn_M)
  | 0, _, _, _, _, _ => none
  | n + 1, l1, l2, l3, l4, μ => if μ 6 7 ≤ l4 then some (l3, μ) else (fX1_writerOf μ l4).bind fun v1 => if v1 = l1 then (fX7_isTried μ l4).bind fun v2 => if v2 = 0 then fX7_right_77 F (fX7_right_33 F n) l1 l2 l3 l4 μ else (fX7_outcome μ l4 l2).bind fun v3 => fX7_right_77 F (fX7_right_33 F n) l1 l2 (l3 + v3) l4 μ else fX7_right_77 F (fX7_right_33 F n) l1 l2 l3 l4 μ
def fX7_right (F : Nat) (l1 : Int32) (l2 : Int32) (μ : hn_M) : Option (Int32 × hn_M) := (fX7_isWriter l1).bind fun v4 => if v4 = 0 then some ((-1), μ) else if l2 < 0 then some ((-1), μ) else if l2 ≤ 2 then (fX7_isQuarrel F μ).bind fun w5 => if w5.1 = 0 then fX7_right_33 F F l1 l2 0 0 w5.2 else some ((-2), w5.2) else some ((-1), μ)
set_option maxHeartbeats 1000000 in
theorem gX7_right_77 {Z : hn_Z} {B : hn_B} {F : Nat} {R : Int32 × hn_M} (hF : hn_F Z B (0, 0) cX7_right 5 RX7 (some .int) 6) (hQ : hn_goal Z B (some (.int R.1), R.2)) (hV : hn_V B hn_nA) {k33 : Int32 → Int32 → Int32 → Int32 → hn_M → Option (Int32 × hn_M)} (H33 : ∀ (l1 : Int32) (l2 : Int32) (l3 : Int32) (l4 : Int32) (μ : hn_M), k33 l1 l2 l3 l4 μ = some R → hn_G Z B (0, 0) 5 33 [(0, .ref (hn_base B + 0)), (1, .int l1), (2, .int l2), (3, .int l3), (4, .int l4)] [] μ) {l1 : Int32} {l2 : Int32} {l3 : Int32} {l4 : Int32} {μ : hn_M} (e : fX7_right_77 F k33 l1 l2 l3 l4 μ = some R) : hn_G Z B (0, 0) 5 77 [(0, .ref (hn_base B + 0)), (1, .int l1), (2, .int l2), (3, .int l3), (4, .int l4)] [] μ := by
  unfold fX7_right_77 at e
  refine hn_iinc (p := 4) hF dX7_right_77 (q := 80) rfl rfl (kn_1 _) (by decide) (L' := [(4, .int (l4 + 1)), (0, .ref (hn_base B + 0)), (1, .int l1), (2, .int l2), (3, .int l3)]) rfl ?_
  refine hn_goto hF dX7_right_80 (q := 33) rfl ?_
  refine hn_sub [1, 2, 3, 4, 0] (L' := [(0, .ref (hn_base B + 0)), (1, .int l1), (2, .int l2), (3, .int l3), (4, .int (l4 + 1))]) rfl ?_
  exact H33 l1 l2 l3 (l4 + 1) μ e
set_option maxHeartbeats 1000000 in
theorem gX7_right_33 {Z : hn_Z} {B : hn_B} {F : Nat} {R : Int32 × hn_M} (hF : hn_F Z B (0, 0) cX7_right 5 RX7 (some .int) 6) (hQ : hn_goal Z B (some (.int R.1), R.2)) (hV : hn_V B hn_nA) : ∀ (n : Nat) (l1 : Int32) (l2 : Int32) (l3 : Int32) (l4 : Int32) (μ : hn_M), fX7_right_33 F n l1 l2 l3 l4 μ = some R → hn_G Z B (0, 0) 5 33 [(0, .ref (hn_base B + 0)), (1, .int l1), (2, .int l2), (3, .int l3), (4, .int l4)] [] μ := by
  have o0 : hn_isO B 0 7 hn_k0 := hV 0 (by decide)
  have o6 : hn_isO B 6 1 hn_k6 := hV 6 (by decide)
  intro n
  induction n with
  | zero => intro l1 l2 l3 l4 μ e; rw [fX7_right_33] at e; cases e
  | succ n ih =>
    intro l1 l2 l3 l4 μ e
    rw [fX7_right_33] at e
    refine hn_iload hF dX7_right_33 (q := 35) rfl 4 rfl ?_
    refine hn_aload_n hF dX7_right_35 (q := 36) rfl 0 rfl ?_
    refine hn_get hF fl_X7_19 o0 rfl rfl dX7_right_36 (q := 39) rfl ?_
    refine hn_get hF fl_X7_159 o6 rfl rfl dX7_right_39 (q := 42) rfl ?_
    refine hn_icmp_ge hF dX7_right_42 (t := 83) (q := 45) rfl rfl e (fun e => ?_) (fun e => ?_)
    · refine hn_iload_n hF dX7_right_83 (q := 84) rfl 3 rfl ?_
      exact hn_iretM hF hQ dX7_right_84 e
    · refine hn_aload_n hF dX7_right_45 (q := 46) rfl 0 rfl ?_
      refine hn_get hF fl_X7_19 o0 rfl rfl dX7_right_46 (q := 49) rfl ?_
      refine hn_iload hF dX7_right_49 (q := 51) rfl 4 rfl ?_
      refine hn_callVi (rest := []) hF ms_X1_writerOf mv_X1_writerOf lk_X7_205 o6 rfl (by decide) [.int l4] rfl (Nat.le_of_ble_eq_true rfl) dX7_right_51 (q := 54) rfl rfl e (fun v hv => cX1_writerOf_ hV hv) (fun v1 e => ?_)
      refine hn_iload_n hF dX7_right_54 (q := 55) rfl 1 rfl ?_
      refine hn_icmp_ne hF dX7_right_55 (t := 77) (q := 58) rfl rfl e (fun e => ?_) (fun e => ?_)
      · exact gX7_right_77 hF hQ hV ih e
      · refine hn_aload_n hF dX7_right_58 (q := 59) rfl 0 rfl ?_
        refine hn_iload hF dX7_right_59 (q := 61) rfl 4 rfl ?_
        refine hn_callVi (rest := []) hF ms_X7_isTried mv_X7_isTried lk_X7_247 o0 rfl (by decide) [.int l4] rfl (Nat.le_of_ble_eq_true rfl) dX7_right_61 (q := 64) rfl rfl e (fun v hv => cX7_isTried_ hV hv) (fun v2 e => ?_)
        refine hn_if_eq hF dX7_right_64 (t := 77) (q := 67) rfl rfl e (fun e => ?_) (fun e => ?_)
        · exact gX7_right_77 hF hQ hV ih e
        · refine hn_iload_n hF dX7_right_67 (q := 68) rfl 3 rfl ?_
          refine hn_aload_n hF dX7_right_68 (q := 69) rfl 0 rfl ?_
          refine hn_iload hF dX7_right_69 (q := 71) rfl 4 rfl ?_
          refine hn_iload_n hF dX7_right_71 (q := 72) rfl 2 rfl ?_
          refine hn_callVi (rest := [.int l3]) hF ms_X7_outcome mv_X7_outcome lk_X7_250 o0 rfl (by decide) [.int l4, .int l2] rfl (Nat.le_of_ble_eq_true rfl) dX7_right_72 (q := 75) rfl rfl e (fun v hv => cX7_outcome_ hV hv) (fun v3 e => ?_)
          refine hn_iadd hF dX7_right_75 (q := 76) rfl ?_
          refine hn_istore_n hF dX7_right_76 (q := 77) rfl (i := 3) rfl (by decide) (L' := [(3, .int (l3 + v3)), (0, .ref (hn_base B + 0)), (1, .int l1), (2, .int l2), (4, .int l4)]) rfl ?_
          refine hn_sub [1, 2, 3, 0, 4] (L' := [(0, .ref (hn_base B + 0)), (1, .int l1), (2, .int l2), (3, .int (l3 + v3)), (4, .int l4)]) rfl ?_
          exact gX7_right_77 hF hQ hV ih e
set_option maxHeartbeats 1000000 in
theorem gX7_right {Z : hn_Z} {B : hn_B} {F : Nat} {R : Int32 × hn_M} (hF : hn_F Z B (0, 0) cX7_right 5 RX7 (some .int) 6) (hQ : hn_goal Z B (some (.int R.1), R.2)) (hV : hn_V B hn_nA) {l1 : Int32} {l2 : Int32} {μ : hn_M} (e : fX7_right F l1 l2 μ = some R) : hn_G Z B (0, 0) 5 0 [(0, .ref (hn_base B + 0)), (1, .int l1), (2, .int l2)] [] μ := by
  unfold fX7_right at e
  have o0 : hn_isO B 0 7 hn_k0 := hV 0 (by decide)
  refine hn_iload_n hF dX7_right_0 (q := 1) rfl 1 rfl ?_
  refine hn_callSi (rest := []) hF ms_X7_isWriter mt_X7_isWriter lk_X7_101 (by decide) [.int l1] rfl (Nat.le_of_ble_eq_true rfl) dX7_right_1 (q := 4) rfl rfl e (fun v hv => cX7_isWriter_ hv) (fun v4 e => ?_)
  refine hn_if_eq hF dX7_right_4 (t := 16) (q := 7) rfl rfl e (fun e => ?_) (fun e => ?_)
  · refine hn_iconst hF dX7_right_16 (q := 17) rfl ki_m1 ?_
    exact hn_iretM hF hQ dX7_right_17 e
  · refine hn_iload_n hF dX7_right_7 (q := 8) rfl 2 rfl ?_
    refine hn_if_lt hF dX7_right_8 (t := 16) (q := 11) rfl rfl e (fun e => ?_) (fun e => ?_)
    · refine hn_iconst hF dX7_right_16 (q := 17) rfl ki_m1 ?_
      exact hn_iretM hF hQ dX7_right_17 e
    · refine hn_iload_n hF dX7_right_11 (q := 12) rfl 2 rfl ?_
      refine hn_iconst hF dX7_right_12 (q := 13) rfl ki_2 ?_
      refine hn_icmp_le hF dX7_right_13 (t := 18) (q := 16) rfl rfl e (fun e => ?_) (fun e => ?_)
      · refine hn_aload_n hF dX7_right_18 (q := 19) rfl 0 rfl ?_
        refine hn_callVm (rest := []) hF ms_X7_isQuarrel mv_X7_isQuarrel lk_X7_145 o0 rfl (by decide) [] rfl (Nat.le_of_ble_eq_true rfl) dX7_right_19 (q := 22) rfl rfl e (fun v hv => cX7_isQuarrel_ hV hv) (fun w5 e => ?_)
        refine hn_if_eq hF dX7_right_22 (t := 28) (q := 25) rfl rfl e (fun e => ?_) (fun e => ?_)
        · refine hn_iconst hF dX7_right_28 (q := 29) rfl ki_0 ?_
          refine hn_istore_n hF dX7_right_29 (q := 30) rfl (i := 3) rfl (by decide) (L' := [(3, .int 0), (0, .ref (hn_base B + 0)), (1, .int l1), (2, .int l2)]) rfl ?_
          refine hn_iconst hF dX7_right_30 (q := 31) rfl ki_0 ?_
          refine hn_istore hF dX7_right_31 (q := 33) rfl (by decide) (L' := [(4, .int 0), (3, .int 0), (0, .ref (hn_base B + 0)), (1, .int l1), (2, .int l2)]) rfl ?_
          refine hn_sub [2, 3, 4, 1, 0] (L' := [(0, .ref (hn_base B + 0)), (1, .int l1), (2, .int l2), (3, .int 0), (4, .int 0)]) rfl ?_
          exact gX7_right_33 hF hQ hV F l1 l2 0 0 w5.2 e
        · refine hn_bipush hF dX7_right_25 (q := 27) rfl kb_m2 ?_
          exact hn_iretM hF hQ dX7_right_27 e
      · refine hn_iconst hF dX7_right_16 (q := 17) rfl ki_m1 ?_
        exact hn_iretM hF hQ dX7_right_17 e
theorem cX7_right_ {B : hn_B} {F : Nat} {μ : hn_M} {R : Int32 × hn_M} {l1 : Int32} {l2 : Int32} (hV : hn_V B hn_nA) (e : fX7_right F l1 l2 μ = some R) : hn_C yX7_right cX7_right 5 (some .int) 6 B [.ref (hn_base B + 0), .int l1, .int l2] μ (some (.int R.1), R.2) :=
  hn_C.of RX7 (by decide) rfl (Nat.le_of_ble_eq_true rfl) (fun _ hF hQ => gX7_right hF hQ hV e)
/-! HandNews.beyond(III)J -/
def fX7_beyond_41 (F : Nat) : Nat → Int32 → Int32 → Int64 → Int32 → Option Int64
  | 0, _, _, _, _ => none
  | n + 1, l1, l3, l4, l6 => if l1 < l6 then some l4 else (fX7_choices F l1 l6).bind fun v1 => (fX7_power F (l3 - 1) (l1 - l6)).bind fun v2 => fX7_beyond_41 F n l1 l3 (l4 + (v1 * v2)) (l6 + 1)
def fX7_beyond (F : Nat) (l1 : Int32) (l2 : Int32) (l3 : Int32) : Option Int64 := if l1 < 1 then some (-1) else if 15 < l1 then some (-1) else if l3 < 2 then some (-1) else if 10 < l3 then some (-1) else if l2 < 0 then some (-1) else if l2 ≤ l1 then fX7_beyond_41 F F l1 l3 0 l2 else some (-1)
set_option maxHeartbeats 1000000 in
theorem gX7_beyond_41 {Z : hn_Z} {B : hn_B} {F : Nat} {μ : hn_M} {R : Int64} (hF : hn_F Z B (0, 0) cX7_beyond 7 RX7 (some .long) 1) (hQ : hn_goal Z B (some (.long R), μ)) : ∀ (n : Nat) (l1 : Int32) (l3 : Int32) (l4 : Int64) (l6 : Int32), fX7_beyond_41 F n l1 l3 l4 l6 = some R → hn_G Z B (0, 0) 7 41 [(1, .int l1), (3, .int l3), (4, .long l4), (6, .int l6)] [] μ := by
  intro n
  induction n with
  | zero => intro l1 l3 l4 l6 e; rw [fX7_beyond_41] at e; cases e
  | succ n ih =>
    intro l1 l3 l4 l6 e
    rw [fX7_beyond_41] at e
    refine hn_iload hF dX7_beyond_41 (q := 43) rfl 3 rfl ?_
    refine hn_iload_n hF dX7_beyond_43 (q := 44) rfl 0 rfl ?_
    refine hn_icmp_gt hF dX7_beyond_44 (t := 75) (q := 47) rfl rfl e (fun e => ?_) (fun e => ?_)
    · refine hn_lload hF dX7_beyond_75 (q := 77) rfl 2 rfl ?_
      exact hn_lretP hF hQ dX7_beyond_77 e
    · refine hn_lload hF dX7_beyond_47 (q := 49) rfl 2 rfl ?_
      refine hn_iload_n hF dX7_beyond_49 (q := 50) rfl 0 rfl ?_
      refine hn_iload hF dX7_beyond_50 (q := 52) rfl 3 rfl ?_
      refine hn_callSl (rest := [.long l4]) hF ms_X7_choices mt_X7_choices lk_X7_255 (by decide) [.int l1, .int l6] rfl (Nat.le_of_ble_eq_true rfl) dX7_beyond_52 (q := 55) rfl rfl e (fun v hv => cX7_choices_ hv) (fun v1 e => ?_)
      refine hn_iload_n hF dX7_beyond_55 (q := 56) rfl 1 rfl ?_
      refine hn_iconst hF dX7_beyond_56 (q := 57) rfl ki_1 ?_
      refine hn_isub hF dX7_beyond_57 (q := 58) rfl ?_
      refine hn_iload_n hF dX7_beyond_58 (q := 59) rfl 0 rfl ?_
      refine hn_iload hF dX7_beyond_59 (q := 61) rfl 3 rfl ?_
      refine hn_isub hF dX7_beyond_61 (q := 62) rfl ?_
      refine hn_callSl (rest := [.long v1, .long l4]) hF ms_X7_power mt_X7_power lk_X7_259 (by decide) [.int (l3 - 1), .int (l1 - l6)] rfl (Nat.le_of_ble_eq_true rfl) dX7_beyond_62 (q := 65) rfl rfl e (fun v hv => cX7_power_ hv) (fun v2 e => ?_)
      refine hn_lmul hF dX7_beyond_65 (q := 66) rfl ?_
      refine hn_ladd hF dX7_beyond_66 (q := 67) rfl ?_
      refine hn_lstore hF dX7_beyond_67 (q := 69) rfl (by decide) (L' := [(4, .long (l4 + (v1 * v2))), (1, .int l1), (3, .int l3), (6, .int l6)]) rfl ?_
      refine hn_iinc (p := 3) hF dX7_beyond_69 (q := 72) rfl rfl (kn_1 _) (by decide) (L' := [(6, .int (l6 + 1)), (4, .long (l4 + (v1 * v2))), (1, .int l1), (3, .int l3)]) rfl ?_
      refine hn_goto hF dX7_beyond_72 (q := 41) rfl ?_
      refine hn_sub [2, 3, 1, 0] (L' := [(1, .int l1), (3, .int l3), (4, .long (l4 + (v1 * v2))), (6, .int (l6 + 1))]) rfl ?_
      exact ih l1 l3 (l4 + (v1 * v2)) (l6 + 1) e
set_option maxHeartbeats 1000000 in
theorem gX7_beyond {Z : hn_Z} {B : hn_B} {F : Nat} {μ : hn_M} {R : Int64} (hF : hn_F Z B (0, 0) cX7_beyond 7 RX7 (some .long) 1) (hQ : hn_goal Z B (some (.long R), μ)) {l1 : Int32} {l2 : Int32} {l3 : Int32} (e : fX7_beyond F l1 l2 l3 = some R) : hn_G Z B (0, 0) 7 0 [(0, .ref (hn_base B + 0)), (1, .int l1), (2, .int l2), (3, .int l3)] [] μ := by
  unfold fX7_beyond at e
  refine hn_iload_n hF dX7_beyond_0 (q := 1) rfl 1 rfl ?_
  refine hn_iconst hF dX7_beyond_1 (q := 2) rfl ki_1 ?_
  refine hn_icmp_lt hF dX7_beyond_2 (t := 31) (q := 5) rfl rfl e (fun e => ?_) (fun e => ?_)
  · refine hn_ldc2 hF kd_X7_253 dX7_beyond_31 (q := 34) rfl ?_
    exact hn_lretP hF hQ dX7_beyond_34 e
  · refine hn_iload_n hF dX7_beyond_5 (q := 6) rfl 1 rfl ?_
    refine hn_bipush hF dX7_beyond_6 (q := 8) rfl kb_15 ?_
    refine hn_icmp_gt hF dX7_beyond_8 (t := 31) (q := 11) rfl rfl e (fun e => ?_) (fun e => ?_)
    · refine hn_ldc2 hF kd_X7_253 dX7_beyond_31 (q := 34) rfl ?_
      exact hn_lretP hF hQ dX7_beyond_34 e
    · refine hn_iload_n hF dX7_beyond_11 (q := 12) rfl 3 rfl ?_
      refine hn_iconst hF dX7_beyond_12 (q := 13) rfl ki_2 ?_
      refine hn_icmp_lt hF dX7_beyond_13 (t := 31) (q := 16) rfl rfl e (fun e => ?_) (fun e => ?_)
      · refine hn_ldc2 hF kd_X7_253 dX7_beyond_31 (q := 34) rfl ?_
        exact hn_lretP hF hQ dX7_beyond_34 e
      · refine hn_iload_n hF dX7_beyond_16 (q := 17) rfl 3 rfl ?_
        refine hn_bipush hF dX7_beyond_17 (q := 19) rfl kb_10 ?_
        refine hn_icmp_gt hF dX7_beyond_19 (t := 31) (q := 22) rfl rfl e (fun e => ?_) (fun e => ?_)
        · refine hn_ldc2 hF kd_X7_253 dX7_beyond_31 (q := 34) rfl ?_
          exact hn_lretP hF hQ dX7_beyond_34 e
        · refine hn_iload_n hF dX7_beyond_22 (q := 23) rfl 2 rfl ?_
          refine hn_if_lt hF dX7_beyond_23 (t := 31) (q := 26) rfl rfl e (fun e => ?_) (fun e => ?_)
          · refine hn_ldc2 hF kd_X7_253 dX7_beyond_31 (q := 34) rfl ?_
            exact hn_lretP hF hQ dX7_beyond_34 e
          · refine hn_iload_n hF dX7_beyond_26 (q := 27) rfl 2 rfl ?_
            refine hn_iload_n hF dX7_beyond_27 (q := 28) rfl 1 rfl ?_
            refine hn_icmp_le hF dX7_beyond_28 (t := 35) (q := 31) rfl rfl e (fun e => ?_) (fun e => ?_)
            · refine hn_lconst hF dX7_beyond_35 (q := 36) rfl kl_0 ?_
              refine hn_lstore hF dX7_beyond_36 (q := 38) rfl (by decide) (L' := [(4, .long 0), (0, .ref (hn_base B + 0)), (1, .int l1), (2, .int l2), (3, .int l3)]) rfl ?_
              refine hn_iload_n hF dX7_beyond_38 (q := 39) rfl 3 rfl ?_
              refine hn_istore hF dX7_beyond_39 (q := 41) rfl (by decide) (L' := [(6, .int l2), (4, .long 0), (0, .ref (hn_base B + 0)), (1, .int l1), (2, .int l2), (3, .int l3)]) rfl ?_
              refine hn_sub [3, 5, 1, 0] (L' := [(1, .int l1), (3, .int l3), (4, .long 0), (6, .int l2)]) rfl ?_
              exact gX7_beyond_41 hF hQ F l1 l3 0 l2 e
            · refine hn_ldc2 hF kd_X7_253 dX7_beyond_31 (q := 34) rfl ?_
              exact hn_lretP hF hQ dX7_beyond_34 e
theorem cX7_beyond_ {B : hn_B} {F : Nat} {μ : hn_M} {R : Int64} {l1 : Int32} {l2 : Int32} {l3 : Int32} (e : fX7_beyond F l1 l2 l3 = some R) : hn_C yX7_beyond cX7_beyond 7 (some .long) 1 B [.ref (hn_base B + 0), .int l1, .int l2, .int l3] μ (some (.long R), μ) :=
  hn_C.of RX7 (by decide) rfl (Nat.le_of_ble_eq_true rfl) (fun _ hF hQ => gX7_beyond hF hQ e)
/-! HandNews.firstKnown(II)I -/
def fX7_firstKnown (μ : hn_M) (l1 : Int32) (l2 : Int32) : Option Int32 := hn_rd μ 16 10 l1 fun v1 => (fX2_leads μ v1 l2).bind fun v2 => if v2 = 0 then some (-4) else hn_rd μ 17 10 l1 fun v3 => (fX2_days μ v1 l2).bind fun v4 => some (v3 + v4)
set_option maxHeartbeats 1000000 in
theorem gX7_firstKnown {Z : hn_Z} {B : hn_B} {μ : hn_M} {R : Int32} (hF : hn_F Z B (0, 0) cX7_firstKnown 4 RX7 (some .int) 1) (hQ : hn_goal Z B (some (.int R), μ)) (hV : hn_V B hn_nA) {l1 : Int32} {l2 : Int32} (e : fX7_firstKnown μ l1 l2 = some R) : hn_G Z B (0, 0) 4 0 [(0, .ref (hn_base B + 0)), (1, .int l1), (2, .int l2)] [] μ := by
  unfold fX7_firstKnown at e
  have a16 : hn_isA B 16 false 10 := hV 16 (by decide)
  have a17 : hn_isA B 17 false 10 := hV 17 (by decide)
  have o0 : hn_isO B 0 7 hn_k0 := hV 0 (by decide)
  have o1 : hn_isO B 1 2 hn_k1 := hV 1 (by decide)
  have o6 : hn_isO B 6 1 hn_k6 := hV 6 (by decide)
  refine hn_aload_n hF dX7_firstKnown_0 (q := 1) rfl 0 rfl ?_
  refine hn_get hF fl_X7_19 o0 rfl rfl dX7_firstKnown_1 (q := 4) rfl ?_
  refine hn_get hF fl_X7_139 o6 rfl rfl dX7_firstKnown_4 (q := 7) rfl ?_
  refine hn_iload_n hF dX7_firstKnown_7 (q := 8) rfl 1 rfl ?_
  refine hn_ald hF a16 dX7_firstKnown_8 (q := 9) rfl e (fun v1 e => ?_)
  refine hn_istore_n hF dX7_firstKnown_9 (q := 10) rfl (i := 3) rfl (by decide) (L' := [(3, .int v1), (0, .ref (hn_base B + 0)), (1, .int l1), (2, .int l2)]) rfl ?_
  refine hn_aload_n hF dX7_firstKnown_10 (q := 11) rfl 1 rfl ?_
  refine hn_get hF fl_X7_10 o0 rfl rfl dX7_firstKnown_11 (q := 14) rfl ?_
  refine hn_iload_n hF dX7_firstKnown_14 (q := 15) rfl 0 rfl ?_
  refine hn_iload_n hF dX7_firstKnown_15 (q := 16) rfl 3 rfl ?_
  refine hn_callVi (rest := []) hF ms_X2_leads mv_X2_leads lk_X7_90 o1 rfl (by decide) [.int v1, .int l2] rfl (Nat.le_of_ble_eq_true rfl) dX7_firstKnown_16 (q := 19) rfl rfl e (fun v hv => cX2_leads_ hV.P hv) (fun v2 e => ?_)
  refine hn_if_ne hF dX7_firstKnown_19 (t := 25) (q := 22) rfl rfl e (fun e => ?_) (fun e => ?_)
  · refine hn_aload_n hF dX7_firstKnown_25 (q := 26) rfl 1 rfl ?_
    refine hn_get hF fl_X7_19 o0 rfl rfl dX7_firstKnown_26 (q := 29) rfl ?_
    refine hn_get hF fl_X7_142 o6 rfl rfl dX7_firstKnown_29 (q := 32) rfl ?_
    refine hn_iload_n hF dX7_firstKnown_32 (q := 33) rfl 2 rfl ?_
    refine hn_ald hF a17 dX7_firstKnown_33 (q := 34) rfl e (fun v3 e => ?_)
    refine hn_aload_n hF dX7_firstKnown_34 (q := 35) rfl 1 rfl ?_
    refine hn_get hF fl_X7_10 o0 rfl rfl dX7_firstKnown_35 (q := 38) rfl ?_
    refine hn_iload_n hF dX7_firstKnown_38 (q := 39) rfl 0 rfl ?_
    refine hn_iload_n hF dX7_firstKnown_39 (q := 40) rfl 3 rfl ?_
    refine hn_callVi (rest := [.int v3]) hF ms_X2_days mv_X2_days lk_X7_94 o1 rfl (by decide) [.int v1, .int l2] rfl (Nat.le_of_ble_eq_true rfl) dX7_firstKnown_40 (q := 43) rfl rfl e (fun v hv => cX2_days_ hV.P hv) (fun v4 e => ?_)
    refine hn_iadd hF dX7_firstKnown_43 (q := 44) rfl ?_
    exact hn_iretP hF hQ dX7_firstKnown_44 e
  · refine hn_bipush hF dX7_firstKnown_22 (q := 24) rfl kb_m4 ?_
    exact hn_iretP hF hQ dX7_firstKnown_24 e
theorem cX7_firstKnown_ {B : hn_B} {μ : hn_M} {R : Int32} {l1 : Int32} {l2 : Int32} (hV : hn_V B hn_nA) (e : fX7_firstKnown μ l1 l2 = some R) : hn_C yX7_firstKnown cX7_firstKnown 4 (some .int) 1 B [.ref (hn_base B + 0), .int l1, .int l2] μ (some (.int R), μ) :=
  hn_C.of RX7 (by decide) rfl (Nat.le_of_ble_eq_true rfl) (fun _ hF hQ => gX7_firstKnown hF hQ hV e)
/-! HandNews.lagBehind(II)I -/
def fX7_lagBehind_47 (F : Nat) (μ : hn_M) (k6 : Int32 → Int32 → Int32 → Int32 → Option Int32) (l1 : Int32) (l2 : Int32) (l3 : Int32) (l4 : Int32) : Option Int32 := k6 l1 l2 l3 (l4 + 1)
def fX7_lagBehind_42 (F : Nat) (μ : hn_M) (k6 : Int32 → Int32 → Int32 → Int32 → Option Int32) (l1 : Int32) (l2 : Int32) (l4 : Int32) (l5 : Int32) : Option Int32 := fX7_lagBehind_47 F μ k6 l1 l2 (l5 - l2) l4
def fX7_lagBehind_6 (F : Nat) (μ : hn_M) : Nat → Int32 → Int32 → Int32 → Int32 → Option Int32
  | 0, _, _, _, _ => none
  | n + 1, l1, l2, l3, l4 => if 6 ≤ l4 then some l3 else (fX7_firstKnown μ l1 l4).bind fun v1 => if v1 ≤ l2 then fX7_lagBehind_47 F μ (fX7_lagBehind_6 F μ n) l1 l2 l3 l4 else if l3 = (-4) then fX7_lagBehind_42 F μ (fX7_lagBehind_6 F μ n) l1 l2 l4 v1 else if l3 ≤ v1 - l2 then fX7_lagBehind_47 F μ (fX7_lagBehind_6 F μ n) l1 l2 l3 l4 else fX7_lagBehind_42 F μ (fX7_lagBehind_6 F μ n) l1 l2 l4 v1
def fX7_lagBehind (F : Nat) (μ : hn_M) (l1 : Int32) (l2 : Int32) : Option Int32 := fX7_lagBehind_6 F μ F l1 l2 (-4) 0
set_option maxHeartbeats 1000000 in
theorem gX7_lagBehind_47 {Z : hn_Z} {B : hn_B} {F : Nat} {μ : hn_M} {R : Int32} (hF : hn_F Z B (0, 0) cX7_lagBehind 6 RX7 (some .int) 2) (hQ : hn_goal Z B (some (.int R), μ)) (hV : hn_V B hn_nA) {k6 : Int32 → Int32 → Int32 → Int32 → Option Int32} (H6 : ∀ (l1 : Int32) (l2 : Int32) (l3 : Int32) (l4 : Int32), k6 l1 l2 l3 l4 = some R → hn_G Z B (0, 0) 6 6 [(0, .ref (hn_base B + 0)), (1, .int l1), (2, .int l2), (3, .int l3), (4, .int l4)] [] μ) {l1 : Int32} {l2 : Int32} {l3 : Int32} {l4 : Int32} (e : fX7_lagBehind_47 F μ k6 l1 l2 l3 l4 = some R) : hn_G Z B (0, 0) 6 47 [(0, .ref (hn_base B + 0)), (1, .int l1), (2, .int l2), (3, .int l3), (4, .int l4)] [] μ := by
  unfold fX7_lagBehind_47 at e
  refine hn_iinc (p := 4) hF dX7_lagBehind_47 (q := 50) rfl rfl (kn_1 _) (by decide) (L' := [(4, .int (l4 + 1)), (0, .ref (hn_base B + 0)), (1, .int l1), (2, .int l2), (3, .int l3)]) rfl ?_
  refine hn_goto hF dX7_lagBehind_50 (q := 6) rfl ?_
  refine hn_sub [1, 2, 3, 4, 0] (L' := [(0, .ref (hn_base B + 0)), (1, .int l1), (2, .int l2), (3, .int l3), (4, .int (l4 + 1))]) rfl ?_
  exact H6 l1 l2 l3 (l4 + 1) e
set_option maxHeartbeats 1000000 in
theorem gX7_lagBehind_42 {Z : hn_Z} {B : hn_B} {F : Nat} {μ : hn_M} {R : Int32} (hF : hn_F Z B (0, 0) cX7_lagBehind 6 RX7 (some .int) 2) (hQ : hn_goal Z B (some (.int R), μ)) (hV : hn_V B hn_nA) {k6 : Int32 → Int32 → Int32 → Int32 → Option Int32} (H6 : ∀ (l1 : Int32) (l2 : Int32) (l3 : Int32) (l4 : Int32), k6 l1 l2 l3 l4 = some R → hn_G Z B (0, 0) 6 6 [(0, .ref (hn_base B + 0)), (1, .int l1), (2, .int l2), (3, .int l3), (4, .int l4)] [] μ) {l1 : Int32} {l2 : Int32} {l4 : Int32} {l5 : Int32} (e : fX7_lagBehind_42 F μ k6 l1 l2 l4 l5 = some R) : hn_G Z B (0, 0) 6 42 [(0, .ref (hn_base B + 0)), (1, .int l1), (2, .int l2), (4, .int l4), (5, .int l5)] [] μ := by
  unfold fX7_lagBehind_42 at e
  refine hn_iload hF dX7_lagBehind_42 (q := 44) rfl 4 rfl ?_
  refine hn_iload_n hF dX7_lagBehind_44 (q := 45) rfl 2 rfl ?_
  refine hn_isub hF dX7_lagBehind_45 (q := 46) rfl ?_
  refine hn_istore_n hF dX7_lagBehind_46 (q := 47) rfl (i := 3) rfl (by decide) (L' := [(3, .int (l5 - l2)), (0, .ref (hn_base B + 0)), (1, .int l1), (2, .int l2), (4, .int l4), (5, .int l5)]) rfl ?_
  refine hn_sub [1, 2, 3, 0, 4] (L' := [(0, .ref (hn_base B + 0)), (1, .int l1), (2, .int l2), (3, .int (l5 - l2)), (4, .int l4)]) rfl ?_
  exact gX7_lagBehind_47 hF hQ hV H6 e
set_option maxHeartbeats 1000000 in
theorem gX7_lagBehind_6 {Z : hn_Z} {B : hn_B} {F : Nat} {μ : hn_M} {R : Int32} (hF : hn_F Z B (0, 0) cX7_lagBehind 6 RX7 (some .int) 2) (hQ : hn_goal Z B (some (.int R), μ)) (hV : hn_V B hn_nA) : ∀ (n : Nat) (l1 : Int32) (l2 : Int32) (l3 : Int32) (l4 : Int32), fX7_lagBehind_6 F μ n l1 l2 l3 l4 = some R → hn_G Z B (0, 0) 6 6 [(0, .ref (hn_base B + 0)), (1, .int l1), (2, .int l2), (3, .int l3), (4, .int l4)] [] μ := by
  have o0 : hn_isO B 0 7 hn_k0 := hV 0 (by decide)
  intro n
  induction n with
  | zero => intro l1 l2 l3 l4 e; rw [fX7_lagBehind_6] at e; cases e
  | succ n ih =>
    intro l1 l2 l3 l4 e
    rw [fX7_lagBehind_6] at e
    refine hn_iload hF dX7_lagBehind_6 (q := 8) rfl 4 rfl ?_
    refine hn_bipush hF dX7_lagBehind_8 (q := 10) rfl kb_6 ?_
    refine hn_icmp_ge hF dX7_lagBehind_10 (t := 53) (q := 13) rfl rfl e (fun e => ?_) (fun e => ?_)
    · refine hn_iload_n hF dX7_lagBehind_53 (q := 54) rfl 3 rfl ?_
      exact hn_iretP hF hQ dX7_lagBehind_54 e
    · refine hn_aload_n hF dX7_lagBehind_13 (q := 14) rfl 0 rfl ?_
      refine hn_iload_n hF dX7_lagBehind_14 (q := 15) rfl 1 rfl ?_
      refine hn_iload hF dX7_lagBehind_15 (q := 17) rfl 4 rfl ?_
      refine hn_callVi (rest := []) hF ms_X7_firstKnown mv_X7_firstKnown lk_X7_262 o0 rfl (by decide) [.int l1, .int l4] rfl (Nat.le_of_ble_eq_true rfl) dX7_lagBehind_17 (q := 20) rfl rfl e (fun v hv => cX7_firstKnown_ hV hv) (fun v1 e => ?_)
      refine hn_istore hF dX7_lagBehind_20 (q := 22) rfl (by decide) (L' := [(5, .int v1), (0, .ref (hn_base B + 0)), (1, .int l1), (2, .int l2), (3, .int l3), (4, .int l4)]) rfl ?_
      refine hn_iload hF dX7_lagBehind_22 (q := 24) rfl 0 rfl ?_
      refine hn_iload_n hF dX7_lagBehind_24 (q := 25) rfl 3 rfl ?_
      refine hn_icmp_le hF dX7_lagBehind_25 (t := 47) (q := 28) rfl rfl e (fun e => ?_) (fun e => ?_)
      · refine hn_sub [1, 2, 3, 4, 5] (L' := [(0, .ref (hn_base B + 0)), (1, .int l1), (2, .int l2), (3, .int l3), (4, .int l4)]) rfl ?_
        exact gX7_lagBehind_47 hF hQ hV ih e
      · refine hn_iload_n hF dX7_lagBehind_28 (q := 29) rfl 4 rfl ?_
        refine hn_bipush hF dX7_lagBehind_29 (q := 31) rfl kb_m4 ?_
        refine hn_icmp_eq hF dX7_lagBehind_31 (t := 42) (q := 34) rfl rfl e (fun e => ?_) (fun e => ?_)
        · refine hn_sub [1, 2, 3, 5, 0] (L' := [(0, .ref (hn_base B + 0)), (1, .int l1), (2, .int l2), (4, .int l4), (5, .int v1)]) rfl ?_
          exact gX7_lagBehind_42 hF hQ hV ih e
        · refine hn_iload hF dX7_lagBehind_34 (q := 36) rfl 0 rfl ?_
          refine hn_iload_n hF dX7_lagBehind_36 (q := 37) rfl 3 rfl ?_
          refine hn_isub hF dX7_lagBehind_37 (q := 38) rfl ?_
          refine hn_iload_n hF dX7_lagBehind_38 (q := 39) rfl 4 rfl ?_
          refine hn_icmp_ge hF dX7_lagBehind_39 (t := 47) (q := 42) rfl rfl e (fun e => ?_) (fun e => ?_)
          · refine hn_sub [1, 2, 3, 4, 5] (L' := [(0, .ref (hn_base B + 0)), (1, .int l1), (2, .int l2), (3, .int l3), (4, .int l4)]) rfl ?_
            exact gX7_lagBehind_47 hF hQ hV ih e
          · refine hn_sub [1, 2, 3, 5, 0] (L' := [(0, .ref (hn_base B + 0)), (1, .int l1), (2, .int l2), (4, .int l4), (5, .int v1)]) rfl ?_
            exact gX7_lagBehind_42 hF hQ hV ih e
set_option maxHeartbeats 1000000 in
theorem gX7_lagBehind {Z : hn_Z} {B : hn_B} {F : Nat} {μ : hn_M} {R : Int32} (hF : hn_F Z B (0, 0) cX7_lagBehind 6 RX7 (some .int) 2) (hQ : hn_goal Z B (some (.int R), μ)) (hV : hn_V B hn_nA) {l1 : Int32} {l2 : Int32} (e : fX7_lagBehind F μ l1 l2 = some R) : hn_G Z B (0, 0) 6 0 [(0, .ref (hn_base B + 0)), (1, .int l1), (2, .int l2)] [] μ := by
  unfold fX7_lagBehind at e
  refine hn_bipush hF dX7_lagBehind_0 (q := 2) rfl kb_m4 ?_
  refine hn_istore_n hF dX7_lagBehind_2 (q := 3) rfl (i := 3) rfl (by decide) (L' := [(3, .int ((-4))), (0, .ref (hn_base B + 0)), (1, .int l1), (2, .int l2)]) rfl ?_
  refine hn_iconst hF dX7_lagBehind_3 (q := 4) rfl ki_0 ?_
  refine hn_istore hF dX7_lagBehind_4 (q := 6) rfl (by decide) (L' := [(4, .int 0), (3, .int ((-4))), (0, .ref (hn_base B + 0)), (1, .int l1), (2, .int l2)]) rfl ?_
  refine hn_sub [2, 3, 4, 1, 0] (L' := [(0, .ref (hn_base B + 0)), (1, .int l1), (2, .int l2), (3, .int ((-4))), (4, .int 0)]) rfl ?_
  exact gX7_lagBehind_6 hF hQ hV F l1 l2 (-4) 0 e
theorem cX7_lagBehind_ {B : hn_B} {F : Nat} {μ : hn_M} {R : Int32} {l1 : Int32} {l2 : Int32} (hV : hn_V B hn_nA) (e : fX7_lagBehind F μ l1 l2 = some R) : hn_C yX7_lagBehind cX7_lagBehind 6 (some .int) 2 B [.ref (hn_base B + 0), .int l1, .int l2] μ (some (.int R), μ) :=
  hn_C.of RX7 (by decide) rfl (Nat.le_of_ble_eq_true rfl) (fun _ hF hQ => gX7_lagBehind hF hQ hV e)
/-! HandNews.known(III)I -/
def fX7_known (F : Nat) (μ : hn_M) (l1 : Int32) (l2 : Int32) (l3 : Int32) : Option Int32 := (fX7_isThing l1).bind fun v1 => if v1 = 0 then some (-1) else (fX7_isTown l2).bind fun v2 => if v2 = 0 then some (-1) else if l3 < 0 then some (-1) else if l3 ≤ 1 then (fX1_hasHappened μ l1).bind fun v3 => if v3 = 0 then some (-2) else (fX7_firstKnown μ l1 l2).bind fun v4 => if l3 = 0 then some v4 else if v4 = (-4) then some v4 else (fX7_lagBehind F μ l1 v4).bind fun v5 => some v5 else some (-1)
set_option maxHeartbeats 1000000 in
theorem gX7_known {Z : hn_Z} {B : hn_B} {F : Nat} {μ : hn_M} {R : Int32} (hF : hn_F Z B (0, 0) cX7_known 5 RX7 (some .int) 3) (hQ : hn_goal Z B (some (.int R), μ)) (hV : hn_V B hn_nA) {l1 : Int32} {l2 : Int32} {l3 : Int32} (e : fX7_known F μ l1 l2 l3 = some R) : hn_G Z B (0, 0) 5 0 [(0, .ref (hn_base B + 0)), (1, .int l1), (2, .int l2), (3, .int l3)] [] μ := by
  unfold fX7_known at e
  have o0 : hn_isO B 0 7 hn_k0 := hV 0 (by decide)
  have o6 : hn_isO B 6 1 hn_k6 := hV 6 (by decide)
  refine hn_iload_n hF dX7_known_0 (q := 1) rfl 1 rfl ?_
  refine hn_callSi (rest := []) hF ms_X7_isThing mt_X7_isThing lk_X7_127 (by decide) [.int l1] rfl (Nat.le_of_ble_eq_true rfl) dX7_known_1 (q := 4) rfl rfl e (fun v hv => cX7_isThing_ hv) (fun v1 e => ?_)
  refine hn_if_eq hF dX7_known_4 (t := 23) (q := 7) rfl rfl e (fun e => ?_) (fun e => ?_)
  · refine hn_iconst hF dX7_known_23 (q := 24) rfl ki_m1 ?_
    exact hn_iretP hF hQ dX7_known_24 e
  · refine hn_iload_n hF dX7_known_7 (q := 8) rfl 2 rfl ?_
    refine hn_callSi (rest := []) hF ms_X7_isTown mt_X7_isTown lk_X7_79 (by decide) [.int l2] rfl (Nat.le_of_ble_eq_true rfl) dX7_known_8 (q := 11) rfl rfl e (fun v hv => cX7_isTown_ hv) (fun v2 e => ?_)
    refine hn_if_eq hF dX7_known_11 (t := 23) (q := 14) rfl rfl e (fun e => ?_) (fun e => ?_)
    · refine hn_iconst hF dX7_known_23 (q := 24) rfl ki_m1 ?_
      exact hn_iretP hF hQ dX7_known_24 e
    · refine hn_iload_n hF dX7_known_14 (q := 15) rfl 3 rfl ?_
      refine hn_if_lt hF dX7_known_15 (t := 23) (q := 18) rfl rfl e (fun e => ?_) (fun e => ?_)
      · refine hn_iconst hF dX7_known_23 (q := 24) rfl ki_m1 ?_
        exact hn_iretP hF hQ dX7_known_24 e
      · refine hn_iload_n hF dX7_known_18 (q := 19) rfl 3 rfl ?_
        refine hn_iconst hF dX7_known_19 (q := 20) rfl ki_1 ?_
        refine hn_icmp_le hF dX7_known_20 (t := 25) (q := 23) rfl rfl e (fun e => ?_) (fun e => ?_)
        · refine hn_aload_n hF dX7_known_25 (q := 26) rfl 0 rfl ?_
          refine hn_get hF fl_X7_19 o0 rfl rfl dX7_known_26 (q := 29) rfl ?_
          refine hn_iload_n hF dX7_known_29 (q := 30) rfl 1 rfl ?_
          refine hn_callVi (rest := []) hF ms_X1_hasHappened mv_X1_hasHappened lk_X7_133 o6 rfl (by decide) [.int l1] rfl (Nat.le_of_ble_eq_true rfl) dX7_known_30 (q := 33) rfl rfl e (fun v hv => cX1_hasHappened_ hV hv) (fun v3 e => ?_)
          refine hn_if_ne hF dX7_known_33 (t := 39) (q := 36) rfl rfl e (fun e => ?_) (fun e => ?_)
          · refine hn_aload_n hF dX7_known_39 (q := 40) rfl 0 rfl ?_
            refine hn_iload_n hF dX7_known_40 (q := 41) rfl 1 rfl ?_
            refine hn_iload_n hF dX7_known_41 (q := 42) rfl 2 rfl ?_
            refine hn_callVi (rest := []) hF ms_X7_firstKnown mv_X7_firstKnown lk_X7_262 o0 rfl (by decide) [.int l1, .int l2] rfl (Nat.le_of_ble_eq_true rfl) dX7_known_42 (q := 45) rfl rfl e (fun v hv => cX7_firstKnown_ hV hv) (fun v4 e => ?_)
            refine hn_istore hF dX7_known_45 (q := 47) rfl (by decide) (L' := [(4, .int v4), (0, .ref (hn_base B + 0)), (1, .int l1), (2, .int l2), (3, .int l3)]) rfl ?_
            refine hn_iload_n hF dX7_known_47 (q := 48) rfl 4 rfl ?_
            refine hn_if_eq hF dX7_known_48 (t := 58) (q := 51) rfl rfl e (fun e => ?_) (fun e => ?_)
            · refine hn_iload hF dX7_known_58 (q := 60) rfl 0 rfl ?_
              exact hn_iretP hF hQ dX7_known_60 e
            · refine hn_iload hF dX7_known_51 (q := 53) rfl 0 rfl ?_
              refine hn_bipush hF dX7_known_53 (q := 55) rfl kb_m4 ?_
              refine hn_icmp_ne hF dX7_known_55 (t := 61) (q := 58) rfl rfl e (fun e => ?_) (fun e => ?_)
              · refine hn_aload_n hF dX7_known_61 (q := 62) rfl 1 rfl ?_
                refine hn_iload_n hF dX7_known_62 (q := 63) rfl 2 rfl ?_
                refine hn_iload hF dX7_known_63 (q := 65) rfl 0 rfl ?_
                refine hn_callVi (rest := []) hF ms_X7_lagBehind mv_X7_lagBehind lk_X7_265 o0 rfl (by decide) [.int l1, .int v4] rfl (Nat.le_of_ble_eq_true rfl) dX7_known_65 (q := 68) rfl rfl e (fun v hv => cX7_lagBehind_ hV hv) (fun v5 e => ?_)
                exact hn_iretP hF hQ dX7_known_68 e
              · refine hn_iload hF dX7_known_58 (q := 60) rfl 0 rfl ?_
                exact hn_iretP hF hQ dX7_known_60 e
          · refine hn_bipush hF dX7_known_36 (q := 38) rfl kb_m2 ?_
            exact hn_iretP hF hQ dX7_known_38 e
        · refine hn_iconst hF dX7_known_23 (q := 24) rfl ki_m1 ?_
          exact hn_iretP hF hQ dX7_known_24 e
theorem cX7_known_ {B : hn_B} {F : Nat} {μ : hn_M} {R : Int32} {l1 : Int32} {l2 : Int32} {l3 : Int32} (hV : hn_V B hn_nA) (e : fX7_known F μ l1 l2 l3 = some R) : hn_C yX7_known cX7_known 5 (some .int) 3 B [.ref (hn_base B + 0), .int l1, .int l2, .int l3] μ (some (.int R), μ) :=
  hn_C.of RX7 (by decide) rfl (Nat.le_of_ble_eq_true rfl) (fun _ hF hQ => gX7_known hF hQ hV e)
/-! HandNews.worth(III)I -/
def fX7_worth (l1 : Int32) (l2 : Int32) (l3 : Int32) (μ : hn_M) : Option (Int32 × hn_M) := if l1 < 0 then some ((-10000), μ) else if 6 ≤ l1 then some ((-10000), μ) else if l2 < 0 then some ((-10000), μ) else if l2 < 4 then if l3 < (-1000) then some ((-10000), μ) else if l3 ≤ 1000 then (fX6_put l1 l2 l3 μ).bind fun w1 => some (w1.1, w1.2) else some ((-10000), μ) else some ((-10000), μ)
set_option maxHeartbeats 1000000 in
theorem gX7_worth {Z : hn_Z} {B : hn_B} {R : Int32 × hn_M} (hF : hn_F Z B (0, 0) cX7_worth 4 RX7 (some .int) 1) (hQ : hn_goal Z B (some (.int R.1), R.2)) (hV : hn_V B hn_nA) {l1 : Int32} {l2 : Int32} {l3 : Int32} {μ : hn_M} (e : fX7_worth l1 l2 l3 μ = some R) : hn_G Z B (0, 0) 4 0 [(0, .ref (hn_base B + 0)), (1, .int l1), (2, .int l2), (3, .int l3)] [] μ := by
  unfold fX7_worth at e
  have o0 : hn_isO B 0 7 hn_k0 := hV 0 (by decide)
  have o56 : hn_isO B 56 6 hn_k56 := hV 56 (by decide)
  refine hn_iload_n hF dX7_worth_0 (q := 1) rfl 1 rfl ?_
  refine hn_if_lt hF dX7_worth_1 (t := 19) (q := 4) rfl rfl e (fun e => ?_) (fun e => ?_)
  · refine hn_sipush hF dX7_worth_19 (q := 22) rfl ks_m10000 ?_
    exact hn_iretM hF hQ dX7_worth_22 e
  · refine hn_iload_n hF dX7_worth_4 (q := 5) rfl 1 rfl ?_
    refine hn_bipush hF dX7_worth_5 (q := 7) rfl kb_6 ?_
    refine hn_icmp_ge hF dX7_worth_7 (t := 19) (q := 10) rfl rfl e (fun e => ?_) (fun e => ?_)
    · refine hn_sipush hF dX7_worth_19 (q := 22) rfl ks_m10000 ?_
      exact hn_iretM hF hQ dX7_worth_22 e
    · refine hn_iload_n hF dX7_worth_10 (q := 11) rfl 2 rfl ?_
      refine hn_if_lt hF dX7_worth_11 (t := 19) (q := 14) rfl rfl e (fun e => ?_) (fun e => ?_)
      · refine hn_sipush hF dX7_worth_19 (q := 22) rfl ks_m10000 ?_
        exact hn_iretM hF hQ dX7_worth_22 e
      · refine hn_iload_n hF dX7_worth_14 (q := 15) rfl 2 rfl ?_
        refine hn_iconst hF dX7_worth_15 (q := 16) rfl ki_4 ?_
        refine hn_icmp_lt hF dX7_worth_16 (t := 23) (q := 19) rfl rfl e (fun e => ?_) (fun e => ?_)
        · refine hn_iload_n hF dX7_worth_23 (q := 24) rfl 3 rfl ?_
          refine hn_sipush hF dX7_worth_24 (q := 27) rfl ks_m1000 ?_
          refine hn_icmp_lt hF dX7_worth_27 (t := 37) (q := 30) rfl rfl e (fun e => ?_) (fun e => ?_)
          · refine hn_sipush hF dX7_worth_37 (q := 40) rfl ks_m10000 ?_
            exact hn_iretM hF hQ dX7_worth_40 e
          · refine hn_iload_n hF dX7_worth_30 (q := 31) rfl 3 rfl ?_
            refine hn_sipush hF dX7_worth_31 (q := 34) rfl ks_1000 ?_
            refine hn_icmp_le hF dX7_worth_34 (t := 41) (q := 37) rfl rfl e (fun e => ?_) (fun e => ?_)
            · refine hn_aload_n hF dX7_worth_41 (q := 42) rfl 0 rfl ?_
              refine hn_get hF fl_X7_51 o0 rfl rfl dX7_worth_42 (q := 45) rfl ?_
              refine hn_iload_n hF dX7_worth_45 (q := 46) rfl 1 rfl ?_
              refine hn_iload_n hF dX7_worth_46 (q := 47) rfl 2 rfl ?_
              refine hn_iload_n hF dX7_worth_47 (q := 48) rfl 3 rfl ?_
              refine hn_callVm (rest := []) hF ms_X6_put mv_X6_put lk_X7_268 o56 rfl (by decide) [.int l1, .int l2, .int l3] rfl (Nat.le_of_ble_eq_true rfl) dX7_worth_48 (q := 51) rfl rfl e (fun v hv => cX6_put_ hV hv) (fun w1 e => ?_)
              exact hn_iretM hF hQ dX7_worth_51 e
            · refine hn_sipush hF dX7_worth_37 (q := 40) rfl ks_m10000 ?_
              exact hn_iretM hF hQ dX7_worth_40 e
        · refine hn_sipush hF dX7_worth_19 (q := 22) rfl ks_m10000 ?_
          exact hn_iretM hF hQ dX7_worth_22 e
theorem cX7_worth_ {B : hn_B} {μ : hn_M} {R : Int32 × hn_M} {l1 : Int32} {l2 : Int32} {l3 : Int32} (hV : hn_V B hn_nA) (e : fX7_worth l1 l2 l3 μ = some R) : hn_C yX7_worth cX7_worth 4 (some .int) 1 B [.ref (hn_base B + 0), .int l1, .int l2, .int l3] μ (some (.int R.1), R.2) :=
  hn_C.of RX7 (by decide) rfl (Nat.le_of_ble_eq_true rfl) (fun _ hF hQ => gX7_worth hF hQ hV e)
/-! HandNews.buy(III)I -/
def fX7_buy (F : Nat) (μ : hn_M) (l1 : Int32) (l2 : Int32) (l3 : Int32) : Option Int32 := if l1 < 1 then some (-10000) else if 6 < l1 then some (-10000) else if l2 < 1 then some (-10000) else if 16 ≤ l2 then some (-10000) else if l3 < 0 then some (-10000) else if l3 ≤ 3 then if 2 ≤ l3 then (fX6_calmest F μ l1 l2).bind fun v1 => if l3 = 2 then some v1 else (fX6_regretOf F μ v1 l1 l2).bind fun v2 => some v2 else (fX6_safest F μ l1 l2).bind fun v3 => if l3 = 0 then some v3 else (fX6_leastOf F μ v3 l2).bind fun v4 => some v4 else some (-10000)
set_option maxHeartbeats 1000000 in
theorem gX7_buy {Z : hn_Z} {B : hn_B} {F : Nat} {μ : hn_M} {R : Int32} (hF : hn_F Z B (0, 0) cX7_buy 5 RX7 (some .int) 4) (hQ : hn_goal Z B (some (.int R), μ)) (hV : hn_V B hn_nA) {l1 : Int32} {l2 : Int32} {l3 : Int32} (e : fX7_buy F μ l1 l2 l3 = some R) : hn_G Z B (0, 0) 5 0 [(0, .ref (hn_base B + 0)), (1, .int l1), (2, .int l2), (3, .int l3)] [] μ := by
  unfold fX7_buy at e
  have o0 : hn_isO B 0 7 hn_k0 := hV 0 (by decide)
  have o56 : hn_isO B 56 6 hn_k56 := hV 56 (by decide)
  refine hn_iload_n hF dX7_buy_0 (q := 1) rfl 1 rfl ?_
  refine hn_iconst hF dX7_buy_1 (q := 2) rfl ki_1 ?_
  refine hn_icmp_lt hF dX7_buy_2 (t := 31) (q := 5) rfl rfl e (fun e => ?_) (fun e => ?_)
  · refine hn_sipush hF dX7_buy_31 (q := 34) rfl ks_m10000 ?_
    exact hn_iretP hF hQ dX7_buy_34 e
  · refine hn_iload_n hF dX7_buy_5 (q := 6) rfl 1 rfl ?_
    refine hn_bipush hF dX7_buy_6 (q := 8) rfl kb_6 ?_
    refine hn_icmp_gt hF dX7_buy_8 (t := 31) (q := 11) rfl rfl e (fun e => ?_) (fun e => ?_)
    · refine hn_sipush hF dX7_buy_31 (q := 34) rfl ks_m10000 ?_
      exact hn_iretP hF hQ dX7_buy_34 e
    · refine hn_iload_n hF dX7_buy_11 (q := 12) rfl 2 rfl ?_
      refine hn_iconst hF dX7_buy_12 (q := 13) rfl ki_1 ?_
      refine hn_icmp_lt hF dX7_buy_13 (t := 31) (q := 16) rfl rfl e (fun e => ?_) (fun e => ?_)
      · refine hn_sipush hF dX7_buy_31 (q := 34) rfl ks_m10000 ?_
        exact hn_iretP hF hQ dX7_buy_34 e
      · refine hn_iload_n hF dX7_buy_16 (q := 17) rfl 2 rfl ?_
        refine hn_bipush hF dX7_buy_17 (q := 19) rfl kb_16 ?_
        refine hn_icmp_ge hF dX7_buy_19 (t := 31) (q := 22) rfl rfl e (fun e => ?_) (fun e => ?_)
        · refine hn_sipush hF dX7_buy_31 (q := 34) rfl ks_m10000 ?_
          exact hn_iretP hF hQ dX7_buy_34 e
        · refine hn_iload_n hF dX7_buy_22 (q := 23) rfl 3 rfl ?_
          refine hn_if_lt hF dX7_buy_23 (t := 31) (q := 26) rfl rfl e (fun e => ?_) (fun e => ?_)
          · refine hn_sipush hF dX7_buy_31 (q := 34) rfl ks_m10000 ?_
            exact hn_iretP hF hQ dX7_buy_34 e
          · refine hn_iload_n hF dX7_buy_26 (q := 27) rfl 3 rfl ?_
            refine hn_iconst hF dX7_buy_27 (q := 28) rfl ki_3 ?_
            refine hn_icmp_le hF dX7_buy_28 (t := 35) (q := 31) rfl rfl e (fun e => ?_) (fun e => ?_)
            · refine hn_iload_n hF dX7_buy_35 (q := 36) rfl 3 rfl ?_
              refine hn_iconst hF dX7_buy_36 (q := 37) rfl ki_2 ?_
              refine hn_icmp_ge hF dX7_buy_37 (t := 71) (q := 40) rfl rfl e (fun e => ?_) (fun e => ?_)
              · refine hn_aload_n hF dX7_buy_71 (q := 72) rfl 0 rfl ?_
                refine hn_get hF fl_X7_51 o0 rfl rfl dX7_buy_72 (q := 75) rfl ?_
                refine hn_iload_n hF dX7_buy_75 (q := 76) rfl 1 rfl ?_
                refine hn_iload_n hF dX7_buy_76 (q := 77) rfl 2 rfl ?_
                refine hn_callVi (rest := []) hF ms_X6_calmest mv_X6_calmest lk_X7_277 o56 rfl (by decide) [.int l1, .int l2] rfl (Nat.le_of_ble_eq_true rfl) dX7_buy_77 (q := 80) rfl rfl e (fun v hv => cX6_calmest_ hV hv) (fun v1 e => ?_)
                refine hn_istore hF dX7_buy_80 (q := 82) rfl (by decide) (L' := [(4, .int v1), (0, .ref (hn_base B + 0)), (1, .int l1), (2, .int l2), (3, .int l3)]) rfl ?_
                refine hn_iload_n hF dX7_buy_82 (q := 83) rfl 4 rfl ?_
                refine hn_iconst hF dX7_buy_83 (q := 84) rfl ki_2 ?_
                refine hn_icmp_ne hF dX7_buy_84 (t := 92) (q := 87) rfl rfl e (fun e => ?_) (fun e => ?_)
                · refine hn_aload_n hF dX7_buy_92 (q := 93) rfl 1 rfl ?_
                  refine hn_get hF fl_X7_51 o0 rfl rfl dX7_buy_93 (q := 96) rfl ?_
                  refine hn_iload hF dX7_buy_96 (q := 98) rfl 0 rfl ?_
                  refine hn_iload_n hF dX7_buy_98 (q := 99) rfl 2 rfl ?_
                  refine hn_iload_n hF dX7_buy_99 (q := 100) rfl 3 rfl ?_
                  refine hn_callVi (rest := []) hF ms_X6_regretOf mv_X6_regretOf lk_X7_280 o56 rfl (by decide) [.int v1, .int l1, .int l2] rfl (Nat.le_of_ble_eq_true rfl) dX7_buy_100 (q := 103) rfl rfl e (fun v hv => cX6_regretOf_ hV hv) (fun v2 e => ?_)
                  exact hn_iretP hF hQ dX7_buy_103 e
                · refine hn_iload hF dX7_buy_87 (q := 89) rfl 0 rfl ?_
                  refine hn_goto hF dX7_buy_89 (q := 103) rfl ?_
                  exact hn_iretP hF hQ dX7_buy_103 e
              · refine hn_aload_n hF dX7_buy_40 (q := 41) rfl 0 rfl ?_
                refine hn_get hF fl_X7_51 o0 rfl rfl dX7_buy_41 (q := 44) rfl ?_
                refine hn_iload_n hF dX7_buy_44 (q := 45) rfl 1 rfl ?_
                refine hn_iload_n hF dX7_buy_45 (q := 46) rfl 2 rfl ?_
                refine hn_callVi (rest := []) hF ms_X6_safest mv_X6_safest lk_X7_271 o56 rfl (by decide) [.int l1, .int l2] rfl (Nat.le_of_ble_eq_true rfl) dX7_buy_46 (q := 49) rfl rfl e (fun v hv => cX6_safest_ hV hv) (fun v3 e => ?_)
                refine hn_istore hF dX7_buy_49 (q := 51) rfl (by decide) (L' := [(4, .int v3), (0, .ref (hn_base B + 0)), (1, .int l1), (2, .int l2), (3, .int l3)]) rfl ?_
                refine hn_iload_n hF dX7_buy_51 (q := 52) rfl 4 rfl ?_
                refine hn_if_ne hF dX7_buy_52 (t := 60) (q := 55) rfl rfl e (fun e => ?_) (fun e => ?_)
                · refine hn_aload_n hF dX7_buy_60 (q := 61) rfl 1 rfl ?_
                  refine hn_get hF fl_X7_51 o0 rfl rfl dX7_buy_61 (q := 64) rfl ?_
                  refine hn_iload hF dX7_buy_64 (q := 66) rfl 0 rfl ?_
                  refine hn_iload_n hF dX7_buy_66 (q := 67) rfl 3 rfl ?_
                  refine hn_callVi (rest := []) hF ms_X6_leastOf mv_X6_leastOf lk_X7_274 o56 rfl (by decide) [.int v3, .int l2] rfl (Nat.le_of_ble_eq_true rfl) dX7_buy_67 (q := 70) rfl rfl e (fun v hv => cX6_leastOf_ hV hv) (fun v4 e => ?_)
                  exact hn_iretP hF hQ dX7_buy_70 e
                · refine hn_iload hF dX7_buy_55 (q := 57) rfl 0 rfl ?_
                  refine hn_goto hF dX7_buy_57 (q := 70) rfl ?_
                  exact hn_iretP hF hQ dX7_buy_70 e
            · refine hn_sipush hF dX7_buy_31 (q := 34) rfl ks_m10000 ?_
              exact hn_iretP hF hQ dX7_buy_34 e
theorem cX7_buy_ {B : hn_B} {F : Nat} {μ : hn_M} {R : Int32} {l1 : Int32} {l2 : Int32} {l3 : Int32} (hV : hn_V B hn_nA) (e : fX7_buy F μ l1 l2 l3 = some R) : hn_C yX7_buy cX7_buy 5 (some .int) 4 B [.ref (hn_base B + 0), .int l1, .int l2, .int l3] μ (some (.int R), μ) :=
  hn_C.of RX7 (by decide) rfl (Nat.le_of_ble_eq_true rfl) (fun _ hF hQ => gX7_buy hF hQ hV e)
/-! HandNews.keep()I -/
def fX7_keep (μ : hn_M) : Option (Int32 × hn_M) := if μ 0 9 < 2 then if μ 0 9 = 0 then (fX1_copyFrom 20 6 μ).bind fun μ1 => hn_pf μ1 0 9 ((μ1 0 9) + 1) fun μ2 => some (μ2 0 9, μ2) else if μ 0 9 = 1 then (fX1_copyFrom 33 6 μ).bind fun μ3 => hn_pf μ3 0 9 ((μ3 0 9) + 1) fun μ4 => some (μ4 0 9, μ4) else none else some ((-3), μ)
set_option maxHeartbeats 1000000 in
theorem gX7_keep {Z : hn_Z} {B : hn_B} {R : Int32 × hn_M} (hF : hn_F Z B (0, 0) cX7_keep 1 RX7 (some .int) 2) (hQ : hn_goal Z B (some (.int R.1), R.2)) (hV : hn_V B hn_nA) {μ : hn_M} (e : fX7_keep μ = some R) : hn_G Z B (0, 0) 1 0 [(0, .ref (hn_base B + 0))] [] μ := by
  unfold fX7_keep at e
  have o0 : hn_isO B 0 7 hn_k0 := hV 0 (by decide)
  have o20 : hn_isO B 20 1 hn_k20 := hV 20 (by decide)
  have o33 : hn_isO B 33 1 hn_k33 := hV 33 (by decide)
  have r19 : hn_isR B 19 [20, 33] := hV 19 (by decide)
  refine hn_aload_n hF dX7_keep_0 (q := 1) rfl 0 rfl ?_
  refine hn_get hF fl_X7_65 o0 rfl rfl dX7_keep_1 (q := 4) rfl ?_
  refine hn_iconst hF dX7_keep_4 (q := 5) rfl ki_2 ?_
  refine hn_icmp_lt hF dX7_keep_5 (t := 11) (q := 8) rfl rfl e (fun e => ?_) (fun e => ?_)
  · refine hn_aload_n hF dX7_keep_11 (q := 12) rfl 0 rfl ?_
    refine hn_get hF fl_X7_23 o0 rfl rfl dX7_keep_12 (q := 15) rfl ?_
    refine hn_aload_n hF dX7_keep_15 (q := 16) rfl 0 rfl ?_
    refine hn_get hF fl_X7_65 o0 rfl rfl dX7_keep_16 (q := 19) rfl ?_
    refine hn_aald hF r19 dX7_keep_19 (q := 20) rfl e (fun e => ?_) (fun e => ?_)
    · refine hn_aload_n hF dX7_keep_20 (q := 21) rfl 0 rfl ?_
      refine hn_get hF fl_X7_19 o0 rfl rfl dX7_keep_21 (q := 24) rfl ?_
      refine hn_callVv (rest := []) hF ms_X1_copyFrom mv_X1_copyFrom lk_X7_283 o20 rfl (by decide) [.ref (hn_base B + 6)] rfl (Nat.le_of_ble_eq_true rfl) dX7_keep_24 (q := 27) rfl rfl e (fun v hv => cX1_copyFrom_ hV (by decide) (by decide) hv) (fun μ1 e => ?_)
      refine hn_aload_n hF dX7_keep_27 (q := 28) rfl 0 rfl ?_
      refine hn_dup hF dX7_keep_28 (q := 29) rfl rfl ?_
      refine hn_get hF fl_X7_65 o0 rfl rfl dX7_keep_29 (q := 32) rfl ?_
      refine hn_iconst hF dX7_keep_32 (q := 33) rfl ki_1 ?_
      refine hn_iadd hF dX7_keep_33 (q := 34) rfl ?_
      refine hn_put hF fl_X7_65 fp_X7_9 o0 rfl rfl rfl rfl dX7_keep_34 (q := 37) rfl e (fun μ2 e => ?_)
      refine hn_aload_n hF dX7_keep_37 (q := 38) rfl 0 rfl ?_
      refine hn_get hF fl_X7_65 o0 rfl rfl dX7_keep_38 (q := 41) rfl ?_
      exact hn_iretM hF hQ dX7_keep_41 e
    · refine hn_aload_n hF dX7_keep_20 (q := 21) rfl 0 rfl ?_
      refine hn_get hF fl_X7_19 o0 rfl rfl dX7_keep_21 (q := 24) rfl ?_
      refine hn_callVv (rest := []) hF ms_X1_copyFrom mv_X1_copyFrom lk_X7_283 o33 rfl (by decide) [.ref (hn_base B + 6)] rfl (Nat.le_of_ble_eq_true rfl) dX7_keep_24 (q := 27) rfl rfl e (fun v hv => cX1_copyFrom_ hV (by decide) (by decide) hv) (fun μ3 e => ?_)
      refine hn_aload_n hF dX7_keep_27 (q := 28) rfl 0 rfl ?_
      refine hn_dup hF dX7_keep_28 (q := 29) rfl rfl ?_
      refine hn_get hF fl_X7_65 o0 rfl rfl dX7_keep_29 (q := 32) rfl ?_
      refine hn_iconst hF dX7_keep_32 (q := 33) rfl ki_1 ?_
      refine hn_iadd hF dX7_keep_33 (q := 34) rfl ?_
      refine hn_put hF fl_X7_65 fp_X7_9 o0 rfl rfl rfl rfl dX7_keep_34 (q := 37) rfl e (fun μ4 e => ?_)
      refine hn_aload_n hF dX7_keep_37 (q := 38) rfl 0 rfl ?_
      refine hn_get hF fl_X7_65 o0 rfl rfl dX7_keep_38 (q := 41) rfl ?_
      exact hn_iretM hF hQ dX7_keep_41 e
  · refine hn_bipush hF dX7_keep_8 (q := 10) rfl kb_m3 ?_
    exact hn_iretM hF hQ dX7_keep_10 e
theorem cX7_keep_ {B : hn_B} {μ : hn_M} {R : Int32 × hn_M} (hV : hn_V B hn_nA) (e : fX7_keep μ = some R) : hn_C yX7_keep cX7_keep 1 (some .int) 2 B [.ref (hn_base B + 0)] μ (some (.int R.1), R.2) :=
  hn_C.of RX7 (by decide) rfl (Nat.le_of_ble_eq_true rfl) (fun _ hF hQ => gX7_keep hF hQ hV e)
/-! HandNews.back()I -/
def fX7_back (μ : hn_M) : Option (Int32 × hn_M) := if 1 ≤ μ 0 9 then hn_pf μ 0 9 ((μ 0 9) - 1) fun μ1 => if μ1 0 9 = 0 then (fX1_copyFrom 6 20 μ1).bind fun μ2 => hn_pf μ2 0 12 0 fun μ3 => some (μ3 0 9, μ3) else if μ1 0 9 = 1 then (fX1_copyFrom 6 33 μ1).bind fun μ4 => hn_pf μ4 0 12 0 fun μ5 => some (μ5 0 9, μ5) else none else some ((-2), μ)
set_option maxHeartbeats 1000000 in
theorem gX7_back {Z : hn_Z} {B : hn_B} {R : Int32 × hn_M} (hF : hn_F Z B (0, 0) cX7_back 1 RX7 (some .int) 2) (hQ : hn_goal Z B (some (.int R.1), R.2)) (hV : hn_V B hn_nA) {μ : hn_M} (e : fX7_back μ = some R) : hn_G Z B (0, 0) 1 0 [(0, .ref (hn_base B + 0))] [] μ := by
  unfold fX7_back at e
  have o0 : hn_isO B 0 7 hn_k0 := hV 0 (by decide)
  have o6 : hn_isO B 6 1 hn_k6 := hV 6 (by decide)
  have r19 : hn_isR B 19 [20, 33] := hV 19 (by decide)
  refine hn_aload_n hF dX7_back_0 (q := 1) rfl 0 rfl ?_
  refine hn_get hF fl_X7_65 o0 rfl rfl dX7_back_1 (q := 4) rfl ?_
  refine hn_iconst hF dX7_back_4 (q := 5) rfl ki_1 ?_
  refine hn_icmp_ge hF dX7_back_5 (t := 11) (q := 8) rfl rfl e (fun e => ?_) (fun e => ?_)
  · refine hn_aload_n hF dX7_back_11 (q := 12) rfl 0 rfl ?_
    refine hn_dup hF dX7_back_12 (q := 13) rfl rfl ?_
    refine hn_get hF fl_X7_65 o0 rfl rfl dX7_back_13 (q := 16) rfl ?_
    refine hn_iconst hF dX7_back_16 (q := 17) rfl ki_1 ?_
    refine hn_isub hF dX7_back_17 (q := 18) rfl ?_
    refine hn_put hF fl_X7_65 fp_X7_9 o0 rfl rfl rfl rfl dX7_back_18 (q := 21) rfl e (fun μ1 e => ?_)
    refine hn_aload_n hF dX7_back_21 (q := 22) rfl 0 rfl ?_
    refine hn_get hF fl_X7_19 o0 rfl rfl dX7_back_22 (q := 25) rfl ?_
    refine hn_aload_n hF dX7_back_25 (q := 26) rfl 0 rfl ?_
    refine hn_get hF fl_X7_23 o0 rfl rfl dX7_back_26 (q := 29) rfl ?_
    refine hn_aload_n hF dX7_back_29 (q := 30) rfl 0 rfl ?_
    refine hn_get hF fl_X7_65 o0 rfl rfl dX7_back_30 (q := 33) rfl ?_
    refine hn_aald hF r19 dX7_back_33 (q := 34) rfl e (fun e => ?_) (fun e => ?_)
    · refine hn_callVv (rest := []) hF ms_X1_copyFrom mv_X1_copyFrom lk_X7_283 o6 rfl (by decide) [.ref (hn_base B + 20)] rfl (Nat.le_of_ble_eq_true rfl) dX7_back_34 (q := 37) rfl rfl e (fun v hv => cX1_copyFrom_ hV (by decide) (by decide) hv) (fun μ2 e => ?_)
      refine hn_aload_n hF dX7_back_37 (q := 38) rfl 0 rfl ?_
      refine hn_iconst hF dX7_back_38 (q := 39) rfl ki_0 ?_
      refine hn_put hF fl_X7_75 fp_X7_12 o0 rfl rfl rfl rfl dX7_back_39 (q := 42) rfl e (fun μ3 e => ?_)
      refine hn_aload_n hF dX7_back_42 (q := 43) rfl 0 rfl ?_
      refine hn_get hF fl_X7_65 o0 rfl rfl dX7_back_43 (q := 46) rfl ?_
      exact hn_iretM hF hQ dX7_back_46 e
    · refine hn_callVv (rest := []) hF ms_X1_copyFrom mv_X1_copyFrom lk_X7_283 o6 rfl (by decide) [.ref (hn_base B + 33)] rfl (Nat.le_of_ble_eq_true rfl) dX7_back_34 (q := 37) rfl rfl e (fun v hv => cX1_copyFrom_ hV (by decide) (by decide) hv) (fun μ4 e => ?_)
      refine hn_aload_n hF dX7_back_37 (q := 38) rfl 0 rfl ?_
      refine hn_iconst hF dX7_back_38 (q := 39) rfl ki_0 ?_
      refine hn_put hF fl_X7_75 fp_X7_12 o0 rfl rfl rfl rfl dX7_back_39 (q := 42) rfl e (fun μ5 e => ?_)
      refine hn_aload_n hF dX7_back_42 (q := 43) rfl 0 rfl ?_
      refine hn_get hF fl_X7_65 o0 rfl rfl dX7_back_43 (q := 46) rfl ?_
      exact hn_iretM hF hQ dX7_back_46 e
  · refine hn_bipush hF dX7_back_8 (q := 10) rfl kb_m2 ?_
    exact hn_iretM hF hQ dX7_back_10 e
theorem cX7_back_ {B : hn_B} {μ : hn_M} {R : Int32 × hn_M} (hV : hn_V B hn_nA) (e : fX7_back μ = some R) : hn_C yX7_back cX7_back 1 (some .int) 2 B [.ref (hn_base B + 0)] μ (some (.int R.1), R.2) :=
  hn_C.of RX7 (by decide) rfl (Nat.le_of_ble_eq_true rfl) (fun _ hF hQ => gX7_back hF hQ hV e)
/-! HandNews.count(I)I -/
def fX7_count (F : Nat) (μ : hn_M) (l1 : Int32) : Option Int32 := if l1 = 0 then some (μ 6 0) else if l1 = 1 then some (μ 6 4) else if l1 = 2 then (fX7_toldIn F 17 μ).bind fun v1 => some v1 else if l1 = 3 then some (μ 6 7) else if l1 = 4 then (fX7_toldIn F 18 μ).bind fun v2 => some v2 else if l1 = 5 then some (μ 54 1) else if l1 = 6 then hn_it (μ 0 7) fun t3 => some (μ t3 6) else if l1 = 7 then some (μ 0 9) else if l1 = 8 then some (μ 1 4) else some (-1)
set_option maxHeartbeats 1000000 in
theorem gX7_count {Z : hn_Z} {B : hn_B} {F : Nat} {μ : hn_M} {R : Int32} (hF : hn_F Z B (0, 0) cX7_count 2 RX7 (some .int) 1) (hQ : hn_goal Z B (some (.int R), μ)) (hV : hn_V B hn_nA) {l1 : Int32} (e : fX7_count F μ l1 = some R) : hn_G Z B (0, 0) 2 0 [(0, .ref (hn_base B + 0)), (1, .int l1)] [] μ := by
  unfold fX7_count at e
  have o0 : hn_isO B 0 7 hn_k0 := hV 0 (by decide)
  have o1 : hn_isO B 1 2 hn_k1 := hV 1 (by decide)
  have o54 : hn_isO B 54 4 hn_k54 := hV 54 (by decide)
  have o6 : hn_isO B 6 1 hn_k6 := hV 6 (by decide)
  refine hn_iload_n hF dX7_count_0 (q := 1) rfl 1 rfl ?_
  by_cases hx0 : l1 = 0
  · rw [if_pos hx0] at e
    refine hn_tabIn hF hx0 dX7_count_1 (t := 52) (by decide) ?_
    refine hn_aload_n hF dX7_count_52 (q := 53) rfl 0 rfl ?_
    refine hn_get hF fl_X7_19 o0 rfl rfl dX7_count_53 (q := 56) rfl ?_
    refine hn_get hF fl_X7_83 o6 rfl rfl dX7_count_56 (q := 59) rfl ?_
    exact hn_iretP hF hQ dX7_count_59 e
  rw [if_neg hx0] at e
  by_cases hx1 : l1 = 1
  · rw [if_pos hx1] at e
    refine hn_tabIn hF hx1 dX7_count_1 (t := 60) (by decide) ?_
    refine hn_aload_n hF dX7_count_60 (q := 61) rfl 0 rfl ?_
    refine hn_get hF fl_X7_19 o0 rfl rfl dX7_count_61 (q := 64) rfl ?_
    refine hn_get hF fl_X7_121 o6 rfl rfl dX7_count_64 (q := 67) rfl ?_
    exact hn_iretP hF hQ dX7_count_67 e
  rw [if_neg hx1] at e
  by_cases hx2 : l1 = 2
  · rw [if_pos hx2] at e
    refine hn_tabIn hF hx2 dX7_count_1 (t := 68) (by decide) ?_
    refine hn_aload_n hF dX7_count_68 (q := 69) rfl 0 rfl ?_
    refine hn_get hF fl_X7_19 o0 rfl rfl dX7_count_69 (q := 72) rfl ?_
    refine hn_get hF fl_X7_142 o6 rfl rfl dX7_count_72 (q := 75) rfl ?_
    refine hn_callSi (rest := []) hF ms_X7_toldIn mt_X7_toldIn lk_X7_287 (by decide) [.ref (hn_base B + 17)] rfl (Nat.le_of_ble_eq_true rfl) dX7_count_75 (q := 78) rfl rfl e (fun v hv => cX7_toldIn_ hV (by decide) hv) (fun v1 e => ?_)
    exact hn_iretP hF hQ dX7_count_78 e
  rw [if_neg hx2] at e
  by_cases hx3 : l1 = 3
  · rw [if_pos hx3] at e
    refine hn_tabIn hF hx3 dX7_count_1 (t := 79) (by decide) ?_
    refine hn_aload_n hF dX7_count_79 (q := 80) rfl 0 rfl ?_
    refine hn_get hF fl_X7_19 o0 rfl rfl dX7_count_80 (q := 83) rfl ?_
    refine hn_get hF fl_X7_159 o6 rfl rfl dX7_count_83 (q := 86) rfl ?_
    exact hn_iretP hF hQ dX7_count_86 e
  rw [if_neg hx3] at e
  by_cases hx4 : l1 = 4
  · rw [if_pos hx4] at e
    refine hn_tabIn hF hx4 dX7_count_1 (t := 87) (by decide) ?_
    refine hn_aload_n hF dX7_count_87 (q := 88) rfl 0 rfl ?_
    refine hn_get hF fl_X7_19 o0 rfl rfl dX7_count_88 (q := 91) rfl ?_
    refine hn_get hF fl_X7_244 o6 rfl rfl dX7_count_91 (q := 94) rfl ?_
    refine hn_callSi (rest := []) hF ms_X7_toldIn mt_X7_toldIn lk_X7_287 (by decide) [.ref (hn_base B + 18)] rfl (Nat.le_of_ble_eq_true rfl) dX7_count_94 (q := 97) rfl rfl e (fun v hv => cX7_toldIn_ hV (by decide) hv) (fun v2 e => ?_)
    exact hn_iretP hF hQ dX7_count_97 e
  rw [if_neg hx4] at e
  by_cases hx5 : l1 = 5
  · rw [if_pos hx5] at e
    refine hn_tabIn hF hx5 dX7_count_1 (t := 98) (by decide) ?_
    refine hn_aload_n hF dX7_count_98 (q := 99) rfl 0 rfl ?_
    refine hn_get hF fl_X7_44 o0 rfl rfl dX7_count_99 (q := 102) rfl ?_
    refine hn_get hF fl_X7_208 o54 rfl rfl dX7_count_102 (q := 105) rfl ?_
    exact hn_iretP hF hQ dX7_count_105 e
  rw [if_neg hx5] at e
  by_cases hx6 : l1 = 6
  · rw [if_pos hx6] at e
    refine hn_tabIn hF hx6 dX7_count_1 (t := 106) (by decide) ?_
    refine hn_aload_n hF dX7_count_106 (q := 107) rfl 0 rfl ?_
    refine hn_getIt hF fl_X7_58 o0 rfl dX7_count_107 (q := 110) rfl e (fun t3 h_t3 e => ?_)
    refine hn_get hF fl_X7_219 (hn_Io hV h_t3) rfl rfl dX7_count_110 (q := 113) rfl ?_
    exact hn_iretP hF hQ dX7_count_113 e
  rw [if_neg hx6] at e
  by_cases hx7 : l1 = 7
  · rw [if_pos hx7] at e
    refine hn_tabIn hF hx7 dX7_count_1 (t := 114) (by decide) ?_
    refine hn_aload_n hF dX7_count_114 (q := 115) rfl 0 rfl ?_
    refine hn_get hF fl_X7_65 o0 rfl rfl dX7_count_115 (q := 118) rfl ?_
    exact hn_iretP hF hQ dX7_count_118 e
  rw [if_neg hx7] at e
  by_cases hx8 : l1 = 8
  · rw [if_pos hx8] at e
    refine hn_tabIn hF hx8 dX7_count_1 (t := 119) (by decide) ?_
    refine hn_aload_n hF dX7_count_119 (q := 120) rfl 0 rfl ?_
    refine hn_get hF fl_X7_10 o0 rfl rfl dX7_count_120 (q := 123) rfl ?_
    refine hn_get hF fl_X7_291 o1 rfl rfl dX7_count_123 (q := 126) rfl ?_
    exact hn_iretP hF hQ dX7_count_126 e
  rw [if_neg hx8] at e
  refine hn_tabOut hF dX7_count_1 (t := 127) (hn_miss9 hx0 hx1 hx2 hx3 hx4 hx5 hx6 hx7 hx8) rfl ?_
  refine hn_iconst hF dX7_count_127 (q := 128) rfl ki_m1 ?_
  exact hn_iretP hF hQ dX7_count_128 e
theorem cX7_count_ {B : hn_B} {F : Nat} {μ : hn_M} {R : Int32} {l1 : Int32} (hV : hn_V B hn_nA) (e : fX7_count F μ l1 = some R) : hn_C yX7_count cX7_count 2 (some .int) 1 B [.ref (hn_base B + 0), .int l1] μ (some (.int R), μ) :=
  hn_C.of RX7 (by decide) rfl (Nat.le_of_ble_eq_true rfl) (fun _ hF hQ => gX7_count hF hQ hV e)
