def hn_Xs (Z : hn_Z) (B : hn_B) (bs N : Nat) (xs : Nat → Int32) : Prop := va_X bs N xs (zs Z) (zs Z).heap ∧ bs < (zs Z).heap.size ∧ (zs Z).heap.size = hn_base B
def hn_lgoal (Z : hn_Z) (B : hn_B) (bs : Nat) : Prop := zQ Z = lw_Z (zb Z) (za Z) (zs Z) ∧ zR Z = room_1 ∧ za Z = #[Value.ref bs]
section hn_law
variable {Z : hn_Z} {B : hn_B} {kp : Nat × Nat} {cc : ByteArray} {nL : Nat} {own : String} {ret : Option FieldType} {h : Nat} {pc q : Nat} {L : List (Nat × Value)} {st : List Value} {μ : hn_M} {α : Type} {R : α} {bs N : Nat} {xs : Nat → Int32}
theorem hn_sld {i : Int32} {K : Int32 → Option α} (hF : hn_F Z B kp cc nL own ret h) (hX : hn_Xs Z B bs N xs) (hd : decode cc pc = .ok (.iaload, 1)) (hq : pc + 1 = q) (e : hn_rs xs N i K = some R) (kk : ∀ v, K v = some R → hn_G Z B kp nL q L (.int v :: st) μ) : hn_G Z B kp nL pc L (.int i :: .ref bs :: st) μ := by
  subst hq
  obtain ⟨hin, e⟩ := hn_rs_some e
  exact fun H locs ls a b c => va_sld hF.1 hF.2.1 hX.1 hX.2.1 (by show ¬ hn_base B ≤ bs; have := hX.2; omega) c hin hd (kk _ e H locs ls a b c)
theorem hn_slenS (hF : hn_F Z B kp cc nL own ret h) (hX : hn_Xs Z B bs N xs) (hd : decode cc pc = .ok (.arraylength, 1)) (hq : pc + 1 = q) (kk : hn_G Z B kp nL q L (.int (Int32.ofNat N) :: st) μ) : hn_G Z B kp nL pc L (.ref bs :: st) μ := by
  subst hq
  exact fun H locs ls a b c => va_slen hF.1 hF.2.1 hX.1 hX.2.1 (by show ¬ hn_base B ≤ bs; have := hX.2; omega) c hd (kk H locs ls a b c)
theorem hn_lend (hF : hn_F Z B (93, 3368) cL_law nL RL (some .boolean) h) (hQ : hn_lgoal Z B bs) (hX : hn_Xs Z B bs N xs) (hd : decode cL_law pc = .ok (.ireturn, 1)) : hn_G Z B (93, 3368) nL pc L [.int 1] μ := by
  intro H locs ls a b c
  rw [hQ.1, hQ.2.1, hQ.2.2]
  refine va_forget (fun q hq => by have h1 := c.2.2 q hq; have h2 : hn_base B ≤ q.base := h1; have := hX.2.2; omega) ?_
  exact lw_ret hF.1 hF.2.1 hF.2.2.2.2.2.1 hF.2.2.2.2.2.2.1 hd
end hn_law
theorem kd_X9_87 : Cond.constantLong RL 87 4294967295 ∈ hn_tb := hn_in (by decide +kernel) rfl
theorem lk_X9_13 : Cond.methodLink RL 13 yX7_post ∈ hn_tb := hn_in (by decide +kernel) rfl
theorem lk_X9_17 : Cond.methodLink RL 17 yX8_post ∈ hn_tb := hn_in (by decide +kernel) rfl
theorem lk_X9_18 : Cond.methodLink RL 18 yX7_way ∈ hn_tb := hn_in (by decide +kernel) rfl
theorem lk_X9_22 : Cond.methodLink RL 22 yX8_way ∈ hn_tb := hn_in (by decide +kernel) rfl
theorem lk_X9_23 : Cond.methodLink RL 23 yX7_slow ∈ hn_tb := hn_in (by decide +kernel) rfl
theorem lk_X9_26 : Cond.methodLink RL 26 yX8_slow ∈ hn_tb := hn_in (by decide +kernel) rfl
theorem lk_X9_27 : Cond.methodLink RL 27 yX7_sheet ∈ hn_tb := hn_in (by decide +kernel) rfl
theorem lk_X9_31 : Cond.methodLink RL 31 yX8_sheet ∈ hn_tb := hn_in (by decide +kernel) rfl
theorem lk_X9_32 : Cond.methodLink RL 32 yX7_dated ∈ hn_tb := hn_in (by decide +kernel) rfl
theorem lk_X9_35 : Cond.methodLink RL 35 yX8_dated ∈ hn_tb := hn_in (by decide +kernel) rfl
theorem lk_X9_36 : Cond.methodLink RL 36 yX7_behind ∈ hn_tb := hn_in (by decide +kernel) rfl
theorem lk_X9_39 : Cond.methodLink RL 39 yX8_behind ∈ hn_tb := hn_in (by decide +kernel) rfl
theorem lk_X9_40 : Cond.methodLink RL 40 yX7_happened ∈ hn_tb := hn_in (by decide +kernel) rfl
theorem lk_X9_43 : Cond.methodLink RL 43 yX8_happened ∈ hn_tb := hn_in (by decide +kernel) rfl
theorem lk_X9_44 : Cond.methodLink RL 44 yX7_span ∈ hn_tb := hn_in (by decide +kernel) rfl
theorem lk_X9_47 : Cond.methodLink RL 47 yX8_span ∈ hn_tb := hn_in (by decide +kernel) rfl
theorem lk_X9_48 : Cond.methodLink RL 48 yX7_ahead ∈ hn_tb := hn_in (by decide +kernel) rfl
theorem lk_X9_51 : Cond.methodLink RL 51 yX8_ahead ∈ hn_tb := hn_in (by decide +kernel) rfl
theorem lk_X9_52 : Cond.methodLink RL 52 yX7_say ∈ hn_tb := hn_in (by decide +kernel) rfl
theorem lk_X9_56 : Cond.methodLink RL 56 yX8_say ∈ hn_tb := hn_in (by decide +kernel) rfl
theorem lk_X9_57 : Cond.methodLink RL 57 yX7_change ∈ hn_tb := hn_in (by decide +kernel) rfl
theorem lk_X9_60 : Cond.methodLink RL 60 yX8_change ∈ hn_tb := hn_in (by decide +kernel) rfl
theorem lk_X9_61 : Cond.methodLink RL 61 yX7_own ∈ hn_tb := hn_in (by decide +kernel) rfl
theorem lk_X9_65 : Cond.methodLink RL 65 yX8_own ∈ hn_tb := hn_in (by decide +kernel) rfl
theorem lk_X9_66 : Cond.methodLink RL 66 yX7_from ∈ hn_tb := hn_in (by decide +kernel) rfl
theorem lk_X9_69 : Cond.methodLink RL 69 yX8_from ∈ hn_tb := hn_in (by decide +kernel) rfl
theorem lk_X9_70 : Cond.methodLink RL 70 yX7_voice ∈ hn_tb := hn_in (by decide +kernel) rfl
theorem lk_X9_73 : Cond.methodLink RL 73 yX8_voice ∈ hn_tb := hn_in (by decide +kernel) rfl
theorem lk_X9_74 : Cond.methodLink RL 74 yX7_voices ∈ hn_tb := hn_in (by decide +kernel) rfl
theorem lk_X9_78 : Cond.methodLink RL 78 yX8_voices ∈ hn_tb := hn_in (by decide +kernel) rfl
theorem lk_X9_79 : Cond.methodLink RL 79 yX7_grew ∈ hn_tb := hn_in (by decide +kernel) rfl
theorem lk_X9_82 : Cond.methodLink RL 82 yX8_grew ∈ hn_tb := hn_in (by decide +kernel) rfl
theorem lk_X9_83 : Cond.methodLink RL 83 yX7_habit ∈ hn_tb := hn_in (by decide +kernel) rfl
theorem lk_X9_86 : Cond.methodLink RL 86 yX8_habit ∈ hn_tb := hn_in (by decide +kernel) rfl
theorem lk_X9_89 : Cond.methodLink RL 89 yX7_write ∈ hn_tb := hn_in (by decide +kernel) rfl
theorem lk_X9_93 : Cond.methodLink RL 93 yX8_write ∈ hn_tb := hn_in (by decide +kernel) rfl
theorem lk_X9_94 : Cond.methodLink RL 94 yX7_wipe ∈ hn_tb := hn_in (by decide +kernel) rfl
theorem lk_X9_98 : Cond.methodLink RL 98 yX8_wipe ∈ hn_tb := hn_in (by decide +kernel) rfl
theorem lk_X9_99 : Cond.methodLink RL 99 yX7_fault ∈ hn_tb := hn_in (by decide +kernel) rfl
theorem lk_X9_102 : Cond.methodLink RL 102 yX8_fault ∈ hn_tb := hn_in (by decide +kernel) rfl
theorem lk_X9_103 : Cond.methodLink RL 103 yX7_force ∈ hn_tb := hn_in (by decide +kernel) rfl
theorem lk_X9_106 : Cond.methodLink RL 106 yX8_force ∈ hn_tb := hn_in (by decide +kernel) rfl
theorem lk_X9_107 : Cond.methodLink RL 107 yX7_rule ∈ hn_tb := hn_in (by decide +kernel) rfl
theorem lk_X9_110 : Cond.methodLink RL 110 yX8_rule ∈ hn_tb := hn_in (by decide +kernel) rfl
theorem lk_X9_111 : Cond.methodLink RL 111 yX7_why ∈ hn_tb := hn_in (by decide +kernel) rfl
theorem lk_X9_114 : Cond.methodLink RL 114 yX8_why ∈ hn_tb := hn_in (by decide +kernel) rfl
theorem lk_X9_115 : Cond.methodLink RL 115 yX7_quarrel ∈ hn_tb := hn_in (by decide +kernel) rfl
theorem lk_X9_118 : Cond.methodLink RL 118 yX8_quarrel ∈ hn_tb := hn_in (by decide +kernel) rfl
theorem lk_X9_119 : Cond.methodLink RL 119 yX7_closet ∈ hn_tb := hn_in (by decide +kernel) rfl
theorem lk_X9_122 : Cond.methodLink RL 122 yX8_closet ∈ hn_tb := hn_in (by decide +kernel) rfl
theorem lk_X9_123 : Cond.methodLink RL 123 yX7_came ∈ hn_tb := hn_in (by decide +kernel) rfl
theorem lk_X9_126 : Cond.methodLink RL 126 yX8_came ∈ hn_tb := hn_in (by decide +kernel) rfl
theorem lk_X9_127 : Cond.methodLink RL 127 yX7_belief ∈ hn_tb := hn_in (by decide +kernel) rfl
theorem lk_X9_130 : Cond.methodLink RL 130 yX8_belief ∈ hn_tb := hn_in (by decide +kernel) rfl
theorem lk_X9_131 : Cond.methodLink RL 131 yX7_banned ∈ hn_tb := hn_in (by decide +kernel) rfl
theorem lk_X9_134 : Cond.methodLink RL 134 yX8_banned ∈ hn_tb := hn_in (by decide +kernel) rfl
theorem lk_X9_135 : Cond.methodLink RL 135 yX7_truth ∈ hn_tb := hn_in (by decide +kernel) rfl
theorem lk_X9_138 : Cond.methodLink RL 138 yX8_truth ∈ hn_tb := hn_in (by decide +kernel) rfl
theorem lk_X9_139 : Cond.methodLink RL 139 yX7_right ∈ hn_tb := hn_in (by decide +kernel) rfl
theorem lk_X9_142 : Cond.methodLink RL 142 yX8_right ∈ hn_tb := hn_in (by decide +kernel) rfl
theorem lk_X9_143 : Cond.methodLink RL 143 yX7_beyond ∈ hn_tb := hn_in (by decide +kernel) rfl
theorem lk_X9_147 : Cond.methodLink RL 147 yX8_beyond ∈ hn_tb := hn_in (by decide +kernel) rfl
theorem lk_X9_148 : Cond.methodLink RL 148 yX7_known ∈ hn_tb := hn_in (by decide +kernel) rfl
theorem lk_X9_151 : Cond.methodLink RL 151 yX8_known ∈ hn_tb := hn_in (by decide +kernel) rfl
theorem lk_X9_152 : Cond.methodLink RL 152 yX7_worth ∈ hn_tb := hn_in (by decide +kernel) rfl
theorem lk_X9_155 : Cond.methodLink RL 155 yX8_worth ∈ hn_tb := hn_in (by decide +kernel) rfl
theorem lk_X9_156 : Cond.methodLink RL 156 yX7_buy ∈ hn_tb := hn_in (by decide +kernel) rfl
theorem lk_X9_159 : Cond.methodLink RL 159 yX8_buy ∈ hn_tb := hn_in (by decide +kernel) rfl
theorem lk_X9_160 : Cond.methodLink RL 160 yX7_keep ∈ hn_tb := hn_in (by decide +kernel) rfl
theorem lk_X9_163 : Cond.methodLink RL 163 yX8_keep ∈ hn_tb := hn_in (by decide +kernel) rfl
theorem lk_X9_164 : Cond.methodLink RL 164 yX7_back ∈ hn_tb := hn_in (by decide +kernel) rfl
theorem lk_X9_167 : Cond.methodLink RL 167 yX8_back ∈ hn_tb := hn_in (by decide +kernel) rfl
theorem lk_X9_168 : Cond.methodLink RL 168 yX7_count ∈ hn_tb := hn_in (by decide +kernel) rfl
theorem lk_X9_171 : Cond.methodLink RL 171 yX8_count ∈ hn_tb := hn_in (by decide +kernel) rfl
theorem ms_X7_ahead : hn_ms yX7_ahead cX7_ahead 3 (some .int) 2 := ⟨hn_in (by decide +kernel) rfl, hn_in (by decide +kernel) rfl, by decide +kernel, by decide⟩
theorem mv_X7_ahead : hn_mv yX7_ahead := ⟨hn_in (by decide +kernel) rfl, hn_in (by decide +kernel) rfl⟩
theorem ms_X7_back : hn_ms yX7_back cX7_back 1 (some .int) 0 := ⟨hn_in (by decide +kernel) rfl, hn_in (by decide +kernel) rfl, by decide +kernel, by decide⟩
theorem mv_X7_back : hn_mv yX7_back := ⟨hn_in (by decide +kernel) rfl, hn_in (by decide +kernel) rfl⟩
theorem ms_X7_banned : hn_ms yX7_banned cX7_banned 4 (some .int) 1 := ⟨hn_in (by decide +kernel) rfl, hn_in (by decide +kernel) rfl, by decide +kernel, by decide⟩
theorem mv_X7_banned : hn_mv yX7_banned := ⟨hn_in (by decide +kernel) rfl, hn_in (by decide +kernel) rfl⟩
theorem ms_X7_behind : hn_ms yX7_behind cX7_behind 3 (some .int) 2 := ⟨hn_in (by decide +kernel) rfl, hn_in (by decide +kernel) rfl, by decide +kernel, by decide⟩
theorem mv_X7_behind : hn_mv yX7_behind := ⟨hn_in (by decide +kernel) rfl, hn_in (by decide +kernel) rfl⟩
theorem ms_X7_belief : hn_ms yX7_belief cX7_belief 5 (some .int) 3 := ⟨hn_in (by decide +kernel) rfl, hn_in (by decide +kernel) rfl, by decide +kernel, by decide⟩
theorem mv_X7_belief : hn_mv yX7_belief := ⟨hn_in (by decide +kernel) rfl, hn_in (by decide +kernel) rfl⟩
theorem ms_X7_beyond : hn_ms yX7_beyond cX7_beyond 7 (some .long) 3 := ⟨hn_in (by decide +kernel) rfl, hn_in (by decide +kernel) rfl, by decide +kernel, by decide⟩
theorem mv_X7_beyond : hn_mv yX7_beyond := ⟨hn_in (by decide +kernel) rfl, hn_in (by decide +kernel) rfl⟩
theorem ms_X7_buy : hn_ms yX7_buy cX7_buy 5 (some .int) 3 := ⟨hn_in (by decide +kernel) rfl, hn_in (by decide +kernel) rfl, by decide +kernel, by decide⟩
theorem mv_X7_buy : hn_mv yX7_buy := ⟨hn_in (by decide +kernel) rfl, hn_in (by decide +kernel) rfl⟩
theorem ms_X7_came : hn_ms yX7_came cX7_came 2 (some .int) 1 := ⟨hn_in (by decide +kernel) rfl, hn_in (by decide +kernel) rfl, by decide +kernel, by decide⟩
theorem mv_X7_came : hn_mv yX7_came := ⟨hn_in (by decide +kernel) rfl, hn_in (by decide +kernel) rfl⟩
theorem ms_X7_change : hn_ms yX7_change cX7_change 3 (some .int) 2 := ⟨hn_in (by decide +kernel) rfl, hn_in (by decide +kernel) rfl, by decide +kernel, by decide⟩
theorem mv_X7_change : hn_mv yX7_change := ⟨hn_in (by decide +kernel) rfl, hn_in (by decide +kernel) rfl⟩
theorem ms_X7_closet : hn_ms yX7_closet cX7_closet 3 (some .int) 1 := ⟨hn_in (by decide +kernel) rfl, hn_in (by decide +kernel) rfl, by decide +kernel, by decide⟩
theorem mv_X7_closet : hn_mv yX7_closet := ⟨hn_in (by decide +kernel) rfl, hn_in (by decide +kernel) rfl⟩
theorem ms_X7_count : hn_ms yX7_count cX7_count 2 (some .int) 1 := ⟨hn_in (by decide +kernel) rfl, hn_in (by decide +kernel) rfl, by decide +kernel, by decide⟩
theorem mv_X7_count : hn_mv yX7_count := ⟨hn_in (by decide +kernel) rfl, hn_in (by decide +kernel) rfl⟩
theorem ms_X7_dated : hn_ms yX7_dated cX7_dated 4 (some .int) 2 := ⟨hn_in (by decide +kernel) rfl, hn_in (by decide +kernel) rfl, by decide +kernel, by decide⟩
theorem mv_X7_dated : hn_mv yX7_dated := ⟨hn_in (by decide +kernel) rfl, hn_in (by decide +kernel) rfl⟩
theorem ms_X7_fault : hn_ms yX7_fault cX7_fault 1 (some .int) 0 := ⟨hn_in (by decide +kernel) rfl, hn_in (by decide +kernel) rfl, by decide +kernel, by decide⟩
theorem mv_X7_fault : hn_mv yX7_fault := ⟨hn_in (by decide +kernel) rfl, hn_in (by decide +kernel) rfl⟩
theorem ms_X7_force : hn_ms yX7_force cX7_force 2 (some .int) 0 := ⟨hn_in (by decide +kernel) rfl, hn_in (by decide +kernel) rfl, by decide +kernel, by decide⟩
theorem mv_X7_force : hn_mv yX7_force := ⟨hn_in (by decide +kernel) rfl, hn_in (by decide +kernel) rfl⟩
theorem ms_X7_from : hn_ms yX7_from cX7_from 2 (some .int) 1 := ⟨hn_in (by decide +kernel) rfl, hn_in (by decide +kernel) rfl, by decide +kernel, by decide⟩
theorem mv_X7_from : hn_mv yX7_from := ⟨hn_in (by decide +kernel) rfl, hn_in (by decide +kernel) rfl⟩
theorem ms_X7_grew : hn_ms yX7_grew cX7_grew 2 (some .int) 1 := ⟨hn_in (by decide +kernel) rfl, hn_in (by decide +kernel) rfl, by decide +kernel, by decide⟩
theorem mv_X7_grew : hn_mv yX7_grew := ⟨hn_in (by decide +kernel) rfl, hn_in (by decide +kernel) rfl⟩
theorem ms_X7_habit : hn_ms yX7_habit cX7_habit 4 (some .int) 1 := ⟨hn_in (by decide +kernel) rfl, hn_in (by decide +kernel) rfl, by decide +kernel, by decide⟩
theorem mv_X7_habit : hn_mv yX7_habit := ⟨hn_in (by decide +kernel) rfl, hn_in (by decide +kernel) rfl⟩
theorem ms_X7_happened : hn_ms yX7_happened cX7_happened 4 (some .int) 3 := ⟨hn_in (by decide +kernel) rfl, hn_in (by decide +kernel) rfl, by decide +kernel, by decide⟩
theorem mv_X7_happened : hn_mv yX7_happened := ⟨hn_in (by decide +kernel) rfl, hn_in (by decide +kernel) rfl⟩
theorem ms_X7_keep : hn_ms yX7_keep cX7_keep 1 (some .int) 0 := ⟨hn_in (by decide +kernel) rfl, hn_in (by decide +kernel) rfl, by decide +kernel, by decide⟩
theorem mv_X7_keep : hn_mv yX7_keep := ⟨hn_in (by decide +kernel) rfl, hn_in (by decide +kernel) rfl⟩
theorem ms_X7_known : hn_ms yX7_known cX7_known 5 (some .int) 3 := ⟨hn_in (by decide +kernel) rfl, hn_in (by decide +kernel) rfl, by decide +kernel, by decide⟩
theorem mv_X7_known : hn_mv yX7_known := ⟨hn_in (by decide +kernel) rfl, hn_in (by decide +kernel) rfl⟩
theorem ms_X7_own : hn_ms yX7_own cX7_own 3 (some .int) 1 := ⟨hn_in (by decide +kernel) rfl, hn_in (by decide +kernel) rfl, by decide +kernel, by decide⟩
theorem mv_X7_own : hn_mv yX7_own := ⟨hn_in (by decide +kernel) rfl, hn_in (by decide +kernel) rfl⟩
theorem ms_X7_post : hn_ms yX7_post cX7_post 5 (some .int) 4 := ⟨hn_in (by decide +kernel) rfl, hn_in (by decide +kernel) rfl, by decide +kernel, by decide⟩
theorem mv_X7_post : hn_mv yX7_post := ⟨hn_in (by decide +kernel) rfl, hn_in (by decide +kernel) rfl⟩
theorem ms_X7_quarrel : hn_ms yX7_quarrel cX7_quarrel 1 (some .int) 0 := ⟨hn_in (by decide +kernel) rfl, hn_in (by decide +kernel) rfl, by decide +kernel, by decide⟩
theorem mv_X7_quarrel : hn_mv yX7_quarrel := ⟨hn_in (by decide +kernel) rfl, hn_in (by decide +kernel) rfl⟩
theorem ms_X7_right : hn_ms yX7_right cX7_right 5 (some .int) 2 := ⟨hn_in (by decide +kernel) rfl, hn_in (by decide +kernel) rfl, by decide +kernel, by decide⟩
theorem mv_X7_right : hn_mv yX7_right := ⟨hn_in (by decide +kernel) rfl, hn_in (by decide +kernel) rfl⟩
theorem ms_X7_rule : hn_ms yX7_rule cX7_rule 4 (some .int) 3 := ⟨hn_in (by decide +kernel) rfl, hn_in (by decide +kernel) rfl, by decide +kernel, by decide⟩
theorem mv_X7_rule : hn_mv yX7_rule := ⟨hn_in (by decide +kernel) rfl, hn_in (by decide +kernel) rfl⟩
theorem ms_X7_say : hn_ms yX7_say cX7_say 8 (some .int) 6 := ⟨hn_in (by decide +kernel) rfl, hn_in (by decide +kernel) rfl, by decide +kernel, by decide⟩
theorem mv_X7_say : hn_mv yX7_say := ⟨hn_in (by decide +kernel) rfl, hn_in (by decide +kernel) rfl⟩
theorem ms_X7_sheet : hn_ms yX7_sheet cX7_sheet 4 (some .int) 3 := ⟨hn_in (by decide +kernel) rfl, hn_in (by decide +kernel) rfl, by decide +kernel, by decide⟩
theorem mv_X7_sheet : hn_mv yX7_sheet := ⟨hn_in (by decide +kernel) rfl, hn_in (by decide +kernel) rfl⟩
theorem ms_X7_slow : hn_ms yX7_slow cX7_slow 3 (some .int) 2 := ⟨hn_in (by decide +kernel) rfl, hn_in (by decide +kernel) rfl, by decide +kernel, by decide⟩
theorem mv_X7_slow : hn_mv yX7_slow := ⟨hn_in (by decide +kernel) rfl, hn_in (by decide +kernel) rfl⟩
theorem ms_X7_span : hn_ms yX7_span cX7_span 3 (some .int) 2 := ⟨hn_in (by decide +kernel) rfl, hn_in (by decide +kernel) rfl, by decide +kernel, by decide⟩
theorem mv_X7_span : hn_mv yX7_span := ⟨hn_in (by decide +kernel) rfl, hn_in (by decide +kernel) rfl⟩
theorem ms_X7_truth : hn_ms yX7_truth cX7_truth 4 (some .int) 2 := ⟨hn_in (by decide +kernel) rfl, hn_in (by decide +kernel) rfl, by decide +kernel, by decide⟩
theorem mv_X7_truth : hn_mv yX7_truth := ⟨hn_in (by decide +kernel) rfl, hn_in (by decide +kernel) rfl⟩
theorem ms_X7_voice : hn_ms yX7_voice cX7_voice 3 (some .int) 2 := ⟨hn_in (by decide +kernel) rfl, hn_in (by decide +kernel) rfl, by decide +kernel, by decide⟩
theorem mv_X7_voice : hn_mv yX7_voice := ⟨hn_in (by decide +kernel) rfl, hn_in (by decide +kernel) rfl⟩
theorem ms_X7_voices : hn_ms yX7_voices cX7_voices 5 (some .int) 2 := ⟨hn_in (by decide +kernel) rfl, hn_in (by decide +kernel) rfl, by decide +kernel, by decide⟩
theorem mv_X7_voices : hn_mv yX7_voices := ⟨hn_in (by decide +kernel) rfl, hn_in (by decide +kernel) rfl⟩
theorem ms_X7_way : hn_ms yX7_way cX7_way 3 (some .int) 2 := ⟨hn_in (by decide +kernel) rfl, hn_in (by decide +kernel) rfl, by decide +kernel, by decide⟩
theorem mv_X7_way : hn_mv yX7_way := ⟨hn_in (by decide +kernel) rfl, hn_in (by decide +kernel) rfl⟩
theorem ms_X7_why : hn_ms yX7_why cX7_why 4 (some .int) 3 := ⟨hn_in (by decide +kernel) rfl, hn_in (by decide +kernel) rfl, by decide +kernel, by decide⟩
theorem mv_X7_why : hn_mv yX7_why := ⟨hn_in (by decide +kernel) rfl, hn_in (by decide +kernel) rfl⟩
theorem ms_X7_wipe : hn_ms yX7_wipe cX7_wipe 2 (some .int) 0 := ⟨hn_in (by decide +kernel) rfl, hn_in (by decide +kernel) rfl, by decide +kernel, by decide⟩
theorem mv_X7_wipe : hn_mv yX7_wipe := ⟨hn_in (by decide +kernel) rfl, hn_in (by decide +kernel) rfl⟩
theorem ms_X7_worth : hn_ms yX7_worth cX7_worth 4 (some .int) 3 := ⟨hn_in (by decide +kernel) rfl, hn_in (by decide +kernel) rfl, by decide +kernel, by decide⟩
theorem mv_X7_worth : hn_mv yX7_worth := ⟨hn_in (by decide +kernel) rfl, hn_in (by decide +kernel) rfl⟩
theorem ms_X7_write : hn_ms yX7_write cX7_write 4 (some .int) 2 := ⟨hn_in (by decide +kernel) rfl, hn_in (by decide +kernel) rfl, by decide +kernel, by decide⟩
theorem mv_X7_write : hn_mv yX7_write := ⟨hn_in (by decide +kernel) rfl, hn_in (by decide +kernel) rfl⟩
theorem ms_X8_ahead : hn_ms yX8_ahead cX8_ahead 3 (some .int) 2 := ⟨hn_in (by decide +kernel) rfl, hn_in (by decide +kernel) rfl, by decide +kernel, by decide⟩
theorem mv_X8_ahead : hn_mv yX8_ahead := ⟨hn_in (by decide +kernel) rfl, hn_in (by decide +kernel) rfl⟩
theorem ms_X8_back : hn_ms yX8_back cX8_back 1 (some .int) 0 := ⟨hn_in (by decide +kernel) rfl, hn_in (by decide +kernel) rfl, by decide +kernel, by decide⟩
theorem mv_X8_back : hn_mv yX8_back := ⟨hn_in (by decide +kernel) rfl, hn_in (by decide +kernel) rfl⟩
theorem ms_X8_banned : hn_ms yX8_banned cX8_banned 4 (some .int) 1 := ⟨hn_in (by decide +kernel) rfl, hn_in (by decide +kernel) rfl, by decide +kernel, by decide⟩
theorem mv_X8_banned : hn_mv yX8_banned := ⟨hn_in (by decide +kernel) rfl, hn_in (by decide +kernel) rfl⟩
theorem ms_X8_behind : hn_ms yX8_behind cX8_behind 3 (some .int) 2 := ⟨hn_in (by decide +kernel) rfl, hn_in (by decide +kernel) rfl, by decide +kernel, by decide⟩
theorem mv_X8_behind : hn_mv yX8_behind := ⟨hn_in (by decide +kernel) rfl, hn_in (by decide +kernel) rfl⟩
theorem ms_X8_belief : hn_ms yX8_belief cX8_belief 7 (some .int) 3 := ⟨hn_in (by decide +kernel) rfl, hn_in (by decide +kernel) rfl, by decide +kernel, by decide⟩
theorem mv_X8_belief : hn_mv yX8_belief := ⟨hn_in (by decide +kernel) rfl, hn_in (by decide +kernel) rfl⟩
theorem ms_X8_beyond : hn_ms yX8_beyond cX8_beyond 10 (some .long) 3 := ⟨hn_in (by decide +kernel) rfl, hn_in (by decide +kernel) rfl, by decide +kernel, by decide⟩
theorem mv_X8_beyond : hn_mv yX8_beyond := ⟨hn_in (by decide +kernel) rfl, hn_in (by decide +kernel) rfl⟩
theorem ms_X8_buy : hn_ms yX8_buy cX8_buy 14 (some .int) 3 := ⟨hn_in (by decide +kernel) rfl, hn_in (by decide +kernel) rfl, by decide +kernel, by decide⟩
theorem mv_X8_buy : hn_mv yX8_buy := ⟨hn_in (by decide +kernel) rfl, hn_in (by decide +kernel) rfl⟩
theorem ms_X8_came : hn_ms yX8_came cX8_came 2 (some .int) 1 := ⟨hn_in (by decide +kernel) rfl, hn_in (by decide +kernel) rfl, by decide +kernel, by decide⟩
theorem mv_X8_came : hn_mv yX8_came := ⟨hn_in (by decide +kernel) rfl, hn_in (by decide +kernel) rfl⟩
theorem ms_X8_change : hn_ms yX8_change cX8_change 3 (some .int) 2 := ⟨hn_in (by decide +kernel) rfl, hn_in (by decide +kernel) rfl, by decide +kernel, by decide⟩
theorem mv_X8_change : hn_mv yX8_change := ⟨hn_in (by decide +kernel) rfl, hn_in (by decide +kernel) rfl⟩
theorem ms_X8_closet : hn_ms yX8_closet cX8_closet 3 (some .int) 1 := ⟨hn_in (by decide +kernel) rfl, hn_in (by decide +kernel) rfl, by decide +kernel, by decide⟩
theorem mv_X8_closet : hn_mv yX8_closet := ⟨hn_in (by decide +kernel) rfl, hn_in (by decide +kernel) rfl⟩
theorem ms_X8_count : hn_ms yX8_count cX8_count 4 (some .int) 1 := ⟨hn_in (by decide +kernel) rfl, hn_in (by decide +kernel) rfl, by decide +kernel, by decide⟩
theorem mv_X8_count : hn_mv yX8_count := ⟨hn_in (by decide +kernel) rfl, hn_in (by decide +kernel) rfl⟩
theorem ms_X8_dated : hn_ms yX8_dated cX8_dated 4 (some .int) 2 := ⟨hn_in (by decide +kernel) rfl, hn_in (by decide +kernel) rfl, by decide +kernel, by decide⟩
theorem mv_X8_dated : hn_mv yX8_dated := ⟨hn_in (by decide +kernel) rfl, hn_in (by decide +kernel) rfl⟩
theorem ms_X8_fault : hn_ms yX8_fault cX8_fault 1 (some .int) 0 := ⟨hn_in (by decide +kernel) rfl, hn_in (by decide +kernel) rfl, by decide +kernel, by decide⟩
theorem mv_X8_fault : hn_mv yX8_fault := ⟨hn_in (by decide +kernel) rfl, hn_in (by decide +kernel) rfl⟩
theorem ms_X8_force : hn_ms yX8_force cX8_force 2 (some .int) 0 := ⟨hn_in (by decide +kernel) rfl, hn_in (by decide +kernel) rfl, by decide +kernel, by decide⟩
theorem mv_X8_force : hn_mv yX8_force := ⟨hn_in (by decide +kernel) rfl, hn_in (by decide +kernel) rfl⟩
theorem ms_X8_from : hn_ms yX8_from cX8_from 2 (some .int) 1 := ⟨hn_in (by decide +kernel) rfl, hn_in (by decide +kernel) rfl, by decide +kernel, by decide⟩
theorem mv_X8_from : hn_mv yX8_from := ⟨hn_in (by decide +kernel) rfl, hn_in (by decide +kernel) rfl⟩
theorem ms_X8_grew : hn_ms yX8_grew cX8_grew 2 (some .int) 1 := ⟨hn_in (by decide +kernel) rfl, hn_in (by decide +kernel) rfl, by decide +kernel, by decide⟩
theorem mv_X8_grew : hn_mv yX8_grew := ⟨hn_in (by decide +kernel) rfl, hn_in (by decide +kernel) rfl⟩
theorem ms_X8_habit : hn_ms yX8_habit cX8_habit 4 (some .int) 1 := ⟨hn_in (by decide +kernel) rfl, hn_in (by decide +kernel) rfl, by decide +kernel, by decide⟩
theorem mv_X8_habit : hn_mv yX8_habit := ⟨hn_in (by decide +kernel) rfl, hn_in (by decide +kernel) rfl⟩
theorem ms_X8_happened : hn_ms yX8_happened cX8_happened 6 (some .int) 3 := ⟨hn_in (by decide +kernel) rfl, hn_in (by decide +kernel) rfl, by decide +kernel, by decide⟩
theorem mv_X8_happened : hn_mv yX8_happened := ⟨hn_in (by decide +kernel) rfl, hn_in (by decide +kernel) rfl⟩
theorem ms_X8_keep : hn_ms yX8_keep cX8_keep 1 (some .int) 0 := ⟨hn_in (by decide +kernel) rfl, hn_in (by decide +kernel) rfl, by decide +kernel, by decide⟩
theorem mv_X8_keep : hn_mv yX8_keep := ⟨hn_in (by decide +kernel) rfl, hn_in (by decide +kernel) rfl⟩
theorem ms_X8_known : hn_ms yX8_known cX8_known 8 (some .int) 3 := ⟨hn_in (by decide +kernel) rfl, hn_in (by decide +kernel) rfl, by decide +kernel, by decide⟩
theorem mv_X8_known : hn_mv yX8_known := ⟨hn_in (by decide +kernel) rfl, hn_in (by decide +kernel) rfl⟩
theorem ms_X8_own : hn_ms yX8_own cX8_own 3 (some .int) 1 := ⟨hn_in (by decide +kernel) rfl, hn_in (by decide +kernel) rfl, by decide +kernel, by decide⟩
theorem mv_X8_own : hn_mv yX8_own := ⟨hn_in (by decide +kernel) rfl, hn_in (by decide +kernel) rfl⟩
theorem ms_X8_post : hn_ms yX8_post cX8_post 5 (some .int) 4 := ⟨hn_in (by decide +kernel) rfl, hn_in (by decide +kernel) rfl, by decide +kernel, by decide⟩
theorem mv_X8_post : hn_mv yX8_post := ⟨hn_in (by decide +kernel) rfl, hn_in (by decide +kernel) rfl⟩
theorem ms_X8_quarrel : hn_ms yX8_quarrel cX8_quarrel 6 (some .int) 0 := ⟨hn_in (by decide +kernel) rfl, hn_in (by decide +kernel) rfl, by decide +kernel, by decide⟩
theorem mv_X8_quarrel : hn_mv yX8_quarrel := ⟨hn_in (by decide +kernel) rfl, hn_in (by decide +kernel) rfl⟩
theorem ms_X8_right : hn_ms yX8_right cX8_right 7 (some .int) 2 := ⟨hn_in (by decide +kernel) rfl, hn_in (by decide +kernel) rfl, by decide +kernel, by decide⟩
theorem mv_X8_right : hn_mv yX8_right := ⟨hn_in (by decide +kernel) rfl, hn_in (by decide +kernel) rfl⟩
theorem ms_X8_rule : hn_ms yX8_rule cX8_rule 4 (some .int) 3 := ⟨hn_in (by decide +kernel) rfl, hn_in (by decide +kernel) rfl, by decide +kernel, by decide⟩
theorem mv_X8_rule : hn_mv yX8_rule := ⟨hn_in (by decide +kernel) rfl, hn_in (by decide +kernel) rfl⟩
theorem ms_X8_say : hn_ms yX8_say cX8_say 8 (some .int) 6 := ⟨hn_in (by decide +kernel) rfl, hn_in (by decide +kernel) rfl, by decide +kernel, by decide⟩
theorem mv_X8_say : hn_mv yX8_say := ⟨hn_in (by decide +kernel) rfl, hn_in (by decide +kernel) rfl⟩
theorem ms_X8_sheet : hn_ms yX8_sheet cX8_sheet 5 (some .int) 3 := ⟨hn_in (by decide +kernel) rfl, hn_in (by decide +kernel) rfl, by decide +kernel, by decide⟩
theorem mv_X8_sheet : hn_mv yX8_sheet := ⟨hn_in (by decide +kernel) rfl, hn_in (by decide +kernel) rfl⟩
theorem ms_X8_slow : hn_ms yX8_slow cX8_slow 8 (some .int) 2 := ⟨hn_in (by decide +kernel) rfl, hn_in (by decide +kernel) rfl, by decide +kernel, by decide⟩
theorem mv_X8_slow : hn_mv yX8_slow := ⟨hn_in (by decide +kernel) rfl, hn_in (by decide +kernel) rfl⟩
theorem ms_X8_span : hn_ms yX8_span cX8_span 3 (some .int) 2 := ⟨hn_in (by decide +kernel) rfl, hn_in (by decide +kernel) rfl, by decide +kernel, by decide⟩
theorem mv_X8_span : hn_mv yX8_span := ⟨hn_in (by decide +kernel) rfl, hn_in (by decide +kernel) rfl⟩
theorem ms_X8_truth : hn_ms yX8_truth cX8_truth 4 (some .int) 2 := ⟨hn_in (by decide +kernel) rfl, hn_in (by decide +kernel) rfl, by decide +kernel, by decide⟩
theorem mv_X8_truth : hn_mv yX8_truth := ⟨hn_in (by decide +kernel) rfl, hn_in (by decide +kernel) rfl⟩
theorem ms_X8_voice : hn_ms yX8_voice cX8_voice 6 (some .int) 2 := ⟨hn_in (by decide +kernel) rfl, hn_in (by decide +kernel) rfl, by decide +kernel, by decide⟩
theorem mv_X8_voice : hn_mv yX8_voice := ⟨hn_in (by decide +kernel) rfl, hn_in (by decide +kernel) rfl⟩
theorem ms_X8_voices : hn_ms yX8_voices cX8_voices 5 (some .int) 2 := ⟨hn_in (by decide +kernel) rfl, hn_in (by decide +kernel) rfl, by decide +kernel, by decide⟩
theorem mv_X8_voices : hn_mv yX8_voices := ⟨hn_in (by decide +kernel) rfl, hn_in (by decide +kernel) rfl⟩
theorem ms_X8_way : hn_ms yX8_way cX8_way 3 (some .int) 2 := ⟨hn_in (by decide +kernel) rfl, hn_in (by decide +kernel) rfl, by decide +kernel, by decide⟩
theorem mv_X8_way : hn_mv yX8_way := ⟨hn_in (by decide +kernel) rfl, hn_in (by decide +kernel) rfl⟩
theorem ms_X8_why : hn_ms yX8_why cX8_why 4 (some .int) 3 := ⟨hn_in (by decide +kernel) rfl, hn_in (by decide +kernel) rfl, by decide +kernel, by decide⟩
theorem mv_X8_why : hn_mv yX8_why := ⟨hn_in (by decide +kernel) rfl, hn_in (by decide +kernel) rfl⟩
theorem ms_X8_wipe : hn_ms yX8_wipe cX8_wipe 2 (some .int) 0 := ⟨hn_in (by decide +kernel) rfl, hn_in (by decide +kernel) rfl, by decide +kernel, by decide⟩
theorem mv_X8_wipe : hn_mv yX8_wipe := ⟨hn_in (by decide +kernel) rfl, hn_in (by decide +kernel) rfl⟩
theorem ms_X8_worth : hn_ms yX8_worth cX8_worth 5 (some .int) 3 := ⟨hn_in (by decide +kernel) rfl, hn_in (by decide +kernel) rfl, by decide +kernel, by decide⟩
theorem mv_X8_worth : hn_mv yX8_worth := ⟨hn_in (by decide +kernel) rfl, hn_in (by decide +kernel) rfl⟩
theorem ms_X8_write : hn_ms yX8_write cX8_write 5 (some .int) 2 := ⟨hn_in (by decide +kernel) rfl, hn_in (by decide +kernel) rfl, by decide +kernel, by decide⟩
theorem mv_X8_write : hn_mv yX8_write := ⟨hn_in (by decide +kernel) rfl, hn_in (by decide +kernel) rfl⟩
theorem hn_miss37 {x : Int32} (h0 : ¬ x = 0) (h1 : ¬ x = 1) (h2 : ¬ x = 2) (h3 : ¬ x = 3) (h4 : ¬ x = 4) (h5 : ¬ x = 5) (h6 : ¬ x = 6) (h7 : ¬ x = 7) (h8 : ¬ x = 8) (h9 : ¬ x = 9) (h10 : ¬ x = 10) (h11 : ¬ x = 11) (h12 : ¬ x = 12) (h13 : ¬ x = 13) (h14 : ¬ x = 14) (h15 : ¬ x = 15) (h16 : ¬ x = 16) (h17 : ¬ x = 17) (h18 : ¬ x = 18) (h19 : ¬ x = 19) (h20 : ¬ x = 20) (h21 : ¬ x = 21) (h22 : ¬ x = 22) (h23 : ¬ x = 23) (h24 : ¬ x = 24) (h25 : ¬ x = 25) (h26 : ¬ x = 26) (h27 : ¬ x = 27) (h28 : ¬ x = 28) (h29 : ¬ x = 29) (h30 : ¬ x = 30) (h31 : ¬ x = 31) (h32 : ¬ x = 32) (h33 : ¬ x = 33) (h34 : ¬ x = 34) (h35 : ¬ x = 35) (h36 : ¬ x = 36) : x.toInt < 0 ∨ 36 < x.toInt := by
  have g0 := lv_neT (a := 0) h0 (by decide)
  have g1 := lv_neT (a := 1) h1 (by decide)
  have g2 := lv_neT (a := 2) h2 (by decide)
  have g3 := lv_neT (a := 3) h3 (by decide)
  have g4 := lv_neT (a := 4) h4 (by decide)
  have g5 := lv_neT (a := 5) h5 (by decide)
  have g6 := lv_neT (a := 6) h6 (by decide)
  have g7 := lv_neT (a := 7) h7 (by decide)
  have g8 := lv_neT (a := 8) h8 (by decide)
  have g9 := lv_neT (a := 9) h9 (by decide)
  have g10 := lv_neT (a := 10) h10 (by decide)
  have g11 := lv_neT (a := 11) h11 (by decide)
  have g12 := lv_neT (a := 12) h12 (by decide)
  have g13 := lv_neT (a := 13) h13 (by decide)
  have g14 := lv_neT (a := 14) h14 (by decide)
  have g15 := lv_neT (a := 15) h15 (by decide)
  have g16 := lv_neT (a := 16) h16 (by decide)
  have g17 := lv_neT (a := 17) h17 (by decide)
  have g18 := lv_neT (a := 18) h18 (by decide)
  have g19 := lv_neT (a := 19) h19 (by decide)
  have g20 := lv_neT (a := 20) h20 (by decide)
  have g21 := lv_neT (a := 21) h21 (by decide)
  have g22 := lv_neT (a := 22) h22 (by decide)
  have g23 := lv_neT (a := 23) h23 (by decide)
  have g24 := lv_neT (a := 24) h24 (by decide)
  have g25 := lv_neT (a := 25) h25 (by decide)
  have g26 := lv_neT (a := 26) h26 (by decide)
  have g27 := lv_neT (a := 27) h27 (by decide)
  have g28 := lv_neT (a := 28) h28 (by decide)
  have g29 := lv_neT (a := 29) h29 (by decide)
  have g30 := lv_neT (a := 30) h30 (by decide)
  have g31 := lv_neT (a := 31) h31 (by decide)
  have g32 := lv_neT (a := 32) h32 (by decide)
  have g33 := lv_neT (a := 33) h33 (by decide)
  have g34 := lv_neT (a := 34) h34 (by decide)
  have g35 := lv_neT (a := 35) h35 (by decide)
  have g36 := lv_neT (a := 36) h36 (by decide)
  omega
theorem kn_7 (x : Int32) : x + Int32.ofInt (7) = x + 7 := by rw [show Int32.ofInt (7) = (7 : Int32) from by decide]
theorem kb_7 : (Int8.ofInt (7)).toInt32 = 7 := by decide
theorem kb_32 : (Int8.ofInt (32)).toInt32 = 32 := by decide
theorem kb_63 : (Int8.ofInt (63)).toInt32 = 63 := by decide
