def fL_law_1448 (xs : Nat → Int32) (N : Nat) (F : Nat) (k18 : Int32 → hn_M → Option Int32) (l3 : Int32) (μ : hn_M) : Option Int32 := k18 (l3 + 7) μ
def fL_law_632 (xs : Nat → Int32) (N : Nat) (F : Nat) (k18 : Int32 → hn_M → Option Int32) (l3 : Int32) (s0 : Int32) (s1 : Int32) (s2 : Int32) (s3 : Int32) (s4 : Int32) (s5 : Int32) (s7 : Int32) (μ : hn_M) : Option Int32 := (fX8_say s5 s4 s3 s2 s1 s0 μ).bind fun w1 => if s7 = w1.1 then fL_law_1448 xs N F k18 l3 w1.2 else some 0
def fL_law_618 (xs : Nat → Int32) (N : Nat) (F : Nat) (k18 : Int32 → hn_M → Option Int32) (l3 : Int32) (s0 : Int32) (s1 : Int32) (s2 : Int32) (s3 : Int32) (s4 : Int32) (s6 : Int32) (μ : hn_M) : Option Int32 := hn_rs xs N (l3 + 6) fun v2 => if v2 = 0 then fL_law_632 xs N F k18 l3 0 s0 s1 s2 s3 s4 s6 μ else fL_law_632 xs N F k18 l3 1 s0 s1 s2 s3 s4 s6 μ
def fL_law_581 (xs : Nat → Int32) (N : Nat) (F : Nat) (k18 : Int32 → hn_M → Option Int32) (l3 : Int32) (s0 : Int32) (s1 : Int32) (s2 : Int32) (s3 : Int32) (s4 : Int32) (s5 : Int32) (μ : hn_M) : Option Int32 := (fX7_say s5 s4 s3 s2 s1 s0 μ).bind fun w3 => hn_rs xs N (l3 + 1) fun v4 => hn_rs xs N (l3 + 2) fun v5 => hn_rs xs N (l3 + 3) fun v6 => hn_rs xs N (l3 + 4) fun v7 => hn_rs xs N (l3 + 5) fun v8 => if v8 = 0 then fL_law_618 xs N F k18 l3 0 v7 v6 v5 v4 w3.1 w3.2 else fL_law_618 xs N F k18 l3 1 v7 v6 v5 v4 w3.1 w3.2
def fL_law_567 (xs : Nat → Int32) (N : Nat) (F : Nat) (k18 : Int32 → hn_M → Option Int32) (l3 : Int32) (s0 : Int32) (s1 : Int32) (s2 : Int32) (s3 : Int32) (s4 : Int32) (μ : hn_M) : Option Int32 := hn_rs xs N (l3 + 6) fun v9 => if v9 = 0 then fL_law_581 xs N F k18 l3 0 s0 s1 s2 s3 s4 μ else fL_law_581 xs N F k18 l3 1 s0 s1 s2 s3 s4 μ
def fL_law_793 (xs : Nat → Int32) (N : Nat) (F : Nat) (k18 : Int32 → hn_M → Option Int32) (l3 : Int32) (s0 : Int32) (s1 : Int32) (s3 : Int32) (μ : hn_M) : Option Int32 := (fX8_voices F s1 s0 μ).bind fun w10 => if s3 = w10.1 then fL_law_1448 xs N F k18 l3 w10.2 else some 0
def fL_law_771 (xs : Nat → Int32) (N : Nat) (F : Nat) (k18 : Int32 → hn_M → Option Int32) (l3 : Int32) (s0 : Int32) (s1 : Int32) (μ : hn_M) : Option Int32 := (fX7_voices F s1 s0 μ).bind fun w11 => hn_rs xs N (l3 + 1) fun v12 => hn_rs xs N (l3 + 2) fun v13 => if v13 = 0 then fL_law_793 xs N F k18 l3 0 v12 w11.1 w11.2 else fL_law_793 xs N F k18 l3 1 v12 w11.1 w11.2
def fL_law_18 (xs : Nat → Int32) (N : Nat) (F : Nat) : Nat → Int32 → hn_M → Option Int32
  | 0, _, _ => none
  | n + 1, l3, μ => if (Int32.ofNat N) - 7 < l3 then some 1 else hn_rs xs N l3 fun v14 => if v14 &&& 63 = 0 then hn_rs xs N (l3 + 1) fun v15 => hn_rs xs N (l3 + 2) fun v16 => hn_rs xs N (l3 + 3) fun v17 => hn_rs xs N (l3 + 4) fun v18 => (fX7_post F v15 v16 v17 v18 μ).bind fun w19 => hn_rs xs N (l3 + 1) fun v20 => hn_rs xs N (l3 + 2) fun v21 => hn_rs xs N (l3 + 3) fun v22 => hn_rs xs N (l3 + 4) fun v23 => (fX8_post F v20 v21 v22 v23 w19.2).bind fun w24 => if w19.1 = w24.1 then fL_law_1448 xs N F (fL_law_18 xs N F n) l3 w24.2 else some 0 else if v14 &&& 63 = 1 then hn_rs xs N (l3 + 1) fun v25 => hn_rs xs N (l3 + 2) fun v26 => (fX7_way μ v25 v26).bind fun v27 => hn_rs xs N (l3 + 1) fun v28 => hn_rs xs N (l3 + 2) fun v29 => (fX8_way μ v28 v29).bind fun v30 => if v27 = v30 then fL_law_1448 xs N F (fL_law_18 xs N F n) l3 μ else some 0 else if v14 &&& 63 = 2 then hn_rs xs N (l3 + 1) fun v31 => hn_rs xs N (l3 + 2) fun v32 => (fX7_slow μ v31 v32).bind fun v33 => hn_rs xs N (l3 + 1) fun v34 => hn_rs xs N (l3 + 2) fun v35 => (fX8_slow F v34 v35 μ).bind fun w36 => if v33 = w36.1 then fL_law_1448 xs N F (fL_law_18 xs N F n) l3 w36.2 else some 0 else if v14 &&& 63 = 3 then hn_rs xs N (l3 + 1) fun v37 => hn_rs xs N (l3 + 2) fun v38 => hn_rs xs N (l3 + 3) fun v39 => (fX7_sheet v37 v38 v39 μ).bind fun w40 => hn_rs xs N (l3 + 1) fun v41 => hn_rs xs N (l3 + 2) fun v42 => hn_rs xs N (l3 + 3) fun v43 => (fX8_sheet v41 v42 v43 w40.2).bind fun w44 => if w40.1 = w44.1 then fL_law_1448 xs N F (fL_law_18 xs N F n) l3 w44.2 else some 0 else if v14 &&& 63 = 4 then hn_rs xs N (l3 + 1) fun v45 => hn_rs xs N (l3 + 2) fun v46 => (fX7_dated v45 v46 μ).bind fun w47 => hn_rs xs N (l3 + 1) fun v48 => hn_rs xs N (l3 + 2) fun v49 => (fX8_dated v48 v49 w47.2).bind fun w50 => if w47.1 = w50.1 then fL_law_1448 xs N F (fL_law_18 xs N F n) l3 w50.2 else some 0 else if v14 &&& 63 = 5 then hn_rs xs N (l3 + 1) fun v51 => hn_rs xs N (l3 + 2) fun v52 => (fX7_behind v51 v52 μ).bind fun w53 => hn_rs xs N (l3 + 1) fun v54 => hn_rs xs N (l3 + 2) fun v55 => (fX8_behind v54 v55 w53.2).bind fun w56 => if w53.1 = w56.1 then fL_law_1448 xs N F (fL_law_18 xs N F n) l3 w56.2 else some 0 else if v14 &&& 63 = 6 then hn_rs xs N (l3 + 1) fun v57 => hn_rs xs N (l3 + 2) fun v58 => hn_rs xs N (l3 + 3) fun v59 => (fX7_happened F v57 v58 v59 μ).bind fun w60 => hn_rs xs N (l3 + 1) fun v61 => hn_rs xs N (l3 + 2) fun v62 => hn_rs xs N (l3 + 3) fun v63 => (fX8_happened F v61 v62 v63 w60.2).bind fun w64 => if w60.1 = w64.1 then fL_law_1448 xs N F (fL_law_18 xs N F n) l3 w64.2 else some 0 else if v14 &&& 63 = 7 then hn_rs xs N (l3 + 1) fun v65 => hn_rs xs N (l3 + 2) fun v66 => (fX7_span F v65 v66 μ).bind fun w67 => hn_rs xs N (l3 + 1) fun v68 => hn_rs xs N (l3 + 2) fun v69 => (fX8_span F v68 v69 w67.2).bind fun w70 => if w67.1 = w70.1 then fL_law_1448 xs N F (fL_law_18 xs N F n) l3 w70.2 else some 0 else if v14 &&& 63 = 8 then hn_rs xs N (l3 + 1) fun v71 => hn_rs xs N (l3 + 2) fun v72 => (fX7_ahead F v71 v72 μ).bind fun w73 => hn_rs xs N (l3 + 1) fun v74 => hn_rs xs N (l3 + 2) fun v75 => (fX8_ahead F v74 v75 w73.2).bind fun w76 => if w73.1 = w76.1 then fL_law_1448 xs N F (fL_law_18 xs N F n) l3 w76.2 else some 0 else if v14 &&& 63 = 9 then hn_rs xs N (l3 + 1) fun v77 => hn_rs xs N (l3 + 2) fun v78 => hn_rs xs N (l3 + 3) fun v79 => hn_rs xs N (l3 + 4) fun v80 => hn_rs xs N (l3 + 5) fun v81 => if v81 = 0 then fL_law_567 xs N F (fL_law_18 xs N F n) l3 0 v80 v79 v78 v77 μ else fL_law_567 xs N F (fL_law_18 xs N F n) l3 1 v80 v79 v78 v77 μ else if v14 &&& 63 = 10 then hn_rs xs N (l3 + 1) fun v82 => hn_rs xs N (l3 + 2) fun v83 => (fX7_change F μ v82 v83).bind fun v84 => hn_rs xs N (l3 + 1) fun v85 => hn_rs xs N (l3 + 2) fun v86 => (fX8_change F μ v85 v86).bind fun v87 => if v84 = v87 then fL_law_1448 xs N F (fL_law_18 xs N F n) l3 μ else some 0 else if v14 &&& 63 = 11 then hn_rs xs N (l3 + 1) fun v88 => (fX7_own v88 μ).bind fun w89 => hn_rs xs N (l3 + 1) fun v90 => (fX8_own v90 w89.2).bind fun w91 => if w89.1 = w91.1 then fL_law_1448 xs N F (fL_law_18 xs N F n) l3 w91.2 else some 0 else if v14 &&& 63 = 12 then hn_rs xs N (l3 + 1) fun v92 => (fX7_from F v92 μ).bind fun w93 => hn_rs xs N (l3 + 1) fun v94 => (fX8_from F v94 w93.2).bind fun w95 => if w93.1 = w95.1 then fL_law_1448 xs N F (fL_law_18 xs N F n) l3 w95.2 else some 0 else if v14 &&& 63 = 13 then hn_rs xs N (l3 + 1) fun v96 => hn_rs xs N (l3 + 2) fun v97 => (fX7_voice F v96 v97 μ).bind fun w98 => hn_rs xs N (l3 + 1) fun v99 => hn_rs xs N (l3 + 2) fun v100 => (fX8_voice F v99 v100 w98.2).bind fun w101 => if w98.1 = w101.1 then fL_law_1448 xs N F (fL_law_18 xs N F n) l3 w101.2 else some 0 else if v14 &&& 63 = 14 then hn_rs xs N (l3 + 1) fun v102 => hn_rs xs N (l3 + 2) fun v103 => if v103 = 0 then fL_law_771 xs N F (fL_law_18 xs N F n) l3 0 v102 μ else fL_law_771 xs N F (fL_law_18 xs N F n) l3 1 v102 μ else if v14 &&& 63 = 15 then hn_rs xs N (l3 + 1) fun v104 => (fX7_grew F v104 μ).bind fun w105 => hn_rs xs N (l3 + 1) fun v106 => (fX8_grew F v106 w105.2).bind fun w107 => if w105.1 = w107.1 then fL_law_1448 xs N F (fL_law_18 xs N F n) l3 w107.2 else some 0 else if v14 &&& 63 = 16 then hn_rs xs N (l3 + 1) fun v108 => (fX7_habit F v108 μ).bind fun w109 => hn_rs xs N (l3 + 1) fun v110 => (fX8_habit F v110 w109.2).bind fun w111 => if w109.1 = w111.1 then fL_law_1448 xs N F (fL_law_18 xs N F n) l3 w111.2 else some 0 else if v14 &&& 63 = 17 then hn_rs xs N (l3 + 1) fun v112 => hn_rs xs N (l3 + 2) fun v113 => hn_rs xs N (l3 + 3) fun v114 => (fX7_write F v112 ((v113.toInt64 <<< ((32 : Int32).toInt64 &&& 63)) ||| (v114.toInt64 &&& 4294967295)) μ).bind fun w115 => hn_rs xs N (l3 + 1) fun v116 => hn_rs xs N (l3 + 2) fun v117 => hn_rs xs N (l3 + 3) fun v118 => (fX8_write F v116 ((v117.toInt64 <<< ((32 : Int32).toInt64 &&& 63)) ||| (v118.toInt64 &&& 4294967295)) w115.2).bind fun w119 => if w115.1 = w119.1 then fL_law_1448 xs N F (fL_law_18 xs N F n) l3 w119.2 else some 0 else if v14 &&& 63 = 18 then (fX7_wipe μ).bind fun w120 => (fX8_wipe w120.2).bind fun w121 => if w120.1 = w121.1 then fL_law_1448 xs N F (fL_law_18 xs N F n) l3 w121.2 else some 0 else if v14 &&& 63 = 19 then (fX7_fault F μ).bind fun w122 => (fX8_fault F w122.2).bind fun w123 => if w122.1 = w123.1 then fL_law_1448 xs N F (fL_law_18 xs N F n) l3 w123.2 else some 0 else if v14 &&& 63 = 20 then (fX7_force F μ).bind fun w124 => (fX8_force F w124.2).bind fun w125 => if w124.1 = w125.1 then fL_law_1448 xs N F (fL_law_18 xs N F n) l3 w125.2 else some 0 else if v14 &&& 63 = 21 then hn_rs xs N (l3 + 1) fun v126 => hn_rs xs N (l3 + 2) fun v127 => hn_rs xs N (l3 + 3) fun v128 => (fX7_rule F μ v126 v127 v128).bind fun v129 => hn_rs xs N (l3 + 1) fun v130 => hn_rs xs N (l3 + 2) fun v131 => hn_rs xs N (l3 + 3) fun v132 => (fX8_rule F μ v130 v131 v132).bind fun v133 => if v129 = v133 then fL_law_1448 xs N F (fL_law_18 xs N F n) l3 μ else some 0 else if v14 &&& 63 = 22 then hn_rs xs N (l3 + 1) fun v134 => hn_rs xs N (l3 + 2) fun v135 => hn_rs xs N (l3 + 3) fun v136 => (fX7_why F μ v134 v135 v136).bind fun v137 => hn_rs xs N (l3 + 1) fun v138 => hn_rs xs N (l3 + 2) fun v139 => hn_rs xs N (l3 + 3) fun v140 => (fX8_why F μ v138 v139 v140).bind fun v141 => if v137 = v141 then fL_law_1448 xs N F (fL_law_18 xs N F n) l3 μ else some 0 else if v14 &&& 63 = 23 then (fX7_quarrel F μ).bind fun v142 => (fX8_quarrel F μ).bind fun v143 => if v142 = v143 then fL_law_1448 xs N F (fL_law_18 xs N F n) l3 μ else some 0 else if v14 &&& 63 = 24 then hn_rs xs N (l3 + 1) fun v144 => (fX7_closet v144 μ).bind fun w145 => hn_rs xs N (l3 + 1) fun v146 => (fX8_closet v146 w145.2).bind fun w147 => if w145.1 = w147.1 then fL_law_1448 xs N F (fL_law_18 xs N F n) l3 w147.2 else some 0 else if v14 &&& 63 = 25 then hn_rs xs N (l3 + 1) fun v148 => (fX7_came F v148 μ).bind fun w149 => hn_rs xs N (l3 + 1) fun v150 => (fX8_came F v150 w149.2).bind fun w151 => if w149.1 = w151.1 then fL_law_1448 xs N F (fL_law_18 xs N F n) l3 w151.2 else some 0 else if v14 &&& 63 = 26 then hn_rs xs N (l3 + 1) fun v152 => hn_rs xs N (l3 + 2) fun v153 => hn_rs xs N (l3 + 3) fun v154 => (fX7_belief F v152 v153 v154 μ).bind fun w155 => hn_rs xs N (l3 + 1) fun v156 => hn_rs xs N (l3 + 2) fun v157 => hn_rs xs N (l3 + 3) fun v158 => (fX8_belief F v156 v157 v158 w155.2).bind fun w159 => if w155.1 = w159.1 then fL_law_1448 xs N F (fL_law_18 xs N F n) l3 w159.2 else some 0 else if v14 &&& 63 = 27 then hn_rs xs N (l3 + 1) fun v160 => (fX7_banned F v160 μ).bind fun w161 => hn_rs xs N (l3 + 1) fun v162 => (fX8_banned F v162 w161.2).bind fun w163 => if w161.1 = w163.1 then fL_law_1448 xs N F (fL_law_18 xs N F n) l3 w163.2 else some 0 else if v14 &&& 63 = 28 then hn_rs xs N (l3 + 1) fun v164 => hn_rs xs N (l3 + 2) fun v165 => (fX7_truth v164 v165 μ).bind fun w166 => hn_rs xs N (l3 + 1) fun v167 => hn_rs xs N (l3 + 2) fun v168 => (fX8_truth v167 v168 w166.2).bind fun w169 => if w166.1 = w169.1 then fL_law_1448 xs N F (fL_law_18 xs N F n) l3 w169.2 else some 0 else if v14 &&& 63 = 29 then hn_rs xs N (l3 + 1) fun v170 => hn_rs xs N (l3 + 2) fun v171 => (fX7_right F v170 v171 μ).bind fun w172 => hn_rs xs N (l3 + 1) fun v173 => hn_rs xs N (l3 + 2) fun v174 => (fX8_right F v173 v174 w172.2).bind fun w175 => if w172.1 = w175.1 then fL_law_1448 xs N F (fL_law_18 xs N F n) l3 w175.2 else some 0 else if v14 &&& 63 = 30 then hn_rs xs N (l3 + 1) fun v176 => hn_rs xs N (l3 + 2) fun v177 => hn_rs xs N (l3 + 3) fun v178 => (fX7_beyond F v176 v177 v178).bind fun v179 => hn_rs xs N (l3 + 1) fun v180 => hn_rs xs N (l3 + 2) fun v181 => hn_rs xs N (l3 + 3) fun v182 => (fX8_beyond F v180 v181 v182).bind fun v183 => if lg_cmp v179 v183 = 0 then fL_law_1448 xs N F (fL_law_18 xs N F n) l3 μ else some 0 else if v14 &&& 63 = 31 then hn_rs xs N (l3 + 1) fun v184 => hn_rs xs N (l3 + 2) fun v185 => hn_rs xs N (l3 + 3) fun v186 => (fX7_known F μ v184 v185 v186).bind fun v187 => hn_rs xs N (l3 + 1) fun v188 => hn_rs xs N (l3 + 2) fun v189 => hn_rs xs N (l3 + 3) fun v190 => (fX8_known F μ v188 v189 v190).bind fun v191 => if v187 = v191 then fL_law_1448 xs N F (fL_law_18 xs N F n) l3 μ else some 0 else if v14 &&& 63 = 32 then hn_rs xs N (l3 + 1) fun v192 => hn_rs xs N (l3 + 2) fun v193 => hn_rs xs N (l3 + 3) fun v194 => (fX7_worth v192 v193 v194 μ).bind fun w195 => hn_rs xs N (l3 + 1) fun v196 => hn_rs xs N (l3 + 2) fun v197 => hn_rs xs N (l3 + 3) fun v198 => (fX8_worth v196 v197 v198 w195.2).bind fun w199 => if w195.1 = w199.1 then fL_law_1448 xs N F (fL_law_18 xs N F n) l3 w199.2 else some 0 else if v14 &&& 63 = 33 then hn_rs xs N (l3 + 1) fun v200 => hn_rs xs N (l3 + 2) fun v201 => hn_rs xs N (l3 + 3) fun v202 => (fX7_buy F μ v200 v201 v202).bind fun v203 => hn_rs xs N (l3 + 1) fun v204 => hn_rs xs N (l3 + 2) fun v205 => hn_rs xs N (l3 + 3) fun v206 => (fX8_buy F μ v204 v205 v206).bind fun v207 => if v203 = v207 then fL_law_1448 xs N F (fL_law_18 xs N F n) l3 μ else some 0 else if v14 &&& 63 = 34 then (fX7_keep μ).bind fun w208 => (fX8_keep F w208.2).bind fun w209 => if w208.1 = w209.1 then fL_law_1448 xs N F (fL_law_18 xs N F n) l3 w209.2 else some 0 else if v14 &&& 63 = 35 then (fX7_back μ).bind fun w210 => (fX8_back F w210.2).bind fun w211 => if w210.1 = w211.1 then fL_law_1448 xs N F (fL_law_18 xs N F n) l3 w211.2 else some 0 else if v14 &&& 63 = 36 then hn_rs xs N (l3 + 1) fun v212 => (fX7_count F μ v212).bind fun v213 => hn_rs xs N (l3 + 1) fun v214 => (fX8_count F μ v214).bind fun v215 => if v213 = v215 then fL_law_1448 xs N F (fL_law_18 xs N F n) l3 μ else some 0 else fL_law_1448 xs N F (fL_law_18 xs N F n) l3 μ
set_option maxHeartbeats 1000000 in
theorem gL_law_1448 {Z : hn_Z} {B : hn_B} {xs : Nat → Int32} {N bs : Nat} {F : Nat} {R : Int32} (hF : hn_F Z B (93, 3368) cL_law 4 RL (some .boolean) 11) (hQ : hn_lgoal Z B bs) (hX : hn_Xs Z B bs N xs) (hR : R = 1) (hV : hn_V B hn_nA) {k18 : Int32 → hn_M → Option Int32} (H18 : ∀ (l3 : Int32) (μ : hn_M), k18 l3 μ = some R → hn_G Z B (93, 3368) 4 18 [(0, .ref bs), (1, .ref (hn_base B + 0)), (2, .ref (hn_base B + 72)), (3, .int l3)] [] μ) {l3 : Int32} {μ : hn_M} (e : fL_law_1448 xs N F k18 l3 μ = some R) : hn_G Z B (93, 3368) 4 1448 [(0, .ref bs), (1, .ref (hn_base B + 0)), (2, .ref (hn_base B + 72)), (3, .int l3)] [] μ := by
  unfold fL_law_1448 at e
  refine hn_iinc (p := 3) hF dL_law_1448 (q := 1451) rfl rfl (kn_7 _) (by decide) (L' := [(3, .int (l3 + 7)), (0, .ref bs), (1, .ref (hn_base B + 0)), (2, .ref (hn_base B + 72))]) rfl ?_
  refine hn_goto hF dL_law_1451 (q := 18) rfl ?_
  refine hn_sub [1, 2, 3, 0] (L' := [(0, .ref bs), (1, .ref (hn_base B + 0)), (2, .ref (hn_base B + 72)), (3, .int (l3 + 7))]) rfl ?_
  exact H18 (l3 + 7) μ e
set_option maxHeartbeats 1000000 in
theorem gL_law_632 {Z : hn_Z} {B : hn_B} {xs : Nat → Int32} {N bs : Nat} {F : Nat} {R : Int32} (hF : hn_F Z B (93, 3368) cL_law 4 RL (some .boolean) 11) (hQ : hn_lgoal Z B bs) (hX : hn_Xs Z B bs N xs) (hR : R = 1) (hV : hn_V B hn_nA) {k18 : Int32 → hn_M → Option Int32} (H18 : ∀ (l3 : Int32) (μ : hn_M), k18 l3 μ = some R → hn_G Z B (93, 3368) 4 18 [(0, .ref bs), (1, .ref (hn_base B + 0)), (2, .ref (hn_base B + 72)), (3, .int l3)] [] μ) {l3 : Int32} {s0 : Int32} {s1 : Int32} {s2 : Int32} {s3 : Int32} {s4 : Int32} {s5 : Int32} {s7 : Int32} {μ : hn_M} (e : fL_law_632 xs N F k18 l3 s0 s1 s2 s3 s4 s5 s7 μ = some R) : hn_G Z B (93, 3368) 4 632 [(0, .ref bs), (1, .ref (hn_base B + 0)), (2, .ref (hn_base B + 72)), (3, .int l3)] [.int s0, .int s1, .int s2, .int s3, .int s4, .int s5, .ref (hn_base B + 72), .int s7] μ := by
  unfold fL_law_632 at e
  have o72 : hn_isO B 72 8 hn_k72 := hV 72 (by decide)
  refine hn_callVm (rest := [.int s7]) hF ms_X8_say mv_X8_say lk_X9_56 o72 rfl (by decide) [.int s5, .int s4, .int s3, .int s2, .int s1, .int s0] rfl (Nat.le_of_ble_eq_true rfl) dL_law_632 (q := 635) rfl rfl e (fun v hv => cX8_say_ hV hv) (fun w1 e => ?_)
  refine hn_icmp_eq hF dL_law_635 (t := 1448) (q := 638) rfl rfl e (fun e => ?_) (fun e => ?_)
  · exact gL_law_1448 hF hQ hX hR hV H18 e
  · refine hn_iconst hF dL_law_638 (q := 639) rfl ki_0 ?_
    exact absurd (Option.some.inj e) (by rw [hR]; decide)
set_option maxHeartbeats 1000000 in
theorem gL_law_618 {Z : hn_Z} {B : hn_B} {xs : Nat → Int32} {N bs : Nat} {F : Nat} {R : Int32} (hF : hn_F Z B (93, 3368) cL_law 4 RL (some .boolean) 11) (hQ : hn_lgoal Z B bs) (hX : hn_Xs Z B bs N xs) (hR : R = 1) (hV : hn_V B hn_nA) {k18 : Int32 → hn_M → Option Int32} (H18 : ∀ (l3 : Int32) (μ : hn_M), k18 l3 μ = some R → hn_G Z B (93, 3368) 4 18 [(0, .ref bs), (1, .ref (hn_base B + 0)), (2, .ref (hn_base B + 72)), (3, .int l3)] [] μ) {l3 : Int32} {s0 : Int32} {s1 : Int32} {s2 : Int32} {s3 : Int32} {s4 : Int32} {s6 : Int32} {μ : hn_M} (e : fL_law_618 xs N F k18 l3 s0 s1 s2 s3 s4 s6 μ = some R) : hn_G Z B (93, 3368) 4 618 [(0, .ref bs), (1, .ref (hn_base B + 0)), (2, .ref (hn_base B + 72)), (3, .int l3)] [.int s0, .int s1, .int s2, .int s3, .int s4, .ref (hn_base B + 72), .int s6] μ := by
  unfold fL_law_618 at e
  refine hn_aload_n hF dL_law_618 (q := 619) rfl 0 rfl ?_
  refine hn_iload_n hF dL_law_619 (q := 620) rfl 3 rfl ?_
  refine hn_bipush hF dL_law_620 (q := 622) rfl kb_6 ?_
  refine hn_iadd hF dL_law_622 (q := 623) rfl ?_
  refine hn_sld hF hX dL_law_623 (q := 624) rfl e (fun v2 e => ?_)
  refine hn_if_eq hF dL_law_624 (t := 631) (q := 627) rfl rfl e (fun e => ?_) (fun e => ?_)
  · refine hn_iconst hF dL_law_631 (q := 632) rfl ki_0 ?_
    exact gL_law_632 hF hQ hX hR hV H18 e
  · refine hn_iconst hF dL_law_627 (q := 628) rfl ki_1 ?_
    refine hn_goto hF dL_law_628 (q := 632) rfl ?_
    exact gL_law_632 hF hQ hX hR hV H18 e
set_option maxHeartbeats 1000000 in
theorem gL_law_581 {Z : hn_Z} {B : hn_B} {xs : Nat → Int32} {N bs : Nat} {F : Nat} {R : Int32} (hF : hn_F Z B (93, 3368) cL_law 4 RL (some .boolean) 11) (hQ : hn_lgoal Z B bs) (hX : hn_Xs Z B bs N xs) (hR : R = 1) (hV : hn_V B hn_nA) {k18 : Int32 → hn_M → Option Int32} (H18 : ∀ (l3 : Int32) (μ : hn_M), k18 l3 μ = some R → hn_G Z B (93, 3368) 4 18 [(0, .ref bs), (1, .ref (hn_base B + 0)), (2, .ref (hn_base B + 72)), (3, .int l3)] [] μ) {l3 : Int32} {s0 : Int32} {s1 : Int32} {s2 : Int32} {s3 : Int32} {s4 : Int32} {s5 : Int32} {μ : hn_M} (e : fL_law_581 xs N F k18 l3 s0 s1 s2 s3 s4 s5 μ = some R) : hn_G Z B (93, 3368) 4 581 [(0, .ref bs), (1, .ref (hn_base B + 0)), (2, .ref (hn_base B + 72)), (3, .int l3)] [.int s0, .int s1, .int s2, .int s3, .int s4, .int s5, .ref (hn_base B + 0)] μ := by
  unfold fL_law_581 at e
  have o0 : hn_isO B 0 7 hn_k0 := hV 0 (by decide)
  refine hn_callVm (rest := []) hF ms_X7_say mv_X7_say lk_X9_52 o0 rfl (by decide) [.int s5, .int s4, .int s3, .int s2, .int s1, .int s0] rfl (Nat.le_of_ble_eq_true rfl) dL_law_581 (q := 584) rfl rfl e (fun v hv => cX7_say_ hV hv) (fun w3 e => ?_)
  refine hn_aload_n hF dL_law_584 (q := 585) rfl 2 rfl ?_
  refine hn_aload_n hF dL_law_585 (q := 586) rfl 0 rfl ?_
  refine hn_iload_n hF dL_law_586 (q := 587) rfl 3 rfl ?_
  refine hn_iconst hF dL_law_587 (q := 588) rfl ki_1 ?_
  refine hn_iadd hF dL_law_588 (q := 589) rfl ?_
  refine hn_sld hF hX dL_law_589 (q := 590) rfl e (fun v4 e => ?_)
  refine hn_aload_n hF dL_law_590 (q := 591) rfl 0 rfl ?_
  refine hn_iload_n hF dL_law_591 (q := 592) rfl 3 rfl ?_
  refine hn_iconst hF dL_law_592 (q := 593) rfl ki_2 ?_
  refine hn_iadd hF dL_law_593 (q := 594) rfl ?_
  refine hn_sld hF hX dL_law_594 (q := 595) rfl e (fun v5 e => ?_)
  refine hn_aload_n hF dL_law_595 (q := 596) rfl 0 rfl ?_
  refine hn_iload_n hF dL_law_596 (q := 597) rfl 3 rfl ?_
  refine hn_iconst hF dL_law_597 (q := 598) rfl ki_3 ?_
  refine hn_iadd hF dL_law_598 (q := 599) rfl ?_
  refine hn_sld hF hX dL_law_599 (q := 600) rfl e (fun v6 e => ?_)
  refine hn_aload_n hF dL_law_600 (q := 601) rfl 0 rfl ?_
  refine hn_iload_n hF dL_law_601 (q := 602) rfl 3 rfl ?_
  refine hn_iconst hF dL_law_602 (q := 603) rfl ki_4 ?_
  refine hn_iadd hF dL_law_603 (q := 604) rfl ?_
  refine hn_sld hF hX dL_law_604 (q := 605) rfl e (fun v7 e => ?_)
  refine hn_aload_n hF dL_law_605 (q := 606) rfl 0 rfl ?_
  refine hn_iload_n hF dL_law_606 (q := 607) rfl 3 rfl ?_
  refine hn_iconst hF dL_law_607 (q := 608) rfl ki_5 ?_
  refine hn_iadd hF dL_law_608 (q := 609) rfl ?_
  refine hn_sld hF hX dL_law_609 (q := 610) rfl e (fun v8 e => ?_)
  refine hn_if_eq hF dL_law_610 (t := 617) (q := 613) rfl rfl e (fun e => ?_) (fun e => ?_)
  · refine hn_iconst hF dL_law_617 (q := 618) rfl ki_0 ?_
    exact gL_law_618 hF hQ hX hR hV H18 e
  · refine hn_iconst hF dL_law_613 (q := 614) rfl ki_1 ?_
    refine hn_goto hF dL_law_614 (q := 618) rfl ?_
    exact gL_law_618 hF hQ hX hR hV H18 e
set_option maxHeartbeats 1000000 in
theorem gL_law_567 {Z : hn_Z} {B : hn_B} {xs : Nat → Int32} {N bs : Nat} {F : Nat} {R : Int32} (hF : hn_F Z B (93, 3368) cL_law 4 RL (some .boolean) 11) (hQ : hn_lgoal Z B bs) (hX : hn_Xs Z B bs N xs) (hR : R = 1) (hV : hn_V B hn_nA) {k18 : Int32 → hn_M → Option Int32} (H18 : ∀ (l3 : Int32) (μ : hn_M), k18 l3 μ = some R → hn_G Z B (93, 3368) 4 18 [(0, .ref bs), (1, .ref (hn_base B + 0)), (2, .ref (hn_base B + 72)), (3, .int l3)] [] μ) {l3 : Int32} {s0 : Int32} {s1 : Int32} {s2 : Int32} {s3 : Int32} {s4 : Int32} {μ : hn_M} (e : fL_law_567 xs N F k18 l3 s0 s1 s2 s3 s4 μ = some R) : hn_G Z B (93, 3368) 4 567 [(0, .ref bs), (1, .ref (hn_base B + 0)), (2, .ref (hn_base B + 72)), (3, .int l3)] [.int s0, .int s1, .int s2, .int s3, .int s4, .ref (hn_base B + 0)] μ := by
  unfold fL_law_567 at e
  refine hn_aload_n hF dL_law_567 (q := 568) rfl 0 rfl ?_
  refine hn_iload_n hF dL_law_568 (q := 569) rfl 3 rfl ?_
  refine hn_bipush hF dL_law_569 (q := 571) rfl kb_6 ?_
  refine hn_iadd hF dL_law_571 (q := 572) rfl ?_
  refine hn_sld hF hX dL_law_572 (q := 573) rfl e (fun v9 e => ?_)
  refine hn_if_eq hF dL_law_573 (t := 580) (q := 576) rfl rfl e (fun e => ?_) (fun e => ?_)
  · refine hn_iconst hF dL_law_580 (q := 581) rfl ki_0 ?_
    exact gL_law_581 hF hQ hX hR hV H18 e
  · refine hn_iconst hF dL_law_576 (q := 577) rfl ki_1 ?_
    refine hn_goto hF dL_law_577 (q := 581) rfl ?_
    exact gL_law_581 hF hQ hX hR hV H18 e
set_option maxHeartbeats 1000000 in
theorem gL_law_793 {Z : hn_Z} {B : hn_B} {xs : Nat → Int32} {N bs : Nat} {F : Nat} {R : Int32} (hF : hn_F Z B (93, 3368) cL_law 4 RL (some .boolean) 11) (hQ : hn_lgoal Z B bs) (hX : hn_Xs Z B bs N xs) (hR : R = 1) (hV : hn_V B hn_nA) {k18 : Int32 → hn_M → Option Int32} (H18 : ∀ (l3 : Int32) (μ : hn_M), k18 l3 μ = some R → hn_G Z B (93, 3368) 4 18 [(0, .ref bs), (1, .ref (hn_base B + 0)), (2, .ref (hn_base B + 72)), (3, .int l3)] [] μ) {l3 : Int32} {s0 : Int32} {s1 : Int32} {s3 : Int32} {μ : hn_M} (e : fL_law_793 xs N F k18 l3 s0 s1 s3 μ = some R) : hn_G Z B (93, 3368) 4 793 [(0, .ref bs), (1, .ref (hn_base B + 0)), (2, .ref (hn_base B + 72)), (3, .int l3)] [.int s0, .int s1, .ref (hn_base B + 72), .int s3] μ := by
  unfold fL_law_793 at e
  have o72 : hn_isO B 72 8 hn_k72 := hV 72 (by decide)
  refine hn_callVm (rest := [.int s3]) hF ms_X8_voices mv_X8_voices lk_X9_78 o72 rfl (by decide) [.int s1, .int s0] rfl (Nat.le_of_ble_eq_true rfl) dL_law_793 (q := 796) rfl rfl e (fun v hv => cX8_voices_ hV hv) (fun w10 e => ?_)
  refine hn_icmp_eq hF dL_law_796 (t := 1448) (q := 799) rfl rfl e (fun e => ?_) (fun e => ?_)
  · exact gL_law_1448 hF hQ hX hR hV H18 e
  · refine hn_iconst hF dL_law_799 (q := 800) rfl ki_0 ?_
    exact absurd (Option.some.inj e) (by rw [hR]; decide)
set_option maxHeartbeats 1000000 in
theorem gL_law_771 {Z : hn_Z} {B : hn_B} {xs : Nat → Int32} {N bs : Nat} {F : Nat} {R : Int32} (hF : hn_F Z B (93, 3368) cL_law 4 RL (some .boolean) 11) (hQ : hn_lgoal Z B bs) (hX : hn_Xs Z B bs N xs) (hR : R = 1) (hV : hn_V B hn_nA) {k18 : Int32 → hn_M → Option Int32} (H18 : ∀ (l3 : Int32) (μ : hn_M), k18 l3 μ = some R → hn_G Z B (93, 3368) 4 18 [(0, .ref bs), (1, .ref (hn_base B + 0)), (2, .ref (hn_base B + 72)), (3, .int l3)] [] μ) {l3 : Int32} {s0 : Int32} {s1 : Int32} {μ : hn_M} (e : fL_law_771 xs N F k18 l3 s0 s1 μ = some R) : hn_G Z B (93, 3368) 4 771 [(0, .ref bs), (1, .ref (hn_base B + 0)), (2, .ref (hn_base B + 72)), (3, .int l3)] [.int s0, .int s1, .ref (hn_base B + 0)] μ := by
  unfold fL_law_771 at e
  have o0 : hn_isO B 0 7 hn_k0 := hV 0 (by decide)
  refine hn_callVm (rest := []) hF ms_X7_voices mv_X7_voices lk_X9_74 o0 rfl (by decide) [.int s1, .int s0] rfl (Nat.le_of_ble_eq_true rfl) dL_law_771 (q := 774) rfl rfl e (fun v hv => cX7_voices_ hV hv) (fun w11 e => ?_)
  refine hn_aload_n hF dL_law_774 (q := 775) rfl 2 rfl ?_
  refine hn_aload_n hF dL_law_775 (q := 776) rfl 0 rfl ?_
  refine hn_iload_n hF dL_law_776 (q := 777) rfl 3 rfl ?_
  refine hn_iconst hF dL_law_777 (q := 778) rfl ki_1 ?_
  refine hn_iadd hF dL_law_778 (q := 779) rfl ?_
  refine hn_sld hF hX dL_law_779 (q := 780) rfl e (fun v12 e => ?_)
  refine hn_aload_n hF dL_law_780 (q := 781) rfl 0 rfl ?_
  refine hn_iload_n hF dL_law_781 (q := 782) rfl 3 rfl ?_
  refine hn_iconst hF dL_law_782 (q := 783) rfl ki_2 ?_
  refine hn_iadd hF dL_law_783 (q := 784) rfl ?_
  refine hn_sld hF hX dL_law_784 (q := 785) rfl e (fun v13 e => ?_)
  refine hn_if_eq hF dL_law_785 (t := 792) (q := 788) rfl rfl e (fun e => ?_) (fun e => ?_)
  · refine hn_iconst hF dL_law_792 (q := 793) rfl ki_0 ?_
    exact gL_law_793 hF hQ hX hR hV H18 e
  · refine hn_iconst hF dL_law_788 (q := 789) rfl ki_1 ?_
    refine hn_goto hF dL_law_789 (q := 793) rfl ?_
    exact gL_law_793 hF hQ hX hR hV H18 e
set_option maxHeartbeats 1000000 in
theorem gL_law_18 {Z : hn_Z} {B : hn_B} {xs : Nat → Int32} {N bs : Nat} {F : Nat} {R : Int32} (hF : hn_F Z B (93, 3368) cL_law 4 RL (some .boolean) 11) (hQ : hn_lgoal Z B bs) (hX : hn_Xs Z B bs N xs) (hR : R = 1) (hV : hn_V B hn_nA) : ∀ (n : Nat) (l3 : Int32) (μ : hn_M), fL_law_18 xs N F n l3 μ = some R → hn_G Z B (93, 3368) 4 18 [(0, .ref bs), (1, .ref (hn_base B + 0)), (2, .ref (hn_base B + 72)), (3, .int l3)] [] μ := by
  have o0 : hn_isO B 0 7 hn_k0 := hV 0 (by decide)
  have o72 : hn_isO B 72 8 hn_k72 := hV 72 (by decide)
  intro n
  induction n with
  | zero => intro l3 μ e; rw [fL_law_18] at e; cases e
  | succ n ih =>
    intro l3 μ e
    rw [fL_law_18] at e
    refine hn_iload_n hF dL_law_18 (q := 19) rfl 3 rfl ?_
    refine hn_aload_n hF dL_law_19 (q := 20) rfl 0 rfl ?_
    refine hn_slenS hF hX dL_law_20 (q := 21) rfl ?_
    refine hn_bipush hF dL_law_21 (q := 23) rfl kb_7 ?_
    refine hn_isub hF dL_law_23 (q := 24) rfl ?_
    refine hn_icmp_gt hF dL_law_24 (t := 1454) (q := 27) rfl rfl e (fun e => ?_) (fun e => ?_)
    · refine hn_iconst hF dL_law_1454 (q := 1455) rfl ki_1 ?_
      exact hn_lend hF hQ hX dL_law_1455
    · refine hn_aload_n hF dL_law_27 (q := 28) rfl 0 rfl ?_
      refine hn_iload_n hF dL_law_28 (q := 29) rfl 3 rfl ?_
      refine hn_sld hF hX dL_law_29 (q := 30) rfl e (fun v14 e => ?_)
      refine hn_bipush hF dL_law_30 (q := 32) rfl kb_63 ?_
      refine hn_iand hF dL_law_32 (q := 33) rfl ?_
      by_cases hx0 : v14 &&& 63 = 0
      · rw [if_pos hx0] at e
        refine hn_tabIn hF hx0 dL_law_33 (t := 196) (by decide) ?_
        refine hn_aload_n hF dL_law_196 (q := 197) rfl 1 rfl ?_
        refine hn_aload_n hF dL_law_197 (q := 198) rfl 0 rfl ?_
        refine hn_iload_n hF dL_law_198 (q := 199) rfl 3 rfl ?_
        refine hn_iconst hF dL_law_199 (q := 200) rfl ki_1 ?_
        refine hn_iadd hF dL_law_200 (q := 201) rfl ?_
        refine hn_sld hF hX dL_law_201 (q := 202) rfl e (fun v15 e => ?_)
        refine hn_aload_n hF dL_law_202 (q := 203) rfl 0 rfl ?_
        refine hn_iload_n hF dL_law_203 (q := 204) rfl 3 rfl ?_
        refine hn_iconst hF dL_law_204 (q := 205) rfl ki_2 ?_
        refine hn_iadd hF dL_law_205 (q := 206) rfl ?_
        refine hn_sld hF hX dL_law_206 (q := 207) rfl e (fun v16 e => ?_)
        refine hn_aload_n hF dL_law_207 (q := 208) rfl 0 rfl ?_
        refine hn_iload_n hF dL_law_208 (q := 209) rfl 3 rfl ?_
        refine hn_iconst hF dL_law_209 (q := 210) rfl ki_3 ?_
        refine hn_iadd hF dL_law_210 (q := 211) rfl ?_
        refine hn_sld hF hX dL_law_211 (q := 212) rfl e (fun v17 e => ?_)
        refine hn_aload_n hF dL_law_212 (q := 213) rfl 0 rfl ?_
        refine hn_iload_n hF dL_law_213 (q := 214) rfl 3 rfl ?_
        refine hn_iconst hF dL_law_214 (q := 215) rfl ki_4 ?_
        refine hn_iadd hF dL_law_215 (q := 216) rfl ?_
        refine hn_sld hF hX dL_law_216 (q := 217) rfl e (fun v18 e => ?_)
        refine hn_callVm (rest := []) hF ms_X7_post mv_X7_post lk_X9_13 o0 rfl (by decide) [.int v15, .int v16, .int v17, .int v18] rfl (Nat.le_of_ble_eq_true rfl) dL_law_217 (q := 220) rfl rfl e (fun v hv => cX7_post_ hV hv) (fun w19 e => ?_)
        refine hn_aload_n hF dL_law_220 (q := 221) rfl 2 rfl ?_
        refine hn_aload_n hF dL_law_221 (q := 222) rfl 0 rfl ?_
        refine hn_iload_n hF dL_law_222 (q := 223) rfl 3 rfl ?_
        refine hn_iconst hF dL_law_223 (q := 224) rfl ki_1 ?_
        refine hn_iadd hF dL_law_224 (q := 225) rfl ?_
        refine hn_sld hF hX dL_law_225 (q := 226) rfl e (fun v20 e => ?_)
        refine hn_aload_n hF dL_law_226 (q := 227) rfl 0 rfl ?_
        refine hn_iload_n hF dL_law_227 (q := 228) rfl 3 rfl ?_
        refine hn_iconst hF dL_law_228 (q := 229) rfl ki_2 ?_
        refine hn_iadd hF dL_law_229 (q := 230) rfl ?_
        refine hn_sld hF hX dL_law_230 (q := 231) rfl e (fun v21 e => ?_)
        refine hn_aload_n hF dL_law_231 (q := 232) rfl 0 rfl ?_
        refine hn_iload_n hF dL_law_232 (q := 233) rfl 3 rfl ?_
        refine hn_iconst hF dL_law_233 (q := 234) rfl ki_3 ?_
        refine hn_iadd hF dL_law_234 (q := 235) rfl ?_
        refine hn_sld hF hX dL_law_235 (q := 236) rfl e (fun v22 e => ?_)
        refine hn_aload_n hF dL_law_236 (q := 237) rfl 0 rfl ?_
        refine hn_iload_n hF dL_law_237 (q := 238) rfl 3 rfl ?_
        refine hn_iconst hF dL_law_238 (q := 239) rfl ki_4 ?_
        refine hn_iadd hF dL_law_239 (q := 240) rfl ?_
        refine hn_sld hF hX dL_law_240 (q := 241) rfl e (fun v23 e => ?_)
        refine hn_callVm (rest := [.int (w19.1)]) hF ms_X8_post mv_X8_post lk_X9_17 o72 rfl (by decide) [.int v20, .int v21, .int v22, .int v23] rfl (Nat.le_of_ble_eq_true rfl) dL_law_241 (q := 244) rfl rfl e (fun v hv => cX8_post_ hV hv) (fun w24 e => ?_)
        refine hn_icmp_eq hF dL_law_244 (t := 1448) (q := 247) rfl rfl e (fun e => ?_) (fun e => ?_)
        · exact gL_law_1448 hF hQ hX hR hV ih e
        · refine hn_iconst hF dL_law_247 (q := 248) rfl ki_0 ?_
          exact absurd (Option.some.inj e) (by rw [hR]; decide)
      rw [if_neg hx0] at e
      by_cases hx1 : v14 &&& 63 = 1
      · rw [if_pos hx1] at e
        refine hn_tabIn hF hx1 dL_law_33 (t := 249) (by decide) ?_
        refine hn_aload_n hF dL_law_249 (q := 250) rfl 1 rfl ?_
        refine hn_aload_n hF dL_law_250 (q := 251) rfl 0 rfl ?_
        refine hn_iload_n hF dL_law_251 (q := 252) rfl 3 rfl ?_
        refine hn_iconst hF dL_law_252 (q := 253) rfl ki_1 ?_
        refine hn_iadd hF dL_law_253 (q := 254) rfl ?_
        refine hn_sld hF hX dL_law_254 (q := 255) rfl e (fun v25 e => ?_)
        refine hn_aload_n hF dL_law_255 (q := 256) rfl 0 rfl ?_
        refine hn_iload_n hF dL_law_256 (q := 257) rfl 3 rfl ?_
        refine hn_iconst hF dL_law_257 (q := 258) rfl ki_2 ?_
        refine hn_iadd hF dL_law_258 (q := 259) rfl ?_
        refine hn_sld hF hX dL_law_259 (q := 260) rfl e (fun v26 e => ?_)
        refine hn_callVi (rest := []) hF ms_X7_way mv_X7_way lk_X9_18 o0 rfl (by decide) [.int v25, .int v26] rfl (Nat.le_of_ble_eq_true rfl) dL_law_260 (q := 263) rfl rfl e (fun v hv => cX7_way_ hV hv) (fun v27 e => ?_)
        refine hn_aload_n hF dL_law_263 (q := 264) rfl 2 rfl ?_
        refine hn_aload_n hF dL_law_264 (q := 265) rfl 0 rfl ?_
        refine hn_iload_n hF dL_law_265 (q := 266) rfl 3 rfl ?_
        refine hn_iconst hF dL_law_266 (q := 267) rfl ki_1 ?_
        refine hn_iadd hF dL_law_267 (q := 268) rfl ?_
        refine hn_sld hF hX dL_law_268 (q := 269) rfl e (fun v28 e => ?_)
        refine hn_aload_n hF dL_law_269 (q := 270) rfl 0 rfl ?_
        refine hn_iload_n hF dL_law_270 (q := 271) rfl 3 rfl ?_
        refine hn_iconst hF dL_law_271 (q := 272) rfl ki_2 ?_
        refine hn_iadd hF dL_law_272 (q := 273) rfl ?_
        refine hn_sld hF hX dL_law_273 (q := 274) rfl e (fun v29 e => ?_)
        refine hn_callVi (rest := [.int v27]) hF ms_X8_way mv_X8_way lk_X9_22 o72 rfl (by decide) [.int v28, .int v29] rfl (Nat.le_of_ble_eq_true rfl) dL_law_274 (q := 277) rfl rfl e (fun v hv => cX8_way_ hV hv) (fun v30 e => ?_)
        refine hn_icmp_eq hF dL_law_277 (t := 1448) (q := 280) rfl rfl e (fun e => ?_) (fun e => ?_)
        · exact gL_law_1448 hF hQ hX hR hV ih e
        · refine hn_iconst hF dL_law_280 (q := 281) rfl ki_0 ?_
          exact absurd (Option.some.inj e) (by rw [hR]; decide)
      rw [if_neg hx1] at e
      by_cases hx2 : v14 &&& 63 = 2
      · rw [if_pos hx2] at e
        refine hn_tabIn hF hx2 dL_law_33 (t := 282) (by decide) ?_
        refine hn_aload_n hF dL_law_282 (q := 283) rfl 1 rfl ?_
        refine hn_aload_n hF dL_law_283 (q := 284) rfl 0 rfl ?_
        refine hn_iload_n hF dL_law_284 (q := 285) rfl 3 rfl ?_
        refine hn_iconst hF dL_law_285 (q := 286) rfl ki_1 ?_
        refine hn_iadd hF dL_law_286 (q := 287) rfl ?_
        refine hn_sld hF hX dL_law_287 (q := 288) rfl e (fun v31 e => ?_)
        refine hn_aload_n hF dL_law_288 (q := 289) rfl 0 rfl ?_
        refine hn_iload_n hF dL_law_289 (q := 290) rfl 3 rfl ?_
        refine hn_iconst hF dL_law_290 (q := 291) rfl ki_2 ?_
        refine hn_iadd hF dL_law_291 (q := 292) rfl ?_
        refine hn_sld hF hX dL_law_292 (q := 293) rfl e (fun v32 e => ?_)
        refine hn_callVi (rest := []) hF ms_X7_slow mv_X7_slow lk_X9_23 o0 rfl (by decide) [.int v31, .int v32] rfl (Nat.le_of_ble_eq_true rfl) dL_law_293 (q := 296) rfl rfl e (fun v hv => cX7_slow_ hV hv) (fun v33 e => ?_)
        refine hn_aload_n hF dL_law_296 (q := 297) rfl 2 rfl ?_
        refine hn_aload_n hF dL_law_297 (q := 298) rfl 0 rfl ?_
        refine hn_iload_n hF dL_law_298 (q := 299) rfl 3 rfl ?_
        refine hn_iconst hF dL_law_299 (q := 300) rfl ki_1 ?_
        refine hn_iadd hF dL_law_300 (q := 301) rfl ?_
        refine hn_sld hF hX dL_law_301 (q := 302) rfl e (fun v34 e => ?_)
        refine hn_aload_n hF dL_law_302 (q := 303) rfl 0 rfl ?_
        refine hn_iload_n hF dL_law_303 (q := 304) rfl 3 rfl ?_
        refine hn_iconst hF dL_law_304 (q := 305) rfl ki_2 ?_
        refine hn_iadd hF dL_law_305 (q := 306) rfl ?_
        refine hn_sld hF hX dL_law_306 (q := 307) rfl e (fun v35 e => ?_)
        refine hn_callVm (rest := [.int v33]) hF ms_X8_slow mv_X8_slow lk_X9_26 o72 rfl (by decide) [.int v34, .int v35] rfl (Nat.le_of_ble_eq_true rfl) dL_law_307 (q := 310) rfl rfl e (fun v hv => cX8_slow_ hV hv) (fun w36 e => ?_)
        refine hn_icmp_eq hF dL_law_310 (t := 1448) (q := 313) rfl rfl e (fun e => ?_) (fun e => ?_)
        · exact gL_law_1448 hF hQ hX hR hV ih e
        · refine hn_iconst hF dL_law_313 (q := 314) rfl ki_0 ?_
          exact absurd (Option.some.inj e) (by rw [hR]; decide)
      rw [if_neg hx2] at e
      by_cases hx3 : v14 &&& 63 = 3
      · rw [if_pos hx3] at e
        refine hn_tabIn hF hx3 dL_law_33 (t := 315) (by decide) ?_
        refine hn_aload_n hF dL_law_315 (q := 316) rfl 1 rfl ?_
        refine hn_aload_n hF dL_law_316 (q := 317) rfl 0 rfl ?_
        refine hn_iload_n hF dL_law_317 (q := 318) rfl 3 rfl ?_
        refine hn_iconst hF dL_law_318 (q := 319) rfl ki_1 ?_
        refine hn_iadd hF dL_law_319 (q := 320) rfl ?_
        refine hn_sld hF hX dL_law_320 (q := 321) rfl e (fun v37 e => ?_)
        refine hn_aload_n hF dL_law_321 (q := 322) rfl 0 rfl ?_
        refine hn_iload_n hF dL_law_322 (q := 323) rfl 3 rfl ?_
        refine hn_iconst hF dL_law_323 (q := 324) rfl ki_2 ?_
        refine hn_iadd hF dL_law_324 (q := 325) rfl ?_
        refine hn_sld hF hX dL_law_325 (q := 326) rfl e (fun v38 e => ?_)
        refine hn_aload_n hF dL_law_326 (q := 327) rfl 0 rfl ?_
        refine hn_iload_n hF dL_law_327 (q := 328) rfl 3 rfl ?_
        refine hn_iconst hF dL_law_328 (q := 329) rfl ki_3 ?_
        refine hn_iadd hF dL_law_329 (q := 330) rfl ?_
        refine hn_sld hF hX dL_law_330 (q := 331) rfl e (fun v39 e => ?_)
        refine hn_callVm (rest := []) hF ms_X7_sheet mv_X7_sheet lk_X9_27 o0 rfl (by decide) [.int v37, .int v38, .int v39] rfl (Nat.le_of_ble_eq_true rfl) dL_law_331 (q := 334) rfl rfl e (fun v hv => cX7_sheet_ hV hv) (fun w40 e => ?_)
        refine hn_aload_n hF dL_law_334 (q := 335) rfl 2 rfl ?_
        refine hn_aload_n hF dL_law_335 (q := 336) rfl 0 rfl ?_
        refine hn_iload_n hF dL_law_336 (q := 337) rfl 3 rfl ?_
        refine hn_iconst hF dL_law_337 (q := 338) rfl ki_1 ?_
        refine hn_iadd hF dL_law_338 (q := 339) rfl ?_
        refine hn_sld hF hX dL_law_339 (q := 340) rfl e (fun v41 e => ?_)
        refine hn_aload_n hF dL_law_340 (q := 341) rfl 0 rfl ?_
        refine hn_iload_n hF dL_law_341 (q := 342) rfl 3 rfl ?_
        refine hn_iconst hF dL_law_342 (q := 343) rfl ki_2 ?_
        refine hn_iadd hF dL_law_343 (q := 344) rfl ?_
        refine hn_sld hF hX dL_law_344 (q := 345) rfl e (fun v42 e => ?_)
        refine hn_aload_n hF dL_law_345 (q := 346) rfl 0 rfl ?_
        refine hn_iload_n hF dL_law_346 (q := 347) rfl 3 rfl ?_
        refine hn_iconst hF dL_law_347 (q := 348) rfl ki_3 ?_
        refine hn_iadd hF dL_law_348 (q := 349) rfl ?_
        refine hn_sld hF hX dL_law_349 (q := 350) rfl e (fun v43 e => ?_)
        refine hn_callVm (rest := [.int (w40.1)]) hF ms_X8_sheet mv_X8_sheet lk_X9_31 o72 rfl (by decide) [.int v41, .int v42, .int v43] rfl (Nat.le_of_ble_eq_true rfl) dL_law_350 (q := 353) rfl rfl e (fun v hv => cX8_sheet_ hV hv) (fun w44 e => ?_)
        refine hn_icmp_eq hF dL_law_353 (t := 1448) (q := 356) rfl rfl e (fun e => ?_) (fun e => ?_)
        · exact gL_law_1448 hF hQ hX hR hV ih e
        · refine hn_iconst hF dL_law_356 (q := 357) rfl ki_0 ?_
          exact absurd (Option.some.inj e) (by rw [hR]; decide)
      rw [if_neg hx3] at e
      by_cases hx4 : v14 &&& 63 = 4
      · rw [if_pos hx4] at e
        refine hn_tabIn hF hx4 dL_law_33 (t := 358) (by decide) ?_
        refine hn_aload_n hF dL_law_358 (q := 359) rfl 1 rfl ?_
        refine hn_aload_n hF dL_law_359 (q := 360) rfl 0 rfl ?_
        refine hn_iload_n hF dL_law_360 (q := 361) rfl 3 rfl ?_
        refine hn_iconst hF dL_law_361 (q := 362) rfl ki_1 ?_
        refine hn_iadd hF dL_law_362 (q := 363) rfl ?_
        refine hn_sld hF hX dL_law_363 (q := 364) rfl e (fun v45 e => ?_)
        refine hn_aload_n hF dL_law_364 (q := 365) rfl 0 rfl ?_
        refine hn_iload_n hF dL_law_365 (q := 366) rfl 3 rfl ?_
        refine hn_iconst hF dL_law_366 (q := 367) rfl ki_2 ?_
        refine hn_iadd hF dL_law_367 (q := 368) rfl ?_
        refine hn_sld hF hX dL_law_368 (q := 369) rfl e (fun v46 e => ?_)
        refine hn_callVm (rest := []) hF ms_X7_dated mv_X7_dated lk_X9_32 o0 rfl (by decide) [.int v45, .int v46] rfl (Nat.le_of_ble_eq_true rfl) dL_law_369 (q := 372) rfl rfl e (fun v hv => cX7_dated_ hV hv) (fun w47 e => ?_)
        refine hn_aload_n hF dL_law_372 (q := 373) rfl 2 rfl ?_
        refine hn_aload_n hF dL_law_373 (q := 374) rfl 0 rfl ?_
        refine hn_iload_n hF dL_law_374 (q := 375) rfl 3 rfl ?_
        refine hn_iconst hF dL_law_375 (q := 376) rfl ki_1 ?_
        refine hn_iadd hF dL_law_376 (q := 377) rfl ?_
        refine hn_sld hF hX dL_law_377 (q := 378) rfl e (fun v48 e => ?_)
        refine hn_aload_n hF dL_law_378 (q := 379) rfl 0 rfl ?_
        refine hn_iload_n hF dL_law_379 (q := 380) rfl 3 rfl ?_
        refine hn_iconst hF dL_law_380 (q := 381) rfl ki_2 ?_
        refine hn_iadd hF dL_law_381 (q := 382) rfl ?_
        refine hn_sld hF hX dL_law_382 (q := 383) rfl e (fun v49 e => ?_)
        refine hn_callVm (rest := [.int (w47.1)]) hF ms_X8_dated mv_X8_dated lk_X9_35 o72 rfl (by decide) [.int v48, .int v49] rfl (Nat.le_of_ble_eq_true rfl) dL_law_383 (q := 386) rfl rfl e (fun v hv => cX8_dated_ hV hv) (fun w50 e => ?_)
        refine hn_icmp_eq hF dL_law_386 (t := 1448) (q := 389) rfl rfl e (fun e => ?_) (fun e => ?_)
        · exact gL_law_1448 hF hQ hX hR hV ih e
        · refine hn_iconst hF dL_law_389 (q := 390) rfl ki_0 ?_
          exact absurd (Option.some.inj e) (by rw [hR]; decide)
      rw [if_neg hx4] at e
      by_cases hx5 : v14 &&& 63 = 5
      · rw [if_pos hx5] at e
        refine hn_tabIn hF hx5 dL_law_33 (t := 391) (by decide) ?_
        refine hn_aload_n hF dL_law_391 (q := 392) rfl 1 rfl ?_
        refine hn_aload_n hF dL_law_392 (q := 393) rfl 0 rfl ?_
        refine hn_iload_n hF dL_law_393 (q := 394) rfl 3 rfl ?_
        refine hn_iconst hF dL_law_394 (q := 395) rfl ki_1 ?_
        refine hn_iadd hF dL_law_395 (q := 396) rfl ?_
        refine hn_sld hF hX dL_law_396 (q := 397) rfl e (fun v51 e => ?_)
        refine hn_aload_n hF dL_law_397 (q := 398) rfl 0 rfl ?_
        refine hn_iload_n hF dL_law_398 (q := 399) rfl 3 rfl ?_
        refine hn_iconst hF dL_law_399 (q := 400) rfl ki_2 ?_
        refine hn_iadd hF dL_law_400 (q := 401) rfl ?_
        refine hn_sld hF hX dL_law_401 (q := 402) rfl e (fun v52 e => ?_)
        refine hn_callVm (rest := []) hF ms_X7_behind mv_X7_behind lk_X9_36 o0 rfl (by decide) [.int v51, .int v52] rfl (Nat.le_of_ble_eq_true rfl) dL_law_402 (q := 405) rfl rfl e (fun v hv => cX7_behind_ hV hv) (fun w53 e => ?_)
        refine hn_aload_n hF dL_law_405 (q := 406) rfl 2 rfl ?_
        refine hn_aload_n hF dL_law_406 (q := 407) rfl 0 rfl ?_
        refine hn_iload_n hF dL_law_407 (q := 408) rfl 3 rfl ?_
        refine hn_iconst hF dL_law_408 (q := 409) rfl ki_1 ?_
        refine hn_iadd hF dL_law_409 (q := 410) rfl ?_
        refine hn_sld hF hX dL_law_410 (q := 411) rfl e (fun v54 e => ?_)
        refine hn_aload_n hF dL_law_411 (q := 412) rfl 0 rfl ?_
        refine hn_iload_n hF dL_law_412 (q := 413) rfl 3 rfl ?_
        refine hn_iconst hF dL_law_413 (q := 414) rfl ki_2 ?_
        refine hn_iadd hF dL_law_414 (q := 415) rfl ?_
        refine hn_sld hF hX dL_law_415 (q := 416) rfl e (fun v55 e => ?_)
        refine hn_callVm (rest := [.int (w53.1)]) hF ms_X8_behind mv_X8_behind lk_X9_39 o72 rfl (by decide) [.int v54, .int v55] rfl (Nat.le_of_ble_eq_true rfl) dL_law_416 (q := 419) rfl rfl e (fun v hv => cX8_behind_ hV hv) (fun w56 e => ?_)
        refine hn_icmp_eq hF dL_law_419 (t := 1448) (q := 422) rfl rfl e (fun e => ?_) (fun e => ?_)
        · exact gL_law_1448 hF hQ hX hR hV ih e
        · refine hn_iconst hF dL_law_422 (q := 423) rfl ki_0 ?_
          exact absurd (Option.some.inj e) (by rw [hR]; decide)
      rw [if_neg hx5] at e
      by_cases hx6 : v14 &&& 63 = 6
      · rw [if_pos hx6] at e
        refine hn_tabIn hF hx6 dL_law_33 (t := 424) (by decide) ?_
        refine hn_aload_n hF dL_law_424 (q := 425) rfl 1 rfl ?_
        refine hn_aload_n hF dL_law_425 (q := 426) rfl 0 rfl ?_
        refine hn_iload_n hF dL_law_426 (q := 427) rfl 3 rfl ?_
        refine hn_iconst hF dL_law_427 (q := 428) rfl ki_1 ?_
        refine hn_iadd hF dL_law_428 (q := 429) rfl ?_
        refine hn_sld hF hX dL_law_429 (q := 430) rfl e (fun v57 e => ?_)
        refine hn_aload_n hF dL_law_430 (q := 431) rfl 0 rfl ?_
        refine hn_iload_n hF dL_law_431 (q := 432) rfl 3 rfl ?_
        refine hn_iconst hF dL_law_432 (q := 433) rfl ki_2 ?_
        refine hn_iadd hF dL_law_433 (q := 434) rfl ?_
        refine hn_sld hF hX dL_law_434 (q := 435) rfl e (fun v58 e => ?_)
        refine hn_aload_n hF dL_law_435 (q := 436) rfl 0 rfl ?_
        refine hn_iload_n hF dL_law_436 (q := 437) rfl 3 rfl ?_
        refine hn_iconst hF dL_law_437 (q := 438) rfl ki_3 ?_
        refine hn_iadd hF dL_law_438 (q := 439) rfl ?_
        refine hn_sld hF hX dL_law_439 (q := 440) rfl e (fun v59 e => ?_)
        refine hn_callVm (rest := []) hF ms_X7_happened mv_X7_happened lk_X9_40 o0 rfl (by decide) [.int v57, .int v58, .int v59] rfl (Nat.le_of_ble_eq_true rfl) dL_law_440 (q := 443) rfl rfl e (fun v hv => cX7_happened_ hV hv) (fun w60 e => ?_)
        refine hn_aload_n hF dL_law_443 (q := 444) rfl 2 rfl ?_
        refine hn_aload_n hF dL_law_444 (q := 445) rfl 0 rfl ?_
        refine hn_iload_n hF dL_law_445 (q := 446) rfl 3 rfl ?_
        refine hn_iconst hF dL_law_446 (q := 447) rfl ki_1 ?_
        refine hn_iadd hF dL_law_447 (q := 448) rfl ?_
        refine hn_sld hF hX dL_law_448 (q := 449) rfl e (fun v61 e => ?_)
        refine hn_aload_n hF dL_law_449 (q := 450) rfl 0 rfl ?_
        refine hn_iload_n hF dL_law_450 (q := 451) rfl 3 rfl ?_
        refine hn_iconst hF dL_law_451 (q := 452) rfl ki_2 ?_
        refine hn_iadd hF dL_law_452 (q := 453) rfl ?_
        refine hn_sld hF hX dL_law_453 (q := 454) rfl e (fun v62 e => ?_)
        refine hn_aload_n hF dL_law_454 (q := 455) rfl 0 rfl ?_
        refine hn_iload_n hF dL_law_455 (q := 456) rfl 3 rfl ?_
        refine hn_iconst hF dL_law_456 (q := 457) rfl ki_3 ?_
        refine hn_iadd hF dL_law_457 (q := 458) rfl ?_
        refine hn_sld hF hX dL_law_458 (q := 459) rfl e (fun v63 e => ?_)
        refine hn_callVm (rest := [.int (w60.1)]) hF ms_X8_happened mv_X8_happened lk_X9_43 o72 rfl (by decide) [.int v61, .int v62, .int v63] rfl (Nat.le_of_ble_eq_true rfl) dL_law_459 (q := 462) rfl rfl e (fun v hv => cX8_happened_ hV hv) (fun w64 e => ?_)
        refine hn_icmp_eq hF dL_law_462 (t := 1448) (q := 465) rfl rfl e (fun e => ?_) (fun e => ?_)
        · exact gL_law_1448 hF hQ hX hR hV ih e
        · refine hn_iconst hF dL_law_465 (q := 466) rfl ki_0 ?_
          exact absurd (Option.some.inj e) (by rw [hR]; decide)
      rw [if_neg hx6] at e
      by_cases hx7 : v14 &&& 63 = 7
      · rw [if_pos hx7] at e
        refine hn_tabIn hF hx7 dL_law_33 (t := 467) (by decide) ?_
        refine hn_aload_n hF dL_law_467 (q := 468) rfl 1 rfl ?_
        refine hn_aload_n hF dL_law_468 (q := 469) rfl 0 rfl ?_
        refine hn_iload_n hF dL_law_469 (q := 470) rfl 3 rfl ?_
        refine hn_iconst hF dL_law_470 (q := 471) rfl ki_1 ?_
        refine hn_iadd hF dL_law_471 (q := 472) rfl ?_
        refine hn_sld hF hX dL_law_472 (q := 473) rfl e (fun v65 e => ?_)
        refine hn_aload_n hF dL_law_473 (q := 474) rfl 0 rfl ?_
        refine hn_iload_n hF dL_law_474 (q := 475) rfl 3 rfl ?_
        refine hn_iconst hF dL_law_475 (q := 476) rfl ki_2 ?_
        refine hn_iadd hF dL_law_476 (q := 477) rfl ?_
        refine hn_sld hF hX dL_law_477 (q := 478) rfl e (fun v66 e => ?_)
        refine hn_callVm (rest := []) hF ms_X7_span mv_X7_span lk_X9_44 o0 rfl (by decide) [.int v65, .int v66] rfl (Nat.le_of_ble_eq_true rfl) dL_law_478 (q := 481) rfl rfl e (fun v hv => cX7_span_ hV hv) (fun w67 e => ?_)
        refine hn_aload_n hF dL_law_481 (q := 482) rfl 2 rfl ?_
        refine hn_aload_n hF dL_law_482 (q := 483) rfl 0 rfl ?_
        refine hn_iload_n hF dL_law_483 (q := 484) rfl 3 rfl ?_
        refine hn_iconst hF dL_law_484 (q := 485) rfl ki_1 ?_
        refine hn_iadd hF dL_law_485 (q := 486) rfl ?_
        refine hn_sld hF hX dL_law_486 (q := 487) rfl e (fun v68 e => ?_)
        refine hn_aload_n hF dL_law_487 (q := 488) rfl 0 rfl ?_
        refine hn_iload_n hF dL_law_488 (q := 489) rfl 3 rfl ?_
        refine hn_iconst hF dL_law_489 (q := 490) rfl ki_2 ?_
        refine hn_iadd hF dL_law_490 (q := 491) rfl ?_
        refine hn_sld hF hX dL_law_491 (q := 492) rfl e (fun v69 e => ?_)
        refine hn_callVm (rest := [.int (w67.1)]) hF ms_X8_span mv_X8_span lk_X9_47 o72 rfl (by decide) [.int v68, .int v69] rfl (Nat.le_of_ble_eq_true rfl) dL_law_492 (q := 495) rfl rfl e (fun v hv => cX8_span_ hV hv) (fun w70 e => ?_)
        refine hn_icmp_eq hF dL_law_495 (t := 1448) (q := 498) rfl rfl e (fun e => ?_) (fun e => ?_)
        · exact gL_law_1448 hF hQ hX hR hV ih e
        · refine hn_iconst hF dL_law_498 (q := 499) rfl ki_0 ?_
          exact absurd (Option.some.inj e) (by rw [hR]; decide)
      rw [if_neg hx7] at e
      by_cases hx8 : v14 &&& 63 = 8
      · rw [if_pos hx8] at e
        refine hn_tabIn hF hx8 dL_law_33 (t := 500) (by decide) ?_
        refine hn_aload_n hF dL_law_500 (q := 501) rfl 1 rfl ?_
        refine hn_aload_n hF dL_law_501 (q := 502) rfl 0 rfl ?_
        refine hn_iload_n hF dL_law_502 (q := 503) rfl 3 rfl ?_
        refine hn_iconst hF dL_law_503 (q := 504) rfl ki_1 ?_
        refine hn_iadd hF dL_law_504 (q := 505) rfl ?_
        refine hn_sld hF hX dL_law_505 (q := 506) rfl e (fun v71 e => ?_)
        refine hn_aload_n hF dL_law_506 (q := 507) rfl 0 rfl ?_
        refine hn_iload_n hF dL_law_507 (q := 508) rfl 3 rfl ?_
        refine hn_iconst hF dL_law_508 (q := 509) rfl ki_2 ?_
        refine hn_iadd hF dL_law_509 (q := 510) rfl ?_
        refine hn_sld hF hX dL_law_510 (q := 511) rfl e (fun v72 e => ?_)
        refine hn_callVm (rest := []) hF ms_X7_ahead mv_X7_ahead lk_X9_48 o0 rfl (by decide) [.int v71, .int v72] rfl (Nat.le_of_ble_eq_true rfl) dL_law_511 (q := 514) rfl rfl e (fun v hv => cX7_ahead_ hV hv) (fun w73 e => ?_)
        refine hn_aload_n hF dL_law_514 (q := 515) rfl 2 rfl ?_
        refine hn_aload_n hF dL_law_515 (q := 516) rfl 0 rfl ?_
        refine hn_iload_n hF dL_law_516 (q := 517) rfl 3 rfl ?_
        refine hn_iconst hF dL_law_517 (q := 518) rfl ki_1 ?_
        refine hn_iadd hF dL_law_518 (q := 519) rfl ?_
        refine hn_sld hF hX dL_law_519 (q := 520) rfl e (fun v74 e => ?_)
        refine hn_aload_n hF dL_law_520 (q := 521) rfl 0 rfl ?_
        refine hn_iload_n hF dL_law_521 (q := 522) rfl 3 rfl ?_
        refine hn_iconst hF dL_law_522 (q := 523) rfl ki_2 ?_
        refine hn_iadd hF dL_law_523 (q := 524) rfl ?_
        refine hn_sld hF hX dL_law_524 (q := 525) rfl e (fun v75 e => ?_)
        refine hn_callVm (rest := [.int (w73.1)]) hF ms_X8_ahead mv_X8_ahead lk_X9_51 o72 rfl (by decide) [.int v74, .int v75] rfl (Nat.le_of_ble_eq_true rfl) dL_law_525 (q := 528) rfl rfl e (fun v hv => cX8_ahead_ hV hv) (fun w76 e => ?_)
        refine hn_icmp_eq hF dL_law_528 (t := 1448) (q := 531) rfl rfl e (fun e => ?_) (fun e => ?_)
        · exact gL_law_1448 hF hQ hX hR hV ih e
        · refine hn_iconst hF dL_law_531 (q := 532) rfl ki_0 ?_
          exact absurd (Option.some.inj e) (by rw [hR]; decide)
      rw [if_neg hx8] at e
      by_cases hx9 : v14 &&& 63 = 9
      · rw [if_pos hx9] at e
        refine hn_tabIn hF hx9 dL_law_33 (t := 533) (by decide) ?_
        refine hn_aload_n hF dL_law_533 (q := 534) rfl 1 rfl ?_
        refine hn_aload_n hF dL_law_534 (q := 535) rfl 0 rfl ?_
        refine hn_iload_n hF dL_law_535 (q := 536) rfl 3 rfl ?_
        refine hn_iconst hF dL_law_536 (q := 537) rfl ki_1 ?_
        refine hn_iadd hF dL_law_537 (q := 538) rfl ?_
        refine hn_sld hF hX dL_law_538 (q := 539) rfl e (fun v77 e => ?_)
        refine hn_aload_n hF dL_law_539 (q := 540) rfl 0 rfl ?_
        refine hn_iload_n hF dL_law_540 (q := 541) rfl 3 rfl ?_
        refine hn_iconst hF dL_law_541 (q := 542) rfl ki_2 ?_
        refine hn_iadd hF dL_law_542 (q := 543) rfl ?_
        refine hn_sld hF hX dL_law_543 (q := 544) rfl e (fun v78 e => ?_)
        refine hn_aload_n hF dL_law_544 (q := 545) rfl 0 rfl ?_
        refine hn_iload_n hF dL_law_545 (q := 546) rfl 3 rfl ?_
        refine hn_iconst hF dL_law_546 (q := 547) rfl ki_3 ?_
        refine hn_iadd hF dL_law_547 (q := 548) rfl ?_
        refine hn_sld hF hX dL_law_548 (q := 549) rfl e (fun v79 e => ?_)
        refine hn_aload_n hF dL_law_549 (q := 550) rfl 0 rfl ?_
        refine hn_iload_n hF dL_law_550 (q := 551) rfl 3 rfl ?_
        refine hn_iconst hF dL_law_551 (q := 552) rfl ki_4 ?_
        refine hn_iadd hF dL_law_552 (q := 553) rfl ?_
        refine hn_sld hF hX dL_law_553 (q := 554) rfl e (fun v80 e => ?_)
        refine hn_aload_n hF dL_law_554 (q := 555) rfl 0 rfl ?_
        refine hn_iload_n hF dL_law_555 (q := 556) rfl 3 rfl ?_
        refine hn_iconst hF dL_law_556 (q := 557) rfl ki_5 ?_
        refine hn_iadd hF dL_law_557 (q := 558) rfl ?_
        refine hn_sld hF hX dL_law_558 (q := 559) rfl e (fun v81 e => ?_)
        refine hn_if_eq hF dL_law_559 (t := 566) (q := 562) rfl rfl e (fun e => ?_) (fun e => ?_)
        · refine hn_iconst hF dL_law_566 (q := 567) rfl ki_0 ?_
          exact gL_law_567 hF hQ hX hR hV ih e
        · refine hn_iconst hF dL_law_562 (q := 563) rfl ki_1 ?_
          refine hn_goto hF dL_law_563 (q := 567) rfl ?_
          exact gL_law_567 hF hQ hX hR hV ih e
      rw [if_neg hx9] at e
      by_cases hx10 : v14 &&& 63 = 10
      · rw [if_pos hx10] at e
        refine hn_tabIn hF hx10 dL_law_33 (t := 640) (by decide) ?_
        refine hn_aload_n hF dL_law_640 (q := 641) rfl 1 rfl ?_
        refine hn_aload_n hF dL_law_641 (q := 642) rfl 0 rfl ?_
        refine hn_iload_n hF dL_law_642 (q := 643) rfl 3 rfl ?_
        refine hn_iconst hF dL_law_643 (q := 644) rfl ki_1 ?_
        refine hn_iadd hF dL_law_644 (q := 645) rfl ?_
        refine hn_sld hF hX dL_law_645 (q := 646) rfl e (fun v82 e => ?_)
        refine hn_aload_n hF dL_law_646 (q := 647) rfl 0 rfl ?_
        refine hn_iload_n hF dL_law_647 (q := 648) rfl 3 rfl ?_
        refine hn_iconst hF dL_law_648 (q := 649) rfl ki_2 ?_
        refine hn_iadd hF dL_law_649 (q := 650) rfl ?_
        refine hn_sld hF hX dL_law_650 (q := 651) rfl e (fun v83 e => ?_)
        refine hn_callVi (rest := []) hF ms_X7_change mv_X7_change lk_X9_57 o0 rfl (by decide) [.int v82, .int v83] rfl (Nat.le_of_ble_eq_true rfl) dL_law_651 (q := 654) rfl rfl e (fun v hv => cX7_change_ hV hv) (fun v84 e => ?_)
        refine hn_aload_n hF dL_law_654 (q := 655) rfl 2 rfl ?_
        refine hn_aload_n hF dL_law_655 (q := 656) rfl 0 rfl ?_
        refine hn_iload_n hF dL_law_656 (q := 657) rfl 3 rfl ?_
        refine hn_iconst hF dL_law_657 (q := 658) rfl ki_1 ?_
        refine hn_iadd hF dL_law_658 (q := 659) rfl ?_
        refine hn_sld hF hX dL_law_659 (q := 660) rfl e (fun v85 e => ?_)
        refine hn_aload_n hF dL_law_660 (q := 661) rfl 0 rfl ?_
        refine hn_iload_n hF dL_law_661 (q := 662) rfl 3 rfl ?_
        refine hn_iconst hF dL_law_662 (q := 663) rfl ki_2 ?_
        refine hn_iadd hF dL_law_663 (q := 664) rfl ?_
        refine hn_sld hF hX dL_law_664 (q := 665) rfl e (fun v86 e => ?_)
        refine hn_callVi (rest := [.int v84]) hF ms_X8_change mv_X8_change lk_X9_60 o72 rfl (by decide) [.int v85, .int v86] rfl (Nat.le_of_ble_eq_true rfl) dL_law_665 (q := 668) rfl rfl e (fun v hv => cX8_change_ hV hv) (fun v87 e => ?_)
        refine hn_icmp_eq hF dL_law_668 (t := 1448) (q := 671) rfl rfl e (fun e => ?_) (fun e => ?_)
        · exact gL_law_1448 hF hQ hX hR hV ih e
        · refine hn_iconst hF dL_law_671 (q := 672) rfl ki_0 ?_
          exact absurd (Option.some.inj e) (by rw [hR]; decide)
      rw [if_neg hx10] at e
      by_cases hx11 : v14 &&& 63 = 11
      · rw [if_pos hx11] at e
        refine hn_tabIn hF hx11 dL_law_33 (t := 673) (by decide) ?_
        refine hn_aload_n hF dL_law_673 (q := 674) rfl 1 rfl ?_
        refine hn_aload_n hF dL_law_674 (q := 675) rfl 0 rfl ?_
        refine hn_iload_n hF dL_law_675 (q := 676) rfl 3 rfl ?_
        refine hn_iconst hF dL_law_676 (q := 677) rfl ki_1 ?_
        refine hn_iadd hF dL_law_677 (q := 678) rfl ?_
        refine hn_sld hF hX dL_law_678 (q := 679) rfl e (fun v88 e => ?_)
        refine hn_callVm (rest := []) hF ms_X7_own mv_X7_own lk_X9_61 o0 rfl (by decide) [.int v88] rfl (Nat.le_of_ble_eq_true rfl) dL_law_679 (q := 682) rfl rfl e (fun v hv => cX7_own_ hV hv) (fun w89 e => ?_)
        refine hn_aload_n hF dL_law_682 (q := 683) rfl 2 rfl ?_
        refine hn_aload_n hF dL_law_683 (q := 684) rfl 0 rfl ?_
        refine hn_iload_n hF dL_law_684 (q := 685) rfl 3 rfl ?_
        refine hn_iconst hF dL_law_685 (q := 686) rfl ki_1 ?_
        refine hn_iadd hF dL_law_686 (q := 687) rfl ?_
        refine hn_sld hF hX dL_law_687 (q := 688) rfl e (fun v90 e => ?_)
        refine hn_callVm (rest := [.int (w89.1)]) hF ms_X8_own mv_X8_own lk_X9_65 o72 rfl (by decide) [.int v90] rfl (Nat.le_of_ble_eq_true rfl) dL_law_688 (q := 691) rfl rfl e (fun v hv => cX8_own_ hV hv) (fun w91 e => ?_)
        refine hn_icmp_eq hF dL_law_691 (t := 1448) (q := 694) rfl rfl e (fun e => ?_) (fun e => ?_)
        · exact gL_law_1448 hF hQ hX hR hV ih e
        · refine hn_iconst hF dL_law_694 (q := 695) rfl ki_0 ?_
          exact absurd (Option.some.inj e) (by rw [hR]; decide)
      rw [if_neg hx11] at e
      by_cases hx12 : v14 &&& 63 = 12
      · rw [if_pos hx12] at e
        refine hn_tabIn hF hx12 dL_law_33 (t := 696) (by decide) ?_
        refine hn_aload_n hF dL_law_696 (q := 697) rfl 1 rfl ?_
        refine hn_aload_n hF dL_law_697 (q := 698) rfl 0 rfl ?_
        refine hn_iload_n hF dL_law_698 (q := 699) rfl 3 rfl ?_
        refine hn_iconst hF dL_law_699 (q := 700) rfl ki_1 ?_
        refine hn_iadd hF dL_law_700 (q := 701) rfl ?_
        refine hn_sld hF hX dL_law_701 (q := 702) rfl e (fun v92 e => ?_)
        refine hn_callVm (rest := []) hF ms_X7_from mv_X7_from lk_X9_66 o0 rfl (by decide) [.int v92] rfl (Nat.le_of_ble_eq_true rfl) dL_law_702 (q := 705) rfl rfl e (fun v hv => cX7_from_ hV hv) (fun w93 e => ?_)
        refine hn_aload_n hF dL_law_705 (q := 706) rfl 2 rfl ?_
        refine hn_aload_n hF dL_law_706 (q := 707) rfl 0 rfl ?_
        refine hn_iload_n hF dL_law_707 (q := 708) rfl 3 rfl ?_
        refine hn_iconst hF dL_law_708 (q := 709) rfl ki_1 ?_
        refine hn_iadd hF dL_law_709 (q := 710) rfl ?_
        refine hn_sld hF hX dL_law_710 (q := 711) rfl e (fun v94 e => ?_)
        refine hn_callVm (rest := [.int (w93.1)]) hF ms_X8_from mv_X8_from lk_X9_69 o72 rfl (by decide) [.int v94] rfl (Nat.le_of_ble_eq_true rfl) dL_law_711 (q := 714) rfl rfl e (fun v hv => cX8_from_ hV hv) (fun w95 e => ?_)
        refine hn_icmp_eq hF dL_law_714 (t := 1448) (q := 717) rfl rfl e (fun e => ?_) (fun e => ?_)
        · exact gL_law_1448 hF hQ hX hR hV ih e
        · refine hn_iconst hF dL_law_717 (q := 718) rfl ki_0 ?_
          exact absurd (Option.some.inj e) (by rw [hR]; decide)
      rw [if_neg hx12] at e
      by_cases hx13 : v14 &&& 63 = 13
      · rw [if_pos hx13] at e
        refine hn_tabIn hF hx13 dL_law_33 (t := 719) (by decide) ?_
        refine hn_aload_n hF dL_law_719 (q := 720) rfl 1 rfl ?_
        refine hn_aload_n hF dL_law_720 (q := 721) rfl 0 rfl ?_
        refine hn_iload_n hF dL_law_721 (q := 722) rfl 3 rfl ?_
        refine hn_iconst hF dL_law_722 (q := 723) rfl ki_1 ?_
        refine hn_iadd hF dL_law_723 (q := 724) rfl ?_
        refine hn_sld hF hX dL_law_724 (q := 725) rfl e (fun v96 e => ?_)
        refine hn_aload_n hF dL_law_725 (q := 726) rfl 0 rfl ?_
        refine hn_iload_n hF dL_law_726 (q := 727) rfl 3 rfl ?_
        refine hn_iconst hF dL_law_727 (q := 728) rfl ki_2 ?_
        refine hn_iadd hF dL_law_728 (q := 729) rfl ?_
        refine hn_sld hF hX dL_law_729 (q := 730) rfl e (fun v97 e => ?_)
        refine hn_callVm (rest := []) hF ms_X7_voice mv_X7_voice lk_X9_70 o0 rfl (by decide) [.int v96, .int v97] rfl (Nat.le_of_ble_eq_true rfl) dL_law_730 (q := 733) rfl rfl e (fun v hv => cX7_voice_ hV hv) (fun w98 e => ?_)
        refine hn_aload_n hF dL_law_733 (q := 734) rfl 2 rfl ?_
        refine hn_aload_n hF dL_law_734 (q := 735) rfl 0 rfl ?_
        refine hn_iload_n hF dL_law_735 (q := 736) rfl 3 rfl ?_
        refine hn_iconst hF dL_law_736 (q := 737) rfl ki_1 ?_
        refine hn_iadd hF dL_law_737 (q := 738) rfl ?_
        refine hn_sld hF hX dL_law_738 (q := 739) rfl e (fun v99 e => ?_)
        refine hn_aload_n hF dL_law_739 (q := 740) rfl 0 rfl ?_
        refine hn_iload_n hF dL_law_740 (q := 741) rfl 3 rfl ?_
        refine hn_iconst hF dL_law_741 (q := 742) rfl ki_2 ?_
        refine hn_iadd hF dL_law_742 (q := 743) rfl ?_
        refine hn_sld hF hX dL_law_743 (q := 744) rfl e (fun v100 e => ?_)
        refine hn_callVm (rest := [.int (w98.1)]) hF ms_X8_voice mv_X8_voice lk_X9_73 o72 rfl (by decide) [.int v99, .int v100] rfl (Nat.le_of_ble_eq_true rfl) dL_law_744 (q := 747) rfl rfl e (fun v hv => cX8_voice_ hV hv) (fun w101 e => ?_)
        refine hn_icmp_eq hF dL_law_747 (t := 1448) (q := 750) rfl rfl e (fun e => ?_) (fun e => ?_)
        · exact gL_law_1448 hF hQ hX hR hV ih e
        · refine hn_iconst hF dL_law_750 (q := 751) rfl ki_0 ?_
          exact absurd (Option.some.inj e) (by rw [hR]; decide)
      rw [if_neg hx13] at e
      by_cases hx14 : v14 &&& 63 = 14
      · rw [if_pos hx14] at e
        refine hn_tabIn hF hx14 dL_law_33 (t := 752) (by decide) ?_
        refine hn_aload_n hF dL_law_752 (q := 753) rfl 1 rfl ?_
        refine hn_aload_n hF dL_law_753 (q := 754) rfl 0 rfl ?_
        refine hn_iload_n hF dL_law_754 (q := 755) rfl 3 rfl ?_
        refine hn_iconst hF dL_law_755 (q := 756) rfl ki_1 ?_
        refine hn_iadd hF dL_law_756 (q := 757) rfl ?_
        refine hn_sld hF hX dL_law_757 (q := 758) rfl e (fun v102 e => ?_)
        refine hn_aload_n hF dL_law_758 (q := 759) rfl 0 rfl ?_
        refine hn_iload_n hF dL_law_759 (q := 760) rfl 3 rfl ?_
        refine hn_iconst hF dL_law_760 (q := 761) rfl ki_2 ?_
        refine hn_iadd hF dL_law_761 (q := 762) rfl ?_
        refine hn_sld hF hX dL_law_762 (q := 763) rfl e (fun v103 e => ?_)
        refine hn_if_eq hF dL_law_763 (t := 770) (q := 766) rfl rfl e (fun e => ?_) (fun e => ?_)
        · refine hn_iconst hF dL_law_770 (q := 771) rfl ki_0 ?_
          exact gL_law_771 hF hQ hX hR hV ih e
        · refine hn_iconst hF dL_law_766 (q := 767) rfl ki_1 ?_
          refine hn_goto hF dL_law_767 (q := 771) rfl ?_
          exact gL_law_771 hF hQ hX hR hV ih e
      rw [if_neg hx14] at e
      by_cases hx15 : v14 &&& 63 = 15
      · rw [if_pos hx15] at e
        refine hn_tabIn hF hx15 dL_law_33 (t := 801) (by decide) ?_
        refine hn_aload_n hF dL_law_801 (q := 802) rfl 1 rfl ?_
        refine hn_aload_n hF dL_law_802 (q := 803) rfl 0 rfl ?_
        refine hn_iload_n hF dL_law_803 (q := 804) rfl 3 rfl ?_
        refine hn_iconst hF dL_law_804 (q := 805) rfl ki_1 ?_
        refine hn_iadd hF dL_law_805 (q := 806) rfl ?_
        refine hn_sld hF hX dL_law_806 (q := 807) rfl e (fun v104 e => ?_)
        refine hn_callVm (rest := []) hF ms_X7_grew mv_X7_grew lk_X9_79 o0 rfl (by decide) [.int v104] rfl (Nat.le_of_ble_eq_true rfl) dL_law_807 (q := 810) rfl rfl e (fun v hv => cX7_grew_ hV hv) (fun w105 e => ?_)
        refine hn_aload_n hF dL_law_810 (q := 811) rfl 2 rfl ?_
        refine hn_aload_n hF dL_law_811 (q := 812) rfl 0 rfl ?_
        refine hn_iload_n hF dL_law_812 (q := 813) rfl 3 rfl ?_
        refine hn_iconst hF dL_law_813 (q := 814) rfl ki_1 ?_
        refine hn_iadd hF dL_law_814 (q := 815) rfl ?_
        refine hn_sld hF hX dL_law_815 (q := 816) rfl e (fun v106 e => ?_)
        refine hn_callVm (rest := [.int (w105.1)]) hF ms_X8_grew mv_X8_grew lk_X9_82 o72 rfl (by decide) [.int v106] rfl (Nat.le_of_ble_eq_true rfl) dL_law_816 (q := 819) rfl rfl e (fun v hv => cX8_grew_ hV hv) (fun w107 e => ?_)
        refine hn_icmp_eq hF dL_law_819 (t := 1448) (q := 822) rfl rfl e (fun e => ?_) (fun e => ?_)
        · exact gL_law_1448 hF hQ hX hR hV ih e
        · refine hn_iconst hF dL_law_822 (q := 823) rfl ki_0 ?_
          exact absurd (Option.some.inj e) (by rw [hR]; decide)
      rw [if_neg hx15] at e
      by_cases hx16 : v14 &&& 63 = 16
      · rw [if_pos hx16] at e
        refine hn_tabIn hF hx16 dL_law_33 (t := 824) (by decide) ?_
        refine hn_aload_n hF dL_law_824 (q := 825) rfl 1 rfl ?_
        refine hn_aload_n hF dL_law_825 (q := 826) rfl 0 rfl ?_
        refine hn_iload_n hF dL_law_826 (q := 827) rfl 3 rfl ?_
        refine hn_iconst hF dL_law_827 (q := 828) rfl ki_1 ?_
        refine hn_iadd hF dL_law_828 (q := 829) rfl ?_
        refine hn_sld hF hX dL_law_829 (q := 830) rfl e (fun v108 e => ?_)
        refine hn_callVm (rest := []) hF ms_X7_habit mv_X7_habit lk_X9_83 o0 rfl (by decide) [.int v108] rfl (Nat.le_of_ble_eq_true rfl) dL_law_830 (q := 833) rfl rfl e (fun v hv => cX7_habit_ hV hv) (fun w109 e => ?_)
        refine hn_aload_n hF dL_law_833 (q := 834) rfl 2 rfl ?_
        refine hn_aload_n hF dL_law_834 (q := 835) rfl 0 rfl ?_
        refine hn_iload_n hF dL_law_835 (q := 836) rfl 3 rfl ?_
        refine hn_iconst hF dL_law_836 (q := 837) rfl ki_1 ?_
        refine hn_iadd hF dL_law_837 (q := 838) rfl ?_
        refine hn_sld hF hX dL_law_838 (q := 839) rfl e (fun v110 e => ?_)
        refine hn_callVm (rest := [.int (w109.1)]) hF ms_X8_habit mv_X8_habit lk_X9_86 o72 rfl (by decide) [.int v110] rfl (Nat.le_of_ble_eq_true rfl) dL_law_839 (q := 842) rfl rfl e (fun v hv => cX8_habit_ hV hv) (fun w111 e => ?_)
        refine hn_icmp_eq hF dL_law_842 (t := 1448) (q := 845) rfl rfl e (fun e => ?_) (fun e => ?_)
        · exact gL_law_1448 hF hQ hX hR hV ih e
        · refine hn_iconst hF dL_law_845 (q := 846) rfl ki_0 ?_
          exact absurd (Option.some.inj e) (by rw [hR]; decide)
      rw [if_neg hx16] at e
      by_cases hx17 : v14 &&& 63 = 17
      · rw [if_pos hx17] at e
        refine hn_tabIn hF hx17 dL_law_33 (t := 847) (by decide) ?_
        refine hn_aload_n hF dL_law_847 (q := 848) rfl 1 rfl ?_
        refine hn_aload_n hF dL_law_848 (q := 849) rfl 0 rfl ?_
        refine hn_iload_n hF dL_law_849 (q := 850) rfl 3 rfl ?_
        refine hn_iconst hF dL_law_850 (q := 851) rfl ki_1 ?_
        refine hn_iadd hF dL_law_851 (q := 852) rfl ?_
        refine hn_sld hF hX dL_law_852 (q := 853) rfl e (fun v112 e => ?_)
        refine hn_aload_n hF dL_law_853 (q := 854) rfl 0 rfl ?_
        refine hn_iload_n hF dL_law_854 (q := 855) rfl 3 rfl ?_
        refine hn_iconst hF dL_law_855 (q := 856) rfl ki_2 ?_
        refine hn_iadd hF dL_law_856 (q := 857) rfl ?_
        refine hn_sld hF hX dL_law_857 (q := 858) rfl e (fun v113 e => ?_)
        refine hn_i2l hF dL_law_858 (q := 859) rfl rfl ?_
        refine hn_bipush hF dL_law_859 (q := 861) rfl kb_32 ?_
        refine hn_lshl hF dL_law_861 (q := 862) rfl rfl ?_
        refine hn_aload_n hF dL_law_862 (q := 863) rfl 0 rfl ?_
        refine hn_iload_n hF dL_law_863 (q := 864) rfl 3 rfl ?_
        refine hn_iconst hF dL_law_864 (q := 865) rfl ki_3 ?_
        refine hn_iadd hF dL_law_865 (q := 866) rfl ?_
        refine hn_sld hF hX dL_law_866 (q := 867) rfl e (fun v114 e => ?_)
        refine hn_i2l hF dL_law_867 (q := 868) rfl rfl ?_
        refine hn_ldc2 hF kd_X9_87 dL_law_868 (q := 871) rfl ?_
        refine hn_land hF dL_law_871 (q := 872) rfl ?_
        refine hn_lor hF dL_law_872 (q := 873) rfl ?_
        refine hn_callVm (rest := []) hF ms_X7_write mv_X7_write lk_X9_89 o0 rfl (by decide) [.int v112, .long ((v113.toInt64 <<< ((32 : Int32).toInt64 &&& 63)) ||| (v114.toInt64 &&& 4294967295))] rfl (Nat.le_of_ble_eq_true rfl) dL_law_873 (q := 876) rfl rfl e (fun v hv => cX7_write_ hV hv) (fun w115 e => ?_)
        refine hn_aload_n hF dL_law_876 (q := 877) rfl 2 rfl ?_
        refine hn_aload_n hF dL_law_877 (q := 878) rfl 0 rfl ?_
        refine hn_iload_n hF dL_law_878 (q := 879) rfl 3 rfl ?_
        refine hn_iconst hF dL_law_879 (q := 880) rfl ki_1 ?_
        refine hn_iadd hF dL_law_880 (q := 881) rfl ?_
        refine hn_sld hF hX dL_law_881 (q := 882) rfl e (fun v116 e => ?_)
        refine hn_aload_n hF dL_law_882 (q := 883) rfl 0 rfl ?_
        refine hn_iload_n hF dL_law_883 (q := 884) rfl 3 rfl ?_
        refine hn_iconst hF dL_law_884 (q := 885) rfl ki_2 ?_
        refine hn_iadd hF dL_law_885 (q := 886) rfl ?_
        refine hn_sld hF hX dL_law_886 (q := 887) rfl e (fun v117 e => ?_)
        refine hn_i2l hF dL_law_887 (q := 888) rfl rfl ?_
        refine hn_bipush hF dL_law_888 (q := 890) rfl kb_32 ?_
        refine hn_lshl hF dL_law_890 (q := 891) rfl rfl ?_
        refine hn_aload_n hF dL_law_891 (q := 892) rfl 0 rfl ?_
        refine hn_iload_n hF dL_law_892 (q := 893) rfl 3 rfl ?_
        refine hn_iconst hF dL_law_893 (q := 894) rfl ki_3 ?_
        refine hn_iadd hF dL_law_894 (q := 895) rfl ?_
        refine hn_sld hF hX dL_law_895 (q := 896) rfl e (fun v118 e => ?_)
        refine hn_i2l hF dL_law_896 (q := 897) rfl rfl ?_
        refine hn_ldc2 hF kd_X9_87 dL_law_897 (q := 900) rfl ?_
        refine hn_land hF dL_law_900 (q := 901) rfl ?_
        refine hn_lor hF dL_law_901 (q := 902) rfl ?_
        refine hn_callVm (rest := [.int (w115.1)]) hF ms_X8_write mv_X8_write lk_X9_93 o72 rfl (by decide) [.int v116, .long ((v117.toInt64 <<< ((32 : Int32).toInt64 &&& 63)) ||| (v118.toInt64 &&& 4294967295))] rfl (Nat.le_of_ble_eq_true rfl) dL_law_902 (q := 905) rfl rfl e (fun v hv => cX8_write_ hV hv) (fun w119 e => ?_)
        refine hn_icmp_eq hF dL_law_905 (t := 1448) (q := 908) rfl rfl e (fun e => ?_) (fun e => ?_)
        · exact gL_law_1448 hF hQ hX hR hV ih e
        · refine hn_iconst hF dL_law_908 (q := 909) rfl ki_0 ?_
          exact absurd (Option.some.inj e) (by rw [hR]; decide)
      rw [if_neg hx17] at e
      by_cases hx18 : v14 &&& 63 = 18
      · rw [if_pos hx18] at e
        refine hn_tabIn hF hx18 dL_law_33 (t := 910) (by decide) ?_
        refine hn_aload_n hF dL_law_910 (q := 911) rfl 1 rfl ?_
        refine hn_callVm (rest := []) hF ms_X7_wipe mv_X7_wipe lk_X9_94 o0 rfl (by decide) [] rfl (Nat.le_of_ble_eq_true rfl) dL_law_911 (q := 914) rfl rfl e (fun v hv => cX7_wipe_ hV hv) (fun w120 e => ?_)
        refine hn_aload_n hF dL_law_914 (q := 915) rfl 2 rfl ?_
        refine hn_callVm (rest := [.int (w120.1)]) hF ms_X8_wipe mv_X8_wipe lk_X9_98 o72 rfl (by decide) [] rfl (Nat.le_of_ble_eq_true rfl) dL_law_915 (q := 918) rfl rfl e (fun v hv => cX8_wipe_ hV hv) (fun w121 e => ?_)
        refine hn_icmp_eq hF dL_law_918 (t := 1448) (q := 921) rfl rfl e (fun e => ?_) (fun e => ?_)
        · exact gL_law_1448 hF hQ hX hR hV ih e
        · refine hn_iconst hF dL_law_921 (q := 922) rfl ki_0 ?_
          exact absurd (Option.some.inj e) (by rw [hR]; decide)
      rw [if_neg hx18] at e
      by_cases hx19 : v14 &&& 63 = 19
      · rw [if_pos hx19] at e
        refine hn_tabIn hF hx19 dL_law_33 (t := 923) (by decide) ?_
        refine hn_aload_n hF dL_law_923 (q := 924) rfl 1 rfl ?_
        refine hn_callVm (rest := []) hF ms_X7_fault mv_X7_fault lk_X9_99 o0 rfl (by decide) [] rfl (Nat.le_of_ble_eq_true rfl) dL_law_924 (q := 927) rfl rfl e (fun v hv => cX7_fault_ hV hv) (fun w122 e => ?_)
        refine hn_aload_n hF dL_law_927 (q := 928) rfl 2 rfl ?_
        refine hn_callVm (rest := [.int (w122.1)]) hF ms_X8_fault mv_X8_fault lk_X9_102 o72 rfl (by decide) [] rfl (Nat.le_of_ble_eq_true rfl) dL_law_928 (q := 931) rfl rfl e (fun v hv => cX8_fault_ hV hv) (fun w123 e => ?_)
        refine hn_icmp_eq hF dL_law_931 (t := 1448) (q := 934) rfl rfl e (fun e => ?_) (fun e => ?_)
        · exact gL_law_1448 hF hQ hX hR hV ih e
        · refine hn_iconst hF dL_law_934 (q := 935) rfl ki_0 ?_
          exact absurd (Option.some.inj e) (by rw [hR]; decide)
      rw [if_neg hx19] at e
      by_cases hx20 : v14 &&& 63 = 20
      · rw [if_pos hx20] at e
        refine hn_tabIn hF hx20 dL_law_33 (t := 936) (by decide) ?_
        refine hn_aload_n hF dL_law_936 (q := 937) rfl 1 rfl ?_
        refine hn_callVm (rest := []) hF ms_X7_force mv_X7_force lk_X9_103 o0 rfl (by decide) [] rfl (Nat.le_of_ble_eq_true rfl) dL_law_937 (q := 940) rfl rfl e (fun v hv => cX7_force_ hV hv) (fun w124 e => ?_)
        refine hn_aload_n hF dL_law_940 (q := 941) rfl 2 rfl ?_
        refine hn_callVm (rest := [.int (w124.1)]) hF ms_X8_force mv_X8_force lk_X9_106 o72 rfl (by decide) [] rfl (Nat.le_of_ble_eq_true rfl) dL_law_941 (q := 944) rfl rfl e (fun v hv => cX8_force_ hV hv) (fun w125 e => ?_)
        refine hn_icmp_eq hF dL_law_944 (t := 1448) (q := 947) rfl rfl e (fun e => ?_) (fun e => ?_)
        · exact gL_law_1448 hF hQ hX hR hV ih e
        · refine hn_iconst hF dL_law_947 (q := 948) rfl ki_0 ?_
          exact absurd (Option.some.inj e) (by rw [hR]; decide)
      rw [if_neg hx20] at e
      by_cases hx21 : v14 &&& 63 = 21
      · rw [if_pos hx21] at e
        refine hn_tabIn hF hx21 dL_law_33 (t := 949) (by decide) ?_
        refine hn_aload_n hF dL_law_949 (q := 950) rfl 1 rfl ?_
        refine hn_aload_n hF dL_law_950 (q := 951) rfl 0 rfl ?_
        refine hn_iload_n hF dL_law_951 (q := 952) rfl 3 rfl ?_
        refine hn_iconst hF dL_law_952 (q := 953) rfl ki_1 ?_
        refine hn_iadd hF dL_law_953 (q := 954) rfl ?_
        refine hn_sld hF hX dL_law_954 (q := 955) rfl e (fun v126 e => ?_)
        refine hn_aload_n hF dL_law_955 (q := 956) rfl 0 rfl ?_
        refine hn_iload_n hF dL_law_956 (q := 957) rfl 3 rfl ?_
        refine hn_iconst hF dL_law_957 (q := 958) rfl ki_2 ?_
        refine hn_iadd hF dL_law_958 (q := 959) rfl ?_
        refine hn_sld hF hX dL_law_959 (q := 960) rfl e (fun v127 e => ?_)
        refine hn_aload_n hF dL_law_960 (q := 961) rfl 0 rfl ?_
        refine hn_iload_n hF dL_law_961 (q := 962) rfl 3 rfl ?_
        refine hn_iconst hF dL_law_962 (q := 963) rfl ki_3 ?_
        refine hn_iadd hF dL_law_963 (q := 964) rfl ?_
        refine hn_sld hF hX dL_law_964 (q := 965) rfl e (fun v128 e => ?_)
        refine hn_callVi (rest := []) hF ms_X7_rule mv_X7_rule lk_X9_107 o0 rfl (by decide) [.int v126, .int v127, .int v128] rfl (Nat.le_of_ble_eq_true rfl) dL_law_965 (q := 968) rfl rfl e (fun v hv => cX7_rule_ hV hv) (fun v129 e => ?_)
        refine hn_aload_n hF dL_law_968 (q := 969) rfl 2 rfl ?_
        refine hn_aload_n hF dL_law_969 (q := 970) rfl 0 rfl ?_
        refine hn_iload_n hF dL_law_970 (q := 971) rfl 3 rfl ?_
        refine hn_iconst hF dL_law_971 (q := 972) rfl ki_1 ?_
        refine hn_iadd hF dL_law_972 (q := 973) rfl ?_
        refine hn_sld hF hX dL_law_973 (q := 974) rfl e (fun v130 e => ?_)
        refine hn_aload_n hF dL_law_974 (q := 975) rfl 0 rfl ?_
        refine hn_iload_n hF dL_law_975 (q := 976) rfl 3 rfl ?_
        refine hn_iconst hF dL_law_976 (q := 977) rfl ki_2 ?_
        refine hn_iadd hF dL_law_977 (q := 978) rfl ?_
        refine hn_sld hF hX dL_law_978 (q := 979) rfl e (fun v131 e => ?_)
        refine hn_aload_n hF dL_law_979 (q := 980) rfl 0 rfl ?_
        refine hn_iload_n hF dL_law_980 (q := 981) rfl 3 rfl ?_
        refine hn_iconst hF dL_law_981 (q := 982) rfl ki_3 ?_
        refine hn_iadd hF dL_law_982 (q := 983) rfl ?_
        refine hn_sld hF hX dL_law_983 (q := 984) rfl e (fun v132 e => ?_)
        refine hn_callVi (rest := [.int v129]) hF ms_X8_rule mv_X8_rule lk_X9_110 o72 rfl (by decide) [.int v130, .int v131, .int v132] rfl (Nat.le_of_ble_eq_true rfl) dL_law_984 (q := 987) rfl rfl e (fun v hv => cX8_rule_ hV hv) (fun v133 e => ?_)
        refine hn_icmp_eq hF dL_law_987 (t := 1448) (q := 990) rfl rfl e (fun e => ?_) (fun e => ?_)
        · exact gL_law_1448 hF hQ hX hR hV ih e
        · refine hn_iconst hF dL_law_990 (q := 991) rfl ki_0 ?_
          exact absurd (Option.some.inj e) (by rw [hR]; decide)
      rw [if_neg hx21] at e
      by_cases hx22 : v14 &&& 63 = 22
      · rw [if_pos hx22] at e
        refine hn_tabIn hF hx22 dL_law_33 (t := 992) (by decide) ?_
        refine hn_aload_n hF dL_law_992 (q := 993) rfl 1 rfl ?_
        refine hn_aload_n hF dL_law_993 (q := 994) rfl 0 rfl ?_
        refine hn_iload_n hF dL_law_994 (q := 995) rfl 3 rfl ?_
        refine hn_iconst hF dL_law_995 (q := 996) rfl ki_1 ?_
        refine hn_iadd hF dL_law_996 (q := 997) rfl ?_
        refine hn_sld hF hX dL_law_997 (q := 998) rfl e (fun v134 e => ?_)
        refine hn_aload_n hF dL_law_998 (q := 999) rfl 0 rfl ?_
        refine hn_iload_n hF dL_law_999 (q := 1000) rfl 3 rfl ?_
        refine hn_iconst hF dL_law_1000 (q := 1001) rfl ki_2 ?_
        refine hn_iadd hF dL_law_1001 (q := 1002) rfl ?_
        refine hn_sld hF hX dL_law_1002 (q := 1003) rfl e (fun v135 e => ?_)
        refine hn_aload_n hF dL_law_1003 (q := 1004) rfl 0 rfl ?_
        refine hn_iload_n hF dL_law_1004 (q := 1005) rfl 3 rfl ?_
        refine hn_iconst hF dL_law_1005 (q := 1006) rfl ki_3 ?_
        refine hn_iadd hF dL_law_1006 (q := 1007) rfl ?_
        refine hn_sld hF hX dL_law_1007 (q := 1008) rfl e (fun v136 e => ?_)
        refine hn_callVi (rest := []) hF ms_X7_why mv_X7_why lk_X9_111 o0 rfl (by decide) [.int v134, .int v135, .int v136] rfl (Nat.le_of_ble_eq_true rfl) dL_law_1008 (q := 1011) rfl rfl e (fun v hv => cX7_why_ hV hv) (fun v137 e => ?_)
        refine hn_aload_n hF dL_law_1011 (q := 1012) rfl 2 rfl ?_
        refine hn_aload_n hF dL_law_1012 (q := 1013) rfl 0 rfl ?_
        refine hn_iload_n hF dL_law_1013 (q := 1014) rfl 3 rfl ?_
        refine hn_iconst hF dL_law_1014 (q := 1015) rfl ki_1 ?_
        refine hn_iadd hF dL_law_1015 (q := 1016) rfl ?_
        refine hn_sld hF hX dL_law_1016 (q := 1017) rfl e (fun v138 e => ?_)
        refine hn_aload_n hF dL_law_1017 (q := 1018) rfl 0 rfl ?_
        refine hn_iload_n hF dL_law_1018 (q := 1019) rfl 3 rfl ?_
        refine hn_iconst hF dL_law_1019 (q := 1020) rfl ki_2 ?_
        refine hn_iadd hF dL_law_1020 (q := 1021) rfl ?_
        refine hn_sld hF hX dL_law_1021 (q := 1022) rfl e (fun v139 e => ?_)
        refine hn_aload_n hF dL_law_1022 (q := 1023) rfl 0 rfl ?_
        refine hn_iload_n hF dL_law_1023 (q := 1024) rfl 3 rfl ?_
        refine hn_iconst hF dL_law_1024 (q := 1025) rfl ki_3 ?_
        refine hn_iadd hF dL_law_1025 (q := 1026) rfl ?_
        refine hn_sld hF hX dL_law_1026 (q := 1027) rfl e (fun v140 e => ?_)
        refine hn_callVi (rest := [.int v137]) hF ms_X8_why mv_X8_why lk_X9_114 o72 rfl (by decide) [.int v138, .int v139, .int v140] rfl (Nat.le_of_ble_eq_true rfl) dL_law_1027 (q := 1030) rfl rfl e (fun v hv => cX8_why_ hV hv) (fun v141 e => ?_)
        refine hn_icmp_eq hF dL_law_1030 (t := 1448) (q := 1033) rfl rfl e (fun e => ?_) (fun e => ?_)
        · exact gL_law_1448 hF hQ hX hR hV ih e
        · refine hn_iconst hF dL_law_1033 (q := 1034) rfl ki_0 ?_
          exact absurd (Option.some.inj e) (by rw [hR]; decide)
      rw [if_neg hx22] at e
      by_cases hx23 : v14 &&& 63 = 23
      · rw [if_pos hx23] at e
        refine hn_tabIn hF hx23 dL_law_33 (t := 1035) (by decide) ?_
        refine hn_aload_n hF dL_law_1035 (q := 1036) rfl 1 rfl ?_
        refine hn_callVi (rest := []) hF ms_X7_quarrel mv_X7_quarrel lk_X9_115 o0 rfl (by decide) [] rfl (Nat.le_of_ble_eq_true rfl) dL_law_1036 (q := 1039) rfl rfl e (fun v hv => cX7_quarrel_ hV hv) (fun v142 e => ?_)
        refine hn_aload_n hF dL_law_1039 (q := 1040) rfl 2 rfl ?_
        refine hn_callVi (rest := [.int v142]) hF ms_X8_quarrel mv_X8_quarrel lk_X9_118 o72 rfl (by decide) [] rfl (Nat.le_of_ble_eq_true rfl) dL_law_1040 (q := 1043) rfl rfl e (fun v hv => cX8_quarrel_ hV hv) (fun v143 e => ?_)
        refine hn_icmp_eq hF dL_law_1043 (t := 1448) (q := 1046) rfl rfl e (fun e => ?_) (fun e => ?_)
        · exact gL_law_1448 hF hQ hX hR hV ih e
        · refine hn_iconst hF dL_law_1046 (q := 1047) rfl ki_0 ?_
          exact absurd (Option.some.inj e) (by rw [hR]; decide)
      rw [if_neg hx23] at e
      by_cases hx24 : v14 &&& 63 = 24
      · rw [if_pos hx24] at e
        refine hn_tabIn hF hx24 dL_law_33 (t := 1048) (by decide) ?_
        refine hn_aload_n hF dL_law_1048 (q := 1049) rfl 1 rfl ?_
        refine hn_aload_n hF dL_law_1049 (q := 1050) rfl 0 rfl ?_
        refine hn_iload_n hF dL_law_1050 (q := 1051) rfl 3 rfl ?_
        refine hn_iconst hF dL_law_1051 (q := 1052) rfl ki_1 ?_
        refine hn_iadd hF dL_law_1052 (q := 1053) rfl ?_
        refine hn_sld hF hX dL_law_1053 (q := 1054) rfl e (fun v144 e => ?_)
        refine hn_callVm (rest := []) hF ms_X7_closet mv_X7_closet lk_X9_119 o0 rfl (by decide) [.int v144] rfl (Nat.le_of_ble_eq_true rfl) dL_law_1054 (q := 1057) rfl rfl e (fun v hv => cX7_closet_ hV hv) (fun w145 e => ?_)
        refine hn_aload_n hF dL_law_1057 (q := 1058) rfl 2 rfl ?_
        refine hn_aload_n hF dL_law_1058 (q := 1059) rfl 0 rfl ?_
        refine hn_iload_n hF dL_law_1059 (q := 1060) rfl 3 rfl ?_
        refine hn_iconst hF dL_law_1060 (q := 1061) rfl ki_1 ?_
        refine hn_iadd hF dL_law_1061 (q := 1062) rfl ?_
        refine hn_sld hF hX dL_law_1062 (q := 1063) rfl e (fun v146 e => ?_)
        refine hn_callVm (rest := [.int (w145.1)]) hF ms_X8_closet mv_X8_closet lk_X9_122 o72 rfl (by decide) [.int v146] rfl (Nat.le_of_ble_eq_true rfl) dL_law_1063 (q := 1066) rfl rfl e (fun v hv => cX8_closet_ hV hv) (fun w147 e => ?_)
        refine hn_icmp_eq hF dL_law_1066 (t := 1448) (q := 1069) rfl rfl e (fun e => ?_) (fun e => ?_)
        · exact gL_law_1448 hF hQ hX hR hV ih e
        · refine hn_iconst hF dL_law_1069 (q := 1070) rfl ki_0 ?_
          exact absurd (Option.some.inj e) (by rw [hR]; decide)
      rw [if_neg hx24] at e
      by_cases hx25 : v14 &&& 63 = 25
      · rw [if_pos hx25] at e
        refine hn_tabIn hF hx25 dL_law_33 (t := 1071) (by decide) ?_
        refine hn_aload_n hF dL_law_1071 (q := 1072) rfl 1 rfl ?_
        refine hn_aload_n hF dL_law_1072 (q := 1073) rfl 0 rfl ?_
        refine hn_iload_n hF dL_law_1073 (q := 1074) rfl 3 rfl ?_
        refine hn_iconst hF dL_law_1074 (q := 1075) rfl ki_1 ?_
        refine hn_iadd hF dL_law_1075 (q := 1076) rfl ?_
        refine hn_sld hF hX dL_law_1076 (q := 1077) rfl e (fun v148 e => ?_)
        refine hn_callVm (rest := []) hF ms_X7_came mv_X7_came lk_X9_123 o0 rfl (by decide) [.int v148] rfl (Nat.le_of_ble_eq_true rfl) dL_law_1077 (q := 1080) rfl rfl e (fun v hv => cX7_came_ hV hv) (fun w149 e => ?_)
        refine hn_aload_n hF dL_law_1080 (q := 1081) rfl 2 rfl ?_
        refine hn_aload_n hF dL_law_1081 (q := 1082) rfl 0 rfl ?_
        refine hn_iload_n hF dL_law_1082 (q := 1083) rfl 3 rfl ?_
        refine hn_iconst hF dL_law_1083 (q := 1084) rfl ki_1 ?_
        refine hn_iadd hF dL_law_1084 (q := 1085) rfl ?_
        refine hn_sld hF hX dL_law_1085 (q := 1086) rfl e (fun v150 e => ?_)
        refine hn_callVm (rest := [.int (w149.1)]) hF ms_X8_came mv_X8_came lk_X9_126 o72 rfl (by decide) [.int v150] rfl (Nat.le_of_ble_eq_true rfl) dL_law_1086 (q := 1089) rfl rfl e (fun v hv => cX8_came_ hV hv) (fun w151 e => ?_)
        refine hn_icmp_eq hF dL_law_1089 (t := 1448) (q := 1092) rfl rfl e (fun e => ?_) (fun e => ?_)
        · exact gL_law_1448 hF hQ hX hR hV ih e
        · refine hn_iconst hF dL_law_1092 (q := 1093) rfl ki_0 ?_
          exact absurd (Option.some.inj e) (by rw [hR]; decide)
      rw [if_neg hx25] at e
      by_cases hx26 : v14 &&& 63 = 26
      · rw [if_pos hx26] at e
        refine hn_tabIn hF hx26 dL_law_33 (t := 1094) (by decide) ?_
        refine hn_aload_n hF dL_law_1094 (q := 1095) rfl 1 rfl ?_
        refine hn_aload_n hF dL_law_1095 (q := 1096) rfl 0 rfl ?_
        refine hn_iload_n hF dL_law_1096 (q := 1097) rfl 3 rfl ?_
        refine hn_iconst hF dL_law_1097 (q := 1098) rfl ki_1 ?_
        refine hn_iadd hF dL_law_1098 (q := 1099) rfl ?_
        refine hn_sld hF hX dL_law_1099 (q := 1100) rfl e (fun v152 e => ?_)
        refine hn_aload_n hF dL_law_1100 (q := 1101) rfl 0 rfl ?_
        refine hn_iload_n hF dL_law_1101 (q := 1102) rfl 3 rfl ?_
        refine hn_iconst hF dL_law_1102 (q := 1103) rfl ki_2 ?_
        refine hn_iadd hF dL_law_1103 (q := 1104) rfl ?_
        refine hn_sld hF hX dL_law_1104 (q := 1105) rfl e (fun v153 e => ?_)
        refine hn_aload_n hF dL_law_1105 (q := 1106) rfl 0 rfl ?_
        refine hn_iload_n hF dL_law_1106 (q := 1107) rfl 3 rfl ?_
        refine hn_iconst hF dL_law_1107 (q := 1108) rfl ki_3 ?_
        refine hn_iadd hF dL_law_1108 (q := 1109) rfl ?_
        refine hn_sld hF hX dL_law_1109 (q := 1110) rfl e (fun v154 e => ?_)
        refine hn_callVm (rest := []) hF ms_X7_belief mv_X7_belief lk_X9_127 o0 rfl (by decide) [.int v152, .int v153, .int v154] rfl (Nat.le_of_ble_eq_true rfl) dL_law_1110 (q := 1113) rfl rfl e (fun v hv => cX7_belief_ hV hv) (fun w155 e => ?_)
        refine hn_aload_n hF dL_law_1113 (q := 1114) rfl 2 rfl ?_
        refine hn_aload_n hF dL_law_1114 (q := 1115) rfl 0 rfl ?_
        refine hn_iload_n hF dL_law_1115 (q := 1116) rfl 3 rfl ?_
        refine hn_iconst hF dL_law_1116 (q := 1117) rfl ki_1 ?_
        refine hn_iadd hF dL_law_1117 (q := 1118) rfl ?_
        refine hn_sld hF hX dL_law_1118 (q := 1119) rfl e (fun v156 e => ?_)
        refine hn_aload_n hF dL_law_1119 (q := 1120) rfl 0 rfl ?_
        refine hn_iload_n hF dL_law_1120 (q := 1121) rfl 3 rfl ?_
        refine hn_iconst hF dL_law_1121 (q := 1122) rfl ki_2 ?_
        refine hn_iadd hF dL_law_1122 (q := 1123) rfl ?_
        refine hn_sld hF hX dL_law_1123 (q := 1124) rfl e (fun v157 e => ?_)
        refine hn_aload_n hF dL_law_1124 (q := 1125) rfl 0 rfl ?_
        refine hn_iload_n hF dL_law_1125 (q := 1126) rfl 3 rfl ?_
        refine hn_iconst hF dL_law_1126 (q := 1127) rfl ki_3 ?_
        refine hn_iadd hF dL_law_1127 (q := 1128) rfl ?_
        refine hn_sld hF hX dL_law_1128 (q := 1129) rfl e (fun v158 e => ?_)
        refine hn_callVm (rest := [.int (w155.1)]) hF ms_X8_belief mv_X8_belief lk_X9_130 o72 rfl (by decide) [.int v156, .int v157, .int v158] rfl (Nat.le_of_ble_eq_true rfl) dL_law_1129 (q := 1132) rfl rfl e (fun v hv => cX8_belief_ hV hv) (fun w159 e => ?_)
        refine hn_icmp_eq hF dL_law_1132 (t := 1448) (q := 1135) rfl rfl e (fun e => ?_) (fun e => ?_)
        · exact gL_law_1448 hF hQ hX hR hV ih e
        · refine hn_iconst hF dL_law_1135 (q := 1136) rfl ki_0 ?_
          exact absurd (Option.some.inj e) (by rw [hR]; decide)
      rw [if_neg hx26] at e
      by_cases hx27 : v14 &&& 63 = 27
      · rw [if_pos hx27] at e
        refine hn_tabIn hF hx27 dL_law_33 (t := 1137) (by decide) ?_
        refine hn_aload_n hF dL_law_1137 (q := 1138) rfl 1 rfl ?_
        refine hn_aload_n hF dL_law_1138 (q := 1139) rfl 0 rfl ?_
        refine hn_iload_n hF dL_law_1139 (q := 1140) rfl 3 rfl ?_
        refine hn_iconst hF dL_law_1140 (q := 1141) rfl ki_1 ?_
        refine hn_iadd hF dL_law_1141 (q := 1142) rfl ?_
        refine hn_sld hF hX dL_law_1142 (q := 1143) rfl e (fun v160 e => ?_)
        refine hn_callVm (rest := []) hF ms_X7_banned mv_X7_banned lk_X9_131 o0 rfl (by decide) [.int v160] rfl (Nat.le_of_ble_eq_true rfl) dL_law_1143 (q := 1146) rfl rfl e (fun v hv => cX7_banned_ hV hv) (fun w161 e => ?_)
        refine hn_aload_n hF dL_law_1146 (q := 1147) rfl 2 rfl ?_
        refine hn_aload_n hF dL_law_1147 (q := 1148) rfl 0 rfl ?_
        refine hn_iload_n hF dL_law_1148 (q := 1149) rfl 3 rfl ?_
        refine hn_iconst hF dL_law_1149 (q := 1150) rfl ki_1 ?_
        refine hn_iadd hF dL_law_1150 (q := 1151) rfl ?_
        refine hn_sld hF hX dL_law_1151 (q := 1152) rfl e (fun v162 e => ?_)
        refine hn_callVm (rest := [.int (w161.1)]) hF ms_X8_banned mv_X8_banned lk_X9_134 o72 rfl (by decide) [.int v162] rfl (Nat.le_of_ble_eq_true rfl) dL_law_1152 (q := 1155) rfl rfl e (fun v hv => cX8_banned_ hV hv) (fun w163 e => ?_)
        refine hn_icmp_eq hF dL_law_1155 (t := 1448) (q := 1158) rfl rfl e (fun e => ?_) (fun e => ?_)
        · exact gL_law_1448 hF hQ hX hR hV ih e
        · refine hn_iconst hF dL_law_1158 (q := 1159) rfl ki_0 ?_
          exact absurd (Option.some.inj e) (by rw [hR]; decide)
      rw [if_neg hx27] at e
      by_cases hx28 : v14 &&& 63 = 28
      · rw [if_pos hx28] at e
        refine hn_tabIn hF hx28 dL_law_33 (t := 1160) (by decide) ?_
        refine hn_aload_n hF dL_law_1160 (q := 1161) rfl 1 rfl ?_
        refine hn_aload_n hF dL_law_1161 (q := 1162) rfl 0 rfl ?_
        refine hn_iload_n hF dL_law_1162 (q := 1163) rfl 3 rfl ?_
        refine hn_iconst hF dL_law_1163 (q := 1164) rfl ki_1 ?_
        refine hn_iadd hF dL_law_1164 (q := 1165) rfl ?_
        refine hn_sld hF hX dL_law_1165 (q := 1166) rfl e (fun v164 e => ?_)
        refine hn_aload_n hF dL_law_1166 (q := 1167) rfl 0 rfl ?_
        refine hn_iload_n hF dL_law_1167 (q := 1168) rfl 3 rfl ?_
        refine hn_iconst hF dL_law_1168 (q := 1169) rfl ki_2 ?_
        refine hn_iadd hF dL_law_1169 (q := 1170) rfl ?_
        refine hn_sld hF hX dL_law_1170 (q := 1171) rfl e (fun v165 e => ?_)
        refine hn_callVm (rest := []) hF ms_X7_truth mv_X7_truth lk_X9_135 o0 rfl (by decide) [.int v164, .int v165] rfl (Nat.le_of_ble_eq_true rfl) dL_law_1171 (q := 1174) rfl rfl e (fun v hv => cX7_truth_ hV hv) (fun w166 e => ?_)
        refine hn_aload_n hF dL_law_1174 (q := 1175) rfl 2 rfl ?_
        refine hn_aload_n hF dL_law_1175 (q := 1176) rfl 0 rfl ?_
        refine hn_iload_n hF dL_law_1176 (q := 1177) rfl 3 rfl ?_
        refine hn_iconst hF dL_law_1177 (q := 1178) rfl ki_1 ?_
        refine hn_iadd hF dL_law_1178 (q := 1179) rfl ?_
        refine hn_sld hF hX dL_law_1179 (q := 1180) rfl e (fun v167 e => ?_)
        refine hn_aload_n hF dL_law_1180 (q := 1181) rfl 0 rfl ?_
        refine hn_iload_n hF dL_law_1181 (q := 1182) rfl 3 rfl ?_
        refine hn_iconst hF dL_law_1182 (q := 1183) rfl ki_2 ?_
        refine hn_iadd hF dL_law_1183 (q := 1184) rfl ?_
        refine hn_sld hF hX dL_law_1184 (q := 1185) rfl e (fun v168 e => ?_)
        refine hn_callVm (rest := [.int (w166.1)]) hF ms_X8_truth mv_X8_truth lk_X9_138 o72 rfl (by decide) [.int v167, .int v168] rfl (Nat.le_of_ble_eq_true rfl) dL_law_1185 (q := 1188) rfl rfl e (fun v hv => cX8_truth_ hV hv) (fun w169 e => ?_)
        refine hn_icmp_eq hF dL_law_1188 (t := 1448) (q := 1191) rfl rfl e (fun e => ?_) (fun e => ?_)
        · exact gL_law_1448 hF hQ hX hR hV ih e
        · refine hn_iconst hF dL_law_1191 (q := 1192) rfl ki_0 ?_
          exact absurd (Option.some.inj e) (by rw [hR]; decide)
      rw [if_neg hx28] at e
      by_cases hx29 : v14 &&& 63 = 29
      · rw [if_pos hx29] at e
        refine hn_tabIn hF hx29 dL_law_33 (t := 1193) (by decide) ?_
        refine hn_aload_n hF dL_law_1193 (q := 1194) rfl 1 rfl ?_
        refine hn_aload_n hF dL_law_1194 (q := 1195) rfl 0 rfl ?_
        refine hn_iload_n hF dL_law_1195 (q := 1196) rfl 3 rfl ?_
        refine hn_iconst hF dL_law_1196 (q := 1197) rfl ki_1 ?_
        refine hn_iadd hF dL_law_1197 (q := 1198) rfl ?_
        refine hn_sld hF hX dL_law_1198 (q := 1199) rfl e (fun v170 e => ?_)
        refine hn_aload_n hF dL_law_1199 (q := 1200) rfl 0 rfl ?_
        refine hn_iload_n hF dL_law_1200 (q := 1201) rfl 3 rfl ?_
        refine hn_iconst hF dL_law_1201 (q := 1202) rfl ki_2 ?_
        refine hn_iadd hF dL_law_1202 (q := 1203) rfl ?_
        refine hn_sld hF hX dL_law_1203 (q := 1204) rfl e (fun v171 e => ?_)
        refine hn_callVm (rest := []) hF ms_X7_right mv_X7_right lk_X9_139 o0 rfl (by decide) [.int v170, .int v171] rfl (Nat.le_of_ble_eq_true rfl) dL_law_1204 (q := 1207) rfl rfl e (fun v hv => cX7_right_ hV hv) (fun w172 e => ?_)
        refine hn_aload_n hF dL_law_1207 (q := 1208) rfl 2 rfl ?_
        refine hn_aload_n hF dL_law_1208 (q := 1209) rfl 0 rfl ?_
        refine hn_iload_n hF dL_law_1209 (q := 1210) rfl 3 rfl ?_
        refine hn_iconst hF dL_law_1210 (q := 1211) rfl ki_1 ?_
        refine hn_iadd hF dL_law_1211 (q := 1212) rfl ?_
        refine hn_sld hF hX dL_law_1212 (q := 1213) rfl e (fun v173 e => ?_)
        refine hn_aload_n hF dL_law_1213 (q := 1214) rfl 0 rfl ?_
        refine hn_iload_n hF dL_law_1214 (q := 1215) rfl 3 rfl ?_
        refine hn_iconst hF dL_law_1215 (q := 1216) rfl ki_2 ?_
        refine hn_iadd hF dL_law_1216 (q := 1217) rfl ?_
        refine hn_sld hF hX dL_law_1217 (q := 1218) rfl e (fun v174 e => ?_)
        refine hn_callVm (rest := [.int (w172.1)]) hF ms_X8_right mv_X8_right lk_X9_142 o72 rfl (by decide) [.int v173, .int v174] rfl (Nat.le_of_ble_eq_true rfl) dL_law_1218 (q := 1221) rfl rfl e (fun v hv => cX8_right_ hV hv) (fun w175 e => ?_)
        refine hn_icmp_eq hF dL_law_1221 (t := 1448) (q := 1224) rfl rfl e (fun e => ?_) (fun e => ?_)
        · exact gL_law_1448 hF hQ hX hR hV ih e
        · refine hn_iconst hF dL_law_1224 (q := 1225) rfl ki_0 ?_
          exact absurd (Option.some.inj e) (by rw [hR]; decide)
      rw [if_neg hx29] at e
      by_cases hx30 : v14 &&& 63 = 30
      · rw [if_pos hx30] at e
        refine hn_tabIn hF hx30 dL_law_33 (t := 1226) (by decide) ?_
        refine hn_aload_n hF dL_law_1226 (q := 1227) rfl 1 rfl ?_
        refine hn_aload_n hF dL_law_1227 (q := 1228) rfl 0 rfl ?_
        refine hn_iload_n hF dL_law_1228 (q := 1229) rfl 3 rfl ?_
        refine hn_iconst hF dL_law_1229 (q := 1230) rfl ki_1 ?_
        refine hn_iadd hF dL_law_1230 (q := 1231) rfl ?_
        refine hn_sld hF hX dL_law_1231 (q := 1232) rfl e (fun v176 e => ?_)
        refine hn_aload_n hF dL_law_1232 (q := 1233) rfl 0 rfl ?_
        refine hn_iload_n hF dL_law_1233 (q := 1234) rfl 3 rfl ?_
        refine hn_iconst hF dL_law_1234 (q := 1235) rfl ki_2 ?_
        refine hn_iadd hF dL_law_1235 (q := 1236) rfl ?_
        refine hn_sld hF hX dL_law_1236 (q := 1237) rfl e (fun v177 e => ?_)
        refine hn_aload_n hF dL_law_1237 (q := 1238) rfl 0 rfl ?_
        refine hn_iload_n hF dL_law_1238 (q := 1239) rfl 3 rfl ?_
        refine hn_iconst hF dL_law_1239 (q := 1240) rfl ki_3 ?_
        refine hn_iadd hF dL_law_1240 (q := 1241) rfl ?_
        refine hn_sld hF hX dL_law_1241 (q := 1242) rfl e (fun v178 e => ?_)
        refine hn_callVl (rest := []) hF ms_X7_beyond mv_X7_beyond lk_X9_143 o0 rfl (by decide) [.int v176, .int v177, .int v178] rfl (Nat.le_of_ble_eq_true rfl) dL_law_1242 (q := 1245) rfl rfl e (fun v hv => cX7_beyond_ hv) (fun v179 e => ?_)
        refine hn_aload_n hF dL_law_1245 (q := 1246) rfl 2 rfl ?_
        refine hn_aload_n hF dL_law_1246 (q := 1247) rfl 0 rfl ?_
        refine hn_iload_n hF dL_law_1247 (q := 1248) rfl 3 rfl ?_
        refine hn_iconst hF dL_law_1248 (q := 1249) rfl ki_1 ?_
        refine hn_iadd hF dL_law_1249 (q := 1250) rfl ?_
        refine hn_sld hF hX dL_law_1250 (q := 1251) rfl e (fun v180 e => ?_)
        refine hn_aload_n hF dL_law_1251 (q := 1252) rfl 0 rfl ?_
        refine hn_iload_n hF dL_law_1252 (q := 1253) rfl 3 rfl ?_
        refine hn_iconst hF dL_law_1253 (q := 1254) rfl ki_2 ?_
        refine hn_iadd hF dL_law_1254 (q := 1255) rfl ?_
        refine hn_sld hF hX dL_law_1255 (q := 1256) rfl e (fun v181 e => ?_)
        refine hn_aload_n hF dL_law_1256 (q := 1257) rfl 0 rfl ?_
        refine hn_iload_n hF dL_law_1257 (q := 1258) rfl 3 rfl ?_
        refine hn_iconst hF dL_law_1258 (q := 1259) rfl ki_3 ?_
        refine hn_iadd hF dL_law_1259 (q := 1260) rfl ?_
        refine hn_sld hF hX dL_law_1260 (q := 1261) rfl e (fun v182 e => ?_)
        refine hn_callVl (rest := [.long v179]) hF ms_X8_beyond mv_X8_beyond lk_X9_147 o72 rfl (by decide) [.int v180, .int v181, .int v182] rfl (Nat.le_of_ble_eq_true rfl) dL_law_1261 (q := 1264) rfl rfl e (fun v hv => cX8_beyond_ hv) (fun v183 e => ?_)
        refine hn_lcmp hF dL_law_1264 (q := 1265) rfl ?_
        refine hn_if_eq hF dL_law_1265 (t := 1448) (q := 1268) rfl rfl e (fun e => ?_) (fun e => ?_)
        · exact gL_law_1448 hF hQ hX hR hV ih e
        · refine hn_iconst hF dL_law_1268 (q := 1269) rfl ki_0 ?_
          exact absurd (Option.some.inj e) (by rw [hR]; decide)
      rw [if_neg hx30] at e
      by_cases hx31 : v14 &&& 63 = 31
      · rw [if_pos hx31] at e
        refine hn_tabIn hF hx31 dL_law_33 (t := 1270) (by decide) ?_
        refine hn_aload_n hF dL_law_1270 (q := 1271) rfl 1 rfl ?_
        refine hn_aload_n hF dL_law_1271 (q := 1272) rfl 0 rfl ?_
        refine hn_iload_n hF dL_law_1272 (q := 1273) rfl 3 rfl ?_
        refine hn_iconst hF dL_law_1273 (q := 1274) rfl ki_1 ?_
        refine hn_iadd hF dL_law_1274 (q := 1275) rfl ?_
        refine hn_sld hF hX dL_law_1275 (q := 1276) rfl e (fun v184 e => ?_)
        refine hn_aload_n hF dL_law_1276 (q := 1277) rfl 0 rfl ?_
        refine hn_iload_n hF dL_law_1277 (q := 1278) rfl 3 rfl ?_
        refine hn_iconst hF dL_law_1278 (q := 1279) rfl ki_2 ?_
        refine hn_iadd hF dL_law_1279 (q := 1280) rfl ?_
        refine hn_sld hF hX dL_law_1280 (q := 1281) rfl e (fun v185 e => ?_)
        refine hn_aload_n hF dL_law_1281 (q := 1282) rfl 0 rfl ?_
        refine hn_iload_n hF dL_law_1282 (q := 1283) rfl 3 rfl ?_
        refine hn_iconst hF dL_law_1283 (q := 1284) rfl ki_3 ?_
        refine hn_iadd hF dL_law_1284 (q := 1285) rfl ?_
        refine hn_sld hF hX dL_law_1285 (q := 1286) rfl e (fun v186 e => ?_)
        refine hn_callVi (rest := []) hF ms_X7_known mv_X7_known lk_X9_148 o0 rfl (by decide) [.int v184, .int v185, .int v186] rfl (Nat.le_of_ble_eq_true rfl) dL_law_1286 (q := 1289) rfl rfl e (fun v hv => cX7_known_ hV hv) (fun v187 e => ?_)
        refine hn_aload_n hF dL_law_1289 (q := 1290) rfl 2 rfl ?_
        refine hn_aload_n hF dL_law_1290 (q := 1291) rfl 0 rfl ?_
        refine hn_iload_n hF dL_law_1291 (q := 1292) rfl 3 rfl ?_
        refine hn_iconst hF dL_law_1292 (q := 1293) rfl ki_1 ?_
        refine hn_iadd hF dL_law_1293 (q := 1294) rfl ?_
        refine hn_sld hF hX dL_law_1294 (q := 1295) rfl e (fun v188 e => ?_)
        refine hn_aload_n hF dL_law_1295 (q := 1296) rfl 0 rfl ?_
        refine hn_iload_n hF dL_law_1296 (q := 1297) rfl 3 rfl ?_
        refine hn_iconst hF dL_law_1297 (q := 1298) rfl ki_2 ?_
        refine hn_iadd hF dL_law_1298 (q := 1299) rfl ?_
        refine hn_sld hF hX dL_law_1299 (q := 1300) rfl e (fun v189 e => ?_)
        refine hn_aload_n hF dL_law_1300 (q := 1301) rfl 0 rfl ?_
        refine hn_iload_n hF dL_law_1301 (q := 1302) rfl 3 rfl ?_
        refine hn_iconst hF dL_law_1302 (q := 1303) rfl ki_3 ?_
        refine hn_iadd hF dL_law_1303 (q := 1304) rfl ?_
        refine hn_sld hF hX dL_law_1304 (q := 1305) rfl e (fun v190 e => ?_)
        refine hn_callVi (rest := [.int v187]) hF ms_X8_known mv_X8_known lk_X9_151 o72 rfl (by decide) [.int v188, .int v189, .int v190] rfl (Nat.le_of_ble_eq_true rfl) dL_law_1305 (q := 1308) rfl rfl e (fun v hv => cX8_known_ hV hv) (fun v191 e => ?_)
        refine hn_icmp_eq hF dL_law_1308 (t := 1448) (q := 1311) rfl rfl e (fun e => ?_) (fun e => ?_)
        · exact gL_law_1448 hF hQ hX hR hV ih e
        · refine hn_iconst hF dL_law_1311 (q := 1312) rfl ki_0 ?_
          exact absurd (Option.some.inj e) (by rw [hR]; decide)
      rw [if_neg hx31] at e
      by_cases hx32 : v14 &&& 63 = 32
      · rw [if_pos hx32] at e
        refine hn_tabIn hF hx32 dL_law_33 (t := 1313) (by decide) ?_
        refine hn_aload_n hF dL_law_1313 (q := 1314) rfl 1 rfl ?_
        refine hn_aload_n hF dL_law_1314 (q := 1315) rfl 0 rfl ?_
        refine hn_iload_n hF dL_law_1315 (q := 1316) rfl 3 rfl ?_
        refine hn_iconst hF dL_law_1316 (q := 1317) rfl ki_1 ?_
        refine hn_iadd hF dL_law_1317 (q := 1318) rfl ?_
        refine hn_sld hF hX dL_law_1318 (q := 1319) rfl e (fun v192 e => ?_)
        refine hn_aload_n hF dL_law_1319 (q := 1320) rfl 0 rfl ?_
        refine hn_iload_n hF dL_law_1320 (q := 1321) rfl 3 rfl ?_
        refine hn_iconst hF dL_law_1321 (q := 1322) rfl ki_2 ?_
        refine hn_iadd hF dL_law_1322 (q := 1323) rfl ?_
        refine hn_sld hF hX dL_law_1323 (q := 1324) rfl e (fun v193 e => ?_)
        refine hn_aload_n hF dL_law_1324 (q := 1325) rfl 0 rfl ?_
        refine hn_iload_n hF dL_law_1325 (q := 1326) rfl 3 rfl ?_
        refine hn_iconst hF dL_law_1326 (q := 1327) rfl ki_3 ?_
        refine hn_iadd hF dL_law_1327 (q := 1328) rfl ?_
        refine hn_sld hF hX dL_law_1328 (q := 1329) rfl e (fun v194 e => ?_)
        refine hn_callVm (rest := []) hF ms_X7_worth mv_X7_worth lk_X9_152 o0 rfl (by decide) [.int v192, .int v193, .int v194] rfl (Nat.le_of_ble_eq_true rfl) dL_law_1329 (q := 1332) rfl rfl e (fun v hv => cX7_worth_ hV hv) (fun w195 e => ?_)
        refine hn_aload_n hF dL_law_1332 (q := 1333) rfl 2 rfl ?_
        refine hn_aload_n hF dL_law_1333 (q := 1334) rfl 0 rfl ?_
        refine hn_iload_n hF dL_law_1334 (q := 1335) rfl 3 rfl ?_
        refine hn_iconst hF dL_law_1335 (q := 1336) rfl ki_1 ?_
        refine hn_iadd hF dL_law_1336 (q := 1337) rfl ?_
        refine hn_sld hF hX dL_law_1337 (q := 1338) rfl e (fun v196 e => ?_)
        refine hn_aload_n hF dL_law_1338 (q := 1339) rfl 0 rfl ?_
        refine hn_iload_n hF dL_law_1339 (q := 1340) rfl 3 rfl ?_
        refine hn_iconst hF dL_law_1340 (q := 1341) rfl ki_2 ?_
        refine hn_iadd hF dL_law_1341 (q := 1342) rfl ?_
        refine hn_sld hF hX dL_law_1342 (q := 1343) rfl e (fun v197 e => ?_)
        refine hn_aload_n hF dL_law_1343 (q := 1344) rfl 0 rfl ?_
        refine hn_iload_n hF dL_law_1344 (q := 1345) rfl 3 rfl ?_
        refine hn_iconst hF dL_law_1345 (q := 1346) rfl ki_3 ?_
        refine hn_iadd hF dL_law_1346 (q := 1347) rfl ?_
        refine hn_sld hF hX dL_law_1347 (q := 1348) rfl e (fun v198 e => ?_)
        refine hn_callVm (rest := [.int (w195.1)]) hF ms_X8_worth mv_X8_worth lk_X9_155 o72 rfl (by decide) [.int v196, .int v197, .int v198] rfl (Nat.le_of_ble_eq_true rfl) dL_law_1348 (q := 1351) rfl rfl e (fun v hv => cX8_worth_ hV hv) (fun w199 e => ?_)
        refine hn_icmp_eq hF dL_law_1351 (t := 1448) (q := 1354) rfl rfl e (fun e => ?_) (fun e => ?_)
        · exact gL_law_1448 hF hQ hX hR hV ih e
        · refine hn_iconst hF dL_law_1354 (q := 1355) rfl ki_0 ?_
          exact absurd (Option.some.inj e) (by rw [hR]; decide)
      rw [if_neg hx32] at e
      by_cases hx33 : v14 &&& 63 = 33
      · rw [if_pos hx33] at e
        refine hn_tabIn hF hx33 dL_law_33 (t := 1356) (by decide) ?_
        refine hn_aload_n hF dL_law_1356 (q := 1357) rfl 1 rfl ?_
        refine hn_aload_n hF dL_law_1357 (q := 1358) rfl 0 rfl ?_
        refine hn_iload_n hF dL_law_1358 (q := 1359) rfl 3 rfl ?_
        refine hn_iconst hF dL_law_1359 (q := 1360) rfl ki_1 ?_
        refine hn_iadd hF dL_law_1360 (q := 1361) rfl ?_
        refine hn_sld hF hX dL_law_1361 (q := 1362) rfl e (fun v200 e => ?_)
        refine hn_aload_n hF dL_law_1362 (q := 1363) rfl 0 rfl ?_
        refine hn_iload_n hF dL_law_1363 (q := 1364) rfl 3 rfl ?_
        refine hn_iconst hF dL_law_1364 (q := 1365) rfl ki_2 ?_
        refine hn_iadd hF dL_law_1365 (q := 1366) rfl ?_
        refine hn_sld hF hX dL_law_1366 (q := 1367) rfl e (fun v201 e => ?_)
        refine hn_aload_n hF dL_law_1367 (q := 1368) rfl 0 rfl ?_
        refine hn_iload_n hF dL_law_1368 (q := 1369) rfl 3 rfl ?_
        refine hn_iconst hF dL_law_1369 (q := 1370) rfl ki_3 ?_
        refine hn_iadd hF dL_law_1370 (q := 1371) rfl ?_
        refine hn_sld hF hX dL_law_1371 (q := 1372) rfl e (fun v202 e => ?_)
        refine hn_callVi (rest := []) hF ms_X7_buy mv_X7_buy lk_X9_156 o0 rfl (by decide) [.int v200, .int v201, .int v202] rfl (Nat.le_of_ble_eq_true rfl) dL_law_1372 (q := 1375) rfl rfl e (fun v hv => cX7_buy_ hV hv) (fun v203 e => ?_)
        refine hn_aload_n hF dL_law_1375 (q := 1376) rfl 2 rfl ?_
        refine hn_aload_n hF dL_law_1376 (q := 1377) rfl 0 rfl ?_
        refine hn_iload_n hF dL_law_1377 (q := 1378) rfl 3 rfl ?_
        refine hn_iconst hF dL_law_1378 (q := 1379) rfl ki_1 ?_
        refine hn_iadd hF dL_law_1379 (q := 1380) rfl ?_
        refine hn_sld hF hX dL_law_1380 (q := 1381) rfl e (fun v204 e => ?_)
        refine hn_aload_n hF dL_law_1381 (q := 1382) rfl 0 rfl ?_
        refine hn_iload_n hF dL_law_1382 (q := 1383) rfl 3 rfl ?_
        refine hn_iconst hF dL_law_1383 (q := 1384) rfl ki_2 ?_
        refine hn_iadd hF dL_law_1384 (q := 1385) rfl ?_
        refine hn_sld hF hX dL_law_1385 (q := 1386) rfl e (fun v205 e => ?_)
        refine hn_aload_n hF dL_law_1386 (q := 1387) rfl 0 rfl ?_
        refine hn_iload_n hF dL_law_1387 (q := 1388) rfl 3 rfl ?_
        refine hn_iconst hF dL_law_1388 (q := 1389) rfl ki_3 ?_
        refine hn_iadd hF dL_law_1389 (q := 1390) rfl ?_
        refine hn_sld hF hX dL_law_1390 (q := 1391) rfl e (fun v206 e => ?_)
        refine hn_callVi (rest := [.int v203]) hF ms_X8_buy mv_X8_buy lk_X9_159 o72 rfl (by decide) [.int v204, .int v205, .int v206] rfl (Nat.le_of_ble_eq_true rfl) dL_law_1391 (q := 1394) rfl rfl e (fun v hv => cX8_buy_ hV hv) (fun v207 e => ?_)
        refine hn_icmp_eq hF dL_law_1394 (t := 1448) (q := 1397) rfl rfl e (fun e => ?_) (fun e => ?_)
        · exact gL_law_1448 hF hQ hX hR hV ih e
        · refine hn_iconst hF dL_law_1397 (q := 1398) rfl ki_0 ?_
          exact absurd (Option.some.inj e) (by rw [hR]; decide)
      rw [if_neg hx33] at e
      by_cases hx34 : v14 &&& 63 = 34
      · rw [if_pos hx34] at e
        refine hn_tabIn hF hx34 dL_law_33 (t := 1399) (by decide) ?_
        refine hn_aload_n hF dL_law_1399 (q := 1400) rfl 1 rfl ?_
        refine hn_callVm (rest := []) hF ms_X7_keep mv_X7_keep lk_X9_160 o0 rfl (by decide) [] rfl (Nat.le_of_ble_eq_true rfl) dL_law_1400 (q := 1403) rfl rfl e (fun v hv => cX7_keep_ hV hv) (fun w208 e => ?_)
        refine hn_aload_n hF dL_law_1403 (q := 1404) rfl 2 rfl ?_
        refine hn_callVm (rest := [.int (w208.1)]) hF ms_X8_keep mv_X8_keep lk_X9_163 o72 rfl (by decide) [] rfl (Nat.le_of_ble_eq_true rfl) dL_law_1404 (q := 1407) rfl rfl e (fun v hv => cX8_keep_ hV hv) (fun w209 e => ?_)
        refine hn_icmp_eq hF dL_law_1407 (t := 1448) (q := 1410) rfl rfl e (fun e => ?_) (fun e => ?_)
        · exact gL_law_1448 hF hQ hX hR hV ih e
        · refine hn_iconst hF dL_law_1410 (q := 1411) rfl ki_0 ?_
          exact absurd (Option.some.inj e) (by rw [hR]; decide)
      rw [if_neg hx34] at e
      by_cases hx35 : v14 &&& 63 = 35
      · rw [if_pos hx35] at e
        refine hn_tabIn hF hx35 dL_law_33 (t := 1412) (by decide) ?_
        refine hn_aload_n hF dL_law_1412 (q := 1413) rfl 1 rfl ?_
        refine hn_callVm (rest := []) hF ms_X7_back mv_X7_back lk_X9_164 o0 rfl (by decide) [] rfl (Nat.le_of_ble_eq_true rfl) dL_law_1413 (q := 1416) rfl rfl e (fun v hv => cX7_back_ hV hv) (fun w210 e => ?_)
        refine hn_aload_n hF dL_law_1416 (q := 1417) rfl 2 rfl ?_
        refine hn_callVm (rest := [.int (w210.1)]) hF ms_X8_back mv_X8_back lk_X9_167 o72 rfl (by decide) [] rfl (Nat.le_of_ble_eq_true rfl) dL_law_1417 (q := 1420) rfl rfl e (fun v hv => cX8_back_ hV hv) (fun w211 e => ?_)
        refine hn_icmp_eq hF dL_law_1420 (t := 1448) (q := 1423) rfl rfl e (fun e => ?_) (fun e => ?_)
        · exact gL_law_1448 hF hQ hX hR hV ih e
        · refine hn_iconst hF dL_law_1423 (q := 1424) rfl ki_0 ?_
          exact absurd (Option.some.inj e) (by rw [hR]; decide)
      rw [if_neg hx35] at e
      by_cases hx36 : v14 &&& 63 = 36
      · rw [if_pos hx36] at e
        refine hn_tabIn hF hx36 dL_law_33 (t := 1425) (by decide) ?_
        refine hn_aload_n hF dL_law_1425 (q := 1426) rfl 1 rfl ?_
        refine hn_aload_n hF dL_law_1426 (q := 1427) rfl 0 rfl ?_
        refine hn_iload_n hF dL_law_1427 (q := 1428) rfl 3 rfl ?_
        refine hn_iconst hF dL_law_1428 (q := 1429) rfl ki_1 ?_
        refine hn_iadd hF dL_law_1429 (q := 1430) rfl ?_
        refine hn_sld hF hX dL_law_1430 (q := 1431) rfl e (fun v212 e => ?_)
        refine hn_callVi (rest := []) hF ms_X7_count mv_X7_count lk_X9_168 o0 rfl (by decide) [.int v212] rfl (Nat.le_of_ble_eq_true rfl) dL_law_1431 (q := 1434) rfl rfl e (fun v hv => cX7_count_ hV hv) (fun v213 e => ?_)
        refine hn_aload_n hF dL_law_1434 (q := 1435) rfl 2 rfl ?_
        refine hn_aload_n hF dL_law_1435 (q := 1436) rfl 0 rfl ?_
        refine hn_iload_n hF dL_law_1436 (q := 1437) rfl 3 rfl ?_
        refine hn_iconst hF dL_law_1437 (q := 1438) rfl ki_1 ?_
        refine hn_iadd hF dL_law_1438 (q := 1439) rfl ?_
        refine hn_sld hF hX dL_law_1439 (q := 1440) rfl e (fun v214 e => ?_)
        refine hn_callVi (rest := [.int v213]) hF ms_X8_count mv_X8_count lk_X9_171 o72 rfl (by decide) [.int v214] rfl (Nat.le_of_ble_eq_true rfl) dL_law_1440 (q := 1443) rfl rfl e (fun v hv => cX8_count_ hV hv) (fun v215 e => ?_)
        refine hn_icmp_eq hF dL_law_1443 (t := 1448) (q := 1446) rfl rfl e (fun e => ?_) (fun e => ?_)
        · exact gL_law_1448 hF hQ hX hR hV ih e
        · refine hn_iconst hF dL_law_1446 (q := 1447) rfl ki_0 ?_
          exact absurd (Option.some.inj e) (by rw [hR]; decide)
      rw [if_neg hx36] at e
      refine hn_tabOut hF dL_law_33 (t := 1448) (hn_miss37 hx0 hx1 hx2 hx3 hx4 hx5 hx6 hx7 hx8 hx9 hx10 hx11 hx12 hx13 hx14 hx15 hx16 hx17 hx18 hx19 hx20 hx21 hx22 hx23 hx24 hx25 hx26 hx27 hx28 hx29 hx30 hx31 hx32 hx33 hx34 hx35 hx36) rfl ?_
      exact gL_law_1448 hF hQ hX hR hV ih e
