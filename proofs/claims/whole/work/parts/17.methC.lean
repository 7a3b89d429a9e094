/-! X9_init -/
def fX9_init_b0 (A : k_H) (v0 : Int) : Option (Int × k_H) := if 0 ≤ v0 then (k_lt (k_mk A 20 200) fun A2 => if k_isO A2 v0 9 then (k_lt (k_wt A2 v0 1 (k_N A : Int)) fun A5 => k_lt (k_mk A5 21 12) fun A7 => if k_isO A7 v0 9 then (k_lt (k_wt A7 v0 5 (k_N A5 : Int)) fun A10 => k_lt (k_mk A10 21 12) fun A12 => if k_isO A12 v0 9 then (k_lt (k_wt A12 v0 6 (k_N A10 : Int)) fun A15 => k_lt (k_mk A15 21 12) fun A17 => if k_isO A17 v0 9 then (k_lt (k_wt A17 v0 7 (k_N A15 : Int)) fun A20 => k_lt (k_mk A20 21 12) fun A22 => if k_isO A22 v0 9 then (k_lt (k_wt A22 v0 8 (k_N A20 : Int)) fun A25 => k_lt (k_mk A25 21 12) fun A27 => if k_isO A27 v0 9 then (k_lt (k_wt A27 v0 9 (k_N A25 : Int)) fun A30 => k_lt (k_mk A30 21 48) fun A32 => if k_isO A32 v0 9 then (k_lt (k_wt A32 v0 10 (k_N A30 : Int)) fun A35 => k_lt (k_mk A35 21 6) fun A37 => if k_isO A37 v0 9 then (k_lt (k_wt A37 v0 11 (k_N A35 : Int)) fun A40 => k_lt (k_mk A40 21 6) fun A42 => if k_isO A42 v0 9 then (k_lt (k_wt A42 v0 12 (k_N A40 : Int)) fun A45 => k_lt (k_mk A45 21 6) fun A47 => if k_isO A47 v0 9 then (k_lt (k_wt A47 v0 13 (k_N A45 : Int)) fun A50 => k_lt (k_mk A50 21 48) fun A52 => if k_isO A52 v0 9 then (k_lt (k_wt A52 v0 14 (k_N A50 : Int)) fun A55 => k_lt (k_mk A55 21 6) fun A57 => if k_isO A57 v0 9 then (k_lt (k_wt A57 v0 15 (k_N A55 : Int)) fun A60 => k_lt (k_mk A60 21 6) fun A62 => if k_isO A62 v0 9 then (k_lt (k_wt A62 v0 16 (k_N A60 : Int)) fun A65 => k_lt (k_mk A65 21 6) fun A67 => if k_isO A67 v0 9 then (k_lt (k_wt A67 v0 17 (k_N A65 : Int)) fun A70 => k_lt (k_mk A70 21 6) fun A72 => if k_isO A72 v0 9 then (k_lt (k_wt A72 v0 18 (k_N A70 : Int)) fun A75 => k_lt (k_mk A75 21 72) fun A77 => if k_isO A77 v0 9 then (k_lt (k_wt A77 v0 19 (k_N A75 : Int)) fun A80 => k_lt (k_mk A80 21 8) fun A82 => if k_isO A82 v0 9 then (k_lt (k_wt A82 v0 22 (k_N A80 : Int)) fun A85 => k_lt (k_mk A85 21 4) fun A87 => if k_isO A87 v0 9 then (k_lt (k_wt A87 v0 23 (k_N A85 : Int)) fun A90 => k_lt (k_mk A90 21 84) fun A92 => if k_isO A92 v0 9 then (k_lt (k_wt A92 v0 24 (k_N A90 : Int)) fun A95 => k_lt (k_mk A95 21 84) fun A97 => if k_isO A97 v0 9 then (k_lt (k_wt A97 v0 25 (k_N A95 : Int)) fun A100 => k_lt (k_mk A100 21 6) fun A102 => if k_isO A102 v0 9 then (k_lt (k_wt A102 v0 26 (k_N A100 : Int)) fun A105 => k_lt (k_mk A105 21 15) fun A107 => if k_isO A107 v0 9 then (k_lt (k_wt A107 v0 27 (k_N A105 : Int)) fun A110 => k_lt (k_mk A110 21 15) fun A112 => if k_isO A112 v0 9 then (k_lt (k_wt A112 v0 28 (k_N A110 : Int)) fun A115 => k_lt (k_mk A115 21 15) fun A117 => if k_isO A117 v0 9 then (k_lt (k_wt A117 v0 29 (k_N A115 : Int)) fun A120 => k_lt (k_mk A120 21 15) fun A122 => if k_isO A122 v0 9 then (k_lt (k_wt A122 v0 30 (k_N A120 : Int)) fun A125 => k_lt (k_mk A125 21 15) fun A127 => if k_isO A127 v0 9 then (k_lt (k_wt A127 v0 31 (k_N A125 : Int)) fun A130 => k_lt (k_mk A130 21 15) fun A132 => if k_isO A132 v0 9 then (k_lt (k_wt A132 v0 32 (k_N A130 : Int)) fun A135 => k_lt (k_mk A135 21 14) fun A137 => if k_isO A137 v0 9 then (k_lt (k_wt A137 v0 33 (k_N A135 : Int)) fun A140 => k_lt (k_mk A140 22 22050) fun A142 => if k_isO A142 v0 9 then (k_lt (k_wt A142 v0 34 (k_N A140 : Int)) fun A145 => k_lt (k_mk A145 21 84) fun A147 => if k_isO A147 v0 9 then (k_lt (k_wt A147 v0 35 (k_N A145 : Int)) fun A150 => some (0, A150)) else none) else none) else none) else none) else none) else none) else none) else none) else none) else none) else none) else none) else none) else none) else none) else none) else none) else none) else none) else none) else none) else none) else none) else none) else none) else none) else none) else none) else none) else none) else none
def fX9_init (A : k_H) (x0 : Int) : Option (Int × k_H) := fX9_init_b0 A x0
set_option maxRecDepth 100000 in
theorem okX9_init_b0 (A : k_H) (v0 : Int) (r : Int) (A' : k_H) (h : fX9_init_b0 A v0 = some (r, A')) : k_AW 1 mX9_init 0 [(1, v0)] [] A r A' := by
  unfold fX9_init_b0 at h
  refine k_aload_n (pc := 0) (x := v0) dX9_init_0 rfl rfl ?_
  obtain ⟨hc1, h⟩ := k_pk h
  refine k_objInit (pc := 1) dX9_init_1 (k_gt 872 (by decide +kernel) (by decide +kernel)) (by omega) hc1 (Nat.le_of_ble_eq_true rfl) ?_
  refine k_aload_n (pc := 4) (x := v0) dX9_init_4 rfl rfl ?_
  refine k_sipush (pc := 5) dX9_init_5 ⟨by decide, by decide⟩ (by decide +kernel) ?_
  refine k_newa (pc := 8) (n := 200) dX9_init_8 k_atB rfl (by decide) ?_
  obtain ⟨A2, eA3, h⟩ := k_pl h
  refine k_hq eA3 ?_
  obtain ⟨hc4, h⟩ := k_pk h
  refine k_putF (pc := 10) (t := 1) (fi := 1) dX9_init_10 flX9_7 rfl (fun Cn Tt Nn h9 => by cases h9; rfl) rfl rfl hc4 rfl ?_
  obtain ⟨A5, eA6, h⟩ := k_pl h
  refine k_hq eA6 ?_
  refine k_aload_n (pc := 13) (x := v0) dX9_init_13 rfl rfl ?_
  refine k_bipush (pc := 14) dX9_init_14 ⟨by decide, by decide⟩ (by decide +kernel) ?_
  refine k_newa (pc := 16) (n := 12) dX9_init_16 k_atI rfl (by decide) ?_
  obtain ⟨A7, eA8, h⟩ := k_pl h
  refine k_hq eA8 ?_
  obtain ⟨hc9, h⟩ := k_pk h
  refine k_putF (pc := 18) (t := 1) (fi := 5) dX9_init_18 flX9_13 rfl (fun Cn Tt Nn h9 => by cases h9; rfl) rfl rfl hc9 rfl ?_
  obtain ⟨A10, eA11, h⟩ := k_pl h
  refine k_hq eA11 ?_
  refine k_aload_n (pc := 21) (x := v0) dX9_init_21 rfl rfl ?_
  refine k_bipush (pc := 22) dX9_init_22 ⟨by decide, by decide⟩ (by decide +kernel) ?_
  refine k_newa (pc := 24) (n := 12) dX9_init_24 k_atI rfl (by decide) ?_
  obtain ⟨A12, eA13, h⟩ := k_pl h
  refine k_hq eA13 ?_
  obtain ⟨hc14, h⟩ := k_pk h
  refine k_putF (pc := 26) (t := 1) (fi := 6) dX9_init_26 flX9_17 rfl (fun Cn Tt Nn h9 => by cases h9; rfl) rfl rfl hc14 rfl ?_
  obtain ⟨A15, eA16, h⟩ := k_pl h
  refine k_hq eA16 ?_
  refine k_aload_n (pc := 29) (x := v0) dX9_init_29 rfl rfl ?_
  refine k_bipush (pc := 30) dX9_init_30 ⟨by decide, by decide⟩ (by decide +kernel) ?_
  refine k_newa (pc := 32) (n := 12) dX9_init_32 k_atI rfl (by decide) ?_
  obtain ⟨A17, eA18, h⟩ := k_pl h
  refine k_hq eA18 ?_
  obtain ⟨hc19, h⟩ := k_pk h
  refine k_putF (pc := 34) (t := 1) (fi := 7) dX9_init_34 flX9_20 rfl (fun Cn Tt Nn h9 => by cases h9; rfl) rfl rfl hc19 rfl ?_
  obtain ⟨A20, eA21, h⟩ := k_pl h
  refine k_hq eA21 ?_
  refine k_aload_n (pc := 37) (x := v0) dX9_init_37 rfl rfl ?_
  refine k_bipush (pc := 38) dX9_init_38 ⟨by decide, by decide⟩ (by decide +kernel) ?_
  refine k_newa (pc := 40) (n := 12) dX9_init_40 k_atI rfl (by decide) ?_
  obtain ⟨A22, eA23, h⟩ := k_pl h
  refine k_hq eA23 ?_
  obtain ⟨hc24, h⟩ := k_pk h
  refine k_putF (pc := 42) (t := 1) (fi := 8) dX9_init_42 flX9_23 rfl (fun Cn Tt Nn h9 => by cases h9; rfl) rfl rfl hc24 rfl ?_
  obtain ⟨A25, eA26, h⟩ := k_pl h
  refine k_hq eA26 ?_
  refine k_aload_n (pc := 45) (x := v0) dX9_init_45 rfl rfl ?_
  refine k_bipush (pc := 46) dX9_init_46 ⟨by decide, by decide⟩ (by decide +kernel) ?_
  refine k_newa (pc := 48) (n := 12) dX9_init_48 k_atI rfl (by decide) ?_
  obtain ⟨A27, eA28, h⟩ := k_pl h
  refine k_hq eA28 ?_
  obtain ⟨hc29, h⟩ := k_pk h
  refine k_putF (pc := 50) (t := 1) (fi := 9) dX9_init_50 flX9_26 rfl (fun Cn Tt Nn h9 => by cases h9; rfl) rfl rfl hc29 rfl ?_
  obtain ⟨A30, eA31, h⟩ := k_pl h
  refine k_hq eA31 ?_
  refine k_aload_n (pc := 53) (x := v0) dX9_init_53 rfl rfl ?_
  refine k_bipush (pc := 54) dX9_init_54 ⟨by decide, by decide⟩ (by decide +kernel) ?_
  refine k_newa (pc := 56) (n := 48) dX9_init_56 k_atI rfl (by decide) ?_
  obtain ⟨A32, eA33, h⟩ := k_pl h
  refine k_hq eA33 ?_
  obtain ⟨hc34, h⟩ := k_pk h
  refine k_putF (pc := 58) (t := 1) (fi := 10) dX9_init_58 flX9_29 rfl (fun Cn Tt Nn h9 => by cases h9; rfl) rfl rfl hc34 rfl ?_
  obtain ⟨A35, eA36, h⟩ := k_pl h
  refine k_hq eA36 ?_
  refine k_aload_n (pc := 61) (x := v0) dX9_init_61 rfl rfl ?_
  refine k_bipush (pc := 62) dX9_init_62 ⟨by decide, by decide⟩ (by decide +kernel) ?_
  refine k_newa (pc := 64) (n := 6) dX9_init_64 k_atI rfl (by decide) ?_
  obtain ⟨A37, eA38, h⟩ := k_pl h
  refine k_hq eA38 ?_
  obtain ⟨hc39, h⟩ := k_pk h
  refine k_putF (pc := 66) (t := 1) (fi := 11) dX9_init_66 flX9_32 rfl (fun Cn Tt Nn h9 => by cases h9; rfl) rfl rfl hc39 rfl ?_
  obtain ⟨A40, eA41, h⟩ := k_pl h
  refine k_hq eA41 ?_
  refine k_aload_n (pc := 69) (x := v0) dX9_init_69 rfl rfl ?_
  refine k_bipush (pc := 70) dX9_init_70 ⟨by decide, by decide⟩ (by decide +kernel) ?_
  refine k_newa (pc := 72) (n := 6) dX9_init_72 k_atI rfl (by decide) ?_
  obtain ⟨A42, eA43, h⟩ := k_pl h
  refine k_hq eA43 ?_
  obtain ⟨hc44, h⟩ := k_pk h
  refine k_putF (pc := 74) (t := 1) (fi := 12) dX9_init_74 flX9_35 rfl (fun Cn Tt Nn h9 => by cases h9; rfl) rfl rfl hc44 rfl ?_
  obtain ⟨A45, eA46, h⟩ := k_pl h
  refine k_hq eA46 ?_
  refine k_aload_n (pc := 77) (x := v0) dX9_init_77 rfl rfl ?_
  refine k_bipush (pc := 78) dX9_init_78 ⟨by decide, by decide⟩ (by decide +kernel) ?_
  refine k_newa (pc := 80) (n := 6) dX9_init_80 k_atI rfl (by decide) ?_
  obtain ⟨A47, eA48, h⟩ := k_pl h
  refine k_hq eA48 ?_
  obtain ⟨hc49, h⟩ := k_pk h
  refine k_putF (pc := 82) (t := 1) (fi := 13) dX9_init_82 flX9_38 rfl (fun Cn Tt Nn h9 => by cases h9; rfl) rfl rfl hc49 rfl ?_
  obtain ⟨A50, eA51, h⟩ := k_pl h
  refine k_hq eA51 ?_
  refine k_aload_n (pc := 85) (x := v0) dX9_init_85 rfl rfl ?_
  refine k_bipush (pc := 86) dX9_init_86 ⟨by decide, by decide⟩ (by decide +kernel) ?_
  refine k_newa (pc := 88) (n := 48) dX9_init_88 k_atI rfl (by decide) ?_
  obtain ⟨A52, eA53, h⟩ := k_pl h
  refine k_hq eA53 ?_
  obtain ⟨hc54, h⟩ := k_pk h
  refine k_putF (pc := 90) (t := 1) (fi := 14) dX9_init_90 flX9_41 rfl (fun Cn Tt Nn h9 => by cases h9; rfl) rfl rfl hc54 rfl ?_
  obtain ⟨A55, eA56, h⟩ := k_pl h
  refine k_hq eA56 ?_
  refine k_aload_n (pc := 93) (x := v0) dX9_init_93 rfl rfl ?_
  refine k_bipush (pc := 94) dX9_init_94 ⟨by decide, by decide⟩ (by decide +kernel) ?_
  refine k_newa (pc := 96) (n := 6) dX9_init_96 k_atI rfl (by decide) ?_
  obtain ⟨A57, eA58, h⟩ := k_pl h
  refine k_hq eA58 ?_
  obtain ⟨hc59, h⟩ := k_pk h
  refine k_putF (pc := 98) (t := 1) (fi := 15) dX9_init_98 flX9_44 rfl (fun Cn Tt Nn h9 => by cases h9; rfl) rfl rfl hc59 rfl ?_
  obtain ⟨A60, eA61, h⟩ := k_pl h
  refine k_hq eA61 ?_
  refine k_aload_n (pc := 101) (x := v0) dX9_init_101 rfl rfl ?_
  refine k_bipush (pc := 102) dX9_init_102 ⟨by decide, by decide⟩ (by decide +kernel) ?_
  refine k_newa (pc := 104) (n := 6) dX9_init_104 k_atI rfl (by decide) ?_
  obtain ⟨A62, eA63, h⟩ := k_pl h
  refine k_hq eA63 ?_
  obtain ⟨hc64, h⟩ := k_pk h
  refine k_putF (pc := 106) (t := 1) (fi := 16) dX9_init_106 flX9_47 rfl (fun Cn Tt Nn h9 => by cases h9; rfl) rfl rfl hc64 rfl ?_
  obtain ⟨A65, eA66, h⟩ := k_pl h
  refine k_hq eA66 ?_
  refine k_aload_n (pc := 109) (x := v0) dX9_init_109 rfl rfl ?_
  refine k_bipush (pc := 110) dX9_init_110 ⟨by decide, by decide⟩ (by decide +kernel) ?_
  refine k_newa (pc := 112) (n := 6) dX9_init_112 k_atI rfl (by decide) ?_
  obtain ⟨A67, eA68, h⟩ := k_pl h
  refine k_hq eA68 ?_
  obtain ⟨hc69, h⟩ := k_pk h
  refine k_putF (pc := 114) (t := 1) (fi := 17) dX9_init_114 flX9_50 rfl (fun Cn Tt Nn h9 => by cases h9; rfl) rfl rfl hc69 rfl ?_
  obtain ⟨A70, eA71, h⟩ := k_pl h
  refine k_hq eA71 ?_
  refine k_aload_n (pc := 117) (x := v0) dX9_init_117 rfl rfl ?_
  refine k_bipush (pc := 118) dX9_init_118 ⟨by decide, by decide⟩ (by decide +kernel) ?_
  refine k_newa (pc := 120) (n := 6) dX9_init_120 k_atI rfl (by decide) ?_
  obtain ⟨A72, eA73, h⟩ := k_pl h
  refine k_hq eA73 ?_
  obtain ⟨hc74, h⟩ := k_pk h
  refine k_putF (pc := 122) (t := 1) (fi := 18) dX9_init_122 flX9_53 rfl (fun Cn Tt Nn h9 => by cases h9; rfl) rfl rfl hc74 rfl ?_
  obtain ⟨A75, eA76, h⟩ := k_pl h
  refine k_hq eA76 ?_
  refine k_aload_n (pc := 125) (x := v0) dX9_init_125 rfl rfl ?_
  refine k_bipush (pc := 126) dX9_init_126 ⟨by decide, by decide⟩ (by decide +kernel) ?_
  refine k_newa (pc := 128) (n := 72) dX9_init_128 k_atI rfl (by decide) ?_
  obtain ⟨A77, eA78, h⟩ := k_pl h
  refine k_hq eA78 ?_
  obtain ⟨hc79, h⟩ := k_pk h
  refine k_putF (pc := 130) (t := 1) (fi := 19) dX9_init_130 flX9_56 rfl (fun Cn Tt Nn h9 => by cases h9; rfl) rfl rfl hc79 rfl ?_
  obtain ⟨A80, eA81, h⟩ := k_pl h
  refine k_hq eA81 ?_
  refine k_aload_n (pc := 133) (x := v0) dX9_init_133 rfl rfl ?_
  refine k_bipush (pc := 134) dX9_init_134 ⟨by decide, by decide⟩ (by decide +kernel) ?_
  refine k_newa (pc := 136) (n := 8) dX9_init_136 k_atI rfl (by decide) ?_
  obtain ⟨A82, eA83, h⟩ := k_pl h
  refine k_hq eA83 ?_
  obtain ⟨hc84, h⟩ := k_pk h
  refine k_putF (pc := 138) (t := 1) (fi := 22) dX9_init_138 flX9_59 rfl (fun Cn Tt Nn h9 => by cases h9; rfl) rfl rfl hc84 rfl ?_
  obtain ⟨A85, eA86, h⟩ := k_pl h
  refine k_hq eA86 ?_
  refine k_aload_n (pc := 141) (x := v0) dX9_init_141 rfl rfl ?_
  refine k_iconst (pc := 142) dX9_init_142 ⟨by decide, by decide⟩ ?_
  refine k_newa (pc := 143) (n := 4) dX9_init_143 k_atI rfl (by decide) ?_
  obtain ⟨A87, eA88, h⟩ := k_pl h
  refine k_hq eA88 ?_
  obtain ⟨hc89, h⟩ := k_pk h
  refine k_putF (pc := 145) (t := 1) (fi := 23) dX9_init_145 flX9_62 rfl (fun Cn Tt Nn h9 => by cases h9; rfl) rfl rfl hc89 rfl ?_
  obtain ⟨A90, eA91, h⟩ := k_pl h
  refine k_hq eA91 ?_
  refine k_aload_n (pc := 148) (x := v0) dX9_init_148 rfl rfl ?_
  refine k_bipush (pc := 149) dX9_init_149 ⟨by decide, by decide⟩ (by decide +kernel) ?_
  refine k_newa (pc := 151) (n := 84) dX9_init_151 k_atI rfl (by decide) ?_
  obtain ⟨A92, eA93, h⟩ := k_pl h
  refine k_hq eA93 ?_
  obtain ⟨hc94, h⟩ := k_pk h
  refine k_putF (pc := 153) (t := 1) (fi := 24) dX9_init_153 flX9_65 rfl (fun Cn Tt Nn h9 => by cases h9; rfl) rfl rfl hc94 rfl ?_
  obtain ⟨A95, eA96, h⟩ := k_pl h
  refine k_hq eA96 ?_
  refine k_aload_n (pc := 156) (x := v0) dX9_init_156 rfl rfl ?_
  refine k_bipush (pc := 157) dX9_init_157 ⟨by decide, by decide⟩ (by decide +kernel) ?_
  refine k_newa (pc := 159) (n := 84) dX9_init_159 k_atI rfl (by decide) ?_
  obtain ⟨A97, eA98, h⟩ := k_pl h
  refine k_hq eA98 ?_
  obtain ⟨hc99, h⟩ := k_pk h
  refine k_putF (pc := 161) (t := 1) (fi := 25) dX9_init_161 flX9_68 rfl (fun Cn Tt Nn h9 => by cases h9; rfl) rfl rfl hc99 rfl ?_
  obtain ⟨A100, eA101, h⟩ := k_pl h
  refine k_hq eA101 ?_
  refine k_aload_n (pc := 164) (x := v0) dX9_init_164 rfl rfl ?_
  refine k_bipush (pc := 165) dX9_init_165 ⟨by decide, by decide⟩ (by decide +kernel) ?_
  refine k_newa (pc := 167) (n := 6) dX9_init_167 k_atI rfl (by decide) ?_
  obtain ⟨A102, eA103, h⟩ := k_pl h
  refine k_hq eA103 ?_
  obtain ⟨hc104, h⟩ := k_pk h
  refine k_putF (pc := 169) (t := 1) (fi := 26) dX9_init_169 flX9_71 rfl (fun Cn Tt Nn h9 => by cases h9; rfl) rfl rfl hc104 rfl ?_
  obtain ⟨A105, eA106, h⟩ := k_pl h
  refine k_hq eA106 ?_
  refine k_aload_n (pc := 172) (x := v0) dX9_init_172 rfl rfl ?_
  refine k_bipush (pc := 173) dX9_init_173 ⟨by decide, by decide⟩ (by decide +kernel) ?_
  refine k_newa (pc := 175) (n := 15) dX9_init_175 k_atI rfl (by decide) ?_
  obtain ⟨A107, eA108, h⟩ := k_pl h
  refine k_hq eA108 ?_
  obtain ⟨hc109, h⟩ := k_pk h
  refine k_putF (pc := 177) (t := 1) (fi := 27) dX9_init_177 flX9_74 rfl (fun Cn Tt Nn h9 => by cases h9; rfl) rfl rfl hc109 rfl ?_
  obtain ⟨A110, eA111, h⟩ := k_pl h
  refine k_hq eA111 ?_
  refine k_aload_n (pc := 180) (x := v0) dX9_init_180 rfl rfl ?_
  refine k_bipush (pc := 181) dX9_init_181 ⟨by decide, by decide⟩ (by decide +kernel) ?_
  refine k_newa (pc := 183) (n := 15) dX9_init_183 k_atI rfl (by decide) ?_
  obtain ⟨A112, eA113, h⟩ := k_pl h
  refine k_hq eA113 ?_
  obtain ⟨hc114, h⟩ := k_pk h
  refine k_putF (pc := 185) (t := 1) (fi := 28) dX9_init_185 flX9_77 rfl (fun Cn Tt Nn h9 => by cases h9; rfl) rfl rfl hc114 rfl ?_
  obtain ⟨A115, eA116, h⟩ := k_pl h
  refine k_hq eA116 ?_
  refine k_aload_n (pc := 188) (x := v0) dX9_init_188 rfl rfl ?_
  refine k_bipush (pc := 189) dX9_init_189 ⟨by decide, by decide⟩ (by decide +kernel) ?_
  refine k_newa (pc := 191) (n := 15) dX9_init_191 k_atI rfl (by decide) ?_
  obtain ⟨A117, eA118, h⟩ := k_pl h
  refine k_hq eA118 ?_
  obtain ⟨hc119, h⟩ := k_pk h
  refine k_putF (pc := 193) (t := 1) (fi := 29) dX9_init_193 flX9_80 rfl (fun Cn Tt Nn h9 => by cases h9; rfl) rfl rfl hc119 rfl ?_
  obtain ⟨A120, eA121, h⟩ := k_pl h
  refine k_hq eA121 ?_
  refine k_aload_n (pc := 196) (x := v0) dX9_init_196 rfl rfl ?_
  refine k_bipush (pc := 197) dX9_init_197 ⟨by decide, by decide⟩ (by decide +kernel) ?_
  refine k_newa (pc := 199) (n := 15) dX9_init_199 k_atI rfl (by decide) ?_
  obtain ⟨A122, eA123, h⟩ := k_pl h
  refine k_hq eA123 ?_
  obtain ⟨hc124, h⟩ := k_pk h
  refine k_putF (pc := 201) (t := 1) (fi := 30) dX9_init_201 flX9_83 rfl (fun Cn Tt Nn h9 => by cases h9; rfl) rfl rfl hc124 rfl ?_
  obtain ⟨A125, eA126, h⟩ := k_pl h
  refine k_hq eA126 ?_
  refine k_aload_n (pc := 204) (x := v0) dX9_init_204 rfl rfl ?_
  refine k_bipush (pc := 205) dX9_init_205 ⟨by decide, by decide⟩ (by decide +kernel) ?_
  refine k_newa (pc := 207) (n := 15) dX9_init_207 k_atI rfl (by decide) ?_
  obtain ⟨A127, eA128, h⟩ := k_pl h
  refine k_hq eA128 ?_
  obtain ⟨hc129, h⟩ := k_pk h
  refine k_putF (pc := 209) (t := 1) (fi := 31) dX9_init_209 flX9_86 rfl (fun Cn Tt Nn h9 => by cases h9; rfl) rfl rfl hc129 rfl ?_
  obtain ⟨A130, eA131, h⟩ := k_pl h
  refine k_hq eA131 ?_
  refine k_aload_n (pc := 212) (x := v0) dX9_init_212 rfl rfl ?_
  refine k_bipush (pc := 213) dX9_init_213 ⟨by decide, by decide⟩ (by decide +kernel) ?_
  refine k_newa (pc := 215) (n := 15) dX9_init_215 k_atI rfl (by decide) ?_
  obtain ⟨A132, eA133, h⟩ := k_pl h
  refine k_hq eA133 ?_
  obtain ⟨hc134, h⟩ := k_pk h
  refine k_putF (pc := 217) (t := 1) (fi := 32) dX9_init_217 flX9_89 rfl (fun Cn Tt Nn h9 => by cases h9; rfl) rfl rfl hc134 rfl ?_
  obtain ⟨A135, eA136, h⟩ := k_pl h
  refine k_hq eA136 ?_
  refine k_aload_n (pc := 220) (x := v0) dX9_init_220 rfl rfl ?_
  refine k_bipush (pc := 221) dX9_init_221 ⟨by decide, by decide⟩ (by decide +kernel) ?_
  refine k_newa (pc := 223) (n := 14) dX9_init_223 k_atI rfl (by decide) ?_
  obtain ⟨A137, eA138, h⟩ := k_pl h
  refine k_hq eA138 ?_
  obtain ⟨hc139, h⟩ := k_pk h
  refine k_putF (pc := 225) (t := 1) (fi := 33) dX9_init_225 flX9_92 rfl (fun Cn Tt Nn h9 => by cases h9; rfl) rfl rfl hc139 rfl ?_
  obtain ⟨A140, eA141, h⟩ := k_pl h
  refine k_hq eA141 ?_
  refine k_aload_n (pc := 228) (x := v0) dX9_init_228 rfl rfl ?_
  refine k_sipush (pc := 229) dX9_init_229 ⟨by decide, by decide⟩ (by decide +kernel) ?_
  refine k_newa (pc := 232) (n := 22050) dX9_init_232 k_atL rfl (by decide) ?_
  obtain ⟨A142, eA143, h⟩ := k_pl h
  refine k_hq eA143 ?_
  obtain ⟨hc144, h⟩ := k_pk h
  refine k_putF (pc := 234) (t := 1) (fi := 34) dX9_init_234 flX9_95 rfl (fun Cn Tt Nn h9 => by cases h9; rfl) rfl rfl hc144 rfl ?_
  obtain ⟨A145, eA146, h⟩ := k_pl h
  refine k_hq eA146 ?_
  refine k_aload_n (pc := 237) (x := v0) dX9_init_237 rfl rfl ?_
  refine k_bipush (pc := 238) dX9_init_238 ⟨by decide, by decide⟩ (by decide +kernel) ?_
  refine k_newa (pc := 240) (n := 84) dX9_init_240 k_atI rfl (by decide) ?_
  obtain ⟨A147, eA148, h⟩ := k_pl h
  refine k_hq eA148 ?_
  obtain ⟨hc149, h⟩ := k_pk h
  refine k_putF (pc := 242) (t := 1) (fi := 35) dX9_init_242 flX9_99 rfl (fun Cn Tt Nn h9 => by cases h9; rfl) rfl rfl hc149 rfl ?_
  obtain ⟨A150, eA151, h⟩ := k_pl h
  refine k_hq eA151 ?_
  obtain ⟨rfl, rfl⟩ := k_pr h
  exact k_retv (pc := 245) dX9_init_245 rfl
theorem okX9_init {A : k_H} {x0 : Int} {r : Int} {A1 : k_H} (h : fX9_init A x0 = some (r, A1)) : k_AM 1 mX9_init [(1, x0)] A r A1 :=
  k_AM_of2 (ls := [(1, x0)]) (Or.inl (by decide +kernel)) (by decide +kernel) (by decide) rfl (Nat.le_of_ble_eq_true rfl) ⟨Or.inr rfl, trivial⟩ (okX9_init_b0 A x0 r A1 h)
/-! X9_thrown -/
def fX9_thrown_b0 (A : k_H) (v0 : Int) : Option (Int × k_H) := if k_isO A v0 9 then (some ((k_rd A v0 0), A)) else none
def fX9_thrown (A : k_H) (x0 : Int) : Option (Int × k_H) := fX9_thrown_b0 A x0
set_option maxRecDepth 100000 in
theorem okX9_thrown_b0 (A : k_H) (v0 : Int) (r : Int) (A' : k_H) (h : fX9_thrown_b0 A v0 = some (r, A')) : k_AW 1 mX9_thrown 0 [(1, v0)] [] A r A' := by
  unfold fX9_thrown_b0 at h
  refine k_aload_n (pc := 0) (x := v0) dX9_thrown_0 rfl rfl ?_
  obtain ⟨hc1, h⟩ := k_pk h
  refine k_getf (pc := 1) (t := 0) (fi := 0) dX9_thrown_1 flX9_102 rfl rfl hc1 ?_
  obtain ⟨rfl, rfl⟩ := k_pr h
  exact k_ret (pc := 4) dX9_thrown_4 rfl rfl rfl
theorem okX9_thrown {A : k_H} {x0 : Int} {r : Int} {A1 : k_H} (h : fX9_thrown A x0 = some (r, A1)) : k_AM 1 mX9_thrown [(1, x0)] A r A1 :=
  k_AM_of2 (ls := [(1, x0)]) (Or.inl (by decide +kernel)) (by decide +kernel) (by decide) rfl (Nat.le_of_ble_eq_true rfl) ⟨Or.inr rfl, trivial⟩ (okX9_thrown_b0 A x0 r A1 h)
/-! X9_throwsIf -/
def fX9_throwsIf_b10 (A : k_H) (v1 s0 s1 : Int) : Option (Int × k_H) := if k_isO A s0 9 then (k_lt (k_wt A s0 0 s1) fun A2 => if v1 = 0 ∨ v1 = 1 then (some (v1, A2)) else none) else none
def fX9_throwsIf_b0 (A : k_H) (v0 v1 : Int) : Option (Int × k_H) := if v1 = 0 then (fX9_throwsIf_b10 A v1 v0 0) else (fX9_throwsIf_b10 A v1 v0 1)
def fX9_throwsIf (A : k_H) (x0 x1 : Int) : Option (Int × k_H) := fX9_throwsIf_b0 A x0 x1
set_option maxRecDepth 100000 in
theorem okX9_throwsIf_b10 (A : k_H) (v1 s0 s1 : Int) (r : Int) (A' : k_H) (h : fX9_throwsIf_b10 A v1 s0 s1 = some (r, A')) : k_AW 1 mX9_throwsIf 10 [(3, 0), (0, v1)] [(0, s1), (1, s0)] A r A' := by
  unfold fX9_throwsIf_b10 at h
  obtain ⟨hc1, h⟩ := k_pk h
  refine k_putf (pc := 10) (t := 0) (fi := 0) dX9_throwsIf_10 flX9_102 rfl rfl hc1 rfl ?_
  obtain ⟨A2, eA3, h⟩ := k_pl h
  refine k_hq eA3 ?_
  refine k_iload_n (pc := 13) (x := v1) dX9_throwsIf_13 rfl rfl ?_
  obtain ⟨hc4, h⟩ := k_pk h
  obtain ⟨rfl, rfl⟩ := k_pr h
  exact k_ret (pc := 14) dX9_throwsIf_14 rfl rfl (k_nz hc4)
set_option maxRecDepth 100000 in
theorem okX9_throwsIf_b0 (A : k_H) (v0 v1 : Int) (r : Int) (A' : k_H) (h : fX9_throwsIf_b0 A v0 v1 = some (r, A')) : k_AW 1 mX9_throwsIf 0 [(1, v0), (0, v1)] [] A r A' := by
  unfold fX9_throwsIf_b0 at h
  refine k_aload_n (pc := 0) (x := v0) dX9_throwsIf_0 rfl rfl ?_
  refine k_iload_n (pc := 1) (x := v1) dX9_throwsIf_1 rfl rfl ?_
  refine k_if_eq (pc := 2) (tgt := 9) dX9_throwsIf_2 rfl (fun c1 => ?_) (fun c1 => ?_)
  · rw [if_pos c1] at h
    refine k_iconst (pc := 9) dX9_throwsIf_9 ⟨by decide, by decide⟩ ?_
    refine k_sub (ls' := [(3, 0), (0, v1)]) (k_sbl_ok _ _ ⟨Or.inl rfl, Or.inr rfl, trivial⟩) ?_
    exact okX9_throwsIf_b10  _ _ _ _ _ _ h
  · rw [if_neg c1] at h
    refine k_iconst (pc := 5) dX9_throwsIf_5 ⟨by decide, by decide⟩ ?_
    refine k_goto (pc := 6) (tgt := 10) dX9_throwsIf_6 rfl ?_
    refine k_sub (ls' := [(3, 0), (0, v1)]) (k_sbl_ok _ _ ⟨Or.inl rfl, Or.inr rfl, trivial⟩) ?_
    exact okX9_throwsIf_b10  _ _ _ _ _ _ h
theorem okX9_throwsIf {A : k_H} {x0 x1 : Int} {r : Int} {A1 : k_H} (h : fX9_throwsIf A x0 x1 = some (r, A1)) : k_AM 1 mX9_throwsIf [(1, x0), (0, x1)] A r A1 :=
  k_AM_of2 (ls := [(1, x0), (0, x1)]) (Or.inl (by decide +kernel)) (by decide +kernel) (by decide) rfl (Nat.le_of_ble_eq_true rfl) ⟨Or.inr rfl, Or.inr rfl, trivial⟩ (okX9_throwsIf_b0 A x0 x1 r A1 h)
/-! X9_four -/
def fX9_four_h3 : Nat → k_H → Int → Int → Int → Option (Int × k_H)
  | 0, _, _, _, _ => none
  | N + 1, A, v0, v1, v2 => if 0 ≤ v2 then (if k_isO A v0 9 then (if k_isA A (k_rd A v0 1) 20 (k_rd A v0 2) then (k_lt (k_wt A (k_rd A v0 1) (k_rd A v0 2) (k_b8 (k_b8 (k_shr v1 v2)))) fun A4 => k_lt (k_wt A4 v0 2 (k_wr ((k_rd A4 v0 2) + 1))) fun A7 => (fX9_four_h3 N) A7 v0 v1 (k_wr (v2 + (-8)))) else none) else none) else (some (0, A))
def fX9_four_b0 (A : k_H) (v0 v1 : Int) : Option (Int × k_H) := fX9_four_h3 k_FU A v0 v1 24
def fX9_four (A : k_H) (x0 x1 : Int) : Option (Int × k_H) := fX9_four_b0 A x0 x1
set_option maxRecDepth 100000 in
theorem okX9_four_h3 : ∀ (N : Nat) (A : k_H) (v0 v1 v2 : Int) (r : Int) (A' : k_H), fX9_four_h3 N A v0 v1 v2 = some (r, A') → k_AW 1 mX9_four 3 [(1, v0), (0, v1), (0, v2)] [] A r A' := by
  intro N
  induction N with
  | zero => intro A v0 v1 v2 r A' h; exact absurd h (by simp [fX9_four_h3])
  | succ N ih =>
    intro A v0 v1 v2 r A' h
    rw [fX9_four_h3] at h
    refine k_iload_n (pc := 3) (x := v2) dX9_four_3 rfl rfl ?_
    refine k_if_lt (pc := 4) (tgt := 36) dX9_four_4 rfl (fun c1 => ?_) (fun c1 => ?_)
    · rw [if_neg (Int.not_le.mpr c1)] at h
      obtain ⟨rfl, rfl⟩ := k_pr h
      exact k_retv (pc := 36) dX9_four_36 rfl
    · rw [if_pos (Int.not_lt.mp c1)] at h
      refine k_aload_n (pc := 7) (x := v0) dX9_four_7 rfl rfl ?_
      obtain ⟨hc2, h⟩ := k_pk h
      refine k_getf (pc := 8) (t := 1) (fi := 1) dX9_four_8 flX9_7 rfl rfl hc2 ?_
      refine k_aload_n (pc := 11) (x := v0) dX9_four_11 rfl rfl ?_
      refine k_getf (pc := 12) (t := 0) (fi := 2) dX9_four_12 flX9_106 rfl rfl hc2 ?_
      refine k_iload_n (pc := 15) (x := v1) dX9_four_15 rfl rfl ?_
      refine k_iload_n (pc := 16) (x := v2) dX9_four_16 rfl rfl ?_
      refine k_ishr (pc := 17) dX9_four_17 ?_
      refine k_i2b (pc := 18) dX9_four_18 ?_
      obtain ⟨hc3, h⟩ := k_pk h
      refine k_bastore (pc := 19) dX9_four_19 hc3 ?_
      obtain ⟨A4, eA5, h⟩ := k_pl h
      refine k_hq eA5 ?_
      refine k_aload_n (pc := 20) (x := v0) dX9_four_20 rfl rfl ?_
      refine k_dup (pc := 21) dX9_four_21 (Nat.le_of_ble_eq_true rfl) ?_
      have hf6 := k_oW eA5 hc2
      refine k_getf (pc := 22) (t := 0) (fi := 2) dX9_four_22 flX9_106 rfl rfl hf6 ?_
      refine k_iconst (pc := 25) dX9_four_25 ⟨by decide, by decide⟩ ?_
      refine k_iadd (pc := 26) dX9_four_26 ?_
      refine k_putf (pc := 27) (t := 0) (fi := 2) dX9_four_27 flX9_106 rfl rfl hf6 rfl ?_
      obtain ⟨A7, eA8, h⟩ := k_pl h
      refine k_hq eA8 ?_
      refine k_iinc (pc := 30) (x := v2) dX9_four_30 (Nat.le_of_ble_eq_true rfl) rfl rfl ?_
      show k_AW _ _ _ [(1, v0), (0, v1), (0, k_wr (v2 + (-8)))] _ _ _ _
      refine k_goto (pc := 33) (tgt := 3) dX9_four_33 rfl ?_
      refine k_sub (ls' := [(1, v0), (0, v1), (0, k_wr (v2 + (-8)))]) (k_sbl_ok _ _ ⟨Or.inr rfl, Or.inr rfl, Or.inr rfl, trivial⟩) ?_
      exact ih _ _ _ _ _ _ h
set_option maxRecDepth 100000 in
theorem okX9_four_b0 (A : k_H) (v0 v1 : Int) (r : Int) (A' : k_H) (h : fX9_four_b0 A v0 v1 = some (r, A')) : k_AW 1 mX9_four 0 [(1, v0), (0, v1), (3, 0)] [] A r A' := by
  unfold fX9_four_b0 at h
  refine k_bipush (pc := 0) dX9_four_0 ⟨by decide, by decide⟩ (by decide +kernel) ?_
  refine k_istore_n (pc := 2) dX9_four_2 rfl (Nat.le_of_ble_eq_true rfl) rfl ?_
  show k_AW _ _ _ [(1, v0), (0, v1), (0, 24)] _ _ _ _
  refine k_sub (ls' := [(1, v0), (0, v1), (0, 24)]) (k_sbl_ok _ _ ⟨Or.inr rfl, Or.inr rfl, Or.inr rfl, trivial⟩) ?_
  exact okX9_four_h3  _ _ _ _ _ _ _ h
theorem okX9_four {A : k_H} {x0 x1 : Int} {r : Int} {A1 : k_H} (h : fX9_four A x0 x1 = some (r, A1)) : k_AM 1 mX9_four [(1, x0), (0, x1)] A r A1 :=
  k_AM_of2 (ls := [(1, x0), (0, x1), (3, 0)]) (Or.inl (by decide +kernel)) (by decide +kernel) (by decide) rfl (Nat.le_of_ble_eq_true rfl) ⟨Or.inr rfl, Or.inr rfl, rfl, trivial⟩ (okX9_four_b0 A x0 x1 r A1 h)
/-! X9_end -/
def fX9_end_b0 (A : k_H) (v0 v1 : Int) : Option (Int × k_H) := if k_isO A v0 9 then (k_lt (k_wt A v0 0 0) fun A2 => if 0 ≤ v1 then (if (k_rd A2 v0 2) < v1 then (some (0, A2)) else (k_lt (k_wt A2 v0 2 v1) fun A7 => some (1, A7))) else (some (0, A2))) else none
def fX9_end (A : k_H) (x0 x1 : Int) : Option (Int × k_H) := fX9_end_b0 A x0 x1
set_option maxRecDepth 100000 in
theorem okX9_end_b0 (A : k_H) (v0 v1 : Int) (r : Int) (A' : k_H) (h : fX9_end_b0 A v0 v1 = some (r, A')) : k_AW 1 mX9_end 0 [(1, v0), (0, v1)] [] A r A' := by
  unfold fX9_end_b0 at h
  refine k_aload_n (pc := 0) (x := v0) dX9_end_0 rfl rfl ?_
  refine k_iconst (pc := 1) dX9_end_1 ⟨by decide, by decide⟩ ?_
  obtain ⟨hc1, h⟩ := k_pk h
  refine k_putf (pc := 2) (t := 0) (fi := 0) dX9_end_2 flX9_102 rfl rfl hc1 rfl ?_
  obtain ⟨A2, eA3, h⟩ := k_pl h
  refine k_hq eA3 ?_
  refine k_iload_n (pc := 5) (x := v1) dX9_end_5 rfl rfl ?_
  refine k_if_lt (pc := 6) (tgt := 17) dX9_end_6 rfl (fun c4 => ?_) (fun c4 => ?_)
  · rw [if_neg (Int.not_le.mpr c4)] at h
    refine k_iconst (pc := 17) dX9_end_17 ⟨by decide, by decide⟩ ?_
    obtain ⟨rfl, rfl⟩ := k_pr h
    exact k_ret (pc := 18) dX9_end_18 rfl rfl (by decide +kernel)
  · rw [if_pos (Int.not_lt.mp c4)] at h
    refine k_iload_n (pc := 9) (x := v1) dX9_end_9 rfl rfl ?_
    refine k_aload_n (pc := 10) (x := v0) dX9_end_10 rfl rfl ?_
    have hf5 := k_oW eA3 hc1
    refine k_getf (pc := 11) (t := 0) (fi := 2) dX9_end_11 flX9_106 rfl rfl hf5 ?_
    refine k_icmp_le (pc := 14) (tgt := 19) dX9_end_14 rfl (fun c6 => ?_) (fun c6 => ?_)
    · rw [if_neg (Int.not_lt.mpr c6)] at h
      refine k_aload_n (pc := 19) (x := v0) dX9_end_19 rfl rfl ?_
      refine k_iload_n (pc := 20) (x := v1) dX9_end_20 rfl rfl ?_
      refine k_putf (pc := 21) (t := 0) (fi := 2) dX9_end_21 flX9_106 rfl rfl hf5 rfl ?_
      obtain ⟨A7, eA8, h⟩ := k_pl h
      refine k_hq eA8 ?_
      refine k_iconst (pc := 24) dX9_end_24 ⟨by decide, by decide⟩ ?_
      obtain ⟨rfl, rfl⟩ := k_pr h
      exact k_ret (pc := 25) dX9_end_25 rfl rfl (by decide +kernel)
    · rw [if_pos (Int.not_le.mp c6)] at h
      refine k_iconst (pc := 17) dX9_end_17 ⟨by decide, by decide⟩ ?_
      obtain ⟨rfl, rfl⟩ := k_pr h
      exact k_ret (pc := 18) dX9_end_18 rfl rfl (by decide +kernel)
theorem okX9_end {A : k_H} {x0 x1 : Int} {r : Int} {A1 : k_H} (h : fX9_end A x0 x1 = some (r, A1)) : k_AM 1 mX9_end [(1, x0), (0, x1)] A r A1 :=
  k_AM_of2 (ls := [(1, x0), (0, x1)]) (Or.inl (by decide +kernel)) (by decide +kernel) (by decide) rfl (Nat.le_of_ble_eq_true rfl) ⟨Or.inr rfl, Or.inr rfl, trivial⟩ (okX9_end_b0 A x0 x1 r A1 h)
/-! X9_taken -/
def fX9_taken_b0 (A : k_H) (v0 : Int) : Option (Int × k_H) := if k_isO A v0 9 then (k_lt (k_wt A v0 3 (k_rd A v0 2)) fun A2 => k_lt (k_wt A2 v0 2 0) fun A5 => k_lt (k_wt A5 v0 4 0) fun A8 => some (0, A8)) else none
def fX9_taken (A : k_H) (x0 : Int) : Option (Int × k_H) := fX9_taken_b0 A x0
set_option maxRecDepth 100000 in
theorem okX9_taken_b0 (A : k_H) (v0 : Int) (r : Int) (A' : k_H) (h : fX9_taken_b0 A v0 = some (r, A')) : k_AW 1 mX9_taken 0 [(1, v0)] [] A r A' := by
  unfold fX9_taken_b0 at h
  refine k_aload_n (pc := 0) (x := v0) dX9_taken_0 rfl rfl ?_
  refine k_aload_n (pc := 1) (x := v0) dX9_taken_1 rfl rfl ?_
  obtain ⟨hc1, h⟩ := k_pk h
  refine k_getf (pc := 2) (t := 0) (fi := 2) dX9_taken_2 flX9_106 rfl rfl hc1 ?_
  refine k_putf (pc := 5) (t := 0) (fi := 3) dX9_taken_5 flX9_113 rfl rfl hc1 rfl ?_
  obtain ⟨A2, eA3, h⟩ := k_pl h
  refine k_hq eA3 ?_
  refine k_aload_n (pc := 8) (x := v0) dX9_taken_8 rfl rfl ?_
  refine k_iconst (pc := 9) dX9_taken_9 ⟨by decide, by decide⟩ ?_
  have hf4 := k_oW eA3 hc1
  refine k_putf (pc := 10) (t := 0) (fi := 2) dX9_taken_10 flX9_106 rfl rfl hf4 rfl ?_
  obtain ⟨A5, eA6, h⟩ := k_pl h
  refine k_hq eA6 ?_
  refine k_aload_n (pc := 13) (x := v0) dX9_taken_13 rfl rfl ?_
  refine k_iconst (pc := 14) dX9_taken_14 ⟨by decide, by decide⟩ ?_
  have hf7 := k_oW eA6 hf4
  refine k_putf (pc := 15) (t := 0) (fi := 4) dX9_taken_15 flX9_116 rfl rfl hf7 rfl ?_
  obtain ⟨A8, eA9, h⟩ := k_pl h
  refine k_hq eA9 ?_
  obtain ⟨rfl, rfl⟩ := k_pr h
  exact k_retv (pc := 18) dX9_taken_18 rfl
theorem okX9_taken {A : k_H} {x0 : Int} {r : Int} {A1 : k_H} (h : fX9_taken A x0 = some (r, A1)) : k_AM 1 mX9_taken [(1, x0)] A r A1 :=
  k_AM_of2 (ls := [(1, x0)]) (Or.inl (by decide +kernel)) (by decide +kernel) (by decide) rfl (Nat.le_of_ble_eq_true rfl) ⟨Or.inr rfl, trivial⟩ (okX9_taken_b0 A x0 r A1 h)
/-! X9_isIn -/
def fX9_isIn_b0 (A : k_H) (v0 v1 v2 : Int) : Option (Int × k_H) := if v1 ≤ v0 then (if v0 ≤ v2 then (some (1, A)) else (some (0, A))) else (some (0, A))
def fX9_isIn (A : k_H) (x0 x1 x2 : Int) : Option (Int × k_H) := fX9_isIn_b0 A x0 x1 x2
set_option maxRecDepth 100000 in
theorem okX9_isIn_b0 (A : k_H) (v0 v1 v2 : Int) (r : Int) (A' : k_H) (h : fX9_isIn_b0 A v0 v1 v2 = some (r, A')) : k_AW 1 mX9_isIn 0 [(0, v0), (0, v1), (0, v2)] [] A r A' := by
  unfold fX9_isIn_b0 at h
  refine k_iload_n (pc := 0) (x := v0) dX9_isIn_0 rfl rfl ?_
  refine k_iload_n (pc := 1) (x := v1) dX9_isIn_1 rfl rfl ?_
  refine k_icmp_lt (pc := 2) (tgt := 14) dX9_isIn_2 rfl (fun c1 => ?_) (fun c1 => ?_)
  · rw [if_neg (Int.not_le.mpr c1)] at h
    refine k_iconst (pc := 14) dX9_isIn_14 ⟨by decide, by decide⟩ ?_
    obtain ⟨rfl, rfl⟩ := k_pr h
    exact k_ret (pc := 15) dX9_isIn_15 rfl rfl (by decide +kernel)
  · rw [if_pos (Int.not_lt.mp c1)] at h
    refine k_iload_n (pc := 5) (x := v0) dX9_isIn_5 rfl rfl ?_
    refine k_iload_n (pc := 6) (x := v2) dX9_isIn_6 rfl rfl ?_
    refine k_icmp_gt (pc := 7) (tgt := 14) dX9_isIn_7 rfl (fun c2 => ?_) (fun c2 => ?_)
    · rw [if_neg (Int.not_le.mpr c2)] at h
      refine k_iconst (pc := 14) dX9_isIn_14 ⟨by decide, by decide⟩ ?_
      obtain ⟨rfl, rfl⟩ := k_pr h
      exact k_ret (pc := 15) dX9_isIn_15 rfl rfl (by decide +kernel)
    · rw [if_pos (Int.not_lt.mp c2)] at h
      refine k_iconst (pc := 10) dX9_isIn_10 ⟨by decide, by decide⟩ ?_
      refine k_goto (pc := 11) (tgt := 15) dX9_isIn_11 rfl ?_
      obtain ⟨rfl, rfl⟩ := k_pr h
      exact k_ret (pc := 15) dX9_isIn_15 rfl rfl (by decide +kernel)
theorem okX9_isIn {A : k_H} {x0 x1 x2 : Int} {r : Int} {A1 : k_H} (h : fX9_isIn A x0 x1 x2 = some (r, A1)) : k_AM 1 mX9_isIn [(0, x0), (0, x1), (0, x2)] A r A1 :=
  k_AM_of2 (ls := [(0, x0), (0, x1), (0, x2)]) (Or.inl (by decide +kernel)) (by decide +kernel) (by decide) rfl (Nat.le_of_ble_eq_true rfl) ⟨Or.inr rfl, Or.inr rfl, Or.inr rfl, trivial⟩ (okX9_isIn_b0 A x0 x1 x2 r A1 h)
/-! X9_isHall -/
def fX9_isHall_b0 (A : k_H) (v0 v1 : Int) : Option (Int × k_H) := if 0 ≤ v1 then (if k_isO A v0 9 then (if v1 < (k_rd A v0 20) then (some (1, A)) else (some (0, A))) else none) else (some (0, A))
def fX9_isHall (A : k_H) (x0 x1 : Int) : Option (Int × k_H) := fX9_isHall_b0 A x0 x1
set_option maxRecDepth 100000 in
theorem okX9_isHall_b0 (A : k_H) (v0 v1 : Int) (r : Int) (A' : k_H) (h : fX9_isHall_b0 A v0 v1 = some (r, A')) : k_AW 1 mX9_isHall 0 [(1, v0), (0, v1)] [] A r A' := by
  unfold fX9_isHall_b0 at h
  refine k_iload_n (pc := 0) (x := v1) dX9_isHall_0 rfl rfl ?_
  refine k_if_lt (pc := 1) (tgt := 16) dX9_isHall_1 rfl (fun c1 => ?_) (fun c1 => ?_)
  · rw [if_neg (Int.not_le.mpr c1)] at h
    refine k_iconst (pc := 16) dX9_isHall_16 ⟨by decide, by decide⟩ ?_
    obtain ⟨rfl, rfl⟩ := k_pr h
    exact k_ret (pc := 17) dX9_isHall_17 rfl rfl (by decide +kernel)
  · rw [if_pos (Int.not_lt.mp c1)] at h
    refine k_iload_n (pc := 4) (x := v1) dX9_isHall_4 rfl rfl ?_
    refine k_aload_n (pc := 5) (x := v0) dX9_isHall_5 rfl rfl ?_
    obtain ⟨hc2, h⟩ := k_pk h
    refine k_getf (pc := 6) (t := 0) (fi := 20) dX9_isHall_6 flX9_119 rfl rfl hc2 ?_
    refine k_icmp_ge (pc := 9) (tgt := 16) dX9_isHall_9 rfl (fun c3 => ?_) (fun c3 => ?_)
    · rw [if_neg (Int.not_lt.mpr c3)] at h
      refine k_iconst (pc := 16) dX9_isHall_16 ⟨by decide, by decide⟩ ?_
      obtain ⟨rfl, rfl⟩ := k_pr h
      exact k_ret (pc := 17) dX9_isHall_17 rfl rfl (by decide +kernel)
    · rw [if_pos (Int.not_le.mp c3)] at h
      refine k_iconst (pc := 12) dX9_isHall_12 ⟨by decide, by decide⟩ ?_
      refine k_goto (pc := 13) (tgt := 17) dX9_isHall_13 rfl ?_
      obtain ⟨rfl, rfl⟩ := k_pr h
      exact k_ret (pc := 17) dX9_isHall_17 rfl rfl (by decide +kernel)
theorem okX9_isHall {A : k_H} {x0 x1 : Int} {r : Int} {A1 : k_H} (h : fX9_isHall A x0 x1 = some (r, A1)) : k_AM 1 mX9_isHall [(1, x0), (0, x1)] A r A1 :=
  k_AM_of2 (ls := [(1, x0), (0, x1)]) (Or.inl (by decide +kernel)) (by decide +kernel) (by decide) rfl (Nat.le_of_ble_eq_true rfl) ⟨Or.inr rfl, Or.inr rfl, trivial⟩ (okX9_isHall_b0 A x0 x1 r A1 h)
/-! X9_isShow -/
def fX9_isShow_b0 (A : k_H) (v0 v1 : Int) : Option (Int × k_H) := if 0 ≤ v1 then (if k_isO A v0 9 then (if v1 < (k_rd A v0 21) then (some (1, A)) else (some (0, A))) else none) else (some (0, A))
def fX9_isShow (A : k_H) (x0 x1 : Int) : Option (Int × k_H) := fX9_isShow_b0 A x0 x1
set_option maxRecDepth 100000 in
theorem okX9_isShow_b0 (A : k_H) (v0 v1 : Int) (r : Int) (A' : k_H) (h : fX9_isShow_b0 A v0 v1 = some (r, A')) : k_AW 1 mX9_isShow 0 [(1, v0), (0, v1)] [] A r A' := by
  unfold fX9_isShow_b0 at h
  refine k_iload_n (pc := 0) (x := v1) dX9_isShow_0 rfl rfl ?_
  refine k_if_lt (pc := 1) (tgt := 16) dX9_isShow_1 rfl (fun c1 => ?_) (fun c1 => ?_)
  · rw [if_neg (Int.not_le.mpr c1)] at h
    refine k_iconst (pc := 16) dX9_isShow_16 ⟨by decide, by decide⟩ ?_
    obtain ⟨rfl, rfl⟩ := k_pr h
    exact k_ret (pc := 17) dX9_isShow_17 rfl rfl (by decide +kernel)
  · rw [if_pos (Int.not_lt.mp c1)] at h
    refine k_iload_n (pc := 4) (x := v1) dX9_isShow_4 rfl rfl ?_
    refine k_aload_n (pc := 5) (x := v0) dX9_isShow_5 rfl rfl ?_
    obtain ⟨hc2, h⟩ := k_pk h
    refine k_getf (pc := 6) (t := 0) (fi := 21) dX9_isShow_6 flX9_122 rfl rfl hc2 ?_
    refine k_icmp_ge (pc := 9) (tgt := 16) dX9_isShow_9 rfl (fun c3 => ?_) (fun c3 => ?_)
    · rw [if_neg (Int.not_lt.mpr c3)] at h
      refine k_iconst (pc := 16) dX9_isShow_16 ⟨by decide, by decide⟩ ?_
      obtain ⟨rfl, rfl⟩ := k_pr h
      exact k_ret (pc := 17) dX9_isShow_17 rfl rfl (by decide +kernel)
    · rw [if_pos (Int.not_le.mp c3)] at h
      refine k_iconst (pc := 12) dX9_isShow_12 ⟨by decide, by decide⟩ ?_
      refine k_goto (pc := 13) (tgt := 17) dX9_isShow_13 rfl ?_
      obtain ⟨rfl, rfl⟩ := k_pr h
      exact k_ret (pc := 17) dX9_isShow_17 rfl rfl (by decide +kernel)
theorem okX9_isShow {A : k_H} {x0 x1 : Int} {r : Int} {A1 : k_H} (h : fX9_isShow A x0 x1 = some (r, A1)) : k_AM 1 mX9_isShow [(1, x0), (0, x1)] A r A1 :=
  k_AM_of2 (ls := [(1, x0), (0, x1)]) (Or.inl (by decide +kernel)) (by decide +kernel) (by decide) rfl (Nat.le_of_ble_eq_true rfl) ⟨Or.inr rfl, Or.inr rfl, trivial⟩ (okX9_isShow_b0 A x0 x1 r A1 h)
/-! X9_areAmps -/
def fX9_areAmps_h20 : Nat → k_H → Int → Int → Option (Int × k_H)
  | 0, _, _, _ => none
  | N + 1, A, v0, v3 => if k_isO A v0 9 then (if v3 < (k_rd A v0 3) then (if k_isA A (k_rd A v0 1) 20 v3 then (if (k_rd A (k_rd A v0 1) v3) = 0 then (some (0, A)) else ((fX9_areAmps_h20 N) A v0 (k_wr (v3 + 1)))) else none) else (some (1, A))) else none
def fX9_areAmps_b0 (A : k_H) (v0 v1 v2 : Int) : Option (Int × k_H) := if k_isO A v0 9 then (if v1 ≤ (k_rd A v0 3) then (if v2 < (k_rd A v0 3) then (some (0, A)) else (fX9_areAmps_h20 k_FU A v0 0)) else (some (0, A))) else none
def fX9_areAmps (A : k_H) (x0 x1 x2 : Int) : Option (Int × k_H) := fX9_areAmps_b0 A x0 x1 x2
set_option maxRecDepth 100000 in
theorem okX9_areAmps_h20 : ∀ (N : Nat) (A : k_H) (v0 v3 : Int) (r : Int) (A' : k_H), fX9_areAmps_h20 N A v0 v3 = some (r, A') → k_AW 1 mX9_areAmps 20 [(1, v0), (3, 0), (3, 0), (0, v3)] [] A r A' := by
  intro N
  induction N with
  | zero => intro A v0 v3 r A' h; exact absurd h (by simp [fX9_areAmps_h20])
  | succ N ih =>
    intro A v0 v3 r A' h
    rw [fX9_areAmps_h20] at h
    refine k_iload_n (pc := 20) (x := v3) dX9_areAmps_20 rfl rfl ?_
    refine k_aload_n (pc := 21) (x := v0) dX9_areAmps_21 rfl rfl ?_
    obtain ⟨hc1, h⟩ := k_pk h
    refine k_getf (pc := 22) (t := 0) (fi := 3) dX9_areAmps_22 flX9_113 rfl rfl hc1 ?_
    refine k_icmp_ge (pc := 25) (tgt := 45) dX9_areAmps_25 rfl (fun c2 => ?_) (fun c2 => ?_)
    · rw [if_neg (Int.not_lt.mpr c2)] at h
      refine k_iconst (pc := 45) dX9_areAmps_45 ⟨by decide, by decide⟩ ?_
      obtain ⟨rfl, rfl⟩ := k_pr h
      exact k_ret (pc := 46) dX9_areAmps_46 rfl rfl (by decide +kernel)
    · rw [if_pos (Int.not_le.mp c2)] at h
      refine k_aload_n (pc := 28) (x := v0) dX9_areAmps_28 rfl rfl ?_
      refine k_getf (pc := 29) (t := 1) (fi := 1) dX9_areAmps_29 flX9_7 rfl rfl hc1 ?_
      refine k_iload_n (pc := 32) (x := v3) dX9_areAmps_32 rfl rfl ?_
      obtain ⟨hc3, h⟩ := k_pk h
      refine k_baload (pc := 33) dX9_areAmps_33 hc3 ?_
      refine k_if_ne (pc := 34) (tgt := 39) dX9_areAmps_34 rfl (fun c4 => ?_) (fun c4 => ?_)
      · rw [if_neg c4] at h
        refine k_iinc (pc := 39) (x := v3) dX9_areAmps_39 (Nat.le_of_ble_eq_true rfl) rfl rfl ?_
        show k_AW _ _ _ [(1, v0), (3, 0), (3, 0), (0, k_wr (v3 + 1))] _ _ _ _
        refine k_goto (pc := 42) (tgt := 20) dX9_areAmps_42 rfl ?_
        refine k_sub (ls' := [(1, v0), (3, 0), (3, 0), (0, k_wr (v3 + 1))]) (k_sbl_ok _ _ ⟨Or.inr rfl, Or.inl rfl, Or.inl rfl, Or.inr rfl, trivial⟩) ?_
        exact ih _ _ _ _ _ h
      · rw [if_pos (Classical.not_not.mp c4)] at h
        refine k_iconst (pc := 37) dX9_areAmps_37 ⟨by decide, by decide⟩ ?_
        obtain ⟨rfl, rfl⟩ := k_pr h
        exact k_ret (pc := 38) dX9_areAmps_38 rfl rfl (by decide +kernel)
set_option maxRecDepth 100000 in
theorem okX9_areAmps_b0 (A : k_H) (v0 v1 v2 : Int) (r : Int) (A' : k_H) (h : fX9_areAmps_b0 A v0 v1 v2 = some (r, A')) : k_AW 1 mX9_areAmps 0 [(1, v0), (0, v1), (0, v2), (3, 0)] [] A r A' := by
  unfold fX9_areAmps_b0 at h
  refine k_aload_n (pc := 0) (x := v0) dX9_areAmps_0 rfl rfl ?_
  obtain ⟨hc1, h⟩ := k_pk h
  refine k_getf (pc := 1) (t := 0) (fi := 3) dX9_areAmps_1 flX9_113 rfl rfl hc1 ?_
  refine k_iload_n (pc := 4) (x := v1) dX9_areAmps_4 rfl rfl ?_
  refine k_icmp_lt (pc := 5) (tgt := 16) dX9_areAmps_5 rfl (fun c2 => ?_) (fun c2 => ?_)
  · rw [if_neg (Int.not_le.mpr c2)] at h
    refine k_iconst (pc := 16) dX9_areAmps_16 ⟨by decide, by decide⟩ ?_
    obtain ⟨rfl, rfl⟩ := k_pr h
    exact k_ret (pc := 17) dX9_areAmps_17 rfl rfl (by decide +kernel)
  · rw [if_pos (Int.not_lt.mp c2)] at h
    refine k_aload_n (pc := 8) (x := v0) dX9_areAmps_8 rfl rfl ?_
    refine k_getf (pc := 9) (t := 0) (fi := 3) dX9_areAmps_9 flX9_113 rfl rfl hc1 ?_
    refine k_iload_n (pc := 12) (x := v2) dX9_areAmps_12 rfl rfl ?_
    refine k_icmp_le (pc := 13) (tgt := 18) dX9_areAmps_13 rfl (fun c3 => ?_) (fun c3 => ?_)
    · rw [if_neg (Int.not_lt.mpr c3)] at h
      refine k_iconst (pc := 18) dX9_areAmps_18 ⟨by decide, by decide⟩ ?_
      refine k_istore_n (pc := 19) dX9_areAmps_19 rfl (Nat.le_of_ble_eq_true rfl) rfl ?_
      show k_AW _ _ _ [(1, v0), (0, v1), (0, v2), (0, 0)] _ _ _ _
      refine k_sub (ls' := [(1, v0), (3, 0), (3, 0), (0, 0)]) (k_sbl_ok _ _ ⟨Or.inr rfl, Or.inl rfl, Or.inl rfl, Or.inr rfl, trivial⟩) ?_
      exact okX9_areAmps_h20  _ _ _ _ _ _ h
    · rw [if_pos (Int.not_le.mp c3)] at h
      refine k_iconst (pc := 16) dX9_areAmps_16 ⟨by decide, by decide⟩ ?_
      obtain ⟨rfl, rfl⟩ := k_pr h
      exact k_ret (pc := 17) dX9_areAmps_17 rfl rfl (by decide +kernel)
theorem okX9_areAmps {A : k_H} {x0 x1 x2 : Int} {r : Int} {A1 : k_H} (h : fX9_areAmps A x0 x1 x2 = some (r, A1)) : k_AM 1 mX9_areAmps [(1, x0), (0, x1), (0, x2)] A r A1 :=
  k_AM_of2 (ls := [(1, x0), (0, x1), (0, x2), (3, 0)]) (Or.inl (by decide +kernel)) (by decide +kernel) (by decide) rfl (Nat.le_of_ble_eq_true rfl) ⟨Or.inr rfl, Or.inr rfl, Or.inr rfl, rfl, trivial⟩ (okX9_areAmps_b0 A x0 x1 x2 r A1 h)
/-! X9_wire -/
def fX9_wire_h27 : Nat → k_H → Int → Int → Int → Option (Int × k_H)
  | 0, _, _, _, _ => none
  | N + 1, A, v0, v1, v4 => if k_isO A v0 9 then (if v4 < (k_rd A v0 3) then (if k_isA A (k_rd A v0 1) 20 v4 then (if k_isA A (k_rd A v0 10) 21 (k_wr (k_wr (4 * v1) + v4)) then (k_lt (k_wt A (k_rd A v0 10) (k_wr (k_wr (4 * v1) + v4)) (k_and (k_rd A (k_rd A v0 1) v4) 255)) fun A5 => (fX9_wire_h27 N) A5 v0 v1 (k_wr (v4 + 1))) else none) else none) else (some (0, A))) else none
def fX9_wire_b0 (A : k_H) (v0 v1 v2 v3 : Int) : Option (Int × k_H) := if k_isO A v0 9 then (if k_isA A (k_rd A v0 7) 21 v1 then (k_lt (k_wt A (k_rd A v0 7) v1 v2) fun A3 => if k_isA A3 (k_rd A3 v0 8) 21 v1 then (k_lt (k_wt A3 (k_rd A3 v0 8) v1 v3) fun A7 => if k_isA A7 (k_rd A7 v0 9) 21 v1 then (k_lt (k_wt A7 (k_rd A7 v0 9) v1 (k_rd A7 v0 3)) fun A11 => fX9_wire_h27 k_FU A11 v0 v1 0) else none) else none) else none) else none
def fX9_wire (A : k_H) (x0 x1 x2 x3 : Int) : Option (Int × k_H) := fX9_wire_b0 A x0 x1 x2 x3
set_option maxRecDepth 100000 in
theorem okX9_wire_h27 : ∀ (N : Nat) (A : k_H) (v0 v1 v4 : Int) (r : Int) (A' : k_H), fX9_wire_h27 N A v0 v1 v4 = some (r, A') → k_AW 1 mX9_wire 27 [(1, v0), (0, v1), (3, 0), (3, 0), (0, v4)] [] A r A' := by
  intro N
  induction N with
  | zero => intro A v0 v1 v4 r A' h; exact absurd h (by simp [fX9_wire_h27])
  | succ N ih =>
    intro A v0 v1 v4 r A' h
    rw [fX9_wire_h27] at h
    refine k_iload (pc := 27) (x := v4) dX9_wire_27 rfl ?_
    refine k_aload_n (pc := 29) (x := v0) dX9_wire_29 rfl rfl ?_
    obtain ⟨hc1, h⟩ := k_pk h
    refine k_getf (pc := 30) (t := 0) (fi := 3) dX9_wire_30 flX9_113 rfl rfl hc1 ?_
    refine k_icmp_ge (pc := 33) (tgt := 64) dX9_wire_33 rfl (fun c2 => ?_) (fun c2 => ?_)
    · rw [if_neg (Int.not_lt.mpr c2)] at h
      obtain ⟨rfl, rfl⟩ := k_pr h
      exact k_retv (pc := 64) dX9_wire_64 rfl
    · rw [if_pos (Int.not_le.mp c2)] at h
      refine k_aload_n (pc := 36) (x := v0) dX9_wire_36 rfl rfl ?_
      refine k_getf (pc := 37) (t := 1) (fi := 10) dX9_wire_37 flX9_29 rfl rfl hc1 ?_
      refine k_iconst (pc := 40) dX9_wire_40 ⟨by decide, by decide⟩ ?_
      refine k_iload_n (pc := 41) (x := v1) dX9_wire_41 rfl rfl ?_
      refine k_imul (pc := 42) dX9_wire_42 ?_
      refine k_iload (pc := 43) (x := v4) dX9_wire_43 rfl ?_
      refine k_iadd (pc := 45) dX9_wire_45 ?_
      refine k_aload_n (pc := 46) (x := v0) dX9_wire_46 rfl rfl ?_
      refine k_getf (pc := 47) (t := 1) (fi := 1) dX9_wire_47 flX9_7 rfl rfl hc1 ?_
      refine k_iload (pc := 50) (x := v4) dX9_wire_50 rfl ?_
      obtain ⟨hc3, h⟩ := k_pk h
      refine k_baload (pc := 52) dX9_wire_52 hc3 ?_
      refine k_sipush (pc := 53) dX9_wire_53 ⟨by decide, by decide⟩ (by decide +kernel) ?_
      refine k_iand (pc := 56) dX9_wire_56 ?_
      obtain ⟨hc4, h⟩ := k_pk h
      refine k_iastore (pc := 57) dX9_wire_57 hc4 ?_
      obtain ⟨A5, eA6, h⟩ := k_pl h
      refine k_hq eA6 ?_
      refine k_iinc (pc := 58) (x := v4) dX9_wire_58 (Nat.le_of_ble_eq_true rfl) rfl rfl ?_
      show k_AW _ _ _ [(1, v0), (0, v1), (3, 0), (3, 0), (0, k_wr (v4 + 1))] _ _ _ _
      refine k_goto (pc := 61) (tgt := 27) dX9_wire_61 rfl ?_
      refine k_sub (ls' := [(1, v0), (0, v1), (3, 0), (3, 0), (0, k_wr (v4 + 1))]) (k_sbl_ok _ _ ⟨Or.inr rfl, Or.inr rfl, Or.inl rfl, Or.inl rfl, Or.inr rfl, trivial⟩) ?_
      exact ih _ _ _ _ _ _ h
set_option maxRecDepth 100000 in
theorem okX9_wire_b0 (A : k_H) (v0 v1 v2 v3 : Int) (r : Int) (A' : k_H) (h : fX9_wire_b0 A v0 v1 v2 v3 = some (r, A')) : k_AW 1 mX9_wire 0 [(1, v0), (0, v1), (0, v2), (0, v3), (3, 0)] [] A r A' := by
  unfold fX9_wire_b0 at h
  refine k_aload_n (pc := 0) (x := v0) dX9_wire_0 rfl rfl ?_
  obtain ⟨hc1, h⟩ := k_pk h
  refine k_getf (pc := 1) (t := 1) (fi := 7) dX9_wire_1 flX9_20 rfl rfl hc1 ?_
  refine k_iload_n (pc := 4) (x := v1) dX9_wire_4 rfl rfl ?_
  refine k_iload_n (pc := 5) (x := v2) dX9_wire_5 rfl rfl ?_
  obtain ⟨hc2, h⟩ := k_pk h
  refine k_iastore (pc := 6) dX9_wire_6 hc2 ?_
  obtain ⟨A3, eA4, h⟩ := k_pl h
  refine k_hq eA4 ?_
  refine k_aload_n (pc := 7) (x := v0) dX9_wire_7 rfl rfl ?_
  have hf5 := k_oW eA4 hc1
  refine k_getf (pc := 8) (t := 1) (fi := 8) dX9_wire_8 flX9_23 rfl rfl hf5 ?_
  refine k_iload_n (pc := 11) (x := v1) dX9_wire_11 rfl rfl ?_
  refine k_iload_n (pc := 12) (x := v3) dX9_wire_12 rfl rfl ?_
  obtain ⟨hc6, h⟩ := k_pk h
  refine k_iastore (pc := 13) dX9_wire_13 hc6 ?_
  obtain ⟨A7, eA8, h⟩ := k_pl h
  refine k_hq eA8 ?_
  refine k_aload_n (pc := 14) (x := v0) dX9_wire_14 rfl rfl ?_
  have hf9 := k_oW eA8 hf5
  refine k_getf (pc := 15) (t := 1) (fi := 9) dX9_wire_15 flX9_26 rfl rfl hf9 ?_
  refine k_iload_n (pc := 18) (x := v1) dX9_wire_18 rfl rfl ?_
  refine k_aload_n (pc := 19) (x := v0) dX9_wire_19 rfl rfl ?_
  refine k_getf (pc := 20) (t := 0) (fi := 3) dX9_wire_20 flX9_113 rfl rfl hf9 ?_
  obtain ⟨hc10, h⟩ := k_pk h
  refine k_iastore (pc := 23) dX9_wire_23 hc10 ?_
  obtain ⟨A11, eA12, h⟩ := k_pl h
  refine k_hq eA12 ?_
  refine k_iconst (pc := 24) dX9_wire_24 ⟨by decide, by decide⟩ ?_
  refine k_istore (pc := 25) dX9_wire_25 (Nat.le_of_ble_eq_true rfl) rfl ?_
  show k_AW _ _ _ [(1, v0), (0, v1), (0, v2), (0, v3), (0, 0)] _ _ _ _
  refine k_sub (ls' := [(1, v0), (0, v1), (3, 0), (3, 0), (0, 0)]) (k_sbl_ok _ _ ⟨Or.inr rfl, Or.inr rfl, Or.inl rfl, Or.inl rfl, Or.inr rfl, trivial⟩) ?_
  exact okX9_wire_h27  _ _ _ _ _ _ _ h
theorem okX9_wire {A : k_H} {x0 x1 x2 x3 : Int} {r : Int} {A1 : k_H} (h : fX9_wire A x0 x1 x2 x3 = some (r, A1)) : k_AM 1 mX9_wire [(1, x0), (0, x1), (0, x2), (0, x3)] A r A1 :=
  k_AM_of2 (ls := [(1, x0), (0, x1), (0, x2), (0, x3), (3, 0)]) (Or.inl (by decide +kernel)) (by decide +kernel) (by decide) rfl (Nat.le_of_ble_eq_true rfl) ⟨Or.inr rfl, Or.inr rfl, Or.inr rfl, Or.inr rfl, rfl, trivial⟩ (okX9_wire_b0 A x0 x1 x2 x3 r A1 h)
/-! X9_plug -/
def fX9_plug_b164 (k46 : k_H → Int → Int → Int → Int → Option (Int × k_H)) (A : k_H) (v0 v1 v2 v3 v4 : Int) : Option (Int × k_H) := if k_isO A v0 9 then (if k_isA A (k_rd A v0 22) 21 v3 then (if k_isA A (k_rd A v0 9) 21 v2 then (if (k_rd A (k_rd A v0 22) v3) < (k_rd A (k_rd A v0 9) v2) then (if k_isA A (k_rd A v0 23) 21 (k_rd A (k_rd A v0 22) v3) then (k_lt (k_wt A (k_rd A v0 23) (k_rd A (k_rd A v0 22) v3) (k_wr ((k_rd A (k_rd A v0 23) (k_rd A (k_rd A v0 22) v3)) + v4))) fun A9 => k46 A9 v0 v1 v2 (k_wr (v3 + 1))) else none) else (k_lt (k_wt A (k_rd A v0 22) v3 (-1)) fun A5 => if k_wr (v3 + (-1)) < 0 then (some (0, A5)) else (k46 A5 v0 v1 v2 (k_wr (v3 + (-1)))))) else none) else none) else none
def fX9_plug_h104 (k46 : k_H → Int → Int → Int → Int → Option (Int × k_H)) : Nat → k_H → Int → Int → Int → Int → Int → Option (Int × k_H)
  | 0, _, _, _, _, _, _ => none
  | N + 1, A, v0, v1, v2, v3, v4 => if k_isO A v0 9 then (if k_isA A (k_rd A v0 22) 21 v3 then (if k_isA A (k_rd A v0 9) 21 v2 then (if (k_rd A (k_rd A v0 22) v3) < (k_rd A (k_rd A v0 9) v2) then (if k_isA A (k_rd A v0 23) 21 (k_rd A (k_rd A v0 22) v3) then (if k_isA A (k_rd A v0 10) 21 (k_wr (k_wr (4 * v2) + (k_rd A (k_rd A v0 22) v3))) then (if (k_rd A (k_rd A v0 10) (k_wr (k_wr (4 * v2) + (k_rd A (k_rd A v0 22) v3)))) < k_wr ((k_rd A (k_rd A v0 23) (k_rd A (k_rd A v0 22) v3)) + v4) then (k_lt (k_wt A (k_rd A v0 22) v3 (k_wr ((k_rd A (k_rd A v0 22) v3) + 1))) fun A8 => (fX9_plug_h104 k46 N) A8 v0 v1 v2 v3 v4) else (fX9_plug_b164 k46 A v0 v1 v2 v3 v4)) else none) else none) else (fX9_plug_b164 k46 A v0 v1 v2 v3 v4)) else none) else none) else none
def fX9_plug_b94 (k46 : k_H → Int → Int → Int → Int → Option (Int × k_H)) (A : k_H) (v0 v1 v2 v3 v4 : Int) : Option (Int × k_H) := if k_isO A v0 9 then (if k_isA A (k_rd A v0 22) 21 v3 then (k_lt (k_wt A (k_rd A v0 22) v3 (k_wr ((k_rd A (k_rd A v0 22) v3) + 1))) fun A3 => fX9_plug_h104 k46 k_FU A3 v0 v1 v2 v3 v4) else none) else none
def fX9_plug_h46 : Nat → k_H → Int → Int → Int → Int → Option (Int × k_H)
  | 0, _, _, _, _, _ => none
  | N + 1, A, v0, v1, v2, v3 => if k_isO A v0 9 then (if k_isA A (k_rd A v0 13) 21 v1 then (if v3 < (k_rd A (k_rd A v0 13) v1) then (if k_isA A (k_rd A v0 14) 21 (k_wr (k_wr (8 * v1) + v3)) then (if k_isA A (k_rd A v0 22) 21 v3 then (if 0 ≤ (k_rd A (k_rd A v0 22) v3) then (if k_isA A (k_rd A v0 23) 21 (k_rd A (k_rd A v0 22) v3) then (k_lt (k_wt A (k_rd A v0 23) (k_rd A (k_rd A v0 22) v3) (k_wr ((k_rd A (k_rd A v0 23) (k_rd A (k_rd A v0 22) v3)) - (k_rd A (k_rd A v0 14) (k_wr (k_wr (8 * v1) + v3)))))) fun A8 => fX9_plug_b94 (fX9_plug_h46 N) A8 v0 v1 v2 v3 (k_rd A (k_rd A v0 14) (k_wr (k_wr (8 * v1) + v3)))) else none) else (fX9_plug_b94 (fX9_plug_h46 N) A v0 v1 v2 v3 (k_rd A (k_rd A v0 14) (k_wr (k_wr (8 * v1) + v3))))) else none) else none) else (some (1, A))) else none) else none
def fX9_plug_h25 : Nat → k_H → Int → Int → Int → Int → Int → Option (Int × k_H)
  | 0, _, _, _, _, _, _ => none
  | N + 1, A, v0, v1, v2, v3, v4 => if v4 < 8 then (if k_isO A v0 9 then (if k_isA A (k_rd A v0 22) 21 v4 then (k_lt (k_wt A (k_rd A v0 22) v4 (-1)) fun A4 => (fX9_plug_h25 N) A4 v0 v1 v2 v3 (k_wr (v4 + 1))) else none) else none) else (fX9_plug_h46 k_FU A v0 v1 v2 v3)
def fX9_plug_h2 : Nat → k_H → Int → Int → Int → Int → Option (Int × k_H)
  | 0, _, _, _, _, _ => none
  | N + 1, A, v0, v1, v2, v3 => if v3 < 4 then (if k_isO A v0 9 then (if k_isA A (k_rd A v0 23) 21 v3 then (k_lt (k_wt A (k_rd A v0 23) v3 0) fun A4 => (fX9_plug_h2 N) A4 v0 v1 v2 (k_wr (v3 + 1))) else none) else none) else (fX9_plug_h25 k_FU A v0 v1 v2 0 0)
def fX9_plug_b0 (A : k_H) (v0 v1 v2 : Int) : Option (Int × k_H) := fX9_plug_h2 k_FU A v0 v1 v2 0
def fX9_plug (A : k_H) (x0 x1 x2 : Int) : Option (Int × k_H) := fX9_plug_b0 A x0 x1 x2
set_option maxRecDepth 100000 in
theorem okX9_plug_b164 (k46 : k_H → Int → Int → Int → Int → Option (Int × k_H)) (hk46 : ∀ (A : k_H) (v0 v1 v2 v3 : Int) (r : Int) (A' : k_H), k46 A v0 v1 v2 v3 = some (r, A') → k_AW 1 mX9_plug 46 [(1, v0), (0, v1), (0, v2), (0, v3), (3, 0)] [] A r A') (A : k_H) (v0 v1 v2 v3 v4 : Int) (r : Int) (A' : k_H) (h : fX9_plug_b164 k46 A v0 v1 v2 v3 v4 = some (r, A')) : k_AW 1 mX9_plug 164 [(1, v0), (0, v1), (0, v2), (0, v3), (0, v4)] [] A r A' := by
  unfold fX9_plug_b164 at h
  refine k_aload_n (pc := 164) (x := v0) dX9_plug_164 rfl rfl ?_
  obtain ⟨hc1, h⟩ := k_pk h
  refine k_getf (pc := 165) (t := 1) (fi := 22) dX9_plug_165 flX9_59 rfl rfl hc1 ?_
  refine k_iload_n (pc := 168) (x := v3) dX9_plug_168 rfl rfl ?_
  obtain ⟨hc2, h⟩ := k_pk h
  refine k_iaload (pc := 169) dX9_plug_169 hc2 ?_
  refine k_aload_n (pc := 170) (x := v0) dX9_plug_170 rfl rfl ?_
  refine k_getf (pc := 171) (t := 1) (fi := 9) dX9_plug_171 flX9_26 rfl rfl hc1 ?_
  refine k_iload_n (pc := 174) (x := v2) dX9_plug_174 rfl rfl ?_
  obtain ⟨hc3, h⟩ := k_pk h
  refine k_iaload (pc := 175) dX9_plug_175 hc3 ?_
  refine k_icmp_ge (pc := 176) (tgt := 201) dX9_plug_176 rfl (fun c4 => ?_) (fun c4 => ?_)
  · rw [if_neg (Int.not_lt.mpr c4)] at h
    refine k_aload_n (pc := 201) (x := v0) dX9_plug_201 rfl rfl ?_
    refine k_getf (pc := 202) (t := 1) (fi := 22) dX9_plug_202 flX9_59 rfl rfl hc1 ?_
    refine k_iload_n (pc := 205) (x := v3) dX9_plug_205 rfl rfl ?_
    refine k_iconst (pc := 206) dX9_plug_206 ⟨by decide, by decide⟩ ?_
    refine k_iastore (pc := 207) dX9_plug_207 hc2 ?_
    obtain ⟨A5, eA6, h⟩ := k_pl h
    refine k_hq eA6 ?_
    refine k_iinc (pc := 208) (x := v3) dX9_plug_208 (Nat.le_of_ble_eq_true rfl) rfl rfl ?_
    show k_AW _ _ _ [(1, v0), (0, v1), (0, v2), (0, k_wr (v3 + (-1))), (0, v4)] _ _ _ _
    refine k_iload_n (pc := 211) (x := k_wr (v3 + (-1))) dX9_plug_211 rfl rfl ?_
    refine k_if_ge (pc := 212) (tgt := 217) dX9_plug_212 rfl (fun c7 => ?_) (fun c7 => ?_)
    · rw [if_neg (Int.not_lt.mpr c7)] at h
      refine k_goto (pc := 217) (tgt := 46) dX9_plug_217 rfl ?_
      refine k_sub (ls' := [(1, v0), (0, v1), (0, v2), (0, k_wr (v3 + (-1))), (3, 0)]) (k_sbl_ok _ _ ⟨Or.inr rfl, Or.inr rfl, Or.inr rfl, Or.inr rfl, Or.inl rfl, trivial⟩) ?_
      exact hk46 _ _ _ _ _ _ _ h
    · rw [if_pos (Int.not_le.mp c7)] at h
      refine k_iconst (pc := 215) dX9_plug_215 ⟨by decide, by decide⟩ ?_
      obtain ⟨rfl, rfl⟩ := k_pr h
      exact k_ret (pc := 216) dX9_plug_216 rfl rfl (by decide +kernel)
  · rw [if_pos (Int.not_le.mp c4)] at h
    refine k_aload_n (pc := 179) (x := v0) dX9_plug_179 rfl rfl ?_
    refine k_getf (pc := 180) (t := 1) (fi := 23) dX9_plug_180 flX9_62 rfl rfl hc1 ?_
    refine k_aload_n (pc := 183) (x := v0) dX9_plug_183 rfl rfl ?_
    refine k_getf (pc := 184) (t := 1) (fi := 22) dX9_plug_184 flX9_59 rfl rfl hc1 ?_
    refine k_iload_n (pc := 187) (x := v3) dX9_plug_187 rfl rfl ?_
    refine k_iaload (pc := 188) dX9_plug_188 hc2 ?_
    refine k_dup2 (pc := 189) dX9_plug_189 (Nat.le_of_ble_eq_true rfl) (Nat.le_of_ble_eq_true rfl) ?_
    obtain ⟨hc8, h⟩ := k_pk h
    refine k_iaload (pc := 190) dX9_plug_190 hc8 ?_
    refine k_iload (pc := 191) (x := v4) dX9_plug_191 rfl ?_
    refine k_iadd (pc := 193) dX9_plug_193 ?_
    refine k_iastore (pc := 194) dX9_plug_194 hc8 ?_
    obtain ⟨A9, eA10, h⟩ := k_pl h
    refine k_hq eA10 ?_
    refine k_iinc (pc := 195) (x := v3) dX9_plug_195 (Nat.le_of_ble_eq_true rfl) rfl rfl ?_
    show k_AW _ _ _ [(1, v0), (0, v1), (0, v2), (0, k_wr (v3 + 1)), (0, v4)] _ _ _ _
    refine k_goto (pc := 198) (tgt := 46) dX9_plug_198 rfl ?_
    refine k_sub (ls' := [(1, v0), (0, v1), (0, v2), (0, k_wr (v3 + 1)), (3, 0)]) (k_sbl_ok _ _ ⟨Or.inr rfl, Or.inr rfl, Or.inr rfl, Or.inr rfl, Or.inl rfl, trivial⟩) ?_
    exact hk46 _ _ _ _ _ _ _ h
set_option maxRecDepth 100000 in
theorem okX9_plug_h104 (k46 : k_H → Int → Int → Int → Int → Option (Int × k_H)) (hk46 : ∀ (A : k_H) (v0 v1 v2 v3 : Int) (r : Int) (A' : k_H), k46 A v0 v1 v2 v3 = some (r, A') → k_AW 1 mX9_plug 46 [(1, v0), (0, v1), (0, v2), (0, v3), (3, 0)] [] A r A') : ∀ (N : Nat) (A : k_H) (v0 v1 v2 v3 v4 : Int) (r : Int) (A' : k_H), fX9_plug_h104 k46 N A v0 v1 v2 v3 v4 = some (r, A') → k_AW 1 mX9_plug 104 [(1, v0), (0, v1), (0, v2), (0, v3), (0, v4)] [] A r A' := by
  intro N
  induction N with
  | zero => intro A v0 v1 v2 v3 v4 r A' h; exact absurd h (by simp [fX9_plug_h104])
  | succ N ih =>
    intro A v0 v1 v2 v3 v4 r A' h
    rw [fX9_plug_h104] at h
    refine k_aload_n (pc := 104) (x := v0) dX9_plug_104 rfl rfl ?_
    obtain ⟨hc1, h⟩ := k_pk h
    refine k_getf (pc := 105) (t := 1) (fi := 22) dX9_plug_105 flX9_59 rfl rfl hc1 ?_
    refine k_iload_n (pc := 108) (x := v3) dX9_plug_108 rfl rfl ?_
    obtain ⟨hc2, h⟩ := k_pk h
    refine k_iaload (pc := 109) dX9_plug_109 hc2 ?_
    refine k_aload_n (pc := 110) (x := v0) dX9_plug_110 rfl rfl ?_
    refine k_getf (pc := 111) (t := 1) (fi := 9) dX9_plug_111 flX9_26 rfl rfl hc1 ?_
    refine k_iload_n (pc := 114) (x := v2) dX9_plug_114 rfl rfl ?_
    obtain ⟨hc3, h⟩ := k_pk h
    refine k_iaload (pc := 115) dX9_plug_115 hc3 ?_
    refine k_icmp_ge (pc := 116) (tgt := 164) dX9_plug_116 rfl (fun c4 => ?_) (fun c4 => ?_)
    · rw [if_neg (Int.not_lt.mpr c4)] at h
      refine k_sub (ls' := [(1, v0), (0, v1), (0, v2), (0, v3), (0, v4)]) (k_sbl_ok _ _ ⟨Or.inr rfl, Or.inr rfl, Or.inr rfl, Or.inr rfl, Or.inr rfl, trivial⟩) ?_
      exact okX9_plug_b164 k46 hk46 _ _ _ _ _ _ _ _ h
    · rw [if_pos (Int.not_le.mp c4)] at h
      refine k_aload_n (pc := 119) (x := v0) dX9_plug_119 rfl rfl ?_
      refine k_getf (pc := 120) (t := 1) (fi := 23) dX9_plug_120 flX9_62 rfl rfl hc1 ?_
      refine k_aload_n (pc := 123) (x := v0) dX9_plug_123 rfl rfl ?_
      refine k_getf (pc := 124) (t := 1) (fi := 22) dX9_plug_124 flX9_59 rfl rfl hc1 ?_
      refine k_iload_n (pc := 127) (x := v3) dX9_plug_127 rfl rfl ?_
      refine k_iaload (pc := 128) dX9_plug_128 hc2 ?_
      obtain ⟨hc5, h⟩ := k_pk h
      refine k_iaload (pc := 129) dX9_plug_129 hc5 ?_
      refine k_iload (pc := 130) (x := v4) dX9_plug_130 rfl ?_
      refine k_iadd (pc := 132) dX9_plug_132 ?_
      refine k_aload_n (pc := 133) (x := v0) dX9_plug_133 rfl rfl ?_
      refine k_getf (pc := 134) (t := 1) (fi := 10) dX9_plug_134 flX9_29 rfl rfl hc1 ?_
      refine k_iconst (pc := 137) dX9_plug_137 ⟨by decide, by decide⟩ ?_
      refine k_iload_n (pc := 138) (x := v2) dX9_plug_138 rfl rfl ?_
      refine k_imul (pc := 139) dX9_plug_139 ?_
      refine k_aload_n (pc := 140) (x := v0) dX9_plug_140 rfl rfl ?_
      refine k_getf (pc := 141) (t := 1) (fi := 22) dX9_plug_141 flX9_59 rfl rfl hc1 ?_
      refine k_iload_n (pc := 144) (x := v3) dX9_plug_144 rfl rfl ?_
      refine k_iaload (pc := 145) dX9_plug_145 hc2 ?_
      refine k_iadd (pc := 146) dX9_plug_146 ?_
      obtain ⟨hc6, h⟩ := k_pk h
      refine k_iaload (pc := 147) dX9_plug_147 hc6 ?_
      refine k_icmp_le (pc := 148) (tgt := 164) dX9_plug_148 rfl (fun c7 => ?_) (fun c7 => ?_)
      · rw [if_neg (Int.not_lt.mpr c7)] at h
        refine k_sub (ls' := [(1, v0), (0, v1), (0, v2), (0, v3), (0, v4)]) (k_sbl_ok _ _ ⟨Or.inr rfl, Or.inr rfl, Or.inr rfl, Or.inr rfl, Or.inr rfl, trivial⟩) ?_
        exact okX9_plug_b164 k46 hk46 _ _ _ _ _ _ _ _ h
      · rw [if_pos (Int.not_le.mp c7)] at h
        refine k_aload_n (pc := 151) (x := v0) dX9_plug_151 rfl rfl ?_
        refine k_getf (pc := 152) (t := 1) (fi := 22) dX9_plug_152 flX9_59 rfl rfl hc1 ?_
        refine k_iload_n (pc := 155) (x := v3) dX9_plug_155 rfl rfl ?_
        refine k_dup2 (pc := 156) dX9_plug_156 (Nat.le_of_ble_eq_true rfl) (Nat.le_of_ble_eq_true rfl) ?_
        refine k_iaload (pc := 157) dX9_plug_157 hc2 ?_
        refine k_iconst (pc := 158) dX9_plug_158 ⟨by decide, by decide⟩ ?_
        refine k_iadd (pc := 159) dX9_plug_159 ?_
        refine k_iastore (pc := 160) dX9_plug_160 hc2 ?_
        obtain ⟨A8, eA9, h⟩ := k_pl h
        refine k_hq eA9 ?_
        refine k_goto (pc := 161) (tgt := 104) dX9_plug_161 rfl ?_
        refine k_sub (ls' := [(1, v0), (0, v1), (0, v2), (0, v3), (0, v4)]) (k_sbl_ok _ _ ⟨Or.inr rfl, Or.inr rfl, Or.inr rfl, Or.inr rfl, Or.inr rfl, trivial⟩) ?_
        exact ih _ _ _ _ _ _ _ _ h
set_option maxRecDepth 100000 in
theorem okX9_plug_b94 (k46 : k_H → Int → Int → Int → Int → Option (Int × k_H)) (hk46 : ∀ (A : k_H) (v0 v1 v2 v3 : Int) (r : Int) (A' : k_H), k46 A v0 v1 v2 v3 = some (r, A') → k_AW 1 mX9_plug 46 [(1, v0), (0, v1), (0, v2), (0, v3), (3, 0)] [] A r A') (A : k_H) (v0 v1 v2 v3 v4 : Int) (r : Int) (A' : k_H) (h : fX9_plug_b94 k46 A v0 v1 v2 v3 v4 = some (r, A')) : k_AW 1 mX9_plug 94 [(1, v0), (0, v1), (0, v2), (0, v3), (0, v4)] [] A r A' := by
  unfold fX9_plug_b94 at h
  refine k_aload_n (pc := 94) (x := v0) dX9_plug_94 rfl rfl ?_
  obtain ⟨hc1, h⟩ := k_pk h
  refine k_getf (pc := 95) (t := 1) (fi := 22) dX9_plug_95 flX9_59 rfl rfl hc1 ?_
  refine k_iload_n (pc := 98) (x := v3) dX9_plug_98 rfl rfl ?_
  refine k_dup2 (pc := 99) dX9_plug_99 (Nat.le_of_ble_eq_true rfl) (Nat.le_of_ble_eq_true rfl) ?_
  obtain ⟨hc2, h⟩ := k_pk h
  refine k_iaload (pc := 100) dX9_plug_100 hc2 ?_
  refine k_iconst (pc := 101) dX9_plug_101 ⟨by decide, by decide⟩ ?_
  refine k_iadd (pc := 102) dX9_plug_102 ?_
  refine k_iastore (pc := 103) dX9_plug_103 hc2 ?_
  obtain ⟨A3, eA4, h⟩ := k_pl h
  refine k_hq eA4 ?_
  refine k_sub (ls' := [(1, v0), (0, v1), (0, v2), (0, v3), (0, v4)]) (k_sbl_ok _ _ ⟨Or.inr rfl, Or.inr rfl, Or.inr rfl, Or.inr rfl, Or.inr rfl, trivial⟩) ?_
  exact okX9_plug_h104 k46 hk46 _ _ _ _ _ _ _ _ _ h
set_option maxRecDepth 100000 in
theorem okX9_plug_h46 : ∀ (N : Nat) (A : k_H) (v0 v1 v2 v3 : Int) (r : Int) (A' : k_H), fX9_plug_h46 N A v0 v1 v2 v3 = some (r, A') → k_AW 1 mX9_plug 46 [(1, v0), (0, v1), (0, v2), (0, v3), (3, 0)] [] A r A' := by
  intro N
  induction N with
  | zero => intro A v0 v1 v2 v3 r A' h; exact absurd h (by simp [fX9_plug_h46])
  | succ N ih =>
    intro A v0 v1 v2 v3 r A' h
    rw [fX9_plug_h46] at h
    refine k_iload_n (pc := 46) (x := v3) dX9_plug_46 rfl rfl ?_
    refine k_aload_n (pc := 47) (x := v0) dX9_plug_47 rfl rfl ?_
    obtain ⟨hc1, h⟩ := k_pk h
    refine k_getf (pc := 48) (t := 1) (fi := 13) dX9_plug_48 flX9_38 rfl rfl hc1 ?_
    refine k_iload_n (pc := 51) (x := v1) dX9_plug_51 rfl rfl ?_
    obtain ⟨hc2, h⟩ := k_pk h
    refine k_iaload (pc := 52) dX9_plug_52 hc2 ?_
    refine k_icmp_ge (pc := 53) (tgt := 220) dX9_plug_53 rfl (fun c3 => ?_) (fun c3 => ?_)
    · rw [if_neg (Int.not_lt.mpr c3)] at h
      refine k_iconst (pc := 220) dX9_plug_220 ⟨by decide, by decide⟩ ?_
      obtain ⟨rfl, rfl⟩ := k_pr h
      exact k_ret (pc := 221) dX9_plug_221 rfl rfl (by decide +kernel)
    · rw [if_pos (Int.not_le.mp c3)] at h
      refine k_aload_n (pc := 56) (x := v0) dX9_plug_56 rfl rfl ?_
      refine k_getf (pc := 57) (t := 1) (fi := 14) dX9_plug_57 flX9_41 rfl rfl hc1 ?_
      refine k_bipush (pc := 60) dX9_plug_60 ⟨by decide, by decide⟩ (by decide +kernel) ?_
      refine k_iload_n (pc := 62) (x := v1) dX9_plug_62 rfl rfl ?_
      refine k_imul (pc := 63) dX9_plug_63 ?_
      refine k_iload_n (pc := 64) (x := v3) dX9_plug_64 rfl rfl ?_
      refine k_iadd (pc := 65) dX9_plug_65 ?_
      obtain ⟨hc4, h⟩ := k_pk h
      refine k_iaload (pc := 66) dX9_plug_66 hc4 ?_
      refine k_istore (pc := 67) dX9_plug_67 (Nat.le_of_ble_eq_true rfl) rfl ?_
      show k_AW _ _ _ [(1, v0), (0, v1), (0, v2), (0, v3), (0, (k_rd A (k_rd A v0 14) (k_wr (k_wr (8 * v1) + v3))))] _ _ _ _
      refine k_aload_n (pc := 69) (x := v0) dX9_plug_69 rfl rfl ?_
      refine k_getf (pc := 70) (t := 1) (fi := 22) dX9_plug_70 flX9_59 rfl rfl hc1 ?_
      refine k_iload_n (pc := 73) (x := v3) dX9_plug_73 rfl rfl ?_
      obtain ⟨hc5, h⟩ := k_pk h
      refine k_iaload (pc := 74) dX9_plug_74 hc5 ?_
      refine k_if_lt (pc := 75) (tgt := 94) dX9_plug_75 rfl (fun c6 => ?_) (fun c6 => ?_)
      · rw [if_neg (Int.not_le.mpr c6)] at h
        refine k_sub (ls' := [(1, v0), (0, v1), (0, v2), (0, v3), (0, (k_rd A (k_rd A v0 14) (k_wr (k_wr (8 * v1) + v3))))]) (k_sbl_ok _ _ ⟨Or.inr rfl, Or.inr rfl, Or.inr rfl, Or.inr rfl, Or.inr rfl, trivial⟩) ?_
        exact okX9_plug_b94 (fX9_plug_h46 N) ih _ _ _ _ _ _ _ _ h
      · rw [if_pos (Int.not_lt.mp c6)] at h
        refine k_aload_n (pc := 78) (x := v0) dX9_plug_78 rfl rfl ?_
        refine k_getf (pc := 79) (t := 1) (fi := 23) dX9_plug_79 flX9_62 rfl rfl hc1 ?_
        refine k_aload_n (pc := 82) (x := v0) dX9_plug_82 rfl rfl ?_
        refine k_getf (pc := 83) (t := 1) (fi := 22) dX9_plug_83 flX9_59 rfl rfl hc1 ?_
        refine k_iload_n (pc := 86) (x := v3) dX9_plug_86 rfl rfl ?_
        refine k_iaload (pc := 87) dX9_plug_87 hc5 ?_
        refine k_dup2 (pc := 88) dX9_plug_88 (Nat.le_of_ble_eq_true rfl) (Nat.le_of_ble_eq_true rfl) ?_
        obtain ⟨hc7, h⟩ := k_pk h
        refine k_iaload (pc := 89) dX9_plug_89 hc7 ?_
        refine k_iload (pc := 90) (x := (k_rd A (k_rd A v0 14) (k_wr (k_wr (8 * v1) + v3)))) dX9_plug_90 rfl ?_
        refine k_isub (pc := 92) dX9_plug_92 ?_
        refine k_iastore (pc := 93) dX9_plug_93 hc7 ?_
        obtain ⟨A8, eA9, h⟩ := k_pl h
        refine k_hq eA9 ?_
        refine k_sub (ls' := [(1, v0), (0, v1), (0, v2), (0, v3), (0, (k_rd A (k_rd A v0 14) (k_wr (k_wr (8 * v1) + v3))))]) (k_sbl_ok _ _ ⟨Or.inr rfl, Or.inr rfl, Or.inr rfl, Or.inr rfl, Or.inr rfl, trivial⟩) ?_
        exact okX9_plug_b94 (fX9_plug_h46 N) ih _ _ _ _ _ _ _ _ h
set_option maxRecDepth 100000 in
theorem okX9_plug_h25 : ∀ (N : Nat) (A : k_H) (v0 v1 v2 v3 v4 : Int) (r : Int) (A' : k_H), fX9_plug_h25 N A v0 v1 v2 v3 v4 = some (r, A') → k_AW 1 mX9_plug 25 [(1, v0), (0, v1), (0, v2), (0, v3), (0, v4)] [] A r A' := by
  intro N
  induction N with
  | zero => intro A v0 v1 v2 v3 v4 r A' h; exact absurd h (by simp [fX9_plug_h25])
  | succ N ih =>
    intro A v0 v1 v2 v3 v4 r A' h
    rw [fX9_plug_h25] at h
    refine k_iload (pc := 25) (x := v4) dX9_plug_25 rfl ?_
    refine k_bipush (pc := 27) dX9_plug_27 ⟨by decide, by decide⟩ (by decide +kernel) ?_
    refine k_icmp_ge (pc := 29) (tgt := 46) dX9_plug_29 rfl (fun c1 => ?_) (fun c1 => ?_)
    · rw [if_neg (Int.not_lt.mpr c1)] at h
      refine k_sub (ls' := [(1, v0), (0, v1), (0, v2), (0, v3), (3, 0)]) (k_sbl_ok _ _ ⟨Or.inr rfl, Or.inr rfl, Or.inr rfl, Or.inr rfl, Or.inl rfl, trivial⟩) ?_
      exact okX9_plug_h46  _ _ _ _ _ _ _ _ h
    · rw [if_pos (Int.not_le.mp c1)] at h
      refine k_aload_n (pc := 32) (x := v0) dX9_plug_32 rfl rfl ?_
      obtain ⟨hc2, h⟩ := k_pk h
      refine k_getf (pc := 33) (t := 1) (fi := 22) dX9_plug_33 flX9_59 rfl rfl hc2 ?_
      refine k_iload (pc := 36) (x := v4) dX9_plug_36 rfl ?_
      refine k_iconst (pc := 38) dX9_plug_38 ⟨by decide, by decide⟩ ?_
      obtain ⟨hc3, h⟩ := k_pk h
      refine k_iastore (pc := 39) dX9_plug_39 hc3 ?_
      obtain ⟨A4, eA5, h⟩ := k_pl h
      refine k_hq eA5 ?_
      refine k_iinc (pc := 40) (x := v4) dX9_plug_40 (Nat.le_of_ble_eq_true rfl) rfl rfl ?_
      show k_AW _ _ _ [(1, v0), (0, v1), (0, v2), (0, v3), (0, k_wr (v4 + 1))] _ _ _ _
      refine k_goto (pc := 43) (tgt := 25) dX9_plug_43 rfl ?_
      refine k_sub (ls' := [(1, v0), (0, v1), (0, v2), (0, v3), (0, k_wr (v4 + 1))]) (k_sbl_ok _ _ ⟨Or.inr rfl, Or.inr rfl, Or.inr rfl, Or.inr rfl, Or.inr rfl, trivial⟩) ?_
      exact ih _ _ _ _ _ _ _ _ h
set_option maxRecDepth 100000 in
theorem okX9_plug_h2 : ∀ (N : Nat) (A : k_H) (v0 v1 v2 v3 : Int) (r : Int) (A' : k_H), fX9_plug_h2 N A v0 v1 v2 v3 = some (r, A') → k_AW 1 mX9_plug 2 [(1, v0), (0, v1), (0, v2), (0, v3), (3, 0)] [] A r A' := by
  intro N
  induction N with
  | zero => intro A v0 v1 v2 v3 r A' h; exact absurd h (by simp [fX9_plug_h2])
  | succ N ih =>
    intro A v0 v1 v2 v3 r A' h
    rw [fX9_plug_h2] at h
    refine k_iload_n (pc := 2) (x := v3) dX9_plug_2 rfl rfl ?_
    refine k_iconst (pc := 3) dX9_plug_3 ⟨by decide, by decide⟩ ?_
    refine k_icmp_ge (pc := 4) (tgt := 20) dX9_plug_4 rfl (fun c1 => ?_) (fun c1 => ?_)
    · rw [if_neg (Int.not_lt.mpr c1)] at h
      refine k_iconst (pc := 20) dX9_plug_20 ⟨by decide, by decide⟩ ?_
      refine k_istore_n (pc := 21) dX9_plug_21 rfl (Nat.le_of_ble_eq_true rfl) rfl ?_
      show k_AW _ _ _ [(1, v0), (0, v1), (0, v2), (0, 0), (3, 0)] _ _ _ _
      refine k_iconst (pc := 22) dX9_plug_22 ⟨by decide, by decide⟩ ?_
      refine k_istore (pc := 23) dX9_plug_23 (Nat.le_of_ble_eq_true rfl) rfl ?_
      show k_AW _ _ _ [(1, v0), (0, v1), (0, v2), (0, 0), (0, 0)] _ _ _ _
      refine k_sub (ls' := [(1, v0), (0, v1), (0, v2), (0, 0), (0, 0)]) (k_sbl_ok _ _ ⟨Or.inr rfl, Or.inr rfl, Or.inr rfl, Or.inr rfl, Or.inr rfl, trivial⟩) ?_
      exact okX9_plug_h25  _ _ _ _ _ _ _ _ _ h
    · rw [if_pos (Int.not_le.mp c1)] at h
      refine k_aload_n (pc := 7) (x := v0) dX9_plug_7 rfl rfl ?_
      obtain ⟨hc2, h⟩ := k_pk h
      refine k_getf (pc := 8) (t := 1) (fi := 23) dX9_plug_8 flX9_62 rfl rfl hc2 ?_
      refine k_iload_n (pc := 11) (x := v3) dX9_plug_11 rfl rfl ?_
      refine k_iconst (pc := 12) dX9_plug_12 ⟨by decide, by decide⟩ ?_
      obtain ⟨hc3, h⟩ := k_pk h
      refine k_iastore (pc := 13) dX9_plug_13 hc3 ?_
      obtain ⟨A4, eA5, h⟩ := k_pl h
      refine k_hq eA5 ?_
      refine k_iinc (pc := 14) (x := v3) dX9_plug_14 (Nat.le_of_ble_eq_true rfl) rfl rfl ?_
      show k_AW _ _ _ [(1, v0), (0, v1), (0, v2), (0, k_wr (v3 + 1)), (3, 0)] _ _ _ _
      refine k_goto (pc := 17) (tgt := 2) dX9_plug_17 rfl ?_
      refine k_sub (ls' := [(1, v0), (0, v1), (0, v2), (0, k_wr (v3 + 1)), (3, 0)]) (k_sbl_ok _ _ ⟨Or.inr rfl, Or.inr rfl, Or.inr rfl, Or.inr rfl, Or.inl rfl, trivial⟩) ?_
      exact ih _ _ _ _ _ _ _ h
set_option maxRecDepth 100000 in
theorem okX9_plug_b0 (A : k_H) (v0 v1 v2 : Int) (r : Int) (A' : k_H) (h : fX9_plug_b0 A v0 v1 v2 = some (r, A')) : k_AW 1 mX9_plug 0 [(1, v0), (0, v1), (0, v2), (3, 0), (3, 0)] [] A r A' := by
  unfold fX9_plug_b0 at h
  refine k_iconst (pc := 0) dX9_plug_0 ⟨by decide, by decide⟩ ?_
  refine k_istore_n (pc := 1) dX9_plug_1 rfl (Nat.le_of_ble_eq_true rfl) rfl ?_
  show k_AW _ _ _ [(1, v0), (0, v1), (0, v2), (0, 0), (3, 0)] _ _ _ _
  refine k_sub (ls' := [(1, v0), (0, v1), (0, v2), (0, 0), (3, 0)]) (k_sbl_ok _ _ ⟨Or.inr rfl, Or.inr rfl, Or.inr rfl, Or.inr rfl, Or.inl rfl, trivial⟩) ?_
  exact okX9_plug_h2  _ _ _ _ _ _ _ _ h
theorem okX9_plug {A : k_H} {x0 x1 x2 : Int} {r : Int} {A1 : k_H} (h : fX9_plug A x0 x1 x2 = some (r, A1)) : k_AM 1 mX9_plug [(1, x0), (0, x1), (0, x2)] A r A1 :=
  k_AM_of2 (ls := [(1, x0), (0, x1), (0, x2), (3, 0), (3, 0)]) (Or.inl (by decide +kernel)) (by decide +kernel) (by decide) rfl (Nat.le_of_ble_eq_true rfl) ⟨Or.inr rfl, Or.inr rfl, Or.inr rfl, rfl, rfl, trivial⟩ (okX9_plug_b0 A x0 x1 x2 r A1 h)
/-! X9_milesOf -/
def fX9_milesOf_b52 (A : k_H) (s0 s1 : Int) : Option (Int × k_H) := some (k_wr (s0 + s1), A)
def fX9_milesOf_b39 (A : k_H) (v4 s0 : Int) : Option (Int × k_H) := if v4 < 0 then (fX9_milesOf_b52 A s0 (k_wr (-v4))) else (fX9_milesOf_b52 A s0 v4)
def fX9_milesOf_b0 (A : k_H) (v0 v1 v2 : Int) : Option (Int × k_H) := if k_isO A v0 9 then (if k_isA A (k_rd A v0 5) 21 v1 then (if k_isA A (k_rd A v0 5) 21 v2 then (if k_isA A (k_rd A v0 6) 21 v1 then (if k_isA A (k_rd A v0 6) 21 v2 then (if k_wr ((k_rd A (k_rd A v0 5) v1) - (k_rd A (k_rd A v0 5) v2)) < 0 then (fX9_milesOf_b39 A (k_wr ((k_rd A (k_rd A v0 6) v1) - (k_rd A (k_rd A v0 6) v2))) (k_wr (-(k_wr ((k_rd A (k_rd A v0 5) v1) - (k_rd A (k_rd A v0 5) v2)))))) else (fX9_milesOf_b39 A (k_wr ((k_rd A (k_rd A v0 6) v1) - (k_rd A (k_rd A v0 6) v2))) (k_wr ((k_rd A (k_rd A v0 5) v1) - (k_rd A (k_rd A v0 5) v2))))) else none) else none) else none) else none) else none
def fX9_milesOf (A : k_H) (x0 x1 x2 : Int) : Option (Int × k_H) := fX9_milesOf_b0 A x0 x1 x2
set_option maxRecDepth 100000 in
theorem okX9_milesOf_b52 (A : k_H) (s0 s1 : Int) (r : Int) (A' : k_H) (h : fX9_milesOf_b52 A s0 s1 = some (r, A')) : k_AW 1 mX9_milesOf 52 [(3, 0), (3, 0), (3, 0), (3, 0), (3, 0)] [(0, s1), (0, s0)] A r A' := by
  unfold fX9_milesOf_b52 at h
  refine k_iadd (pc := 52) dX9_milesOf_52 ?_
  obtain ⟨rfl, rfl⟩ := k_pr h
  exact k_ret (pc := 53) dX9_milesOf_53 rfl rfl rfl
set_option maxRecDepth 100000 in
theorem okX9_milesOf_b39 (A : k_H) (v4 s0 : Int) (r : Int) (A' : k_H) (h : fX9_milesOf_b39 A v4 s0 = some (r, A')) : k_AW 1 mX9_milesOf 39 [(3, 0), (3, 0), (3, 0), (3, 0), (0, v4)] [(0, s0)] A r A' := by
  unfold fX9_milesOf_b39 at h
  refine k_iload (pc := 39) (x := v4) dX9_milesOf_39 rfl ?_
  refine k_if_ge (pc := 41) (tgt := 50) dX9_milesOf_41 rfl (fun c1 => ?_) (fun c1 => ?_)
  · rw [if_neg (Int.not_lt.mpr c1)] at h
    refine k_iload (pc := 50) (x := v4) dX9_milesOf_50 rfl ?_
    refine k_sub (ls' := [(3, 0), (3, 0), (3, 0), (3, 0), (3, 0)]) (k_sbl_ok _ _ ⟨Or.inl rfl, Or.inl rfl, Or.inl rfl, Or.inl rfl, Or.inl rfl, trivial⟩) ?_
    exact okX9_milesOf_b52  _ _ _ _ _ h
  · rw [if_pos (Int.not_le.mp c1)] at h
    refine k_iload (pc := 44) (x := v4) dX9_milesOf_44 rfl ?_
    refine k_ineg (pc := 46) dX9_milesOf_46 ?_
    refine k_goto (pc := 47) (tgt := 52) dX9_milesOf_47 rfl ?_
    refine k_sub (ls' := [(3, 0), (3, 0), (3, 0), (3, 0), (3, 0)]) (k_sbl_ok _ _ ⟨Or.inl rfl, Or.inl rfl, Or.inl rfl, Or.inl rfl, Or.inl rfl, trivial⟩) ?_
    exact okX9_milesOf_b52  _ _ _ _ _ h
set_option maxRecDepth 100000 in
theorem okX9_milesOf_b0 (A : k_H) (v0 v1 v2 : Int) (r : Int) (A' : k_H) (h : fX9_milesOf_b0 A v0 v1 v2 = some (r, A')) : k_AW 1 mX9_milesOf 0 [(1, v0), (0, v1), (0, v2), (3, 0), (3, 0)] [] A r A' := by
  unfold fX9_milesOf_b0 at h
  refine k_aload_n (pc := 0) (x := v0) dX9_milesOf_0 rfl rfl ?_
  obtain ⟨hc1, h⟩ := k_pk h
  refine k_getf (pc := 1) (t := 1) (fi := 5) dX9_milesOf_1 flX9_13 rfl rfl hc1 ?_
  refine k_iload_n (pc := 4) (x := v1) dX9_milesOf_4 rfl rfl ?_
  obtain ⟨hc2, h⟩ := k_pk h
  refine k_iaload (pc := 5) dX9_milesOf_5 hc2 ?_
  refine k_aload_n (pc := 6) (x := v0) dX9_milesOf_6 rfl rfl ?_
  refine k_getf (pc := 7) (t := 1) (fi := 5) dX9_milesOf_7 flX9_13 rfl rfl hc1 ?_
  refine k_iload_n (pc := 10) (x := v2) dX9_milesOf_10 rfl rfl ?_
  obtain ⟨hc3, h⟩ := k_pk h
  refine k_iaload (pc := 11) dX9_milesOf_11 hc3 ?_
  refine k_isub (pc := 12) dX9_milesOf_12 ?_
  refine k_istore_n (pc := 13) dX9_milesOf_13 rfl (Nat.le_of_ble_eq_true rfl) rfl ?_
  show k_AW _ _ _ [(1, v0), (0, v1), (0, v2), (0, k_wr ((k_rd A (k_rd A v0 5) v1) - (k_rd A (k_rd A v0 5) v2))), (3, 0)] _ _ _ _
  refine k_aload_n (pc := 14) (x := v0) dX9_milesOf_14 rfl rfl ?_
  refine k_getf (pc := 15) (t := 1) (fi := 6) dX9_milesOf_15 flX9_17 rfl rfl hc1 ?_
  refine k_iload_n (pc := 18) (x := v1) dX9_milesOf_18 rfl rfl ?_
  obtain ⟨hc4, h⟩ := k_pk h
  refine k_iaload (pc := 19) dX9_milesOf_19 hc4 ?_
  refine k_aload_n (pc := 20) (x := v0) dX9_milesOf_20 rfl rfl ?_
  refine k_getf (pc := 21) (t := 1) (fi := 6) dX9_milesOf_21 flX9_17 rfl rfl hc1 ?_
  refine k_iload_n (pc := 24) (x := v2) dX9_milesOf_24 rfl rfl ?_
  obtain ⟨hc5, h⟩ := k_pk h
  refine k_iaload (pc := 25) dX9_milesOf_25 hc5 ?_
  refine k_isub (pc := 26) dX9_milesOf_26 ?_
  refine k_istore (pc := 27) dX9_milesOf_27 (Nat.le_of_ble_eq_true rfl) rfl ?_
  show k_AW _ _ _ [(1, v0), (0, v1), (0, v2), (0, k_wr ((k_rd A (k_rd A v0 5) v1) - (k_rd A (k_rd A v0 5) v2))), (0, k_wr ((k_rd A (k_rd A v0 6) v1) - (k_rd A (k_rd A v0 6) v2)))] _ _ _ _
  refine k_iload_n (pc := 29) (x := k_wr ((k_rd A (k_rd A v0 5) v1) - (k_rd A (k_rd A v0 5) v2))) dX9_milesOf_29 rfl rfl ?_
  refine k_if_ge (pc := 30) (tgt := 38) dX9_milesOf_30 rfl (fun c6 => ?_) (fun c6 => ?_)
  · rw [if_neg (Int.not_lt.mpr c6)] at h
    refine k_iload_n (pc := 38) (x := k_wr ((k_rd A (k_rd A v0 5) v1) - (k_rd A (k_rd A v0 5) v2))) dX9_milesOf_38 rfl rfl ?_
    refine k_sub (ls' := [(3, 0), (3, 0), (3, 0), (3, 0), (0, k_wr ((k_rd A (k_rd A v0 6) v1) - (k_rd A (k_rd A v0 6) v2)))]) (k_sbl_ok _ _ ⟨Or.inl rfl, Or.inl rfl, Or.inl rfl, Or.inl rfl, Or.inr rfl, trivial⟩) ?_
    exact okX9_milesOf_b39  _ _ _ _ _ h
  · rw [if_pos (Int.not_le.mp c6)] at h
    refine k_iload_n (pc := 33) (x := k_wr ((k_rd A (k_rd A v0 5) v1) - (k_rd A (k_rd A v0 5) v2))) dX9_milesOf_33 rfl rfl ?_
    refine k_ineg (pc := 34) dX9_milesOf_34 ?_
    refine k_goto (pc := 35) (tgt := 39) dX9_milesOf_35 rfl ?_
    refine k_sub (ls' := [(3, 0), (3, 0), (3, 0), (3, 0), (0, k_wr ((k_rd A (k_rd A v0 6) v1) - (k_rd A (k_rd A v0 6) v2)))]) (k_sbl_ok _ _ ⟨Or.inl rfl, Or.inl rfl, Or.inl rfl, Or.inl rfl, Or.inr rfl, trivial⟩) ?_
    exact okX9_milesOf_b39  _ _ _ _ _ h
theorem okX9_milesOf {A : k_H} {x0 x1 x2 : Int} {r : Int} {A1 : k_H} (h : fX9_milesOf A x0 x1 x2 = some (r, A1)) : k_AM 1 mX9_milesOf [(1, x0), (0, x1), (0, x2)] A r A1 :=
  k_AM_of2 (ls := [(1, x0), (0, x1), (0, x2), (3, 0), (3, 0)]) (Or.inl (by decide +kernel)) (by decide +kernel) (by decide) rfl (Nat.le_of_ble_eq_true rfl) ⟨Or.inr rfl, Or.inr rfl, Or.inr rfl, rfl, rfl, trivial⟩ (okX9_milesOf_b0 A x0 x1 x2 r A1 h)
/-! X9_isFree -/
def fX9_isFree_b36 (k3 : k_H → Int → Int → Int → Int → Int → Option (Int × k_H)) (A : k_H) (v0 v1 v2 v3 v4 : Int) : Option (Int × k_H) := k3 A v0 v1 v2 v3 (k_wr (v4 + 1))
def fX9_isFree_h3 : Nat → k_H → Int → Int → Int → Int → Int → Option (Int × k_H)
  | 0, _, _, _, _, _, _ => none
  | N + 1, A, v0, v1, v2, v3, v4 => if k_isO A v0 9 then (if v4 < (k_rd A v0 21) then (if v4 = v1 then (fX9_isFree_b36 (fX9_isFree_h3 N) A v0 v1 v2 v3 v4) else (if k_isA A (k_rd A v0 24) 21 (k_wr (k_wr (14 * v4) + v3)) then (if (k_rd A (k_rd A v0 24) (k_wr (k_wr (14 * v4) + v3))) = v2 then (some (0, A)) else (fX9_isFree_b36 (fX9_isFree_h3 N) A v0 v1 v2 v3 v4)) else none)) else (some (1, A))) else none
def fX9_isFree_b0 (A : k_H) (v0 v1 v2 v3 : Int) : Option (Int × k_H) := fX9_isFree_h3 k_FU A v0 v1 v2 v3 0
def fX9_isFree (A : k_H) (x0 x1 x2 x3 : Int) : Option (Int × k_H) := fX9_isFree_b0 A x0 x1 x2 x3
set_option maxRecDepth 100000 in
theorem okX9_isFree_b36 (k3 : k_H → Int → Int → Int → Int → Int → Option (Int × k_H)) (hk3 : ∀ (A : k_H) (v0 v1 v2 v3 v4 : Int) (r : Int) (A' : k_H), k3 A v0 v1 v2 v3 v4 = some (r, A') → k_AW 1 mX9_isFree 3 [(1, v0), (0, v1), (0, v2), (0, v3), (0, v4)] [] A r A') (A : k_H) (v0 v1 v2 v3 v4 : Int) (r : Int) (A' : k_H) (h : fX9_isFree_b36 k3 A v0 v1 v2 v3 v4 = some (r, A')) : k_AW 1 mX9_isFree 36 [(1, v0), (0, v1), (0, v2), (0, v3), (0, v4)] [] A r A' := by
  unfold fX9_isFree_b36 at h
  refine k_iinc (pc := 36) (x := v4) dX9_isFree_36 (Nat.le_of_ble_eq_true rfl) rfl rfl ?_
  show k_AW _ _ _ [(1, v0), (0, v1), (0, v2), (0, v3), (0, k_wr (v4 + 1))] _ _ _ _
  refine k_goto (pc := 39) (tgt := 3) dX9_isFree_39 rfl ?_
  refine k_sub (ls' := [(1, v0), (0, v1), (0, v2), (0, v3), (0, k_wr (v4 + 1))]) (k_sbl_ok _ _ ⟨Or.inr rfl, Or.inr rfl, Or.inr rfl, Or.inr rfl, Or.inr rfl, trivial⟩) ?_
  exact hk3 _ _ _ _ _ _ _ _ h
set_option maxRecDepth 100000 in
theorem okX9_isFree_h3 : ∀ (N : Nat) (A : k_H) (v0 v1 v2 v3 v4 : Int) (r : Int) (A' : k_H), fX9_isFree_h3 N A v0 v1 v2 v3 v4 = some (r, A') → k_AW 1 mX9_isFree 3 [(1, v0), (0, v1), (0, v2), (0, v3), (0, v4)] [] A r A' := by
  intro N
  induction N with
  | zero => intro A v0 v1 v2 v3 v4 r A' h; exact absurd h (by simp [fX9_isFree_h3])
  | succ N ih =>
    intro A v0 v1 v2 v3 v4 r A' h
    rw [fX9_isFree_h3] at h
    refine k_iload (pc := 3) (x := v4) dX9_isFree_3 rfl ?_
    refine k_aload_n (pc := 5) (x := v0) dX9_isFree_5 rfl rfl ?_
    obtain ⟨hc1, h⟩ := k_pk h
    refine k_getf (pc := 6) (t := 0) (fi := 21) dX9_isFree_6 flX9_122 rfl rfl hc1 ?_
    refine k_icmp_ge (pc := 9) (tgt := 42) dX9_isFree_9 rfl (fun c2 => ?_) (fun c2 => ?_)
    · rw [if_neg (Int.not_lt.mpr c2)] at h
      refine k_iconst (pc := 42) dX9_isFree_42 ⟨by decide, by decide⟩ ?_
      obtain ⟨rfl, rfl⟩ := k_pr h
      exact k_ret (pc := 43) dX9_isFree_43 rfl rfl (by decide +kernel)
    · rw [if_pos (Int.not_le.mp c2)] at h
      refine k_iload (pc := 12) (x := v4) dX9_isFree_12 rfl ?_
      refine k_iload_n (pc := 14) (x := v1) dX9_isFree_14 rfl rfl ?_
      refine k_icmp_eq (pc := 15) (tgt := 36) dX9_isFree_15 rfl (fun c3 => ?_) (fun c3 => ?_)
      · rw [if_pos c3] at h
        refine k_sub (ls' := [(1, v0), (0, v1), (0, v2), (0, v3), (0, v4)]) (k_sbl_ok _ _ ⟨Or.inr rfl, Or.inr rfl, Or.inr rfl, Or.inr rfl, Or.inr rfl, trivial⟩) ?_
        exact okX9_isFree_b36 (fX9_isFree_h3 N) ih _ _ _ _ _ _ _ _ h
      · rw [if_neg c3] at h
        refine k_aload_n (pc := 18) (x := v0) dX9_isFree_18 rfl rfl ?_
        refine k_getf (pc := 19) (t := 1) (fi := 24) dX9_isFree_19 flX9_65 rfl rfl hc1 ?_
        refine k_bipush (pc := 22) dX9_isFree_22 ⟨by decide, by decide⟩ (by decide +kernel) ?_
        refine k_iload (pc := 24) (x := v4) dX9_isFree_24 rfl ?_
        refine k_imul (pc := 26) dX9_isFree_26 ?_
        refine k_iload_n (pc := 27) (x := v3) dX9_isFree_27 rfl rfl ?_
        refine k_iadd (pc := 28) dX9_isFree_28 ?_
        obtain ⟨hc4, h⟩ := k_pk h
        refine k_iaload (pc := 29) dX9_isFree_29 hc4 ?_
        refine k_iload_n (pc := 30) (x := v2) dX9_isFree_30 rfl rfl ?_
        refine k_icmp_ne (pc := 31) (tgt := 36) dX9_isFree_31 rfl (fun c5 => ?_) (fun c5 => ?_)
        · rw [if_neg c5] at h
          refine k_sub (ls' := [(1, v0), (0, v1), (0, v2), (0, v3), (0, v4)]) (k_sbl_ok _ _ ⟨Or.inr rfl, Or.inr rfl, Or.inr rfl, Or.inr rfl, Or.inr rfl, trivial⟩) ?_
          exact okX9_isFree_b36 (fX9_isFree_h3 N) ih _ _ _ _ _ _ _ _ h
        · rw [if_pos (Classical.not_not.mp c5)] at h
          refine k_iconst (pc := 34) dX9_isFree_34 ⟨by decide, by decide⟩ ?_
          obtain ⟨rfl, rfl⟩ := k_pr h
          exact k_ret (pc := 35) dX9_isFree_35 rfl rfl (by decide +kernel)
set_option maxRecDepth 100000 in
theorem okX9_isFree_b0 (A : k_H) (v0 v1 v2 v3 : Int) (r : Int) (A' : k_H) (h : fX9_isFree_b0 A v0 v1 v2 v3 = some (r, A')) : k_AW 1 mX9_isFree 0 [(1, v0), (0, v1), (0, v2), (0, v3), (3, 0)] [] A r A' := by
  unfold fX9_isFree_b0 at h
  refine k_iconst (pc := 0) dX9_isFree_0 ⟨by decide, by decide⟩ ?_
  refine k_istore (pc := 1) dX9_isFree_1 (Nat.le_of_ble_eq_true rfl) rfl ?_
  show k_AW _ _ _ [(1, v0), (0, v1), (0, v2), (0, v3), (0, 0)] _ _ _ _
  refine k_sub (ls' := [(1, v0), (0, v1), (0, v2), (0, v3), (0, 0)]) (k_sbl_ok _ _ ⟨Or.inr rfl, Or.inr rfl, Or.inr rfl, Or.inr rfl, Or.inr rfl, trivial⟩) ?_
  exact okX9_isFree_h3  _ _ _ _ _ _ _ _ _ h
theorem okX9_isFree {A : k_H} {x0 x1 x2 x3 : Int} {r : Int} {A1 : k_H} (h : fX9_isFree A x0 x1 x2 x3 = some (r, A1)) : k_AM 1 mX9_isFree [(1, x0), (0, x1), (0, x2), (0, x3)] A r A1 :=
  k_AM_of2 (ls := [(1, x0), (0, x1), (0, x2), (0, x3), (3, 0)]) (Or.inl (by decide +kernel)) (by decide +kernel) (by decide) rfl (Nat.le_of_ble_eq_true rfl) ⟨Or.inr rfl, Or.inr rfl, Or.inr rfl, Or.inr rfl, rfl, trivial⟩ (okX9_isFree_b0 A x0 x1 x2 x3 r A1 h)
/-! X9_wasThere -/
def fX9_wasThere_b87 (A : k_H) (v0 v3 s0 : Int) : Option (Int × k_H) := if k_isO A v0 9 then (if k_isA A (k_rd A v0 34) 22 (k_wr (Int.tdiv v3 64)) then (k_lt (k_wt A (k_rd A v0 34) (k_wr (Int.tdiv v3 64)) (k_lorr (k_rd A (k_rd A v0 34) (k_wr (Int.tdiv v3 64))) (k_lshl 1 (k_wr (Int.tmod v3 64))))) fun A3 => if s0 = 0 ∨ s0 = 1 then (some (s0, A3)) else none) else none) else none
def fX9_wasThere_b21 (A : k_H) (v0 v1 s0 : Int) : Option (Int × k_H) := if k_isO A v0 9 then (if k_isA A (k_rd A v0 28) 21 v1 then (if k_isA A (k_rd A v0 29) 21 v1 then (if k_isA A (k_rd A v0 31) 21 v1 then (if k_isA A (k_rd A v0 34) 22 (k_wr (Int.tdiv (k_wr (k_wr (k_wr (k_wr (k_wr (k_wr (k_wr (k_wr (k_wr (v1 * 64) + (k_rd A (k_rd A v0 28) v1)) * 7) + (k_rd A (k_rd A v0 29) v1)) + 1) * 15) + s0) * 15) + (k_rd A (k_rd A v0 31) v1))) 64)) then (if (if 1 < (k_landd (k_lshr (k_rd A (k_rd A v0 34) (k_wr (Int.tdiv (k_wr (k_wr (k_wr (k_wr (k_wr (k_wr (k_wr (k_wr (k_wr (v1 * 64) + (k_rd A (k_rd A v0 28) v1)) * 7) + (k_rd A (k_rd A v0 29) v1)) + 1) * 15) + s0) * 15) + (k_rd A (k_rd A v0 31) v1))) 64))) (k_wr (Int.tmod (k_wr (k_wr (k_wr (k_wr (k_wr (k_wr (k_wr (k_wr (k_wr (v1 * 64) + (k_rd A (k_rd A v0 28) v1)) * 7) + (k_rd A (k_rd A v0 29) v1)) + 1) * 15) + s0) * 15) + (k_rd A (k_rd A v0 31) v1))) 64))) 1) then 1 else if (k_landd (k_lshr (k_rd A (k_rd A v0 34) (k_wr (Int.tdiv (k_wr (k_wr (k_wr (k_wr (k_wr (k_wr (k_wr (k_wr (k_wr (v1 * 64) + (k_rd A (k_rd A v0 28) v1)) * 7) + (k_rd A (k_rd A v0 29) v1)) + 1) * 15) + s0) * 15) + (k_rd A (k_rd A v0 31) v1))) 64))) (k_wr (Int.tmod (k_wr (k_wr (k_wr (k_wr (k_wr (k_wr (k_wr (k_wr (k_wr (v1 * 64) + (k_rd A (k_rd A v0 28) v1)) * 7) + (k_rd A (k_rd A v0 29) v1)) + 1) * 15) + s0) * 15) + (k_rd A (k_rd A v0 31) v1))) 64))) 1) = 1 then 0 else -1) = 0 then (fX9_wasThere_b87 A v0 (k_wr (k_wr (k_wr (k_wr (k_wr (k_wr (k_wr (k_wr (k_wr (v1 * 64) + (k_rd A (k_rd A v0 28) v1)) * 7) + (k_rd A (k_rd A v0 29) v1)) + 1) * 15) + s0) * 15) + (k_rd A (k_rd A v0 31) v1))) 1) else (fX9_wasThere_b87 A v0 (k_wr (k_wr (k_wr (k_wr (k_wr (k_wr (k_wr (k_wr (k_wr (v1 * 64) + (k_rd A (k_rd A v0 28) v1)) * 7) + (k_rd A (k_rd A v0 29) v1)) + 1) * 15) + s0) * 15) + (k_rd A (k_rd A v0 31) v1))) 0)) else none) else none) else none) else none) else none
def fX9_wasThere_b0 (A : k_H) (v0 v1 : Int) : Option (Int × k_H) := if k_isO A v0 9 then (if k_isA A (k_rd A v0 29) 21 v1 then (if (k_rd A (k_rd A v0 29) v1) < 0 then (fX9_wasThere_b21 A v0 v1 0) else (if k_isA A (k_rd A v0 30) 21 v1 then (fX9_wasThere_b21 A v0 v1 (k_wr (v1 - (k_rd A (k_rd A v0 30) v1)))) else none)) else none) else none
def fX9_wasThere (A : k_H) (x0 x1 : Int) : Option (Int × k_H) := fX9_wasThere_b0 A x0 x1
set_option maxRecDepth 100000 in
theorem okX9_wasThere_b87 (A : k_H) (v0 v3 s0 : Int) (r : Int) (A' : k_H) (h : fX9_wasThere_b87 A v0 v3 s0 = some (r, A')) : k_AW 1 mX9_wasThere 87 [(1, v0), (3, 0), (3, 0), (0, v3), (3, 0)] [(0, s0)] A r A' := by
  unfold fX9_wasThere_b87 at h
  refine k_istore (pc := 87) dX9_wasThere_87 (Nat.le_of_ble_eq_true rfl) rfl ?_
  show k_AW _ _ _ [(1, v0), (3, 0), (3, 0), (0, v3), (0, s0)] _ _ _ _
  refine k_aload_n (pc := 89) (x := v0) dX9_wasThere_89 rfl rfl ?_
  obtain ⟨hc1, h⟩ := k_pk h
  refine k_getf (pc := 90) (t := 1) (fi := 34) dX9_wasThere_90 flX9_95 rfl rfl hc1 ?_
  refine k_iload_n (pc := 93) (x := v3) dX9_wasThere_93 rfl rfl ?_
  refine k_bipush (pc := 94) dX9_wasThere_94 ⟨by decide, by decide⟩ (by decide +kernel) ?_
  refine k_idiv (pc := 96) dX9_wasThere_96 (by decide) ?_
  refine k_aload_n (pc := 97) (x := v0) dX9_wasThere_97 rfl rfl ?_
  refine k_getf (pc := 98) (t := 1) (fi := 34) dX9_wasThere_98 flX9_95 rfl rfl hc1 ?_
  refine k_iload_n (pc := 101) (x := v3) dX9_wasThere_101 rfl rfl ?_
  refine k_bipush (pc := 102) dX9_wasThere_102 ⟨by decide, by decide⟩ (by decide +kernel) ?_
  refine k_idiv (pc := 104) dX9_wasThere_104 (by decide) ?_
  obtain ⟨hc2, h⟩ := k_pk h
  refine k_laload (pc := 105) dX9_wasThere_105 hc2 ?_
  refine k_lconst (pc := 106) (z := 1) dX9_wasThere_106 (by decide +kernel) ⟨by decide, by decide⟩ ?_
  refine k_iload_n (pc := 107) (x := v3) dX9_wasThere_107 rfl rfl ?_
  refine k_bipush (pc := 108) dX9_wasThere_108 ⟨by decide, by decide⟩ (by decide +kernel) ?_
  refine k_irem (pc := 110) dX9_wasThere_110 (by decide) ?_
  refine k_lshl_ (pc := 111) dX9_wasThere_111 ?_
  refine k_lor (pc := 112) dX9_wasThere_112 ?_
  refine k_lastore (pc := 113) dX9_wasThere_113 hc2 ?_
  obtain ⟨A3, eA4, h⟩ := k_pl h
  refine k_hq eA4 ?_
  refine k_iload (pc := 114) (x := s0) dX9_wasThere_114 rfl ?_
  obtain ⟨hc5, h⟩ := k_pk h
  obtain ⟨rfl, rfl⟩ := k_pr h
  exact k_ret (pc := 116) dX9_wasThere_116 rfl rfl (k_nz hc5)
set_option maxRecDepth 100000 in
theorem okX9_wasThere_b21 (A : k_H) (v0 v1 s0 : Int) (r : Int) (A' : k_H) (h : fX9_wasThere_b21 A v0 v1 s0 = some (r, A')) : k_AW 1 mX9_wasThere 21 [(1, v0), (0, v1), (3, 0), (3, 0), (3, 0)] [(0, s0)] A r A' := by
  unfold fX9_wasThere_b21 at h
  refine k_istore_n (pc := 21) dX9_wasThere_21 rfl (Nat.le_of_ble_eq_true rfl) rfl ?_
  show k_AW _ _ _ [(1, v0), (0, v1), (0, s0), (3, 0), (3, 0)] _ _ _ _
  refine k_iload_n (pc := 22) (x := v1) dX9_wasThere_22 rfl rfl ?_
  refine k_bipush (pc := 23) dX9_wasThere_23 ⟨by decide, by decide⟩ (by decide +kernel) ?_
  refine k_imul (pc := 25) dX9_wasThere_25 ?_
  refine k_aload_n (pc := 26) (x := v0) dX9_wasThere_26 rfl rfl ?_
  obtain ⟨hc1, h⟩ := k_pk h
  refine k_getf (pc := 27) (t := 1) (fi := 28) dX9_wasThere_27 flX9_77 rfl rfl hc1 ?_
  refine k_iload_n (pc := 30) (x := v1) dX9_wasThere_30 rfl rfl ?_
  obtain ⟨hc2, h⟩ := k_pk h
  refine k_iaload (pc := 31) dX9_wasThere_31 hc2 ?_
  refine k_iadd (pc := 32) dX9_wasThere_32 ?_
  refine k_bipush (pc := 33) dX9_wasThere_33 ⟨by decide, by decide⟩ (by decide +kernel) ?_
  refine k_imul (pc := 35) dX9_wasThere_35 ?_
  refine k_aload_n (pc := 36) (x := v0) dX9_wasThere_36 rfl rfl ?_
  refine k_getf (pc := 37) (t := 1) (fi := 29) dX9_wasThere_37 flX9_80 rfl rfl hc1 ?_
  refine k_iload_n (pc := 40) (x := v1) dX9_wasThere_40 rfl rfl ?_
  obtain ⟨hc3, h⟩ := k_pk h
  refine k_iaload (pc := 41) dX9_wasThere_41 hc3 ?_
  refine k_iadd (pc := 42) dX9_wasThere_42 ?_
  refine k_iconst (pc := 43) dX9_wasThere_43 ⟨by decide, by decide⟩ ?_
  refine k_iadd (pc := 44) dX9_wasThere_44 ?_
  refine k_bipush (pc := 45) dX9_wasThere_45 ⟨by decide, by decide⟩ (by decide +kernel) ?_
  refine k_imul (pc := 47) dX9_wasThere_47 ?_
  refine k_iload_n (pc := 48) (x := s0) dX9_wasThere_48 rfl rfl ?_
  refine k_iadd (pc := 49) dX9_wasThere_49 ?_
  refine k_bipush (pc := 50) dX9_wasThere_50 ⟨by decide, by decide⟩ (by decide +kernel) ?_
  refine k_imul (pc := 52) dX9_wasThere_52 ?_
  refine k_aload_n (pc := 53) (x := v0) dX9_wasThere_53 rfl rfl ?_
  refine k_getf (pc := 54) (t := 1) (fi := 31) dX9_wasThere_54 flX9_86 rfl rfl hc1 ?_
  refine k_iload_n (pc := 57) (x := v1) dX9_wasThere_57 rfl rfl ?_
  obtain ⟨hc4, h⟩ := k_pk h
  refine k_iaload (pc := 58) dX9_wasThere_58 hc4 ?_
  refine k_iadd (pc := 59) dX9_wasThere_59 ?_
  refine k_istore_n (pc := 60) dX9_wasThere_60 rfl (Nat.le_of_ble_eq_true rfl) rfl ?_
  show k_AW _ _ _ [(1, v0), (0, v1), (0, s0), (0, k_wr (k_wr (k_wr (k_wr (k_wr (k_wr (k_wr (k_wr (k_wr (v1 * 64) + (k_rd A (k_rd A v0 28) v1)) * 7) + (k_rd A (k_rd A v0 29) v1)) + 1) * 15) + s0) * 15) + (k_rd A (k_rd A v0 31) v1))), (3, 0)] _ _ _ _
  refine k_aload_n (pc := 61) (x := v0) dX9_wasThere_61 rfl rfl ?_
  refine k_getf (pc := 62) (t := 1) (fi := 34) dX9_wasThere_62 flX9_95 rfl rfl hc1 ?_
  refine k_iload_n (pc := 65) (x := k_wr (k_wr (k_wr (k_wr (k_wr (k_wr (k_wr (k_wr (k_wr (v1 * 64) + (k_rd A (k_rd A v0 28) v1)) * 7) + (k_rd A (k_rd A v0 29) v1)) + 1) * 15) + s0) * 15) + (k_rd A (k_rd A v0 31) v1))) dX9_wasThere_65 rfl rfl ?_
  refine k_bipush (pc := 66) dX9_wasThere_66 ⟨by decide, by decide⟩ (by decide +kernel) ?_
  refine k_idiv (pc := 68) dX9_wasThere_68 (by decide) ?_
  obtain ⟨hc5, h⟩ := k_pk h
  refine k_laload (pc := 69) dX9_wasThere_69 hc5 ?_
  refine k_iload_n (pc := 70) (x := k_wr (k_wr (k_wr (k_wr (k_wr (k_wr (k_wr (k_wr (k_wr (v1 * 64) + (k_rd A (k_rd A v0 28) v1)) * 7) + (k_rd A (k_rd A v0 29) v1)) + 1) * 15) + s0) * 15) + (k_rd A (k_rd A v0 31) v1))) dX9_wasThere_70 rfl rfl ?_
  refine k_bipush (pc := 71) dX9_wasThere_71 ⟨by decide, by decide⟩ (by decide +kernel) ?_
  refine k_irem (pc := 73) dX9_wasThere_73 (by decide) ?_
  refine k_lshr_ (pc := 74) dX9_wasThere_74 ?_
  refine k_lconst (pc := 75) (z := 1) dX9_wasThere_75 (by decide +kernel) ⟨by decide, by decide⟩ ?_
  refine k_land (pc := 76) dX9_wasThere_76 ?_
  refine k_lconst (pc := 77) (z := 1) dX9_wasThere_77 (by decide +kernel) ⟨by decide, by decide⟩ ?_
  refine k_lcmp (pc := 78) dX9_wasThere_78 ?_
  refine k_if_ne (pc := 79) (tgt := 86) dX9_wasThere_79 rfl (fun c6 => ?_) (fun c6 => ?_)
  · rw [if_neg c6] at h
    refine k_iconst (pc := 86) dX9_wasThere_86 ⟨by decide, by decide⟩ ?_
    refine k_sub (ls' := [(1, v0), (3, 0), (3, 0), (0, k_wr (k_wr (k_wr (k_wr (k_wr (k_wr (k_wr (k_wr (k_wr (v1 * 64) + (k_rd A (k_rd A v0 28) v1)) * 7) + (k_rd A (k_rd A v0 29) v1)) + 1) * 15) + s0) * 15) + (k_rd A (k_rd A v0 31) v1))), (3, 0)]) (k_sbl_ok _ _ ⟨Or.inr rfl, Or.inl rfl, Or.inl rfl, Or.inr rfl, Or.inl rfl, trivial⟩) ?_
    exact okX9_wasThere_b87  _ _ _ _ _ _ h
  · rw [if_pos (Classical.not_not.mp c6)] at h
    refine k_iconst (pc := 82) dX9_wasThere_82 ⟨by decide, by decide⟩ ?_
    refine k_goto (pc := 83) (tgt := 87) dX9_wasThere_83 rfl ?_
    refine k_sub (ls' := [(1, v0), (3, 0), (3, 0), (0, k_wr (k_wr (k_wr (k_wr (k_wr (k_wr (k_wr (k_wr (k_wr (v1 * 64) + (k_rd A (k_rd A v0 28) v1)) * 7) + (k_rd A (k_rd A v0 29) v1)) + 1) * 15) + s0) * 15) + (k_rd A (k_rd A v0 31) v1))), (3, 0)]) (k_sbl_ok _ _ ⟨Or.inr rfl, Or.inl rfl, Or.inl rfl, Or.inr rfl, Or.inl rfl, trivial⟩) ?_
    exact okX9_wasThere_b87  _ _ _ _ _ _ h
set_option maxRecDepth 100000 in
theorem okX9_wasThere_b0 (A : k_H) (v0 v1 : Int) (r : Int) (A' : k_H) (h : fX9_wasThere_b0 A v0 v1 = some (r, A')) : k_AW 1 mX9_wasThere 0 [(1, v0), (0, v1), (3, 0), (3, 0), (3, 0)] [] A r A' := by
  unfold fX9_wasThere_b0 at h
  refine k_aload_n (pc := 0) (x := v0) dX9_wasThere_0 rfl rfl ?_
  obtain ⟨hc1, h⟩ := k_pk h
  refine k_getf (pc := 1) (t := 1) (fi := 29) dX9_wasThere_1 flX9_80 rfl rfl hc1 ?_
  refine k_iload_n (pc := 4) (x := v1) dX9_wasThere_4 rfl rfl ?_
  obtain ⟨hc2, h⟩ := k_pk h
  refine k_iaload (pc := 5) dX9_wasThere_5 hc2 ?_
  refine k_if_ge (pc := 6) (tgt := 13) dX9_wasThere_6 rfl (fun c3 => ?_) (fun c3 => ?_)
  · rw [if_neg (Int.not_lt.mpr c3)] at h
    refine k_iload_n (pc := 13) (x := v1) dX9_wasThere_13 rfl rfl ?_
    refine k_aload_n (pc := 14) (x := v0) dX9_wasThere_14 rfl rfl ?_
    refine k_getf (pc := 15) (t := 1) (fi := 30) dX9_wasThere_15 flX9_83 rfl rfl hc1 ?_
    refine k_iload_n (pc := 18) (x := v1) dX9_wasThere_18 rfl rfl ?_
    obtain ⟨hc4, h⟩ := k_pk h
    refine k_iaload (pc := 19) dX9_wasThere_19 hc4 ?_
    refine k_isub (pc := 20) dX9_wasThere_20 ?_
    refine k_sub (ls' := [(1, v0), (0, v1), (3, 0), (3, 0), (3, 0)]) (k_sbl_ok _ _ ⟨Or.inr rfl, Or.inr rfl, Or.inl rfl, Or.inl rfl, Or.inl rfl, trivial⟩) ?_
    exact okX9_wasThere_b21  _ _ _ _ _ _ h
  · rw [if_pos (Int.not_le.mp c3)] at h
    refine k_iconst (pc := 9) dX9_wasThere_9 ⟨by decide, by decide⟩ ?_
    refine k_goto (pc := 10) (tgt := 21) dX9_wasThere_10 rfl ?_
    refine k_sub (ls' := [(1, v0), (0, v1), (3, 0), (3, 0), (3, 0)]) (k_sbl_ok _ _ ⟨Or.inr rfl, Or.inr rfl, Or.inl rfl, Or.inl rfl, Or.inl rfl, trivial⟩) ?_
    exact okX9_wasThere_b21  _ _ _ _ _ _ h
theorem okX9_wasThere {A : k_H} {x0 x1 : Int} {r : Int} {A1 : k_H} (h : fX9_wasThere A x0 x1 = some (r, A1)) : k_AM 1 mX9_wasThere [(1, x0), (0, x1)] A r A1 :=
  k_AM_of2 (ls := [(1, x0), (0, x1), (3, 0), (3, 0), (3, 0)]) (Or.inl (by decide +kernel)) (by decide +kernel) (by decide) rfl (Nat.le_of_ble_eq_true rfl) ⟨Or.inr rfl, Or.inr rfl, rfl, rfl, rfl, trivial⟩ (okX9_wasThere_b0 A x0 x1 r A1 h)
/-! X9_stand -/
def fX9_stand_b0 (A : k_H) (v0 v1 v2 v3 v4 v5 v6 : Int) : Option (Int × k_H) := if k_isO A v0 9 then (if k_isA A (k_rd A v0 28) 21 v1 then (k_lt (k_wt A (k_rd A v0 28) v1 v2) fun A3 => if k_isA A3 (k_rd A3 v0 29) 21 v1 then (k_lt (k_wt A3 (k_rd A3 v0 29) v1 v3) fun A7 => if k_isA A7 (k_rd A7 v0 30) 21 v1 then (k_lt (k_wt A7 (k_rd A7 v0 30) v1 v4) fun A11 => if k_isA A11 (k_rd A11 v0 31) 21 v1 then (k_lt (k_wt A11 (k_rd A11 v0 31) v1 v5) fun A15 => if k_isA A15 (k_rd A15 v0 32) 21 v1 then (k_lt (k_wt A15 (k_rd A15 v0 32) v1 v6) fun A19 => some (0, A19)) else none) else none) else none) else none) else none) else none
def fX9_stand (A : k_H) (x0 x1 x2 x3 x4 x5 x6 : Int) : Option (Int × k_H) := fX9_stand_b0 A x0 x1 x2 x3 x4 x5 x6
set_option maxRecDepth 100000 in
theorem okX9_stand_b0 (A : k_H) (v0 v1 v2 v3 v4 v5 v6 : Int) (r : Int) (A' : k_H) (h : fX9_stand_b0 A v0 v1 v2 v3 v4 v5 v6 = some (r, A')) : k_AW 1 mX9_stand 0 [(1, v0), (0, v1), (0, v2), (0, v3), (0, v4), (0, v5), (0, v6)] [] A r A' := by
  unfold fX9_stand_b0 at h
  refine k_aload_n (pc := 0) (x := v0) dX9_stand_0 rfl rfl ?_
  obtain ⟨hc1, h⟩ := k_pk h
  refine k_getf (pc := 1) (t := 1) (fi := 28) dX9_stand_1 flX9_77 rfl rfl hc1 ?_
  refine k_iload_n (pc := 4) (x := v1) dX9_stand_4 rfl rfl ?_
  refine k_iload_n (pc := 5) (x := v2) dX9_stand_5 rfl rfl ?_
  obtain ⟨hc2, h⟩ := k_pk h
  refine k_iastore (pc := 6) dX9_stand_6 hc2 ?_
  obtain ⟨A3, eA4, h⟩ := k_pl h
  refine k_hq eA4 ?_
  refine k_aload_n (pc := 7) (x := v0) dX9_stand_7 rfl rfl ?_
  have hf5 := k_oW eA4 hc1
  refine k_getf (pc := 8) (t := 1) (fi := 29) dX9_stand_8 flX9_80 rfl rfl hf5 ?_
  refine k_iload_n (pc := 11) (x := v1) dX9_stand_11 rfl rfl ?_
  refine k_iload_n (pc := 12) (x := v3) dX9_stand_12 rfl rfl ?_
  obtain ⟨hc6, h⟩ := k_pk h
  refine k_iastore (pc := 13) dX9_stand_13 hc6 ?_
  obtain ⟨A7, eA8, h⟩ := k_pl h
  refine k_hq eA8 ?_
  refine k_aload_n (pc := 14) (x := v0) dX9_stand_14 rfl rfl ?_
  have hf9 := k_oW eA8 hf5
  refine k_getf (pc := 15) (t := 1) (fi := 30) dX9_stand_15 flX9_83 rfl rfl hf9 ?_
  refine k_iload_n (pc := 18) (x := v1) dX9_stand_18 rfl rfl ?_
  refine k_iload (pc := 19) (x := v4) dX9_stand_19 rfl ?_
  obtain ⟨hc10, h⟩ := k_pk h
  refine k_iastore (pc := 21) dX9_stand_21 hc10 ?_
  obtain ⟨A11, eA12, h⟩ := k_pl h
  refine k_hq eA12 ?_
  refine k_aload_n (pc := 22) (x := v0) dX9_stand_22 rfl rfl ?_
  have hf13 := k_oW eA12 hf9
  refine k_getf (pc := 23) (t := 1) (fi := 31) dX9_stand_23 flX9_86 rfl rfl hf13 ?_
  refine k_iload_n (pc := 26) (x := v1) dX9_stand_26 rfl rfl ?_
  refine k_iload (pc := 27) (x := v5) dX9_stand_27 rfl ?_
  obtain ⟨hc14, h⟩ := k_pk h
  refine k_iastore (pc := 29) dX9_stand_29 hc14 ?_
  obtain ⟨A15, eA16, h⟩ := k_pl h
  refine k_hq eA16 ?_
  refine k_aload_n (pc := 30) (x := v0) dX9_stand_30 rfl rfl ?_
  have hf17 := k_oW eA16 hf13
  refine k_getf (pc := 31) (t := 1) (fi := 32) dX9_stand_31 flX9_89 rfl rfl hf17 ?_
  refine k_iload_n (pc := 34) (x := v1) dX9_stand_34 rfl rfl ?_
  refine k_iload (pc := 35) (x := v6) dX9_stand_35 rfl ?_
  obtain ⟨hc18, h⟩ := k_pk h
  refine k_iastore (pc := 37) dX9_stand_37 hc18 ?_
  obtain ⟨A19, eA20, h⟩ := k_pl h
  refine k_hq eA20 ?_
  obtain ⟨rfl, rfl⟩ := k_pr h
  exact k_retv (pc := 38) dX9_stand_38 rfl
theorem okX9_stand {A : k_H} {x0 x1 x2 x3 x4 x5 x6 : Int} {r : Int} {A1 : k_H} (h : fX9_stand A x0 x1 x2 x3 x4 x5 x6 = some (r, A1)) : k_AM 1 mX9_stand [(1, x0), (0, x1), (0, x2), (0, x3), (0, x4), (0, x5), (0, x6)] A r A1 :=
  k_AM_of2 (ls := [(1, x0), (0, x1), (0, x2), (0, x3), (0, x4), (0, x5), (0, x6)]) (Or.inl (by decide +kernel)) (by decide +kernel) (by decide) rfl (Nat.le_of_ble_eq_true rfl) ⟨Or.inr rfl, Or.inr rfl, Or.inr rfl, Or.inr rfl, Or.inr rfl, Or.inr rfl, Or.inr rfl, trivial⟩ (okX9_stand_b0 A x0 x1 x2 x3 x4 x5 x6 r A1 h)
/-! X9_rest -/
def fX9_rest_b50 (k6 : k_H → Int → Int → Int → Int → Int → Int → Option (Int × k_H)) (A : k_H) (v0 v1 v2 v3 v5 s0 s1 : Int) : Option (Int × k_H) := k6 A v0 v1 v2 v3 (k_wr (s0 + s1)) (k_wr (v5 + 1))
def fX9_rest_h6 : Nat → k_H → Int → Int → Int → Int → Int → Int → Option (Int × k_H)
  | 0, _, _, _, _, _, _, _ => none
  | N + 1, A, v0, v1, v2, v3, v4, v5 => if v5 < v3 then (if k_isO A v0 9 then (if k_isA A (k_rd A v0 28) 21 v2 then (if (k_and (k_shr (k_rd A (k_rd A v0 28) v2) v5) 1) = 1 then (fX9_rest_b50 (fX9_rest_h6 N) A v0 v1 v2 v3 v5 v4 0) else (if k_isA A (k_rd A v0 26) 21 v5 then (if k_isA A (k_rd A v0 19) 21 (k_wr (k_wr (6 * (k_rd A (k_rd A v0 26) v5)) + v1)) then (fX9_rest_b50 (fX9_rest_h6 N) A v0 v1 v2 v3 v5 v4 (k_rd A (k_rd A v0 19) (k_wr (k_wr (6 * (k_rd A (k_rd A v0 26) v5)) + v1)))) else none) else none)) else none) else none) else (some (v4, A))
def fX9_rest_b0 (A : k_H) (v0 v1 v2 v3 : Int) : Option (Int × k_H) := fX9_rest_h6 k_FU A v0 v1 v2 v3 0 0
def fX9_rest (A : k_H) (x0 x1 x2 x3 : Int) : Option (Int × k_H) := fX9_rest_b0 A x0 x1 x2 x3
set_option maxRecDepth 100000 in
theorem okX9_rest_b50 (k6 : k_H → Int → Int → Int → Int → Int → Int → Option (Int × k_H)) (hk6 : ∀ (A : k_H) (v0 v1 v2 v3 v4 v5 : Int) (r : Int) (A' : k_H), k6 A v0 v1 v2 v3 v4 v5 = some (r, A') → k_AW 1 mX9_rest 6 [(1, v0), (0, v1), (0, v2), (0, v3), (0, v4), (0, v5)] [] A r A') (A : k_H) (v0 v1 v2 v3 v5 s0 s1 : Int) (r : Int) (A' : k_H) (h : fX9_rest_b50 k6 A v0 v1 v2 v3 v5 s0 s1 = some (r, A')) : k_AW 1 mX9_rest 50 [(1, v0), (0, v1), (0, v2), (0, v3), (3, 0), (0, v5)] [(0, s1), (0, s0)] A r A' := by
  unfold fX9_rest_b50 at h
  refine k_iadd (pc := 50) dX9_rest_50 ?_
  refine k_istore (pc := 51) dX9_rest_51 (Nat.le_of_ble_eq_true rfl) rfl ?_
  show k_AW _ _ _ [(1, v0), (0, v1), (0, v2), (0, v3), (0, k_wr (s0 + s1)), (0, v5)] _ _ _ _
  refine k_iinc (pc := 53) (x := v5) dX9_rest_53 (Nat.le_of_ble_eq_true rfl) rfl rfl ?_
  show k_AW _ _ _ [(1, v0), (0, v1), (0, v2), (0, v3), (0, k_wr (s0 + s1)), (0, k_wr (v5 + 1))] _ _ _ _
  refine k_goto (pc := 56) (tgt := 6) dX9_rest_56 rfl ?_
  refine k_sub (ls' := [(1, v0), (0, v1), (0, v2), (0, v3), (0, k_wr (s0 + s1)), (0, k_wr (v5 + 1))]) (k_sbl_ok _ _ ⟨Or.inr rfl, Or.inr rfl, Or.inr rfl, Or.inr rfl, Or.inr rfl, Or.inr rfl, trivial⟩) ?_
  exact hk6 _ _ _ _ _ _ _ _ _ h
set_option maxRecDepth 100000 in
theorem okX9_rest_h6 : ∀ (N : Nat) (A : k_H) (v0 v1 v2 v3 v4 v5 : Int) (r : Int) (A' : k_H), fX9_rest_h6 N A v0 v1 v2 v3 v4 v5 = some (r, A') → k_AW 1 mX9_rest 6 [(1, v0), (0, v1), (0, v2), (0, v3), (0, v4), (0, v5)] [] A r A' := by
  intro N
  induction N with
  | zero => intro A v0 v1 v2 v3 v4 v5 r A' h; exact absurd h (by simp [fX9_rest_h6])
  | succ N ih =>
    intro A v0 v1 v2 v3 v4 v5 r A' h
    rw [fX9_rest_h6] at h
    refine k_iload (pc := 6) (x := v5) dX9_rest_6 rfl ?_
    refine k_iload_n (pc := 8) (x := v3) dX9_rest_8 rfl rfl ?_
    refine k_icmp_ge (pc := 9) (tgt := 59) dX9_rest_9 rfl (fun c1 => ?_) (fun c1 => ?_)
    · rw [if_neg (Int.not_lt.mpr c1)] at h
      refine k_iload (pc := 59) (x := v4) dX9_rest_59 rfl ?_
      obtain ⟨rfl, rfl⟩ := k_pr h
      exact k_ret (pc := 61) dX9_rest_61 rfl rfl rfl
    · rw [if_pos (Int.not_le.mp c1)] at h
      refine k_iload (pc := 12) (x := v4) dX9_rest_12 rfl ?_
      refine k_aload_n (pc := 14) (x := v0) dX9_rest_14 rfl rfl ?_
      obtain ⟨hc2, h⟩ := k_pk h
      refine k_getf (pc := 15) (t := 1) (fi := 28) dX9_rest_15 flX9_77 rfl rfl hc2 ?_
      refine k_iload_n (pc := 18) (x := v2) dX9_rest_18 rfl rfl ?_
      obtain ⟨hc3, h⟩ := k_pk h
      refine k_iaload (pc := 19) dX9_rest_19 hc3 ?_
      refine k_iload (pc := 20) (x := v5) dX9_rest_20 rfl ?_
      refine k_ishr (pc := 22) dX9_rest_22 ?_
      refine k_iconst (pc := 23) dX9_rest_23 ⟨by decide, by decide⟩ ?_
      refine k_iand (pc := 24) dX9_rest_24 ?_
      refine k_iconst (pc := 25) dX9_rest_25 ⟨by decide, by decide⟩ ?_
      refine k_icmp_ne (pc := 26) (tgt := 33) dX9_rest_26 rfl (fun c4 => ?_) (fun c4 => ?_)
      · rw [if_neg c4] at h
        refine k_aload_n (pc := 33) (x := v0) dX9_rest_33 rfl rfl ?_
        refine k_getf (pc := 34) (t := 1) (fi := 19) dX9_rest_34 flX9_56 rfl rfl hc2 ?_
        refine k_bipush (pc := 37) dX9_rest_37 ⟨by decide, by decide⟩ (by decide +kernel) ?_
        refine k_aload_n (pc := 39) (x := v0) dX9_rest_39 rfl rfl ?_
        refine k_getf (pc := 40) (t := 1) (fi := 26) dX9_rest_40 flX9_71 rfl rfl hc2 ?_
        refine k_iload (pc := 43) (x := v5) dX9_rest_43 rfl ?_
        obtain ⟨hc5, h⟩ := k_pk h
        refine k_iaload (pc := 45) dX9_rest_45 hc5 ?_
        refine k_imul (pc := 46) dX9_rest_46 ?_
        refine k_iload_n (pc := 47) (x := v1) dX9_rest_47 rfl rfl ?_
        refine k_iadd (pc := 48) dX9_rest_48 ?_
        obtain ⟨hc6, h⟩ := k_pk h
        refine k_iaload (pc := 49) dX9_rest_49 hc6 ?_
        refine k_sub (ls' := [(1, v0), (0, v1), (0, v2), (0, v3), (3, 0), (0, v5)]) (k_sbl_ok _ _ ⟨Or.inr rfl, Or.inr rfl, Or.inr rfl, Or.inr rfl, Or.inl rfl, Or.inr rfl, trivial⟩) ?_
        exact okX9_rest_b50 (fX9_rest_h6 N) ih _ _ _ _ _ _ _ _ _ _ h
      · rw [if_pos (Classical.not_not.mp c4)] at h
        refine k_iconst (pc := 29) dX9_rest_29 ⟨by decide, by decide⟩ ?_
        refine k_goto (pc := 30) (tgt := 50) dX9_rest_30 rfl ?_
        refine k_sub (ls' := [(1, v0), (0, v1), (0, v2), (0, v3), (3, 0), (0, v5)]) (k_sbl_ok _ _ ⟨Or.inr rfl, Or.inr rfl, Or.inr rfl, Or.inr rfl, Or.inl rfl, Or.inr rfl, trivial⟩) ?_
        exact okX9_rest_b50 (fX9_rest_h6 N) ih _ _ _ _ _ _ _ _ _ _ h
set_option maxRecDepth 100000 in
theorem okX9_rest_b0 (A : k_H) (v0 v1 v2 v3 : Int) (r : Int) (A' : k_H) (h : fX9_rest_b0 A v0 v1 v2 v3 = some (r, A')) : k_AW 1 mX9_rest 0 [(1, v0), (0, v1), (0, v2), (0, v3), (3, 0), (3, 0)] [] A r A' := by
  unfold fX9_rest_b0 at h
  refine k_iconst (pc := 0) dX9_rest_0 ⟨by decide, by decide⟩ ?_
  refine k_istore (pc := 1) dX9_rest_1 (Nat.le_of_ble_eq_true rfl) rfl ?_
  show k_AW _ _ _ [(1, v0), (0, v1), (0, v2), (0, v3), (0, 0), (3, 0)] _ _ _ _
  refine k_iconst (pc := 3) dX9_rest_3 ⟨by decide, by decide⟩ ?_
  refine k_istore (pc := 4) dX9_rest_4 (Nat.le_of_ble_eq_true rfl) rfl ?_
  show k_AW _ _ _ [(1, v0), (0, v1), (0, v2), (0, v3), (0, 0), (0, 0)] _ _ _ _
  refine k_sub (ls' := [(1, v0), (0, v1), (0, v2), (0, v3), (0, 0), (0, 0)]) (k_sbl_ok _ _ ⟨Or.inr rfl, Or.inr rfl, Or.inr rfl, Or.inr rfl, Or.inr rfl, Or.inr rfl, trivial⟩) ?_
  exact okX9_rest_h6  _ _ _ _ _ _ _ _ _ _ h
theorem okX9_rest {A : k_H} {x0 x1 x2 x3 : Int} {r : Int} {A1 : k_H} (h : fX9_rest A x0 x1 x2 x3 = some (r, A1)) : k_AM 1 mX9_rest [(1, x0), (0, x1), (0, x2), (0, x3)] A r A1 :=
  k_AM_of2 (ls := [(1, x0), (0, x1), (0, x2), (0, x3), (3, 0), (3, 0)]) (Or.inl (by decide +kernel)) (by decide +kernel) (by decide) rfl (Nat.le_of_ble_eq_true rfl) ⟨Or.inr rfl, Or.inr rfl, Or.inr rfl, Or.inr rfl, rfl, rfl, trivial⟩ (okX9_rest_b0 A x0 x1 x2 x3 r A1 h)
/-! X9_peek -/
def fX9_peek_b0 (A : k_H) (v0 : Int) : Option (Int × k_H) := if k_isO A v0 9 then (if (k_rd A v0 4) < (k_rd A v0 3) then (if k_isA A (k_rd A v0 1) 20 (k_rd A v0 4) then (some ((k_and (k_rd A (k_rd A v0 1) (k_rd A v0 4)) 255), A)) else none) else (some ((-1), A))) else none
def fX9_peek (A : k_H) (x0 : Int) : Option (Int × k_H) := fX9_peek_b0 A x0
set_option maxRecDepth 100000 in
theorem okX9_peek_b0 (A : k_H) (v0 : Int) (r : Int) (A' : k_H) (h : fX9_peek_b0 A v0 = some (r, A')) : k_AW 1 mX9_peek 0 [(1, v0)] [] A r A' := by
  unfold fX9_peek_b0 at h
  refine k_aload_n (pc := 0) (x := v0) dX9_peek_0 rfl rfl ?_
  obtain ⟨hc1, h⟩ := k_pk h
  refine k_getf (pc := 1) (t := 0) (fi := 4) dX9_peek_1 flX9_116 rfl rfl hc1 ?_
  refine k_aload_n (pc := 4) (x := v0) dX9_peek_4 rfl rfl ?_
  refine k_getf (pc := 5) (t := 0) (fi := 3) dX9_peek_5 flX9_113 rfl rfl hc1 ?_
  refine k_icmp_ge (pc := 8) (tgt := 27) dX9_peek_8 rfl (fun c2 => ?_) (fun c2 => ?_)
  · rw [if_neg (Int.not_lt.mpr c2)] at h
    refine k_iconst (pc := 27) dX9_peek_27 ⟨by decide, by decide⟩ ?_
    obtain ⟨rfl, rfl⟩ := k_pr h
    exact k_ret (pc := 28) dX9_peek_28 rfl rfl rfl
  · rw [if_pos (Int.not_le.mp c2)] at h
    refine k_aload_n (pc := 11) (x := v0) dX9_peek_11 rfl rfl ?_
    refine k_getf (pc := 12) (t := 1) (fi := 1) dX9_peek_12 flX9_7 rfl rfl hc1 ?_
    refine k_aload_n (pc := 15) (x := v0) dX9_peek_15 rfl rfl ?_
    refine k_getf (pc := 16) (t := 0) (fi := 4) dX9_peek_16 flX9_116 rfl rfl hc1 ?_
    obtain ⟨hc3, h⟩ := k_pk h
    refine k_baload (pc := 19) dX9_peek_19 hc3 ?_
    refine k_sipush (pc := 20) dX9_peek_20 ⟨by decide, by decide⟩ (by decide +kernel) ?_
    refine k_iand (pc := 23) dX9_peek_23 ?_
    refine k_goto (pc := 24) (tgt := 28) dX9_peek_24 rfl ?_
    obtain ⟨rfl, rfl⟩ := k_pr h
    exact k_ret (pc := 28) dX9_peek_28 rfl rfl rfl
theorem okX9_peek {A : k_H} {x0 : Int} {r : Int} {A1 : k_H} (h : fX9_peek A x0 = some (r, A1)) : k_AM 1 mX9_peek [(1, x0)] A r A1 :=
  k_AM_of2 (ls := [(1, x0)]) (Or.inl (by decide +kernel)) (by decide +kernel) (by decide) rfl (Nat.le_of_ble_eq_true rfl) ⟨Or.inr rfl, trivial⟩ (okX9_peek_b0 A x0 r A1 h)
/-! X9_isSmall -/
def fX9_isSmall_b0 (A : k_H) (v0 : Int) : Option (Int × k_H) := if 97 ≤ v0 then (if v0 ≤ 122 then (some (1, A)) else (some (0, A))) else (some (0, A))
def fX9_isSmall (A : k_H) (x0 : Int) : Option (Int × k_H) := fX9_isSmall_b0 A x0
set_option maxRecDepth 100000 in
theorem okX9_isSmall_b0 (A : k_H) (v0 : Int) (r : Int) (A' : k_H) (h : fX9_isSmall_b0 A v0 = some (r, A')) : k_AW 1 mX9_isSmall 0 [(0, v0)] [] A r A' := by
  unfold fX9_isSmall_b0 at h
  refine k_iload_n (pc := 0) (x := v0) dX9_isSmall_0 rfl rfl ?_
  refine k_bipush (pc := 1) dX9_isSmall_1 ⟨by decide, by decide⟩ (by decide +kernel) ?_
  refine k_icmp_lt (pc := 3) (tgt := 16) dX9_isSmall_3 rfl (fun c1 => ?_) (fun c1 => ?_)
  · rw [if_neg (Int.not_le.mpr c1)] at h
    refine k_iconst (pc := 16) dX9_isSmall_16 ⟨by decide, by decide⟩ ?_
    obtain ⟨rfl, rfl⟩ := k_pr h
    exact k_ret (pc := 17) dX9_isSmall_17 rfl rfl (by decide +kernel)
  · rw [if_pos (Int.not_lt.mp c1)] at h
    refine k_iload_n (pc := 6) (x := v0) dX9_isSmall_6 rfl rfl ?_
    refine k_bipush (pc := 7) dX9_isSmall_7 ⟨by decide, by decide⟩ (by decide +kernel) ?_
    refine k_icmp_gt (pc := 9) (tgt := 16) dX9_isSmall_9 rfl (fun c2 => ?_) (fun c2 => ?_)
    · rw [if_neg (Int.not_le.mpr c2)] at h
      refine k_iconst (pc := 16) dX9_isSmall_16 ⟨by decide, by decide⟩ ?_
      obtain ⟨rfl, rfl⟩ := k_pr h
      exact k_ret (pc := 17) dX9_isSmall_17 rfl rfl (by decide +kernel)
    · rw [if_pos (Int.not_lt.mp c2)] at h
      refine k_iconst (pc := 12) dX9_isSmall_12 ⟨by decide, by decide⟩ ?_
      refine k_goto (pc := 13) (tgt := 17) dX9_isSmall_13 rfl ?_
      obtain ⟨rfl, rfl⟩ := k_pr h
      exact k_ret (pc := 17) dX9_isSmall_17 rfl rfl (by decide +kernel)
theorem okX9_isSmall {A : k_H} {x0 : Int} {r : Int} {A1 : k_H} (h : fX9_isSmall A x0 = some (r, A1)) : k_AM 1 mX9_isSmall [(0, x0)] A r A1 :=
  k_AM_of2 (ls := [(0, x0)]) (Or.inl (by decide +kernel)) (by decide +kernel) (by decide) rfl (Nat.le_of_ble_eq_true rfl) ⟨Or.inr rfl, trivial⟩ (okX9_isSmall_b0 A x0 r A1 h)
/-! X9_isDigit -/
def fX9_isDigit_b0 (A : k_H) (v0 : Int) : Option (Int × k_H) := if 48 ≤ v0 then (if v0 ≤ 57 then (some (1, A)) else (some (0, A))) else (some (0, A))
def fX9_isDigit (A : k_H) (x0 : Int) : Option (Int × k_H) := fX9_isDigit_b0 A x0
set_option maxRecDepth 100000 in
theorem okX9_isDigit_b0 (A : k_H) (v0 : Int) (r : Int) (A' : k_H) (h : fX9_isDigit_b0 A v0 = some (r, A')) : k_AW 1 mX9_isDigit 0 [(0, v0)] [] A r A' := by
  unfold fX9_isDigit_b0 at h
  refine k_iload_n (pc := 0) (x := v0) dX9_isDigit_0 rfl rfl ?_
  refine k_bipush (pc := 1) dX9_isDigit_1 ⟨by decide, by decide⟩ (by decide +kernel) ?_
  refine k_icmp_lt (pc := 3) (tgt := 16) dX9_isDigit_3 rfl (fun c1 => ?_) (fun c1 => ?_)
  · rw [if_neg (Int.not_le.mpr c1)] at h
    refine k_iconst (pc := 16) dX9_isDigit_16 ⟨by decide, by decide⟩ ?_
    obtain ⟨rfl, rfl⟩ := k_pr h
    exact k_ret (pc := 17) dX9_isDigit_17 rfl rfl (by decide +kernel)
  · rw [if_pos (Int.not_lt.mp c1)] at h
    refine k_iload_n (pc := 6) (x := v0) dX9_isDigit_6 rfl rfl ?_
    refine k_bipush (pc := 7) dX9_isDigit_7 ⟨by decide, by decide⟩ (by decide +kernel) ?_
    refine k_icmp_gt (pc := 9) (tgt := 16) dX9_isDigit_9 rfl (fun c2 => ?_) (fun c2 => ?_)
    · rw [if_neg (Int.not_le.mpr c2)] at h
      refine k_iconst (pc := 16) dX9_isDigit_16 ⟨by decide, by decide⟩ ?_
      obtain ⟨rfl, rfl⟩ := k_pr h
      exact k_ret (pc := 17) dX9_isDigit_17 rfl rfl (by decide +kernel)
    · rw [if_pos (Int.not_lt.mp c2)] at h
      refine k_iconst (pc := 12) dX9_isDigit_12 ⟨by decide, by decide⟩ ?_
      refine k_goto (pc := 13) (tgt := 17) dX9_isDigit_13 rfl ?_
      obtain ⟨rfl, rfl⟩ := k_pr h
      exact k_ret (pc := 17) dX9_isDigit_17 rfl rfl (by decide +kernel)
theorem okX9_isDigit {A : k_H} {x0 : Int} {r : Int} {A1 : k_H} (h : fX9_isDigit A x0 = some (r, A1)) : k_AM 1 mX9_isDigit [(0, x0)] A r A1 :=
  k_AM_of2 (ls := [(0, x0)]) (Or.inl (by decide +kernel)) (by decide +kernel) (by decide) rfl (Nat.le_of_ble_eq_true rfl) ⟨Or.inr rfl, trivial⟩ (okX9_isDigit_b0 A x0 r A1 h)
/-! X9_wrong -/
def fX9_wrong_b0 (A : k_H) (v0 v1 v2 : Int) : Option (Int × k_H) := if k_isO A v0 9 then (k_lt (k_wt A v0 39 v1) fun A2 => k_lt (k_wt A2 v0 40 v2) fun A5 => some (0, A5)) else none
def fX9_wrong (A : k_H) (x0 x1 x2 : Int) : Option (Int × k_H) := fX9_wrong_b0 A x0 x1 x2
set_option maxRecDepth 100000 in
theorem okX9_wrong_b0 (A : k_H) (v0 v1 v2 : Int) (r : Int) (A' : k_H) (h : fX9_wrong_b0 A v0 v1 v2 = some (r, A')) : k_AW 1 mX9_wrong 0 [(1, v0), (0, v1), (0, v2)] [] A r A' := by
  unfold fX9_wrong_b0 at h
  refine k_aload_n (pc := 0) (x := v0) dX9_wrong_0 rfl rfl ?_
  refine k_iload_n (pc := 1) (x := v1) dX9_wrong_1 rfl rfl ?_
  obtain ⟨hc1, h⟩ := k_pk h
  refine k_putf (pc := 2) (t := 0) (fi := 39) dX9_wrong_2 flX9_200 rfl rfl hc1 rfl ?_
  obtain ⟨A2, eA3, h⟩ := k_pl h
  refine k_hq eA3 ?_
  refine k_aload_n (pc := 5) (x := v0) dX9_wrong_5 rfl rfl ?_
  refine k_iload_n (pc := 6) (x := v2) dX9_wrong_6 rfl rfl ?_
  have hf4 := k_oW eA3 hc1
  refine k_putf (pc := 7) (t := 0) (fi := 40) dX9_wrong_7 flX9_203 rfl rfl hf4 rfl ?_
  obtain ⟨A5, eA6, h⟩ := k_pl h
  refine k_hq eA6 ?_
  refine k_iconst (pc := 10) dX9_wrong_10 ⟨by decide, by decide⟩ ?_
  obtain ⟨rfl, rfl⟩ := k_pr h
  exact k_ret (pc := 11) dX9_wrong_11 rfl rfl (by decide +kernel)
theorem okX9_wrong {A : k_H} {x0 x1 x2 : Int} {r : Int} {A1 : k_H} (h : fX9_wrong A x0 x1 x2 = some (r, A1)) : k_AM 1 mX9_wrong [(1, x0), (0, x1), (0, x2)] A r A1 :=
  k_AM_of2 (ls := [(1, x0), (0, x1), (0, x2)]) (Or.inl (by decide +kernel)) (by decide +kernel) (by decide) rfl (Nat.le_of_ble_eq_true rfl) ⟨Or.inr rfl, Or.inr rfl, Or.inr rfl, trivial⟩ (okX9_wrong_b0 A x0 x1 x2 r A1 h)
/-! X9_isWord -/
def fX9_isWord_b0 (A : k_H) (v0 v1 : Int) : Option (Int × k_H) := if k_isO A v0 9 then (if (k_rd A v0 36) = 1 then (if (if v1 < (k_rd A v0 42) then 1 else if (k_rd A v0 42) = v1 then 0 else -1) = 0 then (some (1, A)) else (some (0, A))) else (some (0, A))) else none
def fX9_isWord (A : k_H) (x0 x1 : Int) : Option (Int × k_H) := fX9_isWord_b0 A x0 x1
set_option maxRecDepth 100000 in
theorem okX9_isWord_b0 (A : k_H) (v0 v1 : Int) (r : Int) (A' : k_H) (h : fX9_isWord_b0 A v0 v1 = some (r, A')) : k_AW 1 mX9_isWord 0 [(1, v0), (2, v1), (3, 0)] [] A r A' := by
  unfold fX9_isWord_b0 at h
  refine k_aload_n (pc := 0) (x := v0) dX9_isWord_0 rfl rfl ?_
  obtain ⟨hc1, h⟩ := k_pk h
  refine k_getf (pc := 1) (t := 0) (fi := 36) dX9_isWord_1 flX9_184 rfl rfl hc1 ?_
  refine k_iconst (pc := 4) dX9_isWord_4 ⟨by decide, by decide⟩ ?_
  refine k_icmp_ne (pc := 5) (tgt := 21) dX9_isWord_5 rfl (fun c2 => ?_) (fun c2 => ?_)
  · rw [if_neg c2] at h
    refine k_iconst (pc := 21) dX9_isWord_21 ⟨by decide, by decide⟩ ?_
    obtain ⟨rfl, rfl⟩ := k_pr h
    exact k_ret (pc := 22) dX9_isWord_22 rfl rfl (by decide +kernel)
  · rw [if_pos (Classical.not_not.mp c2)] at h
    refine k_aload_n (pc := 8) (x := v0) dX9_isWord_8 rfl rfl ?_
    refine k_getf (pc := 9) (t := 2) (fi := 42) dX9_isWord_9 flX9_193 rfl rfl hc1 ?_
    refine k_lload_n (pc := 12) (x := v1) dX9_isWord_12 rfl rfl ?_
    refine k_lcmp (pc := 13) dX9_isWord_13 ?_
    refine k_if_ne (pc := 14) (tgt := 21) dX9_isWord_14 rfl (fun c3 => ?_) (fun c3 => ?_)
    · rw [if_neg c3] at h
      refine k_iconst (pc := 21) dX9_isWord_21 ⟨by decide, by decide⟩ ?_
      obtain ⟨rfl, rfl⟩ := k_pr h
      exact k_ret (pc := 22) dX9_isWord_22 rfl rfl (by decide +kernel)
    · rw [if_pos (Classical.not_not.mp c3)] at h
      refine k_iconst (pc := 17) dX9_isWord_17 ⟨by decide, by decide⟩ ?_
      refine k_goto (pc := 18) (tgt := 22) dX9_isWord_18 rfl ?_
      obtain ⟨rfl, rfl⟩ := k_pr h
      exact k_ret (pc := 22) dX9_isWord_22 rfl rfl (by decide +kernel)
theorem okX9_isWord {A : k_H} {x0 x1 : Int} {r : Int} {A1 : k_H} (h : fX9_isWord A x0 x1 = some (r, A1)) : k_AM 1 mX9_isWord [(1, x0), (2, x1)] A r A1 :=
  k_AM_of2 (ls := [(1, x0), (2, x1), (3, 0)]) (Or.inl (by decide +kernel)) (by decide +kernel) (by decide) rfl (Nat.le_of_ble_eq_true rfl) ⟨Or.inr rfl, Or.inr rfl, Or.inl rfl, trivial⟩ (okX9_isWord_b0 A x0 x1 r A1 h)
/-! X9_fault -/
def fX9_fault_b0 (A : k_H) (v0 : Int) : Option (Int × k_H) := if k_isO A v0 9 then (k_lt (k_wt A v0 0 0) fun A2 => some ((k_rd A2 v0 39), A2)) else none
def fX9_fault (A : k_H) (x0 : Int) : Option (Int × k_H) := fX9_fault_b0 A x0
set_option maxRecDepth 100000 in
theorem okX9_fault_b0 (A : k_H) (v0 : Int) (r : Int) (A' : k_H) (h : fX9_fault_b0 A v0 = some (r, A')) : k_AW 1 mX9_fault 0 [(1, v0)] [] A r A' := by
  unfold fX9_fault_b0 at h
  refine k_aload_n (pc := 0) (x := v0) dX9_fault_0 rfl rfl ?_
  refine k_iconst (pc := 1) dX9_fault_1 ⟨by decide, by decide⟩ ?_
  obtain ⟨hc1, h⟩ := k_pk h
  refine k_putf (pc := 2) (t := 0) (fi := 0) dX9_fault_2 flX9_102 rfl rfl hc1 rfl ?_
  obtain ⟨A2, eA3, h⟩ := k_pl h
  refine k_hq eA3 ?_
  refine k_aload_n (pc := 5) (x := v0) dX9_fault_5 rfl rfl ?_
  have hf4 := k_oW eA3 hc1
  refine k_getf (pc := 6) (t := 0) (fi := 39) dX9_fault_6 flX9_200 rfl rfl hf4 ?_
  obtain ⟨rfl, rfl⟩ := k_pr h
  exact k_ret (pc := 9) dX9_fault_9 rfl rfl rfl
theorem okX9_fault {A : k_H} {x0 : Int} {r : Int} {A1 : k_H} (h : fX9_fault A x0 = some (r, A1)) : k_AM 1 mX9_fault [(1, x0)] A r A1 :=
  k_AM_of2 (ls := [(1, x0)]) (Or.inl (by decide +kernel)) (by decide +kernel) (by decide) rfl (Nat.le_of_ble_eq_true rfl) ⟨Or.inr rfl, trivial⟩ (okX9_fault_b0 A x0 r A1 h)
/-! X9_company -/
def fX9_company_b127 (k18 : k_H → Int → Int → Int → Int → Int → Option (Int × k_H)) (A : k_H) (v0 v2 v3 v5 s0 s1 : Int) : Option (Int × k_H) := k18 A v0 v2 v3 (k_wr (s0 + s1)) (k_wr (v5 + 1))
def fX9_company_b97 (k18 : k_H → Int → Int → Int → Int → Int → Option (Int × k_H)) (A : k_H) (v0 v2 v3 v4 v5 s0 : Int) : Option (Int × k_H) := if 0 < s0 then (if k_isO A v0 9 then (if k_isA A (k_rd A v0 35) 21 (k_wr (k_wr (v3 + 2) + v5)) then (fX9_company_b127 k18 A v0 v2 v3 v5 v4 (k_wr (Int.tdiv (k_wr (s0 * (k_rd A (k_rd A v0 35) (k_wr (k_wr (v3 + 2) + v5))))) 100))) else none) else none) else (fX9_company_b127 k18 A v0 v2 v3 v5 v4 0)
def fX9_company_b77 (k18 : k_H → Int → Int → Int → Int → Int → Option (Int × k_H)) (A : k_H) (v0 v2 v3 v4 v5 v6 s0 : Int) : Option (Int × k_H) := if v2 < s0 then (fX9_company_b97 k18 A v0 v2 v3 v4 v5 (k_wr (v2 - v6))) else (fX9_company_b97 k18 A v0 v2 v3 v4 v5 (k_wr (s0 - v6)))
def fX9_company_h18 : Nat → k_H → Int → Int → Int → Int → Int → Option (Int × k_H)
  | 0, _, _, _, _, _, _ => none
  | N + 1, A, v0, v2, v3, v4, v5 => if k_isO A v0 9 then (if k_isA A (k_rd A v0 35) 21 (k_wr (v3 + 1)) then (if v5 < (k_rd A (k_rd A v0 35) (k_wr (v3 + 1))) then (if k_isA A (k_rd A v0 35) 21 (k_wr (k_wr (v3 + 5) + v5)) then (if k_wr (v5 + 1) < (k_rd A (k_rd A v0 35) (k_wr (v3 + 1))) then (if k_isA A (k_rd A v0 35) 21 (k_wr (k_wr (k_wr (v3 + 5) + v5) + 1)) then (fX9_company_b77 (fX9_company_h18 N) A v0 v2 v3 v4 v5 (k_rd A (k_rd A v0 35) (k_wr (k_wr (v3 + 5) + v5))) (k_rd A (k_rd A v0 35) (k_wr (k_wr (k_wr (v3 + 5) + v5) + 1)))) else none) else (fX9_company_b77 (fX9_company_h18 N) A v0 v2 v3 v4 v5 (k_rd A (k_rd A v0 35) (k_wr (k_wr (v3 + 5) + v5))) 1000000)) else none) else (some (v4, A))) else none) else none
def fX9_company_b0 (A : k_H) (v0 v1 v2 : Int) : Option (Int × k_H) := if k_isO A v0 9 then (if k_isA A (k_rd A v0 35) 21 (k_wr (k_wr (12 * v1) + 0)) then (fX9_company_h18 k_FU A v0 v2 (k_wr (12 * v1)) (k_rd A (k_rd A v0 35) (k_wr (k_wr (12 * v1) + 0))) 0) else none) else none
def fX9_company (A : k_H) (x0 x1 x2 : Int) : Option (Int × k_H) := fX9_company_b0 A x0 x1 x2
set_option maxRecDepth 100000 in
theorem okX9_company_b127 (k18 : k_H → Int → Int → Int → Int → Int → Option (Int × k_H)) (hk18 : ∀ (A : k_H) (v0 v2 v3 v4 v5 : Int) (r : Int) (A' : k_H), k18 A v0 v2 v3 v4 v5 = some (r, A') → k_AW 1 mX9_company 18 [(1, v0), (3, 0), (0, v2), (0, v3), (0, v4), (0, v5), (3, 0), (3, 0), (3, 0)] [] A r A') (A : k_H) (v0 v2 v3 v5 s0 s1 : Int) (r : Int) (A' : k_H) (h : fX9_company_b127 k18 A v0 v2 v3 v5 s0 s1 = some (r, A')) : k_AW 1 mX9_company 127 [(1, v0), (3, 0), (0, v2), (0, v3), (3, 0), (0, v5), (3, 0), (3, 0), (3, 0)] [(0, s1), (0, s0)] A r A' := by
  unfold fX9_company_b127 at h
  refine k_iadd (pc := 127) dX9_company_127 ?_
  refine k_istore (pc := 128) dX9_company_128 (Nat.le_of_ble_eq_true rfl) rfl ?_
  show k_AW _ _ _ [(1, v0), (3, 0), (0, v2), (0, v3), (0, k_wr (s0 + s1)), (0, v5), (3, 0), (3, 0), (3, 0)] _ _ _ _
  refine k_iinc (pc := 130) (x := v5) dX9_company_130 (Nat.le_of_ble_eq_true rfl) rfl rfl ?_
  show k_AW _ _ _ [(1, v0), (3, 0), (0, v2), (0, v3), (0, k_wr (s0 + s1)), (0, k_wr (v5 + 1)), (3, 0), (3, 0), (3, 0)] _ _ _ _
  refine k_goto (pc := 133) (tgt := 18) dX9_company_133 rfl ?_
  refine k_sub (ls' := [(1, v0), (3, 0), (0, v2), (0, v3), (0, k_wr (s0 + s1)), (0, k_wr (v5 + 1)), (3, 0), (3, 0), (3, 0)]) (k_sbl_ok _ _ ⟨Or.inr rfl, Or.inl rfl, Or.inr rfl, Or.inr rfl, Or.inr rfl, Or.inr rfl, Or.inl rfl, Or.inl rfl, Or.inl rfl, trivial⟩) ?_
  exact hk18 _ _ _ _ _ _ _ _ h
set_option maxRecDepth 100000 in
theorem okX9_company_b97 (k18 : k_H → Int → Int → Int → Int → Int → Option (Int × k_H)) (hk18 : ∀ (A : k_H) (v0 v2 v3 v4 v5 : Int) (r : Int) (A' : k_H), k18 A v0 v2 v3 v4 v5 = some (r, A') → k_AW 1 mX9_company 18 [(1, v0), (3, 0), (0, v2), (0, v3), (0, v4), (0, v5), (3, 0), (3, 0), (3, 0)] [] A r A') (A : k_H) (v0 v2 v3 v4 v5 s0 : Int) (r : Int) (A' : k_H) (h : fX9_company_b97 k18 A v0 v2 v3 v4 v5 s0 = some (r, A')) : k_AW 1 mX9_company 97 [(1, v0), (3, 0), (0, v2), (0, v3), (0, v4), (0, v5), (3, 0), (3, 0), (3, 0)] [(0, s0)] A r A' := by
  unfold fX9_company_b97 at h
  refine k_istore (pc := 97) dX9_company_97 (Nat.le_of_ble_eq_true rfl) rfl ?_
  show k_AW _ _ _ [(1, v0), (3, 0), (0, v2), (0, v3), (0, v4), (0, v5), (3, 0), (3, 0), (0, s0)] _ _ _ _
  refine k_iload (pc := 99) (x := v4) dX9_company_99 rfl ?_
  refine k_iload (pc := 101) (x := s0) dX9_company_101 rfl ?_
  refine k_if_le (pc := 103) (tgt := 126) dX9_company_103 rfl (fun c1 => ?_) (fun c1 => ?_)
  · rw [if_neg (Int.not_lt.mpr c1)] at h
    refine k_iconst (pc := 126) dX9_company_126 ⟨by decide, by decide⟩ ?_
    refine k_sub (ls' := [(1, v0), (3, 0), (0, v2), (0, v3), (3, 0), (0, v5), (3, 0), (3, 0), (3, 0)]) (k_sbl_ok _ _ ⟨Or.inr rfl, Or.inl rfl, Or.inr rfl, Or.inr rfl, Or.inl rfl, Or.inr rfl, Or.inl rfl, Or.inl rfl, Or.inl rfl, trivial⟩) ?_
    exact okX9_company_b127 k18 hk18 _ _ _ _ _ _ _ _ _ h
  · rw [if_pos (Int.not_le.mp c1)] at h
    refine k_iload (pc := 106) (x := s0) dX9_company_106 rfl ?_
    refine k_aload_n (pc := 108) (x := v0) dX9_company_108 rfl rfl ?_
    obtain ⟨hc2, h⟩ := k_pk h
    refine k_getf (pc := 109) (t := 1) (fi := 35) dX9_company_109 flX9_99 rfl rfl hc2 ?_
    refine k_iload_n (pc := 112) (x := v3) dX9_company_112 rfl rfl ?_
    refine k_iconst (pc := 113) dX9_company_113 ⟨by decide, by decide⟩ ?_
    refine k_iadd (pc := 114) dX9_company_114 ?_
    refine k_iload (pc := 115) (x := v5) dX9_company_115 rfl ?_
    refine k_iadd (pc := 117) dX9_company_117 ?_
    obtain ⟨hc3, h⟩ := k_pk h
    refine k_iaload (pc := 118) dX9_company_118 hc3 ?_
    refine k_imul (pc := 119) dX9_company_119 ?_
    refine k_bipush (pc := 120) dX9_company_120 ⟨by decide, by decide⟩ (by decide +kernel) ?_
    refine k_idiv (pc := 122) dX9_company_122 (by decide) ?_
    refine k_goto (pc := 123) (tgt := 127) dX9_company_123 rfl ?_
    refine k_sub (ls' := [(1, v0), (3, 0), (0, v2), (0, v3), (3, 0), (0, v5), (3, 0), (3, 0), (3, 0)]) (k_sbl_ok _ _ ⟨Or.inr rfl, Or.inl rfl, Or.inr rfl, Or.inr rfl, Or.inl rfl, Or.inr rfl, Or.inl rfl, Or.inl rfl, Or.inl rfl, trivial⟩) ?_
    exact okX9_company_b127 k18 hk18 _ _ _ _ _ _ _ _ _ h
set_option maxRecDepth 100000 in
theorem okX9_company_b77 (k18 : k_H → Int → Int → Int → Int → Int → Option (Int × k_H)) (hk18 : ∀ (A : k_H) (v0 v2 v3 v4 v5 : Int) (r : Int) (A' : k_H), k18 A v0 v2 v3 v4 v5 = some (r, A') → k_AW 1 mX9_company 18 [(1, v0), (3, 0), (0, v2), (0, v3), (0, v4), (0, v5), (3, 0), (3, 0), (3, 0)] [] A r A') (A : k_H) (v0 v2 v3 v4 v5 v6 s0 : Int) (r : Int) (A' : k_H) (h : fX9_company_b77 k18 A v0 v2 v3 v4 v5 v6 s0 = some (r, A')) : k_AW 1 mX9_company 77 [(1, v0), (3, 0), (0, v2), (0, v3), (0, v4), (0, v5), (0, v6), (3, 0), (3, 0)] [(0, s0)] A r A' := by
  unfold fX9_company_b77 at h
  refine k_istore (pc := 77) dX9_company_77 (Nat.le_of_ble_eq_true rfl) rfl ?_
  show k_AW _ _ _ [(1, v0), (3, 0), (0, v2), (0, v3), (0, v4), (0, v5), (0, v6), (0, s0), (3, 0)] _ _ _ _
  refine k_iload_n (pc := 79) (x := v2) dX9_company_79 rfl rfl ?_
  refine k_iload (pc := 80) (x := s0) dX9_company_80 rfl ?_
  refine k_icmp_ge (pc := 82) (tgt := 92) dX9_company_82 rfl (fun c1 => ?_) (fun c1 => ?_)
  · rw [if_neg (Int.not_lt.mpr c1)] at h
    refine k_iload (pc := 92) (x := s0) dX9_company_92 rfl ?_
    refine k_iload (pc := 94) (x := v6) dX9_company_94 rfl ?_
    refine k_isub (pc := 96) dX9_company_96 ?_
    refine k_sub (ls' := [(1, v0), (3, 0), (0, v2), (0, v3), (0, v4), (0, v5), (3, 0), (3, 0), (3, 0)]) (k_sbl_ok _ _ ⟨Or.inr rfl, Or.inl rfl, Or.inr rfl, Or.inr rfl, Or.inr rfl, Or.inr rfl, Or.inl rfl, Or.inl rfl, Or.inl rfl, trivial⟩) ?_
    exact okX9_company_b97 k18 hk18 _ _ _ _ _ _ _ _ _ h
  · rw [if_pos (Int.not_le.mp c1)] at h
    refine k_iload_n (pc := 85) (x := v2) dX9_company_85 rfl rfl ?_
    refine k_iload (pc := 86) (x := v6) dX9_company_86 rfl ?_
    refine k_isub (pc := 88) dX9_company_88 ?_
    refine k_goto (pc := 89) (tgt := 97) dX9_company_89 rfl ?_
    refine k_sub (ls' := [(1, v0), (3, 0), (0, v2), (0, v3), (0, v4), (0, v5), (3, 0), (3, 0), (3, 0)]) (k_sbl_ok _ _ ⟨Or.inr rfl, Or.inl rfl, Or.inr rfl, Or.inr rfl, Or.inr rfl, Or.inr rfl, Or.inl rfl, Or.inl rfl, Or.inl rfl, trivial⟩) ?_
    exact okX9_company_b97 k18 hk18 _ _ _ _ _ _ _ _ _ h
set_option maxRecDepth 100000 in
theorem okX9_company_h18 : ∀ (N : Nat) (A : k_H) (v0 v2 v3 v4 v5 : Int) (r : Int) (A' : k_H), fX9_company_h18 N A v0 v2 v3 v4 v5 = some (r, A') → k_AW 1 mX9_company 18 [(1, v0), (3, 0), (0, v2), (0, v3), (0, v4), (0, v5), (3, 0), (3, 0), (3, 0)] [] A r A' := by
  intro N
  induction N with
  | zero => intro A v0 v2 v3 v4 v5 r A' h; exact absurd h (by simp [fX9_company_h18])
  | succ N ih =>
    intro A v0 v2 v3 v4 v5 r A' h
    rw [fX9_company_h18] at h
    refine k_iload (pc := 18) (x := v5) dX9_company_18 rfl ?_
    refine k_aload_n (pc := 20) (x := v0) dX9_company_20 rfl rfl ?_
    obtain ⟨hc1, h⟩ := k_pk h
    refine k_getf (pc := 21) (t := 1) (fi := 35) dX9_company_21 flX9_99 rfl rfl hc1 ?_
    refine k_iload_n (pc := 24) (x := v3) dX9_company_24 rfl rfl ?_
    refine k_iconst (pc := 25) dX9_company_25 ⟨by decide, by decide⟩ ?_
    refine k_iadd (pc := 26) dX9_company_26 ?_
    obtain ⟨hc2, h⟩ := k_pk h
    refine k_iaload (pc := 27) dX9_company_27 hc2 ?_
    refine k_icmp_ge (pc := 28) (tgt := 136) dX9_company_28 rfl (fun c3 => ?_) (fun c3 => ?_)
    · rw [if_neg (Int.not_lt.mpr c3)] at h
      refine k_iload (pc := 136) (x := v4) dX9_company_136 rfl ?_
      obtain ⟨rfl, rfl⟩ := k_pr h
      exact k_ret (pc := 138) dX9_company_138 rfl rfl rfl
    · rw [if_pos (Int.not_le.mp c3)] at h
      refine k_aload_n (pc := 31) (x := v0) dX9_company_31 rfl rfl ?_
      refine k_getf (pc := 32) (t := 1) (fi := 35) dX9_company_32 flX9_99 rfl rfl hc1 ?_
      refine k_iload_n (pc := 35) (x := v3) dX9_company_35 rfl rfl ?_
      refine k_iconst (pc := 36) dX9_company_36 ⟨by decide, by decide⟩ ?_
      refine k_iadd (pc := 37) dX9_company_37 ?_
      refine k_iload (pc := 38) (x := v5) dX9_company_38 rfl ?_
      refine k_iadd (pc := 40) dX9_company_40 ?_
      obtain ⟨hc4, h⟩ := k_pk h
      refine k_iaload (pc := 41) dX9_company_41 hc4 ?_
      refine k_istore (pc := 42) dX9_company_42 (Nat.le_of_ble_eq_true rfl) rfl ?_
      show k_AW _ _ _ [(1, v0), (3, 0), (0, v2), (0, v3), (0, v4), (0, v5), (0, (k_rd A (k_rd A v0 35) (k_wr (k_wr (v3 + 5) + v5)))), (3, 0), (3, 0)] _ _ _ _
      refine k_iload (pc := 44) (x := v5) dX9_company_44 rfl ?_
      refine k_iconst (pc := 46) dX9_company_46 ⟨by decide, by decide⟩ ?_
      refine k_iadd (pc := 47) dX9_company_47 ?_
      refine k_aload_n (pc := 48) (x := v0) dX9_company_48 rfl rfl ?_
      refine k_getf (pc := 49) (t := 1) (fi := 35) dX9_company_49 flX9_99 rfl rfl hc1 ?_
      refine k_iload_n (pc := 52) (x := v3) dX9_company_52 rfl rfl ?_
      refine k_iconst (pc := 53) dX9_company_53 ⟨by decide, by decide⟩ ?_
      refine k_iadd (pc := 54) dX9_company_54 ?_
      refine k_iaload (pc := 55) dX9_company_55 hc2 ?_
      refine k_icmp_ge (pc := 56) (tgt := 75) dX9_company_56 rfl (fun c5 => ?_) (fun c5 => ?_)
      · rw [if_neg (Int.not_lt.mpr c5)] at h
        refine k_ldci (pc := 75) (n := 1000000) dX9_company_75 (k_gt 1181 (by decide +kernel) (by decide +kernel)) ⟨by decide, by decide⟩ ?_
        refine k_sub (ls' := [(1, v0), (3, 0), (0, v2), (0, v3), (0, v4), (0, v5), (0, (k_rd A (k_rd A v0 35) (k_wr (k_wr (v3 + 5) + v5)))), (3, 0), (3, 0)]) (k_sbl_ok _ _ ⟨Or.inr rfl, Or.inl rfl, Or.inr rfl, Or.inr rfl, Or.inr rfl, Or.inr rfl, Or.inr rfl, Or.inl rfl, Or.inl rfl, trivial⟩) ?_
        exact okX9_company_b77 (fX9_company_h18 N) ih _ _ _ _ _ _ _ _ _ _ h
      · rw [if_pos (Int.not_le.mp c5)] at h
        refine k_aload_n (pc := 59) (x := v0) dX9_company_59 rfl rfl ?_
        refine k_getf (pc := 60) (t := 1) (fi := 35) dX9_company_60 flX9_99 rfl rfl hc1 ?_
        refine k_iload_n (pc := 63) (x := v3) dX9_company_63 rfl rfl ?_
        refine k_iconst (pc := 64) dX9_company_64 ⟨by decide, by decide⟩ ?_
        refine k_iadd (pc := 65) dX9_company_65 ?_
        refine k_iload (pc := 66) (x := v5) dX9_company_66 rfl ?_
        refine k_iadd (pc := 68) dX9_company_68 ?_
        refine k_iconst (pc := 69) dX9_company_69 ⟨by decide, by decide⟩ ?_
        refine k_iadd (pc := 70) dX9_company_70 ?_
        obtain ⟨hc6, h⟩ := k_pk h
        refine k_iaload (pc := 71) dX9_company_71 hc6 ?_
        refine k_goto (pc := 72) (tgt := 77) dX9_company_72 rfl ?_
        refine k_sub (ls' := [(1, v0), (3, 0), (0, v2), (0, v3), (0, v4), (0, v5), (0, (k_rd A (k_rd A v0 35) (k_wr (k_wr (v3 + 5) + v5)))), (3, 0), (3, 0)]) (k_sbl_ok _ _ ⟨Or.inr rfl, Or.inl rfl, Or.inr rfl, Or.inr rfl, Or.inr rfl, Or.inr rfl, Or.inr rfl, Or.inl rfl, Or.inl rfl, trivial⟩) ?_
        exact okX9_company_b77 (fX9_company_h18 N) ih _ _ _ _ _ _ _ _ _ _ h
set_option maxRecDepth 100000 in
theorem okX9_company_b0 (A : k_H) (v0 v1 v2 : Int) (r : Int) (A' : k_H) (h : fX9_company_b0 A v0 v1 v2 = some (r, A')) : k_AW 1 mX9_company 0 [(1, v0), (0, v1), (0, v2), (3, 0), (3, 0), (3, 0), (3, 0), (3, 0), (3, 0)] [] A r A' := by
  unfold fX9_company_b0 at h
  refine k_bipush (pc := 0) dX9_company_0 ⟨by decide, by decide⟩ (by decide +kernel) ?_
  refine k_iload_n (pc := 2) (x := v1) dX9_company_2 rfl rfl ?_
  refine k_imul (pc := 3) dX9_company_3 ?_
  refine k_istore_n (pc := 4) dX9_company_4 rfl (Nat.le_of_ble_eq_true rfl) rfl ?_
  show k_AW _ _ _ [(1, v0), (0, v1), (0, v2), (0, k_wr (12 * v1)), (3, 0), (3, 0), (3, 0), (3, 0), (3, 0)] _ _ _ _
  refine k_aload_n (pc := 5) (x := v0) dX9_company_5 rfl rfl ?_
  obtain ⟨hc1, h⟩ := k_pk h
  refine k_getf (pc := 6) (t := 1) (fi := 35) dX9_company_6 flX9_99 rfl rfl hc1 ?_
  refine k_iload_n (pc := 9) (x := k_wr (12 * v1)) dX9_company_9 rfl rfl ?_
  refine k_iconst (pc := 10) dX9_company_10 ⟨by decide, by decide⟩ ?_
  refine k_iadd (pc := 11) dX9_company_11 ?_
  obtain ⟨hc2, h⟩ := k_pk h
  refine k_iaload (pc := 12) dX9_company_12 hc2 ?_
  refine k_istore (pc := 13) dX9_company_13 (Nat.le_of_ble_eq_true rfl) rfl ?_
  show k_AW _ _ _ [(1, v0), (0, v1), (0, v2), (0, k_wr (12 * v1)), (0, (k_rd A (k_rd A v0 35) (k_wr (k_wr (12 * v1) + 0)))), (3, 0), (3, 0), (3, 0), (3, 0)] _ _ _ _
  refine k_iconst (pc := 15) dX9_company_15 ⟨by decide, by decide⟩ ?_
  refine k_istore (pc := 16) dX9_company_16 (Nat.le_of_ble_eq_true rfl) rfl ?_
  show k_AW _ _ _ [(1, v0), (0, v1), (0, v2), (0, k_wr (12 * v1)), (0, (k_rd A (k_rd A v0 35) (k_wr (k_wr (12 * v1) + 0)))), (0, 0), (3, 0), (3, 0), (3, 0)] _ _ _ _
  refine k_sub (ls' := [(1, v0), (3, 0), (0, v2), (0, k_wr (12 * v1)), (0, (k_rd A (k_rd A v0 35) (k_wr (k_wr (12 * v1) + 0)))), (0, 0), (3, 0), (3, 0), (3, 0)]) (k_sbl_ok _ _ ⟨Or.inr rfl, Or.inl rfl, Or.inr rfl, Or.inr rfl, Or.inr rfl, Or.inr rfl, Or.inl rfl, Or.inl rfl, Or.inl rfl, trivial⟩) ?_
  exact okX9_company_h18  _ _ _ _ _ _ _ _ _ h
theorem okX9_company {A : k_H} {x0 x1 x2 : Int} {r : Int} {A1 : k_H} (h : fX9_company A x0 x1 x2 = some (r, A1)) : k_AM 1 mX9_company [(1, x0), (0, x1), (0, x2)] A r A1 :=
  k_AM_of2 (ls := [(1, x0), (0, x1), (0, x2), (3, 0), (3, 0), (3, 0), (3, 0), (3, 0), (3, 0)]) (Or.inl (by decide +kernel)) (by decide +kernel) (by decide) rfl (Nat.le_of_ble_eq_true rfl) ⟨Or.inr rfl, Or.inr rfl, Or.inr rfl, rfl, rfl, rfl, rfl, rfl, rfl, trivial⟩ (okX9_company_b0 A x0 x1 x2 r A1 h)
/-! X9_count -/
def fX9_count_b91 (k52 : k_H → Int → Int → Int → Option (Int × k_H)) (k63 : k_H → Int → Int → Int → Int → Option (Int × k_H)) (A : k_H) (v0 v3 v4 s0 s1 : Int) : Option (Int × k_H) := k63 A v0 (k_wr (s0 + s1)) v3 (k_wr (v4 + 1))
def fX9_count_h63 (k52 : k_H → Int → Int → Int → Option (Int × k_H)) : Nat → k_H → Int → Int → Int → Int → Option (Int × k_H)
  | 0, _, _, _, _, _ => none
  | N + 1, A, v0, v2, v3, v4 => if v4 < 14 then (if k_isO A v0 9 then (if k_isA A (k_rd A v0 24) 21 (k_wr (k_wr (14 * v3) + v4)) then (if 0 ≤ (k_rd A (k_rd A v0 24) (k_wr (k_wr (14 * v3) + v4))) then (fX9_count_b91 k52 (fX9_count_h63 k52 N) A v0 v3 v4 v2 1) else (fX9_count_b91 k52 (fX9_count_h63 k52 N) A v0 v3 v4 v2 0)) else none) else none) else (k52 A v0 v2 (k_wr (v3 + 1)))
def fX9_count_h52 : Nat → k_H → Int → Int → Int → Option (Int × k_H)
  | 0, _, _, _, _ => none
  | N + 1, A, v0, v2, v3 => if k_isO A v0 9 then (if v3 < (k_rd A v0 21) then (fX9_count_h63 (fX9_count_h52 N) k_FU A v0 v2 v3 0) else (some (v2, A))) else none
def fX9_count_b0 (A : k_H) (v0 v1 : Int) : Option (Int × k_H) := if k_isO A v0 9 then (k_lt (k_wt A v0 0 0) fun A2 => if v1 < 0 ∨ 3 < v1 then (some ((-1), A2)) else (if v1 = 0 then (some ((k_rd A2 v0 20), A2)) else (if v1 = 1 then (some ((k_rd A2 v0 21), A2)) else (if v1 = 2 then (fX9_count_h52 k_FU A2 v0 0 0) else (some ((k_rd A2 v0 2), A2)))))) else none
def fX9_count (A : k_H) (x0 x1 : Int) : Option (Int × k_H) := fX9_count_b0 A x0 x1
set_option maxRecDepth 100000 in
theorem okX9_count_b91 (k52 : k_H → Int → Int → Int → Option (Int × k_H)) (hk52 : ∀ (A : k_H) (v0 v2 v3 : Int) (r : Int) (A' : k_H), k52 A v0 v2 v3 = some (r, A') → k_AW 1 mX9_count 52 [(1, v0), (3, 0), (0, v2), (0, v3), (3, 0)] [] A r A') (k63 : k_H → Int → Int → Int → Int → Option (Int × k_H)) (hk63 : ∀ (A : k_H) (v0 v2 v3 v4 : Int) (r : Int) (A' : k_H), k63 A v0 v2 v3 v4 = some (r, A') → k_AW 1 mX9_count 63 [(1, v0), (3, 0), (0, v2), (0, v3), (0, v4)] [] A r A') (A : k_H) (v0 v3 v4 s0 s1 : Int) (r : Int) (A' : k_H) (h : fX9_count_b91 k52 k63 A v0 v3 v4 s0 s1 = some (r, A')) : k_AW 1 mX9_count 91 [(1, v0), (3, 0), (3, 0), (0, v3), (0, v4)] [(0, s1), (0, s0)] A r A' := by
  unfold fX9_count_b91 at h
  refine k_iadd (pc := 91) dX9_count_91 ?_
  refine k_istore_n (pc := 92) dX9_count_92 rfl (Nat.le_of_ble_eq_true rfl) rfl ?_
  show k_AW _ _ _ [(1, v0), (3, 0), (0, k_wr (s0 + s1)), (0, v3), (0, v4)] _ _ _ _
  refine k_iinc (pc := 93) (x := v4) dX9_count_93 (Nat.le_of_ble_eq_true rfl) rfl rfl ?_
  show k_AW _ _ _ [(1, v0), (3, 0), (0, k_wr (s0 + s1)), (0, v3), (0, k_wr (v4 + 1))] _ _ _ _
  refine k_goto (pc := 96) (tgt := 63) dX9_count_96 rfl ?_
  refine k_sub (ls' := [(1, v0), (3, 0), (0, k_wr (s0 + s1)), (0, v3), (0, k_wr (v4 + 1))]) (k_sbl_ok _ _ ⟨Or.inr rfl, Or.inl rfl, Or.inr rfl, Or.inr rfl, Or.inr rfl, trivial⟩) ?_
  exact hk63 _ _ _ _ _ _ _ h
set_option maxRecDepth 100000 in
theorem okX9_count_h63 (k52 : k_H → Int → Int → Int → Option (Int × k_H)) (hk52 : ∀ (A : k_H) (v0 v2 v3 : Int) (r : Int) (A' : k_H), k52 A v0 v2 v3 = some (r, A') → k_AW 1 mX9_count 52 [(1, v0), (3, 0), (0, v2), (0, v3), (3, 0)] [] A r A') : ∀ (N : Nat) (A : k_H) (v0 v2 v3 v4 : Int) (r : Int) (A' : k_H), fX9_count_h63 k52 N A v0 v2 v3 v4 = some (r, A') → k_AW 1 mX9_count 63 [(1, v0), (3, 0), (0, v2), (0, v3), (0, v4)] [] A r A' := by
  intro N
  induction N with
  | zero => intro A v0 v2 v3 v4 r A' h; exact absurd h (by simp [fX9_count_h63])
  | succ N ih =>
    intro A v0 v2 v3 v4 r A' h
    rw [fX9_count_h63] at h
    refine k_iload (pc := 63) (x := v4) dX9_count_63 rfl ?_
    refine k_bipush (pc := 65) dX9_count_65 ⟨by decide, by decide⟩ (by decide +kernel) ?_
    refine k_icmp_ge (pc := 67) (tgt := 99) dX9_count_67 rfl (fun c1 => ?_) (fun c1 => ?_)
    · rw [if_neg (Int.not_lt.mpr c1)] at h
      refine k_iinc (pc := 99) (x := v3) dX9_count_99 (Nat.le_of_ble_eq_true rfl) rfl rfl ?_
      show k_AW _ _ _ [(1, v0), (3, 0), (0, v2), (0, k_wr (v3 + 1)), (0, v4)] _ _ _ _
      refine k_goto (pc := 102) (tgt := 52) dX9_count_102 rfl ?_
      refine k_sub (ls' := [(1, v0), (3, 0), (0, v2), (0, k_wr (v3 + 1)), (3, 0)]) (k_sbl_ok _ _ ⟨Or.inr rfl, Or.inl rfl, Or.inr rfl, Or.inr rfl, Or.inl rfl, trivial⟩) ?_
      exact hk52 _ _ _ _ _ _ h
    · rw [if_pos (Int.not_le.mp c1)] at h
      refine k_iload_n (pc := 70) (x := v2) dX9_count_70 rfl rfl ?_
      refine k_aload_n (pc := 71) (x := v0) dX9_count_71 rfl rfl ?_
      obtain ⟨hc2, h⟩ := k_pk h
      refine k_getf (pc := 72) (t := 1) (fi := 24) dX9_count_72 flX9_65 rfl rfl hc2 ?_
      refine k_bipush (pc := 75) dX9_count_75 ⟨by decide, by decide⟩ (by decide +kernel) ?_
      refine k_iload_n (pc := 77) (x := v3) dX9_count_77 rfl rfl ?_
      refine k_imul (pc := 78) dX9_count_78 ?_
      refine k_iload (pc := 79) (x := v4) dX9_count_79 rfl ?_
      refine k_iadd (pc := 81) dX9_count_81 ?_
      obtain ⟨hc3, h⟩ := k_pk h
      refine k_iaload (pc := 82) dX9_count_82 hc3 ?_
      refine k_if_lt (pc := 83) (tgt := 90) dX9_count_83 rfl (fun c4 => ?_) (fun c4 => ?_)
      · rw [if_neg (Int.not_le.mpr c4)] at h
        refine k_iconst (pc := 90) dX9_count_90 ⟨by decide, by decide⟩ ?_
        refine k_sub (ls' := [(1, v0), (3, 0), (3, 0), (0, v3), (0, v4)]) (k_sbl_ok _ _ ⟨Or.inr rfl, Or.inl rfl, Or.inl rfl, Or.inr rfl, Or.inr rfl, trivial⟩) ?_
        exact okX9_count_b91 k52 hk52 (fX9_count_h63 k52 N) ih _ _ _ _ _ _ _ _ h
      · rw [if_pos (Int.not_lt.mp c4)] at h
        refine k_iconst (pc := 86) dX9_count_86 ⟨by decide, by decide⟩ ?_
        refine k_goto (pc := 87) (tgt := 91) dX9_count_87 rfl ?_
        refine k_sub (ls' := [(1, v0), (3, 0), (3, 0), (0, v3), (0, v4)]) (k_sbl_ok _ _ ⟨Or.inr rfl, Or.inl rfl, Or.inl rfl, Or.inr rfl, Or.inr rfl, trivial⟩) ?_
        exact okX9_count_b91 k52 hk52 (fX9_count_h63 k52 N) ih _ _ _ _ _ _ _ _ h
set_option maxRecDepth 100000 in
theorem okX9_count_h52 : ∀ (N : Nat) (A : k_H) (v0 v2 v3 : Int) (r : Int) (A' : k_H), fX9_count_h52 N A v0 v2 v3 = some (r, A') → k_AW 1 mX9_count 52 [(1, v0), (3, 0), (0, v2), (0, v3), (3, 0)] [] A r A' := by
  intro N
  induction N with
  | zero => intro A v0 v2 v3 r A' h; exact absurd h (by simp [fX9_count_h52])
  | succ N ih =>
    intro A v0 v2 v3 r A' h
    rw [fX9_count_h52] at h
    refine k_iload_n (pc := 52) (x := v3) dX9_count_52 rfl rfl ?_
    refine k_aload_n (pc := 53) (x := v0) dX9_count_53 rfl rfl ?_
    obtain ⟨hc1, h⟩ := k_pk h
    refine k_getf (pc := 54) (t := 0) (fi := 21) dX9_count_54 flX9_122 rfl rfl hc1 ?_
    refine k_icmp_ge (pc := 57) (tgt := 105) dX9_count_57 rfl (fun c2 => ?_) (fun c2 => ?_)
    · rw [if_neg (Int.not_lt.mpr c2)] at h
      refine k_iload_n (pc := 105) (x := v2) dX9_count_105 rfl rfl ?_
      obtain ⟨rfl, rfl⟩ := k_pr h
      exact k_ret (pc := 106) dX9_count_106 rfl rfl rfl
    · rw [if_pos (Int.not_le.mp c2)] at h
      refine k_iconst (pc := 60) dX9_count_60 ⟨by decide, by decide⟩ ?_
      refine k_istore (pc := 61) dX9_count_61 (Nat.le_of_ble_eq_true rfl) rfl ?_
      show k_AW _ _ _ [(1, v0), (3, 0), (0, v2), (0, v3), (0, 0)] _ _ _ _
      refine k_sub (ls' := [(1, v0), (3, 0), (0, v2), (0, v3), (0, 0)]) (k_sbl_ok _ _ ⟨Or.inr rfl, Or.inl rfl, Or.inr rfl, Or.inr rfl, Or.inr rfl, trivial⟩) ?_
      exact okX9_count_h63 (fX9_count_h52 N) ih _ _ _ _ _ _ _ _ h
set_option maxRecDepth 100000 in
theorem okX9_count_b0 (A : k_H) (v0 v1 : Int) (r : Int) (A' : k_H) (h : fX9_count_b0 A v0 v1 = some (r, A')) : k_AW 1 mX9_count 0 [(1, v0), (0, v1), (3, 0), (3, 0), (3, 0)] [] A r A' := by
  unfold fX9_count_b0 at h
  refine k_aload_n (pc := 0) (x := v0) dX9_count_0 rfl rfl ?_
  refine k_iconst (pc := 1) dX9_count_1 ⟨by decide, by decide⟩ ?_
  obtain ⟨hc1, h⟩ := k_pk h
  refine k_putf (pc := 2) (t := 0) (fi := 0) dX9_count_2 flX9_102 rfl rfl hc1 rfl ?_
  obtain ⟨A2, eA3, h⟩ := k_pl h
  refine k_hq eA3 ?_
  refine k_iconst (pc := 5) dX9_count_5 ⟨by decide, by decide⟩ ?_
  refine k_istore_n (pc := 6) dX9_count_6 rfl (Nat.le_of_ble_eq_true rfl) rfl ?_
  show k_AW _ _ _ [(1, v0), (0, v1), (0, 0), (3, 0), (3, 0)] _ _ _ _
  refine k_iload_n (pc := 7) (x := v1) dX9_count_7 rfl rfl ?_
  by_cases c4 : v1 < 0 ∨ 3 < v1
  · rw [if_pos c4] at h
    refine k_swout (pc := 8) (tgt := 112) dX9_count_8 c4 rfl ?_
    refine k_iconst (pc := 112) dX9_count_112 ⟨by decide, by decide⟩ ?_
    obtain ⟨rfl, rfl⟩ := k_pr h
    exact k_ret (pc := 113) dX9_count_113 rfl rfl rfl
  · rw [if_neg c4] at h
    by_cases c6 : v1 = 0
    · rw [if_pos c6] at h
      refine k_swin (pc := 8) (off := 32) (tgt := 40) dX9_count_8 (by omega) (by omega) (by rw [show v1 = 0 by omega]; rfl) rfl ?_
      refine k_aload_n (pc := 40) (x := v0) dX9_count_40 rfl rfl ?_
      have hf5 := k_oW eA3 hc1
      refine k_getf (pc := 41) (t := 0) (fi := 20) dX9_count_41 flX9_119 rfl rfl hf5 ?_
      obtain ⟨rfl, rfl⟩ := k_pr h
      exact k_ret (pc := 44) dX9_count_44 rfl rfl rfl
    · rw [if_neg c6] at h
      by_cases c8 : v1 = 1
      · rw [if_pos c8] at h
        refine k_swin (pc := 8) (off := 37) (tgt := 45) dX9_count_8 (by omega) (by omega) (by rw [show v1 = 1 by omega]; rfl) rfl ?_
        refine k_aload_n (pc := 45) (x := v0) dX9_count_45 rfl rfl ?_
        have hf7 := k_oW eA3 hc1
        refine k_getf (pc := 46) (t := 0) (fi := 21) dX9_count_46 flX9_122 rfl rfl hf7 ?_
        obtain ⟨rfl, rfl⟩ := k_pr h
        exact k_ret (pc := 49) dX9_count_49 rfl rfl rfl
      · rw [if_neg c8] at h
        by_cases c9 : v1 = 2
        · rw [if_pos c9] at h
          refine k_swin (pc := 8) (off := 42) (tgt := 50) dX9_count_8 (by omega) (by omega) (by rw [show v1 = 2 by omega]; rfl) rfl ?_
          refine k_iconst (pc := 50) dX9_count_50 ⟨by decide, by decide⟩ ?_
          refine k_istore_n (pc := 51) dX9_count_51 rfl (Nat.le_of_ble_eq_true rfl) rfl ?_
          show k_AW _ _ _ [(1, v0), (0, v1), (0, 0), (0, 0), (3, 0)] _ _ _ _
          refine k_sub (ls' := [(1, v0), (3, 0), (0, 0), (0, 0), (3, 0)]) (k_sbl_ok _ _ ⟨Or.inr rfl, Or.inl rfl, Or.inr rfl, Or.inr rfl, Or.inl rfl, trivial⟩) ?_
          exact okX9_count_h52  _ _ _ _ _ _ _ h
        · rw [if_neg c9] at h
          refine k_swin (pc := 8) (off := 99) (tgt := 107) dX9_count_8 (by omega) (by omega) (by rw [show v1 = 3 by omega]; rfl) rfl ?_
          refine k_aload_n (pc := 107) (x := v0) dX9_count_107 rfl rfl ?_
          have hf10 := k_oW eA3 hc1
          refine k_getf (pc := 108) (t := 0) (fi := 2) dX9_count_108 flX9_106 rfl rfl hf10 ?_
          obtain ⟨rfl, rfl⟩ := k_pr h
          exact k_ret (pc := 111) dX9_count_111 rfl rfl rfl
theorem okX9_count {A : k_H} {x0 x1 : Int} {r : Int} {A1 : k_H} (h : fX9_count A x0 x1 = some (r, A1)) : k_AM 1 mX9_count [(1, x0), (0, x1)] A r A1 :=
  k_AM_of2 (ls := [(1, x0), (0, x1), (3, 0), (3, 0), (3, 0)]) (Or.inl (by decide +kernel)) (by decide +kernel) (by decide) rfl (Nat.le_of_ble_eq_true rfl) ⟨Or.inr rfl, Or.inr rfl, rfl, rfl, rfl, trivial⟩ (okX9_count_b0 A x0 x1 r A1 h)
/-! X9_feed -/
def fX9_feed_b0 (A : k_H) (v0 v1 v2 v3 v4 v5 : Int) : Option (Int × k_H) := if k_isO A v0 9 then (k_lt (k_wt A v0 0 0) fun A2 => if 200 < k_wr ((k_rd A2 v0 2) + 20) then (some ((-1), A2)) else (k_bd (fX9_four A2 v0 v1) fun r6 A7 => if k_isO A7 v0 9 then (k_bd (fX9_four A7 v0 v2) fun r9 A10 => if k_isO A10 v0 9 then (k_bd (fX9_four A10 v0 v3) fun r13 A14 => if k_isO A14 v0 9 then (k_bd (fX9_four A14 v0 v4) fun r17 A18 => if k_isO A18 v0 9 then (k_bd (fX9_four A18 v0 v5) fun r21 A22 => if k_isO A22 v0 9 then (some ((k_rd A22 v0 2), A22)) else none) else none) else none) else none) else none)) else none
def fX9_feed (A : k_H) (x0 x1 x2 x3 x4 x5 : Int) : Option (Int × k_H) := fX9_feed_b0 A x0 x1 x2 x3 x4 x5
set_option maxRecDepth 100000 in
theorem okX9_feed_b0 (A : k_H) (v0 v1 v2 v3 v4 v5 : Int) (r : Int) (A' : k_H) (h : fX9_feed_b0 A v0 v1 v2 v3 v4 v5 = some (r, A')) : k_AW 2 mX9_feed 0 [(1, v0), (0, v1), (0, v2), (0, v3), (0, v4), (0, v5)] [] A r A' := by
  unfold fX9_feed_b0 at h
  refine k_aload_n (pc := 0) (x := v0) dX9_feed_0 rfl rfl ?_
  refine k_iconst (pc := 1) dX9_feed_1 ⟨by decide, by decide⟩ ?_
  obtain ⟨hc1, h⟩ := k_pk h
  refine k_putf (pc := 2) (t := 0) (fi := 0) dX9_feed_2 flX9_102 rfl rfl hc1 rfl ?_
  obtain ⟨A2, eA3, h⟩ := k_pl h
  refine k_hq eA3 ?_
  refine k_aload_n (pc := 5) (x := v0) dX9_feed_5 rfl rfl ?_
  have hf4 := k_oW eA3 hc1
  refine k_getf (pc := 6) (t := 0) (fi := 2) dX9_feed_6 flX9_106 rfl rfl hf4 ?_
  refine k_bipush (pc := 9) dX9_feed_9 ⟨by decide, by decide⟩ (by decide +kernel) ?_
  refine k_iadd (pc := 11) dX9_feed_11 ?_
  refine k_sipush (pc := 12) dX9_feed_12 ⟨by decide, by decide⟩ (by decide +kernel) ?_
  refine k_icmp_le (pc := 15) (tgt := 20) dX9_feed_15 rfl (fun c5 => ?_) (fun c5 => ?_)
  · rw [if_neg (Int.not_lt.mpr c5)] at h
    refine k_aload_n (pc := 20) (x := v0) dX9_feed_20 rfl rfl ?_
    refine k_iload_n (pc := 21) (x := v1) dX9_feed_21 rfl rfl ?_
    obtain ⟨r6, A7, hq8, h⟩ := k_pb h
    refine k_callV (pc := 22) (ci := 9) (a := v0) (as := [(0, v1)]) (st := []) (st1 := []) dX9_feed_22 cbX9_four (k_gt 1011 (by decide +kernel) (by decide +kernel)) cvX9_four.1 cvX9_four.2 rfl (by decide) hf4 (by omega) rfl (Nat.le_of_ble_eq_true rfl) (okX9_four hq8) rfl ?_
    refine k_aload_n (pc := 25) (x := v0) dX9_feed_25 rfl rfl ?_
    refine k_iload_n (pc := 26) (x := v2) dX9_feed_26 rfl rfl ?_
    obtain ⟨hc12, h⟩ := k_pk h
    obtain ⟨r9, A10, hq11, h⟩ := k_pb h
    refine k_callV (pc := 27) (ci := 9) (a := v0) (as := [(0, v2)]) (st := []) (st1 := []) dX9_feed_27 cbX9_four (k_gt 1011 (by decide +kernel) (by decide +kernel)) cvX9_four.1 cvX9_four.2 rfl (by decide) hc12 (by omega) rfl (Nat.le_of_ble_eq_true rfl) (okX9_four hq11) rfl ?_
    refine k_aload_n (pc := 30) (x := v0) dX9_feed_30 rfl rfl ?_
    refine k_iload_n (pc := 31) (x := v3) dX9_feed_31 rfl rfl ?_
    obtain ⟨hc16, h⟩ := k_pk h
    obtain ⟨r13, A14, hq15, h⟩ := k_pb h
    refine k_callV (pc := 32) (ci := 9) (a := v0) (as := [(0, v3)]) (st := []) (st1 := []) dX9_feed_32 cbX9_four (k_gt 1011 (by decide +kernel) (by decide +kernel)) cvX9_four.1 cvX9_four.2 rfl (by decide) hc16 (by omega) rfl (Nat.le_of_ble_eq_true rfl) (okX9_four hq15) rfl ?_
    refine k_aload_n (pc := 35) (x := v0) dX9_feed_35 rfl rfl ?_
    refine k_iload (pc := 36) (x := v4) dX9_feed_36 rfl ?_
    obtain ⟨hc20, h⟩ := k_pk h
    obtain ⟨r17, A18, hq19, h⟩ := k_pb h
    refine k_callV (pc := 38) (ci := 9) (a := v0) (as := [(0, v4)]) (st := []) (st1 := []) dX9_feed_38 cbX9_four (k_gt 1011 (by decide +kernel) (by decide +kernel)) cvX9_four.1 cvX9_four.2 rfl (by decide) hc20 (by omega) rfl (Nat.le_of_ble_eq_true rfl) (okX9_four hq19) rfl ?_
    refine k_aload_n (pc := 41) (x := v0) dX9_feed_41 rfl rfl ?_
    refine k_iload (pc := 42) (x := v5) dX9_feed_42 rfl ?_
    obtain ⟨hc24, h⟩ := k_pk h
    obtain ⟨r21, A22, hq23, h⟩ := k_pb h
    refine k_callV (pc := 44) (ci := 9) (a := v0) (as := [(0, v5)]) (st := []) (st1 := []) dX9_feed_44 cbX9_four (k_gt 1011 (by decide +kernel) (by decide +kernel)) cvX9_four.1 cvX9_four.2 rfl (by decide) hc24 (by omega) rfl (Nat.le_of_ble_eq_true rfl) (okX9_four hq23) rfl ?_
    refine k_aload_n (pc := 47) (x := v0) dX9_feed_47 rfl rfl ?_
    obtain ⟨hc25, h⟩ := k_pk h
    refine k_getf (pc := 48) (t := 0) (fi := 2) dX9_feed_48 flX9_106 rfl rfl hc25 ?_
    obtain ⟨rfl, rfl⟩ := k_pr h
    exact k_ret (pc := 51) dX9_feed_51 rfl rfl rfl
  · rw [if_pos (Int.not_le.mp c5)] at h
    refine k_iconst (pc := 18) dX9_feed_18 ⟨by decide, by decide⟩ ?_
    obtain ⟨rfl, rfl⟩ := k_pr h
    exact k_ret (pc := 19) dX9_feed_19 rfl rfl rfl
theorem okX9_feed {A : k_H} {x0 x1 x2 x3 x4 x5 : Int} {r : Int} {A1 : k_H} (h : fX9_feed A x0 x1 x2 x3 x4 x5 = some (r, A1)) : k_AM 2 mX9_feed [(1, x0), (0, x1), (0, x2), (0, x3), (0, x4), (0, x5)] A r A1 :=
  k_AM_of2 (ls := [(1, x0), (0, x1), (0, x2), (0, x3), (0, x4), (0, x5)]) (Or.inl (by decide +kernel)) (by decide +kernel) (by decide) rfl (Nat.le_of_ble_eq_true rfl) ⟨Or.inr rfl, Or.inr rfl, Or.inr rfl, Or.inr rfl, Or.inr rfl, Or.inr rfl, trivial⟩ (okX9_feed_b0 A x0 x1 x2 x3 x4 x5 r A1 h)
/-! X9_hall -/
def fX9_hall_b0 (A : k_H) (v0 v1 v2 v3 v4 : Int) : Option (Int × k_H) := if k_isO A v0 9 then (k_lt (k_wt A v0 0 0) fun A2 => k_bd (fX9_taken A2 v0) fun r4 A5 => if k_isO A5 v0 9 then (if (k_rd A5 v0 20) = 12 then (some ((-1), A5)) else (k_bd (fX9_isIn A5 v1 0 99) fun r10 A11 => if r10 = 0 then (some ((-1), A11)) else (k_bd (fX9_isIn A11 v2 0 99) fun r14 A15 => if r14 = 0 then (some ((-1), A15)) else (k_bd (fX9_isIn A15 v3 0 99) fun r18 A19 => if r18 = 0 then (some ((-1), A19)) else (k_bd (fX9_isIn A19 v4 0 99) fun r22 A23 => if r22 = 0 then (some ((-1), A23)) else (if k_isO A23 v0 9 then (k_bd (fX9_areAmps A23 v0 1 4) fun r26 A27 => if r26 = 0 then (some ((-1), A27)) else (if k_isO A27 v0 9 then (if k_isA A27 (k_rd A27 v0 5) 21 (k_rd A27 v0 20) then (k_lt (k_wt A27 (k_rd A27 v0 5) (k_rd A27 v0 20) v1) fun A33 => if k_isA A33 (k_rd A33 v0 6) 21 (k_rd A33 v0 20) then (k_lt (k_wt A33 (k_rd A33 v0 6) (k_rd A33 v0 20) v2) fun A37 => k_bd (fX9_wire A37 v0 (k_rd A37 v0 20) v3 v4) fun r40 A41 => if k_isO A41 v0 9 then (k_lt (k_wt A41 v0 20 (k_wr ((k_rd A41 v0 20) + 1))) fun A44 => some (k_wr ((k_rd A44 v0 20) - 1), A44)) else none) else none) else none) else none)) else none)))))) else none) else none
def fX9_hall (A : k_H) (x0 x1 x2 x3 x4 : Int) : Option (Int × k_H) := fX9_hall_b0 A x0 x1 x2 x3 x4
set_option maxRecDepth 100000 in
theorem okX9_hall_b0 (A : k_H) (v0 v1 v2 v3 v4 : Int) (r : Int) (A' : k_H) (h : fX9_hall_b0 A v0 v1 v2 v3 v4 = some (r, A')) : k_AW 2 mX9_hall 0 [(1, v0), (0, v1), (0, v2), (0, v3), (0, v4)] [] A r A' := by
  unfold fX9_hall_b0 at h
  refine k_aload_n (pc := 0) (x := v0) dX9_hall_0 rfl rfl ?_
  refine k_iconst (pc := 1) dX9_hall_1 ⟨by decide, by decide⟩ ?_
  obtain ⟨hc1, h⟩ := k_pk h
  refine k_putf (pc := 2) (t := 0) (fi := 0) dX9_hall_2 flX9_102 rfl rfl hc1 rfl ?_
  obtain ⟨A2, eA3, h⟩ := k_pl h
  refine k_hq eA3 ?_
  refine k_aload_n (pc := 5) (x := v0) dX9_hall_5 rfl rfl ?_
  have hf7 := k_oW eA3 hc1
  obtain ⟨r4, A5, hq6, h⟩ := k_pb h
  refine k_callV (pc := 6) (ci := 9) (a := v0) (as := []) (st := []) (st1 := []) dX9_hall_6 cbX9_taken (k_gt 1023 (by decide +kernel) (by decide +kernel)) cvX9_taken.1 cvX9_taken.2 rfl (by decide) hf7 (by omega) rfl (Nat.le_of_ble_eq_true rfl) (okX9_taken hq6) rfl ?_
  refine k_aload_n (pc := 9) (x := v0) dX9_hall_9 rfl rfl ?_
  obtain ⟨hc8, h⟩ := k_pk h
  refine k_getf (pc := 10) (t := 0) (fi := 20) dX9_hall_10 flX9_119 rfl rfl hc8 ?_
  refine k_bipush (pc := 13) dX9_hall_13 ⟨by decide, by decide⟩ (by decide +kernel) ?_
  refine k_icmp_eq (pc := 15) (tgt := 68) dX9_hall_15 rfl (fun c9 => ?_) (fun c9 => ?_)
  · rw [if_pos c9] at h
    refine k_iconst (pc := 68) dX9_hall_68 ⟨by decide, by decide⟩ ?_
    obtain ⟨rfl, rfl⟩ := k_pr h
    exact k_ret (pc := 69) dX9_hall_69 rfl rfl rfl
  · rw [if_neg c9] at h
    refine k_iload_n (pc := 18) (x := v1) dX9_hall_18 rfl rfl ?_
    refine k_iconst (pc := 19) dX9_hall_19 ⟨by decide, by decide⟩ ?_
    refine k_bipush (pc := 20) dX9_hall_20 ⟨by decide, by decide⟩ (by decide +kernel) ?_
    obtain ⟨r10, A11, hq12, h⟩ := k_pb h
    refine k_callS (pc := 22) (as := [(0, v1), (0, 0), (0, 99)]) (st := []) (st1 := [(0, r10)]) dX9_hall_22 cbX9_isIn (k_gt 1027 (by decide +kernel) (by decide +kernel)) (k_gt 1028 (by decide +kernel) (by decide +kernel)) (by omega) rfl (Nat.le_of_ble_eq_true rfl) (okX9_isIn hq12) rfl ?_
    refine k_if_eq (pc := 25) (tgt := 68) dX9_hall_25 rfl (fun c13 => ?_) (fun c13 => ?_)
    · rw [if_pos c13] at h
      refine k_iconst (pc := 68) dX9_hall_68 ⟨by decide, by decide⟩ ?_
      obtain ⟨rfl, rfl⟩ := k_pr h
      exact k_ret (pc := 69) dX9_hall_69 rfl rfl rfl
    · rw [if_neg c13] at h
      refine k_iload_n (pc := 28) (x := v2) dX9_hall_28 rfl rfl ?_
      refine k_iconst (pc := 29) dX9_hall_29 ⟨by decide, by decide⟩ ?_
      refine k_bipush (pc := 30) dX9_hall_30 ⟨by decide, by decide⟩ (by decide +kernel) ?_
      obtain ⟨r14, A15, hq16, h⟩ := k_pb h
      refine k_callS (pc := 32) (as := [(0, v2), (0, 0), (0, 99)]) (st := []) (st1 := [(0, r14)]) dX9_hall_32 cbX9_isIn (k_gt 1027 (by decide +kernel) (by decide +kernel)) (k_gt 1028 (by decide +kernel) (by decide +kernel)) (by omega) rfl (Nat.le_of_ble_eq_true rfl) (okX9_isIn hq16) rfl ?_
      refine k_if_eq (pc := 35) (tgt := 68) dX9_hall_35 rfl (fun c17 => ?_) (fun c17 => ?_)
      · rw [if_pos c17] at h
        refine k_iconst (pc := 68) dX9_hall_68 ⟨by decide, by decide⟩ ?_
        obtain ⟨rfl, rfl⟩ := k_pr h
        exact k_ret (pc := 69) dX9_hall_69 rfl rfl rfl
      · rw [if_neg c17] at h
        refine k_iload_n (pc := 38) (x := v3) dX9_hall_38 rfl rfl ?_
        refine k_iconst (pc := 39) dX9_hall_39 ⟨by decide, by decide⟩ ?_
        refine k_bipush (pc := 40) dX9_hall_40 ⟨by decide, by decide⟩ (by decide +kernel) ?_
        obtain ⟨r18, A19, hq20, h⟩ := k_pb h
        refine k_callS (pc := 42) (as := [(0, v3), (0, 0), (0, 99)]) (st := []) (st1 := [(0, r18)]) dX9_hall_42 cbX9_isIn (k_gt 1027 (by decide +kernel) (by decide +kernel)) (k_gt 1028 (by decide +kernel) (by decide +kernel)) (by omega) rfl (Nat.le_of_ble_eq_true rfl) (okX9_isIn hq20) rfl ?_
        refine k_if_eq (pc := 45) (tgt := 68) dX9_hall_45 rfl (fun c21 => ?_) (fun c21 => ?_)
        · rw [if_pos c21] at h
          refine k_iconst (pc := 68) dX9_hall_68 ⟨by decide, by decide⟩ ?_
          obtain ⟨rfl, rfl⟩ := k_pr h
          exact k_ret (pc := 69) dX9_hall_69 rfl rfl rfl
        · rw [if_neg c21] at h
          refine k_iload (pc := 48) (x := v4) dX9_hall_48 rfl ?_
          refine k_iconst (pc := 50) dX9_hall_50 ⟨by decide, by decide⟩ ?_
          refine k_bipush (pc := 51) dX9_hall_51 ⟨by decide, by decide⟩ (by decide +kernel) ?_
          obtain ⟨r22, A23, hq24, h⟩ := k_pb h
          refine k_callS (pc := 53) (as := [(0, v4), (0, 0), (0, 99)]) (st := []) (st1 := [(0, r22)]) dX9_hall_53 cbX9_isIn (k_gt 1027 (by decide +kernel) (by decide +kernel)) (k_gt 1028 (by decide +kernel) (by decide +kernel)) (by omega) rfl (Nat.le_of_ble_eq_true rfl) (okX9_isIn hq24) rfl ?_
          refine k_if_eq (pc := 56) (tgt := 68) dX9_hall_56 rfl (fun c25 => ?_) (fun c25 => ?_)
          · rw [if_pos c25] at h
            refine k_iconst (pc := 68) dX9_hall_68 ⟨by decide, by decide⟩ ?_
            obtain ⟨rfl, rfl⟩ := k_pr h
            exact k_ret (pc := 69) dX9_hall_69 rfl rfl rfl
          · rw [if_neg c25] at h
            refine k_aload_n (pc := 59) (x := v0) dX9_hall_59 rfl rfl ?_
            refine k_iconst (pc := 60) dX9_hall_60 ⟨by decide, by decide⟩ ?_
            refine k_iconst (pc := 61) dX9_hall_61 ⟨by decide, by decide⟩ ?_
            obtain ⟨hc29, h⟩ := k_pk h
            obtain ⟨r26, A27, hq28, h⟩ := k_pb h
            refine k_callV (pc := 62) (ci := 9) (a := v0) (as := [(0, 1), (0, 4)]) (st := []) (st1 := [(0, r26)]) dX9_hall_62 cbX9_areAmps (k_gt 1030 (by decide +kernel) (by decide +kernel)) cvX9_areAmps.1 cvX9_areAmps.2 rfl (by decide) hc29 (by omega) rfl (Nat.le_of_ble_eq_true rfl) (okX9_areAmps hq28) rfl ?_
            refine k_if_ne (pc := 65) (tgt := 70) dX9_hall_65 rfl (fun c30 => ?_) (fun c30 => ?_)
            · rw [if_neg c30] at h
              refine k_aload_n (pc := 70) (x := v0) dX9_hall_70 rfl rfl ?_
              obtain ⟨hc31, h⟩ := k_pk h
              refine k_getf (pc := 71) (t := 1) (fi := 5) dX9_hall_71 flX9_13 rfl rfl hc31 ?_
              refine k_aload_n (pc := 74) (x := v0) dX9_hall_74 rfl rfl ?_
              refine k_getf (pc := 75) (t := 0) (fi := 20) dX9_hall_75 flX9_119 rfl rfl hc31 ?_
              refine k_iload_n (pc := 78) (x := v1) dX9_hall_78 rfl rfl ?_
              obtain ⟨hc32, h⟩ := k_pk h
              refine k_iastore (pc := 79) dX9_hall_79 hc32 ?_
              obtain ⟨A33, eA34, h⟩ := k_pl h
              refine k_hq eA34 ?_
              refine k_aload_n (pc := 80) (x := v0) dX9_hall_80 rfl rfl ?_
              have hf35 := k_oW eA34 hc31
              refine k_getf (pc := 81) (t := 1) (fi := 6) dX9_hall_81 flX9_17 rfl rfl hf35 ?_
              refine k_aload_n (pc := 84) (x := v0) dX9_hall_84 rfl rfl ?_
              refine k_getf (pc := 85) (t := 0) (fi := 20) dX9_hall_85 flX9_119 rfl rfl hf35 ?_
              refine k_iload_n (pc := 88) (x := v2) dX9_hall_88 rfl rfl ?_
              obtain ⟨hc36, h⟩ := k_pk h
              refine k_iastore (pc := 89) dX9_hall_89 hc36 ?_
              obtain ⟨A37, eA38, h⟩ := k_pl h
              refine k_hq eA38 ?_
              refine k_aload_n (pc := 90) (x := v0) dX9_hall_90 rfl rfl ?_
              refine k_aload_n (pc := 91) (x := v0) dX9_hall_91 rfl rfl ?_
              have hf39 := k_oW eA38 hf35
              refine k_getf (pc := 92) (t := 0) (fi := 20) dX9_hall_92 flX9_119 rfl rfl hf39 ?_
              refine k_iload_n (pc := 95) (x := v3) dX9_hall_95 rfl rfl ?_
              refine k_iload (pc := 96) (x := v4) dX9_hall_96 rfl ?_
              obtain ⟨r40, A41, hq42, h⟩ := k_pb h
              refine k_callV (pc := 98) (ci := 9) (a := v0) (as := [(0, (k_rd A37 v0 20)), (0, v3), (0, v4)]) (st := []) (st1 := []) dX9_hall_98 cbX9_wire (k_gt 1034 (by decide +kernel) (by decide +kernel)) cvX9_wire.1 cvX9_wire.2 rfl (by decide) hf39 (by omega) rfl (Nat.le_of_ble_eq_true rfl) (okX9_wire hq42) rfl ?_
              refine k_aload_n (pc := 101) (x := v0) dX9_hall_101 rfl rfl ?_
              refine k_dup (pc := 102) dX9_hall_102 (Nat.le_of_ble_eq_true rfl) ?_
              obtain ⟨hc43, h⟩ := k_pk h
              refine k_getf (pc := 103) (t := 0) (fi := 20) dX9_hall_103 flX9_119 rfl rfl hc43 ?_
              refine k_iconst (pc := 106) dX9_hall_106 ⟨by decide, by decide⟩ ?_
              refine k_iadd (pc := 107) dX9_hall_107 ?_
              refine k_putf (pc := 108) (t := 0) (fi := 20) dX9_hall_108 flX9_119 rfl rfl hc43 rfl ?_
              obtain ⟨A44, eA45, h⟩ := k_pl h
              refine k_hq eA45 ?_
              refine k_aload_n (pc := 111) (x := v0) dX9_hall_111 rfl rfl ?_
              have hf46 := k_oW eA45 hc43
              refine k_getf (pc := 112) (t := 0) (fi := 20) dX9_hall_112 flX9_119 rfl rfl hf46 ?_
              refine k_iconst (pc := 115) dX9_hall_115 ⟨by decide, by decide⟩ ?_
              refine k_isub (pc := 116) dX9_hall_116 ?_
              obtain ⟨rfl, rfl⟩ := k_pr h
              exact k_ret (pc := 117) dX9_hall_117 rfl rfl rfl
            · rw [if_pos (Classical.not_not.mp c30)] at h
              refine k_iconst (pc := 68) dX9_hall_68 ⟨by decide, by decide⟩ ?_
              obtain ⟨rfl, rfl⟩ := k_pr h
              exact k_ret (pc := 69) dX9_hall_69 rfl rfl rfl
theorem okX9_hall {A : k_H} {x0 x1 x2 x3 x4 : Int} {r : Int} {A1 : k_H} (h : fX9_hall A x0 x1 x2 x3 x4 = some (r, A1)) : k_AM 2 mX9_hall [(1, x0), (0, x1), (0, x2), (0, x3), (0, x4)] A r A1 :=
  k_AM_of2 (ls := [(1, x0), (0, x1), (0, x2), (0, x3), (0, x4)]) (Or.inl (by decide +kernel)) (by decide +kernel) (by decide) rfl (Nat.le_of_ble_eq_true rfl) ⟨Or.inr rfl, Or.inr rfl, Or.inr rfl, Or.inr rfl, Or.inr rfl, trivial⟩ (okX9_hall_b0 A x0 x1 x2 x3 x4 r A1 h)
/-! X9_rewire -/
def fX9_rewire_b0 (A : k_H) (v0 v1 v2 v3 : Int) : Option (Int × k_H) := if k_isO A v0 9 then (k_lt (k_wt A v0 0 0) fun A2 => k_bd (fX9_taken A2 v0) fun r4 A5 => if k_isO A5 v0 9 then (k_bd (fX9_isHall A5 v0 v1) fun r8 A9 => if r8 = 0 then (some (0, A9)) else (k_bd (fX9_isIn A9 v2 0 99) fun r13 A14 => if r13 = 0 then (some (0, A14)) else (k_bd (fX9_isIn A14 v3 0 99) fun r17 A18 => if r17 = 0 then (some (0, A18)) else (if k_isO A18 v0 9 then (k_bd (fX9_areAmps A18 v0 1 4) fun r21 A22 => if r21 = 0 then (some (0, A22)) else (if k_isO A22 v0 9 then (k_bd (fX9_wire A22 v0 v1 v2 v3) fun r26 A27 => some (1, A27)) else none)) else none)))) else none) else none
def fX9_rewire (A : k_H) (x0 x1 x2 x3 : Int) : Option (Int × k_H) := fX9_rewire_b0 A x0 x1 x2 x3
set_option maxRecDepth 100000 in
theorem okX9_rewire_b0 (A : k_H) (v0 v1 v2 v3 : Int) (r : Int) (A' : k_H) (h : fX9_rewire_b0 A v0 v1 v2 v3 = some (r, A')) : k_AW 2 mX9_rewire 0 [(1, v0), (0, v1), (0, v2), (0, v3)] [] A r A' := by
  unfold fX9_rewire_b0 at h
  refine k_aload_n (pc := 0) (x := v0) dX9_rewire_0 rfl rfl ?_
  refine k_iconst (pc := 1) dX9_rewire_1 ⟨by decide, by decide⟩ ?_
  obtain ⟨hc1, h⟩ := k_pk h
  refine k_putf (pc := 2) (t := 0) (fi := 0) dX9_rewire_2 flX9_102 rfl rfl hc1 rfl ?_
  obtain ⟨A2, eA3, h⟩ := k_pl h
  refine k_hq eA3 ?_
  refine k_aload_n (pc := 5) (x := v0) dX9_rewire_5 rfl rfl ?_
  have hf7 := k_oW eA3 hc1
  obtain ⟨r4, A5, hq6, h⟩ := k_pb h
  refine k_callV (pc := 6) (ci := 9) (a := v0) (as := []) (st := []) (st1 := []) dX9_rewire_6 cbX9_taken (k_gt 1023 (by decide +kernel) (by decide +kernel)) cvX9_taken.1 cvX9_taken.2 rfl (by decide) hf7 (by omega) rfl (Nat.le_of_ble_eq_true rfl) (okX9_taken hq6) rfl ?_
  refine k_aload_n (pc := 9) (x := v0) dX9_rewire_9 rfl rfl ?_
  refine k_iload_n (pc := 10) (x := v1) dX9_rewire_10 rfl rfl ?_
  obtain ⟨hc11, h⟩ := k_pk h
  obtain ⟨r8, A9, hq10, h⟩ := k_pb h
  refine k_callV (pc := 11) (ci := 9) (a := v0) (as := [(0, v1)]) (st := []) (st1 := [(0, r8)]) dX9_rewire_11 cbX9_isHall (k_gt 1042 (by decide +kernel) (by decide +kernel)) cvX9_isHall.1 cvX9_isHall.2 rfl (by decide) hc11 (by omega) rfl (Nat.le_of_ble_eq_true rfl) (okX9_isHall hq10) rfl ?_
  refine k_if_eq (pc := 14) (tgt := 46) dX9_rewire_14 rfl (fun c12 => ?_) (fun c12 => ?_)
  · rw [if_pos c12] at h
    refine k_iconst (pc := 46) dX9_rewire_46 ⟨by decide, by decide⟩ ?_
    obtain ⟨rfl, rfl⟩ := k_pr h
    exact k_ret (pc := 47) dX9_rewire_47 rfl rfl (by decide +kernel)
  · rw [if_neg c12] at h
    refine k_iload_n (pc := 17) (x := v2) dX9_rewire_17 rfl rfl ?_
    refine k_iconst (pc := 18) dX9_rewire_18 ⟨by decide, by decide⟩ ?_
    refine k_bipush (pc := 19) dX9_rewire_19 ⟨by decide, by decide⟩ (by decide +kernel) ?_
    obtain ⟨r13, A14, hq15, h⟩ := k_pb h
    refine k_callS (pc := 21) (as := [(0, v2), (0, 0), (0, 99)]) (st := []) (st1 := [(0, r13)]) dX9_rewire_21 cbX9_isIn (k_gt 1027 (by decide +kernel) (by decide +kernel)) (k_gt 1028 (by decide +kernel) (by decide +kernel)) (by omega) rfl (Nat.le_of_ble_eq_true rfl) (okX9_isIn hq15) rfl ?_
    refine k_if_eq (pc := 24) (tgt := 46) dX9_rewire_24 rfl (fun c16 => ?_) (fun c16 => ?_)
    · rw [if_pos c16] at h
      refine k_iconst (pc := 46) dX9_rewire_46 ⟨by decide, by decide⟩ ?_
      obtain ⟨rfl, rfl⟩ := k_pr h
      exact k_ret (pc := 47) dX9_rewire_47 rfl rfl (by decide +kernel)
    · rw [if_neg c16] at h
      refine k_iload_n (pc := 27) (x := v3) dX9_rewire_27 rfl rfl ?_
      refine k_iconst (pc := 28) dX9_rewire_28 ⟨by decide, by decide⟩ ?_
      refine k_bipush (pc := 29) dX9_rewire_29 ⟨by decide, by decide⟩ (by decide +kernel) ?_
      obtain ⟨r17, A18, hq19, h⟩ := k_pb h
      refine k_callS (pc := 31) (as := [(0, v3), (0, 0), (0, 99)]) (st := []) (st1 := [(0, r17)]) dX9_rewire_31 cbX9_isIn (k_gt 1027 (by decide +kernel) (by decide +kernel)) (k_gt 1028 (by decide +kernel) (by decide +kernel)) (by omega) rfl (Nat.le_of_ble_eq_true rfl) (okX9_isIn hq19) rfl ?_
      refine k_if_eq (pc := 34) (tgt := 46) dX9_rewire_34 rfl (fun c20 => ?_) (fun c20 => ?_)
      · rw [if_pos c20] at h
        refine k_iconst (pc := 46) dX9_rewire_46 ⟨by decide, by decide⟩ ?_
        obtain ⟨rfl, rfl⟩ := k_pr h
        exact k_ret (pc := 47) dX9_rewire_47 rfl rfl (by decide +kernel)
      · rw [if_neg c20] at h
        refine k_aload_n (pc := 37) (x := v0) dX9_rewire_37 rfl rfl ?_
        refine k_iconst (pc := 38) dX9_rewire_38 ⟨by decide, by decide⟩ ?_
        refine k_iconst (pc := 39) dX9_rewire_39 ⟨by decide, by decide⟩ ?_
        obtain ⟨hc24, h⟩ := k_pk h
        obtain ⟨r21, A22, hq23, h⟩ := k_pb h
        refine k_callV (pc := 40) (ci := 9) (a := v0) (as := [(0, 1), (0, 4)]) (st := []) (st1 := [(0, r21)]) dX9_rewire_40 cbX9_areAmps (k_gt 1030 (by decide +kernel) (by decide +kernel)) cvX9_areAmps.1 cvX9_areAmps.2 rfl (by decide) hc24 (by omega) rfl (Nat.le_of_ble_eq_true rfl) (okX9_areAmps hq23) rfl ?_
        refine k_if_ne (pc := 43) (tgt := 48) dX9_rewire_43 rfl (fun c25 => ?_) (fun c25 => ?_)
        · rw [if_neg c25] at h
          refine k_aload_n (pc := 48) (x := v0) dX9_rewire_48 rfl rfl ?_
          refine k_iload_n (pc := 49) (x := v1) dX9_rewire_49 rfl rfl ?_
          refine k_iload_n (pc := 50) (x := v2) dX9_rewire_50 rfl rfl ?_
          refine k_iload_n (pc := 51) (x := v3) dX9_rewire_51 rfl rfl ?_
          obtain ⟨hc29, h⟩ := k_pk h
          obtain ⟨r26, A27, hq28, h⟩ := k_pb h
          refine k_callV (pc := 52) (ci := 9) (a := v0) (as := [(0, v1), (0, v2), (0, v3)]) (st := []) (st1 := []) dX9_rewire_52 cbX9_wire (k_gt 1034 (by decide +kernel) (by decide +kernel)) cvX9_wire.1 cvX9_wire.2 rfl (by decide) hc29 (by omega) rfl (Nat.le_of_ble_eq_true rfl) (okX9_wire hq28) rfl ?_
          refine k_iconst (pc := 55) dX9_rewire_55 ⟨by decide, by decide⟩ ?_
          obtain ⟨rfl, rfl⟩ := k_pr h
          exact k_ret (pc := 56) dX9_rewire_56 rfl rfl (by decide +kernel)
        · rw [if_pos (Classical.not_not.mp c25)] at h
          refine k_iconst (pc := 46) dX9_rewire_46 ⟨by decide, by decide⟩ ?_
          obtain ⟨rfl, rfl⟩ := k_pr h
          exact k_ret (pc := 47) dX9_rewire_47 rfl rfl (by decide +kernel)
theorem okX9_rewire {A : k_H} {x0 x1 x2 x3 : Int} {r : Int} {A1 : k_H} (h : fX9_rewire A x0 x1 x2 x3 = some (r, A1)) : k_AM 2 mX9_rewire [(1, x0), (0, x1), (0, x2), (0, x3)] A r A1 :=
  k_AM_of2 (ls := [(1, x0), (0, x1), (0, x2), (0, x3)]) (Or.inl (by decide +kernel)) (by decide +kernel) (by decide) rfl (Nat.le_of_ble_eq_true rfl) ⟨Or.inr rfl, Or.inr rfl, Or.inr rfl, Or.inr rfl, trivial⟩ (okX9_rewire_b0 A x0 x1 x2 x3 r A1 h)
/-! X9_show -/
def fX9_show_h207 : Nat → k_H → Int → Int → Int → Option (Int × k_H)
  | 0, _, _, _, _ => none
  | N + 1, A, v0, v7, v8 => if v8 < 14 then (if k_isO A v0 9 then (if k_isA A (k_rd A v0 24) 21 (k_wr (k_wr (14 * v7) + v8)) then (k_lt (k_wt A (k_rd A v0 24) (k_wr (k_wr (14 * v7) + v8)) (-1)) fun A7 => if k_isA A7 (k_rd A7 v0 25) 21 (k_wr (k_wr (14 * v7) + v8)) then (k_lt (k_wt A7 (k_rd A7 v0 25) (k_wr (k_wr (14 * v7) + v8)) (-1)) fun A11 => (fX9_show_h207 N) A11 v0 v7 (k_wr (v8 + 1))) else none) else none) else none) else (if k_isO A v0 9 then (k_lt (k_wt A v0 21 (k_wr ((k_rd A v0 21) + 1))) fun A3 => some (v7, A3)) else none)
def fX9_show_h165 : Nat → k_H → Int → Int → Int → Option (Int × k_H)
  | 0, _, _, _, _ => none
  | N + 1, A, v0, v7, v8 => if k_isO A v0 9 then (if v8 < (k_rd A v0 3) then (if k_isA A (k_rd A v0 1) 20 v8 then (if k_isA A (k_rd A v0 14) 21 (k_wr (k_wr (8 * v7) + v8)) then (k_lt (k_wt A (k_rd A v0 14) (k_wr (k_wr (8 * v7) + v8)) (k_and (k_rd A (k_rd A v0 1) v8) 255)) fun A5 => (fX9_show_h165 N) A5 v0 v7 (k_wr (v8 + 1))) else none) else none) else (fX9_show_h207 k_FU A v0 v7 0)) else none
def fX9_show_b0 (A : k_H) (v0 v1 v2 v3 v4 v5 v6 : Int) : Option (Int × k_H) := if k_isO A v0 9 then (k_lt (k_wt A v0 0 0) fun A2 => k_bd (fX9_taken A2 v0) fun r4 A5 => if k_isO A5 v0 9 then (if (k_rd A5 v0 21) = 6 then (some ((-1), A5)) else (k_bd (fX9_isIn A5 v1 0 99) fun r10 A11 => if r10 = 0 then (some ((-1), A11)) else (k_bd (fX9_isIn A11 v2 0 99) fun r14 A15 => if r14 = 0 then (some ((-1), A15)) else (k_bd (fX9_isIn A15 v4 0 13) fun r18 A19 => if r18 = 0 then (some ((-1), A19)) else (k_bd (fX9_isIn A19 v3 0 v4) fun r22 A23 => if r22 = 0 then (some ((-1), A23)) else (k_bd (fX9_isIn A23 v5 1 200) fun r26 A27 => if r26 = 0 then (some ((-1), A27)) else (k_bd (fX9_isIn A27 v6 1 14) fun r30 A31 => if r30 = 0 then (some ((-1), A31)) else (if k_isO A31 v0 9 then (k_bd (fX9_areAmps A31 v0 0 8) fun r34 A35 => if r34 = 0 then (some ((-1), A35)) else (if k_isO A35 v0 9 then (if k_isA A35 (k_rd A35 v0 11) 21 (k_rd A35 v0 21) then (k_lt (k_wt A35 (k_rd A35 v0 11) (k_rd A35 v0 21) v1) fun A41 => if k_isA A41 (k_rd A41 v0 12) 21 (k_rd A35 v0 21) then (k_lt (k_wt A41 (k_rd A41 v0 12) (k_rd A35 v0 21) v2) fun A45 => if k_isA A45 (k_rd A45 v0 15) 21 (k_rd A35 v0 21) then (k_lt (k_wt A45 (k_rd A45 v0 15) (k_rd A35 v0 21) v3) fun A49 => if k_isA A49 (k_rd A49 v0 16) 21 (k_rd A35 v0 21) then (k_lt (k_wt A49 (k_rd A49 v0 16) (k_rd A35 v0 21) v4) fun A53 => if k_isA A53 (k_rd A53 v0 17) 21 (k_rd A35 v0 21) then (k_lt (k_wt A53 (k_rd A53 v0 17) (k_rd A35 v0 21) v5) fun A57 => if k_isA A57 (k_rd A57 v0 18) 21 (k_rd A35 v0 21) then (k_lt (k_wt A57 (k_rd A57 v0 18) (k_rd A35 v0 21) v6) fun A61 => if k_isA A61 (k_rd A61 v0 13) 21 (k_rd A35 v0 21) then (k_lt (k_wt A61 (k_rd A61 v0 13) (k_rd A35 v0 21) (k_rd A61 v0 3)) fun A65 => fX9_show_h165 k_FU A65 v0 (k_rd A35 v0 21) 0) else none) else none) else none) else none) else none) else none) else none) else none)) else none)))))))) else none) else none
def fX9_show (A : k_H) (x0 x1 x2 x3 x4 x5 x6 : Int) : Option (Int × k_H) := fX9_show_b0 A x0 x1 x2 x3 x4 x5 x6
set_option maxRecDepth 100000 in
theorem okX9_show_h207 : ∀ (N : Nat) (A : k_H) (v0 v7 v8 : Int) (r : Int) (A' : k_H), fX9_show_h207 N A v0 v7 v8 = some (r, A') → k_AW 2 mX9_show 207 [(1, v0), (3, 0), (3, 0), (3, 0), (3, 0), (3, 0), (3, 0), (0, v7), (0, v8)] [] A r A' := by
  intro N
  induction N with
  | zero => intro A v0 v7 v8 r A' h; exact absurd h (by simp [fX9_show_h207])
  | succ N ih =>
    intro A v0 v7 v8 r A' h
    rw [fX9_show_h207] at h
    refine k_iload (pc := 207) (x := v8) dX9_show_207 rfl ?_
    refine k_bipush (pc := 209) dX9_show_209 ⟨by decide, by decide⟩ (by decide +kernel) ?_
    refine k_icmp_ge (pc := 211) (tgt := 248) dX9_show_211 rfl (fun c1 => ?_) (fun c1 => ?_)
    · rw [if_neg (Int.not_lt.mpr c1)] at h
      refine k_aload_n (pc := 248) (x := v0) dX9_show_248 rfl rfl ?_
      refine k_dup (pc := 249) dX9_show_249 (Nat.le_of_ble_eq_true rfl) ?_
      obtain ⟨hc2, h⟩ := k_pk h
      refine k_getf (pc := 250) (t := 0) (fi := 21) dX9_show_250 flX9_122 rfl rfl hc2 ?_
      refine k_iconst (pc := 253) dX9_show_253 ⟨by decide, by decide⟩ ?_
      refine k_iadd (pc := 254) dX9_show_254 ?_
      refine k_putf (pc := 255) (t := 0) (fi := 21) dX9_show_255 flX9_122 rfl rfl hc2 rfl ?_
      obtain ⟨A3, eA4, h⟩ := k_pl h
      refine k_hq eA4 ?_
      refine k_iload (pc := 258) (x := v7) dX9_show_258 rfl ?_
      obtain ⟨rfl, rfl⟩ := k_pr h
      exact k_ret (pc := 260) dX9_show_260 rfl rfl rfl
    · rw [if_pos (Int.not_le.mp c1)] at h
      refine k_aload_n (pc := 214) (x := v0) dX9_show_214 rfl rfl ?_
      obtain ⟨hc5, h⟩ := k_pk h
      refine k_getf (pc := 215) (t := 1) (fi := 24) dX9_show_215 flX9_65 rfl rfl hc5 ?_
      refine k_bipush (pc := 218) dX9_show_218 ⟨by decide, by decide⟩ (by decide +kernel) ?_
      refine k_iload (pc := 220) (x := v7) dX9_show_220 rfl ?_
      refine k_imul (pc := 222) dX9_show_222 ?_
      refine k_iload (pc := 223) (x := v8) dX9_show_223 rfl ?_
      refine k_iadd (pc := 225) dX9_show_225 ?_
      refine k_iconst (pc := 226) dX9_show_226 ⟨by decide, by decide⟩ ?_
      obtain ⟨hc6, h⟩ := k_pk h
      refine k_iastore (pc := 227) dX9_show_227 hc6 ?_
      obtain ⟨A7, eA8, h⟩ := k_pl h
      refine k_hq eA8 ?_
      refine k_aload_n (pc := 228) (x := v0) dX9_show_228 rfl rfl ?_
      have hf9 := k_oW eA8 hc5
      refine k_getf (pc := 229) (t := 1) (fi := 25) dX9_show_229 flX9_68 rfl rfl hf9 ?_
      refine k_bipush (pc := 232) dX9_show_232 ⟨by decide, by decide⟩ (by decide +kernel) ?_
      refine k_iload (pc := 234) (x := v7) dX9_show_234 rfl ?_
      refine k_imul (pc := 236) dX9_show_236 ?_
      refine k_iload (pc := 237) (x := v8) dX9_show_237 rfl ?_
      refine k_iadd (pc := 239) dX9_show_239 ?_
      refine k_iconst (pc := 240) dX9_show_240 ⟨by decide, by decide⟩ ?_
      obtain ⟨hc10, h⟩ := k_pk h
      refine k_iastore (pc := 241) dX9_show_241 hc10 ?_
      obtain ⟨A11, eA12, h⟩ := k_pl h
      refine k_hq eA12 ?_
      refine k_iinc (pc := 242) (x := v8) dX9_show_242 (Nat.le_of_ble_eq_true rfl) rfl rfl ?_
      show k_AW _ _ _ [(1, v0), (3, 0), (3, 0), (3, 0), (3, 0), (3, 0), (3, 0), (0, v7), (0, k_wr (v8 + 1))] _ _ _ _
      refine k_goto (pc := 245) (tgt := 207) dX9_show_245 rfl ?_
      refine k_sub (ls' := [(1, v0), (3, 0), (3, 0), (3, 0), (3, 0), (3, 0), (3, 0), (0, v7), (0, k_wr (v8 + 1))]) (k_sbl_ok _ _ ⟨Or.inr rfl, Or.inl rfl, Or.inl rfl, Or.inl rfl, Or.inl rfl, Or.inl rfl, Or.inl rfl, Or.inr rfl, Or.inr rfl, trivial⟩) ?_
      exact ih _ _ _ _ _ _ h
set_option maxRecDepth 100000 in
theorem okX9_show_h165 : ∀ (N : Nat) (A : k_H) (v0 v7 v8 : Int) (r : Int) (A' : k_H), fX9_show_h165 N A v0 v7 v8 = some (r, A') → k_AW 2 mX9_show 165 [(1, v0), (3, 0), (3, 0), (3, 0), (3, 0), (3, 0), (3, 0), (0, v7), (0, v8)] [] A r A' := by
  intro N
  induction N with
  | zero => intro A v0 v7 v8 r A' h; exact absurd h (by simp [fX9_show_h165])
  | succ N ih =>
    intro A v0 v7 v8 r A' h
    rw [fX9_show_h165] at h
    refine k_iload (pc := 165) (x := v8) dX9_show_165 rfl ?_
    refine k_aload_n (pc := 167) (x := v0) dX9_show_167 rfl rfl ?_
    obtain ⟨hc1, h⟩ := k_pk h
    refine k_getf (pc := 168) (t := 0) (fi := 3) dX9_show_168 flX9_113 rfl rfl hc1 ?_
    refine k_icmp_ge (pc := 171) (tgt := 204) dX9_show_171 rfl (fun c2 => ?_) (fun c2 => ?_)
    · rw [if_neg (Int.not_lt.mpr c2)] at h
      refine k_iconst (pc := 204) dX9_show_204 ⟨by decide, by decide⟩ ?_
      refine k_istore (pc := 205) dX9_show_205 (Nat.le_of_ble_eq_true rfl) rfl ?_
      show k_AW _ _ _ [(1, v0), (3, 0), (3, 0), (3, 0), (3, 0), (3, 0), (3, 0), (0, v7), (0, 0)] _ _ _ _
      refine k_sub (ls' := [(1, v0), (3, 0), (3, 0), (3, 0), (3, 0), (3, 0), (3, 0), (0, v7), (0, 0)]) (k_sbl_ok _ _ ⟨Or.inr rfl, Or.inl rfl, Or.inl rfl, Or.inl rfl, Or.inl rfl, Or.inl rfl, Or.inl rfl, Or.inr rfl, Or.inr rfl, trivial⟩) ?_
      exact okX9_show_h207  _ _ _ _ _ _ _ h
    · rw [if_pos (Int.not_le.mp c2)] at h
      refine k_aload_n (pc := 174) (x := v0) dX9_show_174 rfl rfl ?_
      refine k_getf (pc := 175) (t := 1) (fi := 14) dX9_show_175 flX9_41 rfl rfl hc1 ?_
      refine k_bipush (pc := 178) dX9_show_178 ⟨by decide, by decide⟩ (by decide +kernel) ?_
      refine k_iload (pc := 180) (x := v7) dX9_show_180 rfl ?_
      refine k_imul (pc := 182) dX9_show_182 ?_
      refine k_iload (pc := 183) (x := v8) dX9_show_183 rfl ?_
      refine k_iadd (pc := 185) dX9_show_185 ?_
      refine k_aload_n (pc := 186) (x := v0) dX9_show_186 rfl rfl ?_
      refine k_getf (pc := 187) (t := 1) (fi := 1) dX9_show_187 flX9_7 rfl rfl hc1 ?_
      refine k_iload (pc := 190) (x := v8) dX9_show_190 rfl ?_
      obtain ⟨hc3, h⟩ := k_pk h
      refine k_baload (pc := 192) dX9_show_192 hc3 ?_
      refine k_sipush (pc := 193) dX9_show_193 ⟨by decide, by decide⟩ (by decide +kernel) ?_
      refine k_iand (pc := 196) dX9_show_196 ?_
      obtain ⟨hc4, h⟩ := k_pk h
      refine k_iastore (pc := 197) dX9_show_197 hc4 ?_
      obtain ⟨A5, eA6, h⟩ := k_pl h
      refine k_hq eA6 ?_
      refine k_iinc (pc := 198) (x := v8) dX9_show_198 (Nat.le_of_ble_eq_true rfl) rfl rfl ?_
      show k_AW _ _ _ [(1, v0), (3, 0), (3, 0), (3, 0), (3, 0), (3, 0), (3, 0), (0, v7), (0, k_wr (v8 + 1))] _ _ _ _
      refine k_goto (pc := 201) (tgt := 165) dX9_show_201 rfl ?_
      refine k_sub (ls' := [(1, v0), (3, 0), (3, 0), (3, 0), (3, 0), (3, 0), (3, 0), (0, v7), (0, k_wr (v8 + 1))]) (k_sbl_ok _ _ ⟨Or.inr rfl, Or.inl rfl, Or.inl rfl, Or.inl rfl, Or.inl rfl, Or.inl rfl, Or.inl rfl, Or.inr rfl, Or.inr rfl, trivial⟩) ?_
      exact ih _ _ _ _ _ _ h
set_option maxRecDepth 100000 in
theorem okX9_show_b0 (A : k_H) (v0 v1 v2 v3 v4 v5 v6 : Int) (r : Int) (A' : k_H) (h : fX9_show_b0 A v0 v1 v2 v3 v4 v5 v6 = some (r, A')) : k_AW 2 mX9_show 0 [(1, v0), (0, v1), (0, v2), (0, v3), (0, v4), (0, v5), (0, v6), (3, 0), (3, 0)] [] A r A' := by
  unfold fX9_show_b0 at h
  refine k_aload_n (pc := 0) (x := v0) dX9_show_0 rfl rfl ?_
  refine k_iconst (pc := 1) dX9_show_1 ⟨by decide, by decide⟩ ?_
  obtain ⟨hc1, h⟩ := k_pk h
  refine k_putf (pc := 2) (t := 0) (fi := 0) dX9_show_2 flX9_102 rfl rfl hc1 rfl ?_
  obtain ⟨A2, eA3, h⟩ := k_pl h
  refine k_hq eA3 ?_
  refine k_aload_n (pc := 5) (x := v0) dX9_show_5 rfl rfl ?_
  have hf7 := k_oW eA3 hc1
  obtain ⟨r4, A5, hq6, h⟩ := k_pb h
  refine k_callV (pc := 6) (ci := 9) (a := v0) (as := []) (st := []) (st1 := []) dX9_show_6 cbX9_taken (k_gt 1023 (by decide +kernel) (by decide +kernel)) cvX9_taken.1 cvX9_taken.2 rfl (by decide) hf7 (by omega) rfl (Nat.le_of_ble_eq_true rfl) (okX9_taken hq6) rfl ?_
  refine k_aload_n (pc := 9) (x := v0) dX9_show_9 rfl rfl ?_
  obtain ⟨hc8, h⟩ := k_pk h
  refine k_getf (pc := 10) (t := 0) (fi := 21) dX9_show_10 flX9_122 rfl rfl hc8 ?_
  refine k_bipush (pc := 13) dX9_show_13 ⟨by decide, by decide⟩ (by decide +kernel) ?_
  refine k_icmp_eq (pc := 15) (tgt := 92) dX9_show_15 rfl (fun c9 => ?_) (fun c9 => ?_)
  · rw [if_pos c9] at h
    refine k_iconst (pc := 92) dX9_show_92 ⟨by decide, by decide⟩ ?_
    obtain ⟨rfl, rfl⟩ := k_pr h
    exact k_ret (pc := 93) dX9_show_93 rfl rfl rfl
  · rw [if_neg c9] at h
    refine k_iload_n (pc := 18) (x := v1) dX9_show_18 rfl rfl ?_
    refine k_iconst (pc := 19) dX9_show_19 ⟨by decide, by decide⟩ ?_
    refine k_bipush (pc := 20) dX9_show_20 ⟨by decide, by decide⟩ (by decide +kernel) ?_
    obtain ⟨r10, A11, hq12, h⟩ := k_pb h
    refine k_callS (pc := 22) (as := [(0, v1), (0, 0), (0, 99)]) (st := []) (st1 := [(0, r10)]) dX9_show_22 cbX9_isIn (k_gt 1027 (by decide +kernel) (by decide +kernel)) (k_gt 1028 (by decide +kernel) (by decide +kernel)) (by omega) rfl (Nat.le_of_ble_eq_true rfl) (okX9_isIn hq12) rfl ?_
    refine k_if_eq (pc := 25) (tgt := 92) dX9_show_25 rfl (fun c13 => ?_) (fun c13 => ?_)
    · rw [if_pos c13] at h
      refine k_iconst (pc := 92) dX9_show_92 ⟨by decide, by decide⟩ ?_
      obtain ⟨rfl, rfl⟩ := k_pr h
      exact k_ret (pc := 93) dX9_show_93 rfl rfl rfl
    · rw [if_neg c13] at h
      refine k_iload_n (pc := 28) (x := v2) dX9_show_28 rfl rfl ?_
      refine k_iconst (pc := 29) dX9_show_29 ⟨by decide, by decide⟩ ?_
      refine k_bipush (pc := 30) dX9_show_30 ⟨by decide, by decide⟩ (by decide +kernel) ?_
      obtain ⟨r14, A15, hq16, h⟩ := k_pb h
      refine k_callS (pc := 32) (as := [(0, v2), (0, 0), (0, 99)]) (st := []) (st1 := [(0, r14)]) dX9_show_32 cbX9_isIn (k_gt 1027 (by decide +kernel) (by decide +kernel)) (k_gt 1028 (by decide +kernel) (by decide +kernel)) (by omega) rfl (Nat.le_of_ble_eq_true rfl) (okX9_isIn hq16) rfl ?_
      refine k_if_eq (pc := 35) (tgt := 92) dX9_show_35 rfl (fun c17 => ?_) (fun c17 => ?_)
      · rw [if_pos c17] at h
        refine k_iconst (pc := 92) dX9_show_92 ⟨by decide, by decide⟩ ?_
        obtain ⟨rfl, rfl⟩ := k_pr h
        exact k_ret (pc := 93) dX9_show_93 rfl rfl rfl
      · rw [if_neg c17] at h
        refine k_iload (pc := 38) (x := v4) dX9_show_38 rfl ?_
        refine k_iconst (pc := 40) dX9_show_40 ⟨by decide, by decide⟩ ?_
        refine k_bipush (pc := 41) dX9_show_41 ⟨by decide, by decide⟩ (by decide +kernel) ?_
        obtain ⟨r18, A19, hq20, h⟩ := k_pb h
        refine k_callS (pc := 43) (as := [(0, v4), (0, 0), (0, 13)]) (st := []) (st1 := [(0, r18)]) dX9_show_43 cbX9_isIn (k_gt 1027 (by decide +kernel) (by decide +kernel)) (k_gt 1028 (by decide +kernel) (by decide +kernel)) (by omega) rfl (Nat.le_of_ble_eq_true rfl) (okX9_isIn hq20) rfl ?_
        refine k_if_eq (pc := 46) (tgt := 92) dX9_show_46 rfl (fun c21 => ?_) (fun c21 => ?_)
        · rw [if_pos c21] at h
          refine k_iconst (pc := 92) dX9_show_92 ⟨by decide, by decide⟩ ?_
          obtain ⟨rfl, rfl⟩ := k_pr h
          exact k_ret (pc := 93) dX9_show_93 rfl rfl rfl
        · rw [if_neg c21] at h
          refine k_iload_n (pc := 49) (x := v3) dX9_show_49 rfl rfl ?_
          refine k_iconst (pc := 50) dX9_show_50 ⟨by decide, by decide⟩ ?_
          refine k_iload (pc := 51) (x := v4) dX9_show_51 rfl ?_
          obtain ⟨r22, A23, hq24, h⟩ := k_pb h
          refine k_callS (pc := 53) (as := [(0, v3), (0, 0), (0, v4)]) (st := []) (st1 := [(0, r22)]) dX9_show_53 cbX9_isIn (k_gt 1027 (by decide +kernel) (by decide +kernel)) (k_gt 1028 (by decide +kernel) (by decide +kernel)) (by omega) rfl (Nat.le_of_ble_eq_true rfl) (okX9_isIn hq24) rfl ?_
          refine k_if_eq (pc := 56) (tgt := 92) dX9_show_56 rfl (fun c25 => ?_) (fun c25 => ?_)
          · rw [if_pos c25] at h
            refine k_iconst (pc := 92) dX9_show_92 ⟨by decide, by decide⟩ ?_
            obtain ⟨rfl, rfl⟩ := k_pr h
            exact k_ret (pc := 93) dX9_show_93 rfl rfl rfl
          · rw [if_neg c25] at h
            refine k_iload (pc := 59) (x := v5) dX9_show_59 rfl ?_
            refine k_iconst (pc := 61) dX9_show_61 ⟨by decide, by decide⟩ ?_
            refine k_sipush (pc := 62) dX9_show_62 ⟨by decide, by decide⟩ (by decide +kernel) ?_
            obtain ⟨r26, A27, hq28, h⟩ := k_pb h
            refine k_callS (pc := 65) (as := [(0, v5), (0, 1), (0, 200)]) (st := []) (st1 := [(0, r26)]) dX9_show_65 cbX9_isIn (k_gt 1027 (by decide +kernel) (by decide +kernel)) (k_gt 1028 (by decide +kernel) (by decide +kernel)) (by omega) rfl (Nat.le_of_ble_eq_true rfl) (okX9_isIn hq28) rfl ?_
            refine k_if_eq (pc := 68) (tgt := 92) dX9_show_68 rfl (fun c29 => ?_) (fun c29 => ?_)
            · rw [if_pos c29] at h
              refine k_iconst (pc := 92) dX9_show_92 ⟨by decide, by decide⟩ ?_
              obtain ⟨rfl, rfl⟩ := k_pr h
              exact k_ret (pc := 93) dX9_show_93 rfl rfl rfl
            · rw [if_neg c29] at h
              refine k_iload (pc := 71) (x := v6) dX9_show_71 rfl ?_
              refine k_iconst (pc := 73) dX9_show_73 ⟨by decide, by decide⟩ ?_
              refine k_bipush (pc := 74) dX9_show_74 ⟨by decide, by decide⟩ (by decide +kernel) ?_
              obtain ⟨r30, A31, hq32, h⟩ := k_pb h
              refine k_callS (pc := 76) (as := [(0, v6), (0, 1), (0, 14)]) (st := []) (st1 := [(0, r30)]) dX9_show_76 cbX9_isIn (k_gt 1027 (by decide +kernel) (by decide +kernel)) (k_gt 1028 (by decide +kernel) (by decide +kernel)) (by omega) rfl (Nat.le_of_ble_eq_true rfl) (okX9_isIn hq32) rfl ?_
              refine k_if_eq (pc := 79) (tgt := 92) dX9_show_79 rfl (fun c33 => ?_) (fun c33 => ?_)
              · rw [if_pos c33] at h
                refine k_iconst (pc := 92) dX9_show_92 ⟨by decide, by decide⟩ ?_
                obtain ⟨rfl, rfl⟩ := k_pr h
                exact k_ret (pc := 93) dX9_show_93 rfl rfl rfl
              · rw [if_neg c33] at h
                refine k_aload_n (pc := 82) (x := v0) dX9_show_82 rfl rfl ?_
                refine k_iconst (pc := 83) dX9_show_83 ⟨by decide, by decide⟩ ?_
                refine k_bipush (pc := 84) dX9_show_84 ⟨by decide, by decide⟩ (by decide +kernel) ?_
                obtain ⟨hc37, h⟩ := k_pk h
                obtain ⟨r34, A35, hq36, h⟩ := k_pb h
                refine k_callV (pc := 86) (ci := 9) (a := v0) (as := [(0, 0), (0, 8)]) (st := []) (st1 := [(0, r34)]) dX9_show_86 cbX9_areAmps (k_gt 1030 (by decide +kernel) (by decide +kernel)) cvX9_areAmps.1 cvX9_areAmps.2 rfl (by decide) hc37 (by omega) rfl (Nat.le_of_ble_eq_true rfl) (okX9_areAmps hq36) rfl ?_
                refine k_if_ne (pc := 89) (tgt := 94) dX9_show_89 rfl (fun c38 => ?_) (fun c38 => ?_)
                · rw [if_neg c38] at h
                  refine k_aload_n (pc := 94) (x := v0) dX9_show_94 rfl rfl ?_
                  obtain ⟨hc39, h⟩ := k_pk h
                  refine k_getf (pc := 95) (t := 0) (fi := 21) dX9_show_95 flX9_122 rfl rfl hc39 ?_
                  refine k_istore (pc := 98) dX9_show_98 (Nat.le_of_ble_eq_true rfl) rfl ?_
                  show k_AW _ _ _ [(1, v0), (0, v1), (0, v2), (0, v3), (0, v4), (0, v5), (0, v6), (0, (k_rd A35 v0 21)), (3, 0)] _ _ _ _
                  refine k_aload_n (pc := 100) (x := v0) dX9_show_100 rfl rfl ?_
                  refine k_getf (pc := 101) (t := 1) (fi := 11) dX9_show_101 flX9_32 rfl rfl hc39 ?_
                  refine k_iload (pc := 104) (x := (k_rd A35 v0 21)) dX9_show_104 rfl ?_
                  refine k_iload_n (pc := 106) (x := v1) dX9_show_106 rfl rfl ?_
                  obtain ⟨hc40, h⟩ := k_pk h
                  refine k_iastore (pc := 107) dX9_show_107 hc40 ?_
                  obtain ⟨A41, eA42, h⟩ := k_pl h
                  refine k_hq eA42 ?_
                  refine k_aload_n (pc := 108) (x := v0) dX9_show_108 rfl rfl ?_
                  have hf43 := k_oW eA42 hc39
                  refine k_getf (pc := 109) (t := 1) (fi := 12) dX9_show_109 flX9_35 rfl rfl hf43 ?_
                  refine k_iload (pc := 112) (x := (k_rd A35 v0 21)) dX9_show_112 rfl ?_
                  refine k_iload_n (pc := 114) (x := v2) dX9_show_114 rfl rfl ?_
                  obtain ⟨hc44, h⟩ := k_pk h
                  refine k_iastore (pc := 115) dX9_show_115 hc44 ?_
                  obtain ⟨A45, eA46, h⟩ := k_pl h
                  refine k_hq eA46 ?_
                  refine k_aload_n (pc := 116) (x := v0) dX9_show_116 rfl rfl ?_
                  have hf47 := k_oW eA46 hf43
                  refine k_getf (pc := 117) (t := 1) (fi := 15) dX9_show_117 flX9_44 rfl rfl hf47 ?_
                  refine k_iload (pc := 120) (x := (k_rd A35 v0 21)) dX9_show_120 rfl ?_
                  refine k_iload_n (pc := 122) (x := v3) dX9_show_122 rfl rfl ?_
                  obtain ⟨hc48, h⟩ := k_pk h
                  refine k_iastore (pc := 123) dX9_show_123 hc48 ?_
                  obtain ⟨A49, eA50, h⟩ := k_pl h
                  refine k_hq eA50 ?_
                  refine k_aload_n (pc := 124) (x := v0) dX9_show_124 rfl rfl ?_
                  have hf51 := k_oW eA50 hf47
                  refine k_getf (pc := 125) (t := 1) (fi := 16) dX9_show_125 flX9_47 rfl rfl hf51 ?_
                  refine k_iload (pc := 128) (x := (k_rd A35 v0 21)) dX9_show_128 rfl ?_
                  refine k_iload (pc := 130) (x := v4) dX9_show_130 rfl ?_
                  obtain ⟨hc52, h⟩ := k_pk h
                  refine k_iastore (pc := 132) dX9_show_132 hc52 ?_
                  obtain ⟨A53, eA54, h⟩ := k_pl h
                  refine k_hq eA54 ?_
                  refine k_aload_n (pc := 133) (x := v0) dX9_show_133 rfl rfl ?_
                  have hf55 := k_oW eA54 hf51
                  refine k_getf (pc := 134) (t := 1) (fi := 17) dX9_show_134 flX9_50 rfl rfl hf55 ?_
                  refine k_iload (pc := 137) (x := (k_rd A35 v0 21)) dX9_show_137 rfl ?_
                  refine k_iload (pc := 139) (x := v5) dX9_show_139 rfl ?_
                  obtain ⟨hc56, h⟩ := k_pk h
                  refine k_iastore (pc := 141) dX9_show_141 hc56 ?_
                  obtain ⟨A57, eA58, h⟩ := k_pl h
                  refine k_hq eA58 ?_
                  refine k_aload_n (pc := 142) (x := v0) dX9_show_142 rfl rfl ?_
                  have hf59 := k_oW eA58 hf55
                  refine k_getf (pc := 143) (t := 1) (fi := 18) dX9_show_143 flX9_53 rfl rfl hf59 ?_
                  refine k_iload (pc := 146) (x := (k_rd A35 v0 21)) dX9_show_146 rfl ?_
                  refine k_iload (pc := 148) (x := v6) dX9_show_148 rfl ?_
                  obtain ⟨hc60, h⟩ := k_pk h
                  refine k_iastore (pc := 150) dX9_show_150 hc60 ?_
                  obtain ⟨A61, eA62, h⟩ := k_pl h
                  refine k_hq eA62 ?_
                  refine k_aload_n (pc := 151) (x := v0) dX9_show_151 rfl rfl ?_
                  have hf63 := k_oW eA62 hf59
                  refine k_getf (pc := 152) (t := 1) (fi := 13) dX9_show_152 flX9_38 rfl rfl hf63 ?_
                  refine k_iload (pc := 155) (x := (k_rd A35 v0 21)) dX9_show_155 rfl ?_
                  refine k_aload_n (pc := 157) (x := v0) dX9_show_157 rfl rfl ?_
                  refine k_getf (pc := 158) (t := 0) (fi := 3) dX9_show_158 flX9_113 rfl rfl hf63 ?_
                  obtain ⟨hc64, h⟩ := k_pk h
                  refine k_iastore (pc := 161) dX9_show_161 hc64 ?_
                  obtain ⟨A65, eA66, h⟩ := k_pl h
                  refine k_hq eA66 ?_
                  refine k_iconst (pc := 162) dX9_show_162 ⟨by decide, by decide⟩ ?_
                  refine k_istore (pc := 163) dX9_show_163 (Nat.le_of_ble_eq_true rfl) rfl ?_
                  show k_AW _ _ _ [(1, v0), (0, v1), (0, v2), (0, v3), (0, v4), (0, v5), (0, v6), (0, (k_rd A35 v0 21)), (0, 0)] _ _ _ _
                  refine k_sub (ls' := [(1, v0), (3, 0), (3, 0), (3, 0), (3, 0), (3, 0), (3, 0), (0, (k_rd A35 v0 21)), (0, 0)]) (k_sbl_ok _ _ ⟨Or.inr rfl, Or.inl rfl, Or.inl rfl, Or.inl rfl, Or.inl rfl, Or.inl rfl, Or.inl rfl, Or.inr rfl, Or.inr rfl, trivial⟩) ?_
                  exact okX9_show_h165  _ _ _ _ _ _ _ h
                · rw [if_pos (Classical.not_not.mp c38)] at h
                  refine k_iconst (pc := 92) dX9_show_92 ⟨by decide, by decide⟩ ?_
                  obtain ⟨rfl, rfl⟩ := k_pr h
                  exact k_ret (pc := 93) dX9_show_93 rfl rfl rfl
theorem okX9_show {A : k_H} {x0 x1 x2 x3 x4 x5 x6 : Int} {r : Int} {A1 : k_H} (h : fX9_show A x0 x1 x2 x3 x4 x5 x6 = some (r, A1)) : k_AM 2 mX9_show [(1, x0), (0, x1), (0, x2), (0, x3), (0, x4), (0, x5), (0, x6)] A r A1 :=
  k_AM_of2 (ls := [(1, x0), (0, x1), (0, x2), (0, x3), (0, x4), (0, x5), (0, x6), (3, 0), (3, 0)]) (Or.inl (by decide +kernel)) (by decide +kernel) (by decide) rfl (Nat.le_of_ble_eq_true rfl) ⟨Or.inr rfl, Or.inr rfl, Or.inr rfl, Or.inr rfl, Or.inr rfl, Or.inr rfl, Or.inr rfl, rfl, rfl, trivial⟩ (okX9_show_b0 A x0 x1 x2 x3 x4 x5 x6 r A1 h)
/-! X9_give -/
def fX9_give_b72 (k39 : k_H → Int → Int → Int → Int → Int → Int → Option (Int × k_H)) (A : k_H) (v0 v1 v2 v3 v5 s0 s1 : Int) : Option (Int × k_H) := k39 A v0 v1 v2 v3 (k_wr (s0 + s1)) (k_wr (v5 + 1))
def fX9_give_h39 : Nat → k_H → Int → Int → Int → Int → Int → Int → Option (Int × k_H)
  | 0, _, _, _, _, _, _, _ => none
  | N + 1, A, v0, v1, v2, v3, v4, v5 => if k_isO A v0 9 then (if v5 < (k_rd A v0 21) then (if v5 = v2 then (fX9_give_b72 (fX9_give_h39 N) A v0 v1 v2 v3 v5 v4 0) else (if k_isA A (k_rd A v0 19) 21 (k_wr (k_wr (6 * v1) + v5)) then (fX9_give_b72 (fX9_give_h39 N) A v0 v1 v2 v3 v5 v4 (k_rd A (k_rd A v0 19) (k_wr (k_wr (6 * v1) + v5)))) else none)) else (if 10 < k_wr (v4 + v3) then (some (0, A)) else (if k_isA A (k_rd A v0 19) 21 (k_wr (k_wr (6 * v1) + v2)) then (k_lt (k_wt A (k_rd A v0 19) (k_wr (k_wr (6 * v1) + v2)) v3) fun A5 => some (1, A5)) else none))) else none
def fX9_give_b0 (A : k_H) (v0 v1 v2 v3 : Int) : Option (Int × k_H) := if k_isO A v0 9 then (k_lt (k_wt A v0 0 0) fun A2 => k_bd (fX9_isHall A2 v0 v1) fun r4 A5 => if r4 = 0 then (some (0, A5)) else (if k_isO A5 v0 9 then (k_bd (fX9_isShow A5 v0 v2) fun r9 A10 => if r9 = 0 then (some (0, A10)) else (if 0 ≤ v3 then (if 10 < v3 then (some (0, A10)) else (fX9_give_h39 k_FU A10 v0 v1 v2 v3 0 0)) else (some (0, A10)))) else none)) else none
def fX9_give (A : k_H) (x0 x1 x2 x3 : Int) : Option (Int × k_H) := fX9_give_b0 A x0 x1 x2 x3
set_option maxRecDepth 100000 in
theorem okX9_give_b72 (k39 : k_H → Int → Int → Int → Int → Int → Int → Option (Int × k_H)) (hk39 : ∀ (A : k_H) (v0 v1 v2 v3 v4 v5 : Int) (r : Int) (A' : k_H), k39 A v0 v1 v2 v3 v4 v5 = some (r, A') → k_AW 2 mX9_give 39 [(1, v0), (0, v1), (0, v2), (0, v3), (0, v4), (0, v5)] [] A r A') (A : k_H) (v0 v1 v2 v3 v5 s0 s1 : Int) (r : Int) (A' : k_H) (h : fX9_give_b72 k39 A v0 v1 v2 v3 v5 s0 s1 = some (r, A')) : k_AW 2 mX9_give 72 [(1, v0), (0, v1), (0, v2), (0, v3), (3, 0), (0, v5)] [(0, s1), (0, s0)] A r A' := by
  unfold fX9_give_b72 at h
  refine k_iadd (pc := 72) dX9_give_72 ?_
  refine k_istore (pc := 73) dX9_give_73 (Nat.le_of_ble_eq_true rfl) rfl ?_
  show k_AW _ _ _ [(1, v0), (0, v1), (0, v2), (0, v3), (0, k_wr (s0 + s1)), (0, v5)] _ _ _ _
  refine k_iinc (pc := 75) (x := v5) dX9_give_75 (Nat.le_of_ble_eq_true rfl) rfl rfl ?_
  show k_AW _ _ _ [(1, v0), (0, v1), (0, v2), (0, v3), (0, k_wr (s0 + s1)), (0, k_wr (v5 + 1))] _ _ _ _
  refine k_goto (pc := 78) (tgt := 39) dX9_give_78 rfl ?_
  refine k_sub (ls' := [(1, v0), (0, v1), (0, v2), (0, v3), (0, k_wr (s0 + s1)), (0, k_wr (v5 + 1))]) (k_sbl_ok _ _ ⟨Or.inr rfl, Or.inr rfl, Or.inr rfl, Or.inr rfl, Or.inr rfl, Or.inr rfl, trivial⟩) ?_
  exact hk39 _ _ _ _ _ _ _ _ _ h
set_option maxRecDepth 100000 in
theorem okX9_give_h39 : ∀ (N : Nat) (A : k_H) (v0 v1 v2 v3 v4 v5 : Int) (r : Int) (A' : k_H), fX9_give_h39 N A v0 v1 v2 v3 v4 v5 = some (r, A') → k_AW 2 mX9_give 39 [(1, v0), (0, v1), (0, v2), (0, v3), (0, v4), (0, v5)] [] A r A' := by
  intro N
  induction N with
  | zero => intro A v0 v1 v2 v3 v4 v5 r A' h; exact absurd h (by simp [fX9_give_h39])
  | succ N ih =>
    intro A v0 v1 v2 v3 v4 v5 r A' h
    rw [fX9_give_h39] at h
    refine k_iload (pc := 39) (x := v5) dX9_give_39 rfl ?_
    refine k_aload_n (pc := 41) (x := v0) dX9_give_41 rfl rfl ?_
    obtain ⟨hc1, h⟩ := k_pk h
    refine k_getf (pc := 42) (t := 0) (fi := 21) dX9_give_42 flX9_122 rfl rfl hc1 ?_
    refine k_icmp_ge (pc := 45) (tgt := 81) dX9_give_45 rfl (fun c2 => ?_) (fun c2 => ?_)
    · rw [if_neg (Int.not_lt.mpr c2)] at h
      refine k_iload (pc := 81) (x := v4) dX9_give_81 rfl ?_
      refine k_iload_n (pc := 83) (x := v3) dX9_give_83 rfl rfl ?_
      refine k_iadd (pc := 84) dX9_give_84 ?_
      refine k_bipush (pc := 85) dX9_give_85 ⟨by decide, by decide⟩ (by decide +kernel) ?_
      refine k_icmp_le (pc := 87) (tgt := 92) dX9_give_87 rfl (fun c3 => ?_) (fun c3 => ?_)
      · rw [if_neg (Int.not_lt.mpr c3)] at h
        refine k_aload_n (pc := 92) (x := v0) dX9_give_92 rfl rfl ?_
        refine k_getf (pc := 93) (t := 1) (fi := 19) dX9_give_93 flX9_56 rfl rfl hc1 ?_
        refine k_bipush (pc := 96) dX9_give_96 ⟨by decide, by decide⟩ (by decide +kernel) ?_
        refine k_iload_n (pc := 98) (x := v1) dX9_give_98 rfl rfl ?_
        refine k_imul (pc := 99) dX9_give_99 ?_
        refine k_iload_n (pc := 100) (x := v2) dX9_give_100 rfl rfl ?_
        refine k_iadd (pc := 101) dX9_give_101 ?_
        refine k_iload_n (pc := 102) (x := v3) dX9_give_102 rfl rfl ?_
        obtain ⟨hc4, h⟩ := k_pk h
        refine k_iastore (pc := 103) dX9_give_103 hc4 ?_
        obtain ⟨A5, eA6, h⟩ := k_pl h
        refine k_hq eA6 ?_
        refine k_iconst (pc := 104) dX9_give_104 ⟨by decide, by decide⟩ ?_
        obtain ⟨rfl, rfl⟩ := k_pr h
        exact k_ret (pc := 105) dX9_give_105 rfl rfl (by decide +kernel)
      · rw [if_pos (Int.not_le.mp c3)] at h
        refine k_iconst (pc := 90) dX9_give_90 ⟨by decide, by decide⟩ ?_
        obtain ⟨rfl, rfl⟩ := k_pr h
        exact k_ret (pc := 91) dX9_give_91 rfl rfl (by decide +kernel)
    · rw [if_pos (Int.not_le.mp c2)] at h
      refine k_iload (pc := 48) (x := v4) dX9_give_48 rfl ?_
      refine k_iload (pc := 50) (x := v5) dX9_give_50 rfl ?_
      refine k_iload_n (pc := 52) (x := v2) dX9_give_52 rfl rfl ?_
      refine k_icmp_ne (pc := 53) (tgt := 60) dX9_give_53 rfl (fun c7 => ?_) (fun c7 => ?_)
      · rw [if_neg c7] at h
        refine k_aload_n (pc := 60) (x := v0) dX9_give_60 rfl rfl ?_
        refine k_getf (pc := 61) (t := 1) (fi := 19) dX9_give_61 flX9_56 rfl rfl hc1 ?_
        refine k_bipush (pc := 64) dX9_give_64 ⟨by decide, by decide⟩ (by decide +kernel) ?_
        refine k_iload_n (pc := 66) (x := v1) dX9_give_66 rfl rfl ?_
        refine k_imul (pc := 67) dX9_give_67 ?_
        refine k_iload (pc := 68) (x := v5) dX9_give_68 rfl ?_
        refine k_iadd (pc := 70) dX9_give_70 ?_
        obtain ⟨hc8, h⟩ := k_pk h
        refine k_iaload (pc := 71) dX9_give_71 hc8 ?_
        refine k_sub (ls' := [(1, v0), (0, v1), (0, v2), (0, v3), (3, 0), (0, v5)]) (k_sbl_ok _ _ ⟨Or.inr rfl, Or.inr rfl, Or.inr rfl, Or.inr rfl, Or.inl rfl, Or.inr rfl, trivial⟩) ?_
        exact okX9_give_b72 (fX9_give_h39 N) ih _ _ _ _ _ _ _ _ _ _ h
      · rw [if_pos (Classical.not_not.mp c7)] at h
        refine k_iconst (pc := 56) dX9_give_56 ⟨by decide, by decide⟩ ?_
        refine k_goto (pc := 57) (tgt := 72) dX9_give_57 rfl ?_
        refine k_sub (ls' := [(1, v0), (0, v1), (0, v2), (0, v3), (3, 0), (0, v5)]) (k_sbl_ok _ _ ⟨Or.inr rfl, Or.inr rfl, Or.inr rfl, Or.inr rfl, Or.inl rfl, Or.inr rfl, trivial⟩) ?_
        exact okX9_give_b72 (fX9_give_h39 N) ih _ _ _ _ _ _ _ _ _ _ h
set_option maxRecDepth 100000 in
theorem okX9_give_b0 (A : k_H) (v0 v1 v2 v3 : Int) (r : Int) (A' : k_H) (h : fX9_give_b0 A v0 v1 v2 v3 = some (r, A')) : k_AW 2 mX9_give 0 [(1, v0), (0, v1), (0, v2), (0, v3), (3, 0), (3, 0)] [] A r A' := by
  unfold fX9_give_b0 at h
  refine k_aload_n (pc := 0) (x := v0) dX9_give_0 rfl rfl ?_
  refine k_iconst (pc := 1) dX9_give_1 ⟨by decide, by decide⟩ ?_
  obtain ⟨hc1, h⟩ := k_pk h
  refine k_putf (pc := 2) (t := 0) (fi := 0) dX9_give_2 flX9_102 rfl rfl hc1 rfl ?_
  obtain ⟨A2, eA3, h⟩ := k_pl h
  refine k_hq eA3 ?_
  refine k_aload_n (pc := 5) (x := v0) dX9_give_5 rfl rfl ?_
  refine k_iload_n (pc := 6) (x := v1) dX9_give_6 rfl rfl ?_
  have hf7 := k_oW eA3 hc1
  obtain ⟨r4, A5, hq6, h⟩ := k_pb h
  refine k_callV (pc := 7) (ci := 9) (a := v0) (as := [(0, v1)]) (st := []) (st1 := [(0, r4)]) dX9_give_7 cbX9_isHall (k_gt 1042 (by decide +kernel) (by decide +kernel)) cvX9_isHall.1 cvX9_isHall.2 rfl (by decide) hf7 (by omega) rfl (Nat.le_of_ble_eq_true rfl) (okX9_isHall hq6) rfl ?_
  refine k_if_eq (pc := 10) (tgt := 31) dX9_give_10 rfl (fun c8 => ?_) (fun c8 => ?_)
  · rw [if_pos c8] at h
    refine k_iconst (pc := 31) dX9_give_31 ⟨by decide, by decide⟩ ?_
    obtain ⟨rfl, rfl⟩ := k_pr h
    exact k_ret (pc := 32) dX9_give_32 rfl rfl (by decide +kernel)
  · rw [if_neg c8] at h
    refine k_aload_n (pc := 13) (x := v0) dX9_give_13 rfl rfl ?_
    refine k_iload_n (pc := 14) (x := v2) dX9_give_14 rfl rfl ?_
    obtain ⟨hc12, h⟩ := k_pk h
    obtain ⟨r9, A10, hq11, h⟩ := k_pb h
    refine k_callV (pc := 15) (ci := 9) (a := v0) (as := [(0, v2)]) (st := []) (st1 := [(0, r9)]) dX9_give_15 cbX9_isShow (k_gt 1054 (by decide +kernel) (by decide +kernel)) cvX9_isShow.1 cvX9_isShow.2 rfl (by decide) hc12 (by omega) rfl (Nat.le_of_ble_eq_true rfl) (okX9_isShow hq11) rfl ?_
    refine k_if_eq (pc := 18) (tgt := 31) dX9_give_18 rfl (fun c13 => ?_) (fun c13 => ?_)
    · rw [if_pos c13] at h
      refine k_iconst (pc := 31) dX9_give_31 ⟨by decide, by decide⟩ ?_
      obtain ⟨rfl, rfl⟩ := k_pr h
      exact k_ret (pc := 32) dX9_give_32 rfl rfl (by decide +kernel)
    · rw [if_neg c13] at h
      refine k_iload_n (pc := 21) (x := v3) dX9_give_21 rfl rfl ?_
      refine k_if_lt (pc := 22) (tgt := 31) dX9_give_22 rfl (fun c14 => ?_) (fun c14 => ?_)
      · rw [if_neg (Int.not_le.mpr c14)] at h
        refine k_iconst (pc := 31) dX9_give_31 ⟨by decide, by decide⟩ ?_
        obtain ⟨rfl, rfl⟩ := k_pr h
        exact k_ret (pc := 32) dX9_give_32 rfl rfl (by decide +kernel)
      · rw [if_pos (Int.not_lt.mp c14)] at h
        refine k_iload_n (pc := 25) (x := v3) dX9_give_25 rfl rfl ?_
        refine k_bipush (pc := 26) dX9_give_26 ⟨by decide, by decide⟩ (by decide +kernel) ?_
        refine k_icmp_le (pc := 28) (tgt := 33) dX9_give_28 rfl (fun c15 => ?_) (fun c15 => ?_)
        · rw [if_neg (Int.not_lt.mpr c15)] at h
          refine k_iconst (pc := 33) dX9_give_33 ⟨by decide, by decide⟩ ?_
          refine k_istore (pc := 34) dX9_give_34 (Nat.le_of_ble_eq_true rfl) rfl ?_
          show k_AW _ _ _ [(1, v0), (0, v1), (0, v2), (0, v3), (0, 0), (3, 0)] _ _ _ _
          refine k_iconst (pc := 36) dX9_give_36 ⟨by decide, by decide⟩ ?_
          refine k_istore (pc := 37) dX9_give_37 (Nat.le_of_ble_eq_true rfl) rfl ?_
          show k_AW _ _ _ [(1, v0), (0, v1), (0, v2), (0, v3), (0, 0), (0, 0)] _ _ _ _
          refine k_sub (ls' := [(1, v0), (0, v1), (0, v2), (0, v3), (0, 0), (0, 0)]) (k_sbl_ok _ _ ⟨Or.inr rfl, Or.inr rfl, Or.inr rfl, Or.inr rfl, Or.inr rfl, Or.inr rfl, trivial⟩) ?_
          exact okX9_give_h39  _ _ _ _ _ _ _ _ _ _ h
        · rw [if_pos (Int.not_le.mp c15)] at h
          refine k_iconst (pc := 31) dX9_give_31 ⟨by decide, by decide⟩ ?_
          obtain ⟨rfl, rfl⟩ := k_pr h
          exact k_ret (pc := 32) dX9_give_32 rfl rfl (by decide +kernel)
theorem okX9_give {A : k_H} {x0 x1 x2 x3 : Int} {r : Int} {A1 : k_H} (h : fX9_give A x0 x1 x2 x3 = some (r, A1)) : k_AM 2 mX9_give [(1, x0), (0, x1), (0, x2), (0, x3)] A r A1 :=
  k_AM_of2 (ls := [(1, x0), (0, x1), (0, x2), (0, x3), (3, 0), (3, 0)]) (Or.inl (by decide +kernel)) (by decide +kernel) (by decide) rfl (Nat.le_of_ble_eq_true rfl) ⟨Or.inr rfl, Or.inr rfl, Or.inr rfl, Or.inr rfl, rfl, rfl, trivial⟩ (okX9_give_b0 A x0 x1 x2 x3 r A1 h)
/-! X9_fit -/
def fX9_fit_b0 (A : k_H) (v0 v1 v2 : Int) : Option (Int × k_H) := if k_isO A v0 9 then (if k_isA A (k_rd A v0 7) 21 v2 then (if k_isA A (k_rd A v0 11) 21 v1 then (if (k_rd A (k_rd A v0 7) v2) < (k_rd A (k_rd A v0 11) v1) then (some (0, A)) else (if k_isA A (k_rd A v0 8) 21 v2 then (if k_isA A (k_rd A v0 12) 21 v1 then (if (k_rd A (k_rd A v0 8) v2) < (k_rd A (k_rd A v0 12) v1) then (some ((-1), A)) else (k_bd (fX9_plug A v0 v1 v2) fun r8 A9 => if r8 = 0 then (some ((-2), A9)) else (some (1, A9)))) else none) else none)) else none) else none) else none
def fX9_fit (A : k_H) (x0 x1 x2 : Int) : Option (Int × k_H) := fX9_fit_b0 A x0 x1 x2
set_option maxRecDepth 100000 in
theorem okX9_fit_b0 (A : k_H) (v0 v1 v2 : Int) (r : Int) (A' : k_H) (h : fX9_fit_b0 A v0 v1 v2 = some (r, A')) : k_AW 2 mX9_fit 0 [(1, v0), (0, v1), (0, v2)] [] A r A' := by
  unfold fX9_fit_b0 at h
  refine k_aload_n (pc := 0) (x := v0) dX9_fit_0 rfl rfl ?_
  obtain ⟨hc1, h⟩ := k_pk h
  refine k_getf (pc := 1) (t := 1) (fi := 7) dX9_fit_1 flX9_20 rfl rfl hc1 ?_
  refine k_iload_n (pc := 4) (x := v2) dX9_fit_4 rfl rfl ?_
  obtain ⟨hc2, h⟩ := k_pk h
  refine k_iaload (pc := 5) dX9_fit_5 hc2 ?_
  refine k_aload_n (pc := 6) (x := v0) dX9_fit_6 rfl rfl ?_
  refine k_getf (pc := 7) (t := 1) (fi := 11) dX9_fit_7 flX9_32 rfl rfl hc1 ?_
  refine k_iload_n (pc := 10) (x := v1) dX9_fit_10 rfl rfl ?_
  obtain ⟨hc3, h⟩ := k_pk h
  refine k_iaload (pc := 11) dX9_fit_11 hc3 ?_
  refine k_icmp_ge (pc := 12) (tgt := 17) dX9_fit_12 rfl (fun c4 => ?_) (fun c4 => ?_)
  · rw [if_neg (Int.not_lt.mpr c4)] at h
    refine k_aload_n (pc := 17) (x := v0) dX9_fit_17 rfl rfl ?_
    refine k_getf (pc := 18) (t := 1) (fi := 8) dX9_fit_18 flX9_23 rfl rfl hc1 ?_
    refine k_iload_n (pc := 21) (x := v2) dX9_fit_21 rfl rfl ?_
    obtain ⟨hc5, h⟩ := k_pk h
    refine k_iaload (pc := 22) dX9_fit_22 hc5 ?_
    refine k_aload_n (pc := 23) (x := v0) dX9_fit_23 rfl rfl ?_
    refine k_getf (pc := 24) (t := 1) (fi := 12) dX9_fit_24 flX9_35 rfl rfl hc1 ?_
    refine k_iload_n (pc := 27) (x := v1) dX9_fit_27 rfl rfl ?_
    obtain ⟨hc6, h⟩ := k_pk h
    refine k_iaload (pc := 28) dX9_fit_28 hc6 ?_
    refine k_icmp_ge (pc := 29) (tgt := 34) dX9_fit_29 rfl (fun c7 => ?_) (fun c7 => ?_)
    · rw [if_neg (Int.not_lt.mpr c7)] at h
      refine k_aload_n (pc := 34) (x := v0) dX9_fit_34 rfl rfl ?_
      refine k_iload_n (pc := 35) (x := v1) dX9_fit_35 rfl rfl ?_
      refine k_iload_n (pc := 36) (x := v2) dX9_fit_36 rfl rfl ?_
      obtain ⟨r8, A9, hq10, h⟩ := k_pb h
      refine k_callV (pc := 37) (ci := 9) (a := v0) (as := [(0, v1), (0, v2)]) (st := []) (st1 := [(0, r8)]) dX9_fit_37 cbX9_plug (k_gt 1066 (by decide +kernel) (by decide +kernel)) cvX9_plug.1 cvX9_plug.2 rfl (by decide) hc1 (by omega) rfl (Nat.le_of_ble_eq_true rfl) (okX9_plug hq10) rfl ?_
      refine k_if_eq (pc := 40) (tgt := 47) dX9_fit_40 rfl (fun c11 => ?_) (fun c11 => ?_)
      · rw [if_pos c11] at h
        refine k_bipush (pc := 47) dX9_fit_47 ⟨by decide, by decide⟩ (by decide +kernel) ?_
        obtain ⟨rfl, rfl⟩ := k_pr h
        exact k_ret (pc := 49) dX9_fit_49 rfl rfl rfl
      · rw [if_neg c11] at h
        refine k_iconst (pc := 43) dX9_fit_43 ⟨by decide, by decide⟩ ?_
        refine k_goto (pc := 44) (tgt := 49) dX9_fit_44 rfl ?_
        obtain ⟨rfl, rfl⟩ := k_pr h
        exact k_ret (pc := 49) dX9_fit_49 rfl rfl rfl
    · rw [if_pos (Int.not_le.mp c7)] at h
      refine k_iconst (pc := 32) dX9_fit_32 ⟨by decide, by decide⟩ ?_
      obtain ⟨rfl, rfl⟩ := k_pr h
      exact k_ret (pc := 33) dX9_fit_33 rfl rfl rfl
  · rw [if_pos (Int.not_le.mp c4)] at h
    refine k_iconst (pc := 15) dX9_fit_15 ⟨by decide, by decide⟩ ?_
    obtain ⟨rfl, rfl⟩ := k_pr h
    exact k_ret (pc := 16) dX9_fit_16 rfl rfl rfl
theorem okX9_fit {A : k_H} {x0 x1 x2 : Int} {r : Int} {A1 : k_H} (h : fX9_fit A x0 x1 x2 = some (r, A1)) : k_AM 2 mX9_fit [(1, x0), (0, x1), (0, x2)] A r A1 :=
  k_AM_of2 (ls := [(1, x0), (0, x1), (0, x2)]) (Or.inl (by decide +kernel)) (by decide +kernel) (by decide) rfl (Nat.le_of_ble_eq_true rfl) ⟨Or.inr rfl, Or.inr rfl, Or.inr rfl, trivial⟩ (okX9_fit_b0 A x0 x1 x2 r A1 h)
/-! X9_plugged -/
def fX9_plugged_b0 (A : k_H) (v0 v1 v2 v3 : Int) : Option (Int × k_H) := if k_isO A v0 9 then (k_lt (k_wt A v0 0 0) fun A2 => k_bd (fX9_isShow A2 v0 v1) fun r4 A5 => if r4 = 0 then (some ((-1), A5)) else (if k_isO A5 v0 9 then (k_bd (fX9_isHall A5 v0 v2) fun r9 A10 => if r9 = 0 then (some ((-1), A10)) else (if 0 ≤ v3 then (if k_isO A10 v0 9 then (if k_isA A10 (k_rd A10 v0 13) 21 v1 then (if (k_rd A10 (k_rd A10 v0 13) v1) ≤ v3 then (some ((-1), A10)) else (k_bd (fX9_plug A10 v0 v1 v2) fun r18 A19 => if r18 = 0 then (some ((-1), A19)) else (if k_isO A19 v0 9 then (if k_isA A19 (k_rd A19 v0 22) 21 v3 then (some ((k_rd A19 (k_rd A19 v0 22) v3), A19)) else none) else none))) else none) else none) else (some ((-1), A10)))) else none)) else none
def fX9_plugged (A : k_H) (x0 x1 x2 x3 : Int) : Option (Int × k_H) := fX9_plugged_b0 A x0 x1 x2 x3
set_option maxRecDepth 100000 in
theorem okX9_plugged_b0 (A : k_H) (v0 v1 v2 v3 : Int) (r : Int) (A' : k_H) (h : fX9_plugged_b0 A v0 v1 v2 v3 = some (r, A')) : k_AW 2 mX9_plugged 0 [(1, v0), (0, v1), (0, v2), (0, v3)] [] A r A' := by
  unfold fX9_plugged_b0 at h
  refine k_aload_n (pc := 0) (x := v0) dX9_plugged_0 rfl rfl ?_
  refine k_iconst (pc := 1) dX9_plugged_1 ⟨by decide, by decide⟩ ?_
  obtain ⟨hc1, h⟩ := k_pk h
  refine k_putf (pc := 2) (t := 0) (fi := 0) dX9_plugged_2 flX9_102 rfl rfl hc1 rfl ?_
  obtain ⟨A2, eA3, h⟩ := k_pl h
  refine k_hq eA3 ?_
  refine k_aload_n (pc := 5) (x := v0) dX9_plugged_5 rfl rfl ?_
  refine k_iload_n (pc := 6) (x := v1) dX9_plugged_6 rfl rfl ?_
  have hf7 := k_oW eA3 hc1
  obtain ⟨r4, A5, hq6, h⟩ := k_pb h
  refine k_callV (pc := 7) (ci := 9) (a := v0) (as := [(0, v1)]) (st := []) (st1 := [(0, r4)]) dX9_plugged_7 cbX9_isShow (k_gt 1054 (by decide +kernel) (by decide +kernel)) cvX9_isShow.1 cvX9_isShow.2 rfl (by decide) hf7 (by omega) rfl (Nat.le_of_ble_eq_true rfl) (okX9_isShow hq6) rfl ?_
  refine k_if_eq (pc := 10) (tgt := 35) dX9_plugged_10 rfl (fun c8 => ?_) (fun c8 => ?_)
  · rw [if_pos c8] at h
    refine k_iconst (pc := 35) dX9_plugged_35 ⟨by decide, by decide⟩ ?_
    obtain ⟨rfl, rfl⟩ := k_pr h
    exact k_ret (pc := 36) dX9_plugged_36 rfl rfl rfl
  · rw [if_neg c8] at h
    refine k_aload_n (pc := 13) (x := v0) dX9_plugged_13 rfl rfl ?_
    refine k_iload_n (pc := 14) (x := v2) dX9_plugged_14 rfl rfl ?_
    obtain ⟨hc12, h⟩ := k_pk h
    obtain ⟨r9, A10, hq11, h⟩ := k_pb h
    refine k_callV (pc := 15) (ci := 9) (a := v0) (as := [(0, v2)]) (st := []) (st1 := [(0, r9)]) dX9_plugged_15 cbX9_isHall (k_gt 1042 (by decide +kernel) (by decide +kernel)) cvX9_isHall.1 cvX9_isHall.2 rfl (by decide) hc12 (by omega) rfl (Nat.le_of_ble_eq_true rfl) (okX9_isHall hq11) rfl ?_
    refine k_if_eq (pc := 18) (tgt := 35) dX9_plugged_18 rfl (fun c13 => ?_) (fun c13 => ?_)
    · rw [if_pos c13] at h
      refine k_iconst (pc := 35) dX9_plugged_35 ⟨by decide, by decide⟩ ?_
      obtain ⟨rfl, rfl⟩ := k_pr h
      exact k_ret (pc := 36) dX9_plugged_36 rfl rfl rfl
    · rw [if_neg c13] at h
      refine k_iload_n (pc := 21) (x := v3) dX9_plugged_21 rfl rfl ?_
      refine k_if_lt (pc := 22) (tgt := 35) dX9_plugged_22 rfl (fun c14 => ?_) (fun c14 => ?_)
      · rw [if_neg (Int.not_le.mpr c14)] at h
        refine k_iconst (pc := 35) dX9_plugged_35 ⟨by decide, by decide⟩ ?_
        obtain ⟨rfl, rfl⟩ := k_pr h
        exact k_ret (pc := 36) dX9_plugged_36 rfl rfl rfl
      · rw [if_pos (Int.not_lt.mp c14)] at h
        refine k_iload_n (pc := 25) (x := v3) dX9_plugged_25 rfl rfl ?_
        refine k_aload_n (pc := 26) (x := v0) dX9_plugged_26 rfl rfl ?_
        obtain ⟨hc15, h⟩ := k_pk h
        refine k_getf (pc := 27) (t := 1) (fi := 13) dX9_plugged_27 flX9_38 rfl rfl hc15 ?_
        refine k_iload_n (pc := 30) (x := v1) dX9_plugged_30 rfl rfl ?_
        obtain ⟨hc16, h⟩ := k_pk h
        refine k_iaload (pc := 31) dX9_plugged_31 hc16 ?_
        refine k_icmp_lt (pc := 32) (tgt := 37) dX9_plugged_32 rfl (fun c17 => ?_) (fun c17 => ?_)
        · rw [if_neg (Int.not_le.mpr c17)] at h
          refine k_aload_n (pc := 37) (x := v0) dX9_plugged_37 rfl rfl ?_
          refine k_iload_n (pc := 38) (x := v1) dX9_plugged_38 rfl rfl ?_
          refine k_iload_n (pc := 39) (x := v2) dX9_plugged_39 rfl rfl ?_
          obtain ⟨r18, A19, hq20, h⟩ := k_pb h
          refine k_callV (pc := 40) (ci := 9) (a := v0) (as := [(0, v1), (0, v2)]) (st := []) (st1 := [(0, r18)]) dX9_plugged_40 cbX9_plug (k_gt 1066 (by decide +kernel) (by decide +kernel)) cvX9_plug.1 cvX9_plug.2 rfl (by decide) hc15 (by omega) rfl (Nat.le_of_ble_eq_true rfl) (okX9_plug hq20) rfl ?_
          refine k_if_eq (pc := 43) (tgt := 55) dX9_plugged_43 rfl (fun c21 => ?_) (fun c21 => ?_)
          · rw [if_pos c21] at h
            refine k_iconst (pc := 55) dX9_plugged_55 ⟨by decide, by decide⟩ ?_
            obtain ⟨rfl, rfl⟩ := k_pr h
            exact k_ret (pc := 56) dX9_plugged_56 rfl rfl rfl
          · rw [if_neg c21] at h
            refine k_aload_n (pc := 46) (x := v0) dX9_plugged_46 rfl rfl ?_
            obtain ⟨hc22, h⟩ := k_pk h
            refine k_getf (pc := 47) (t := 1) (fi := 22) dX9_plugged_47 flX9_59 rfl rfl hc22 ?_
            refine k_iload_n (pc := 50) (x := v3) dX9_plugged_50 rfl rfl ?_
            obtain ⟨hc23, h⟩ := k_pk h
            refine k_iaload (pc := 51) dX9_plugged_51 hc23 ?_
            refine k_goto (pc := 52) (tgt := 56) dX9_plugged_52 rfl ?_
            obtain ⟨rfl, rfl⟩ := k_pr h
            exact k_ret (pc := 56) dX9_plugged_56 rfl rfl rfl
        · rw [if_pos (Int.not_lt.mp c17)] at h
          refine k_iconst (pc := 35) dX9_plugged_35 ⟨by decide, by decide⟩ ?_
          obtain ⟨rfl, rfl⟩ := k_pr h
          exact k_ret (pc := 36) dX9_plugged_36 rfl rfl rfl
theorem okX9_plugged {A : k_H} {x0 x1 x2 x3 : Int} {r : Int} {A1 : k_H} (h : fX9_plugged A x0 x1 x2 x3 = some (r, A1)) : k_AM 2 mX9_plugged [(1, x0), (0, x1), (0, x2), (0, x3)] A r A1 :=
  k_AM_of2 (ls := [(1, x0), (0, x1), (0, x2), (0, x3)]) (Or.inl (by decide +kernel)) (by decide +kernel) (by decide) rfl (Nat.le_of_ble_eq_true rfl) ⟨Or.inr rfl, Or.inr rfl, Or.inr rfl, Or.inr rfl, trivial⟩ (okX9_plugged_b0 A x0 x1 x2 x3 r A1 h)
/-! X9_lacks -/
def fX9_lacks_b244 (k60 : k_H → Int → Int → Int → Int → Int → Int → Option (Int × k_H)) (A : k_H) (v0 v1 v2 v3 v5 s0 : Int) : Option (Int × k_H) := k60 A v0 v1 v2 v3 s0 (k_wr (v5 + 1))
def fX9_lacks_b216 (k60 : k_H → Int → Int → Int → Int → Int → Int → Option (Int × k_H)) (k159 : k_H → Int → Int → Int → Int → Int → Int → Int → Int → Option (Int × k_H)) (A : k_H) (v0 v1 v2 v3 v4 v5 v8 s0 s1 : Int) : Option (Int × k_H) := k159 A v0 v1 v2 v3 v4 v5 (k_wr (s0 + s1)) (k_wr (v8 + 1))
def fX9_lacks_b237 (k60 : k_H → Int → Int → Int → Int → Int → Int → Option (Int × k_H)) (A : k_H) (v0 v1 v2 v3 v5 v7 : Int) : Option (Int × k_H) := fX9_lacks_b244 k60 A v0 v1 v2 v3 v5 v7
def fX9_lacks_h159 (k60 : k_H → Int → Int → Int → Int → Int → Int → Option (Int × k_H)) : Nat → k_H → Int → Int → Int → Int → Int → Int → Int → Int → Option (Int × k_H)
  | 0, _, _, _, _, _, _, _, _, _ => none
  | N + 1, A, v0, v1, v2, v3, v4, v5, v7, v8 => if k_isO A v0 9 then (if k_isA A (k_rd A v0 9) 21 v2 then (if v8 < (k_rd A (k_rd A v0 9) v2) then (if k_isA A (k_rd A v0 23) 21 v8 then (if k_isA A (k_rd A v0 10) 21 (k_wr (k_wr (4 * v2) + v8)) then (if (k_rd A (k_rd A v0 10) (k_wr (k_wr (4 * v2) + v8))) < (k_rd A (k_rd A v0 23) v8) then (fX9_lacks_b216 k60 (fX9_lacks_h159 k60 N) A v0 v1 v2 v3 v4 v5 v8 v7 (k_wr ((k_rd A (k_rd A v0 23) v8) - (k_rd A (k_rd A v0 10) (k_wr (k_wr (4 * v2) + v8)))))) else (fX9_lacks_b216 k60 (fX9_lacks_h159 k60 N) A v0 v1 v2 v3 v4 v5 v8 v7 0)) else none) else none) else (if 0 ≤ v4 then (if v7 < v4 then (fX9_lacks_b237 k60 A v0 v1 v2 v3 v5 v7) else (fX9_lacks_b244 k60 A v0 v1 v2 v3 v5 v4)) else (fX9_lacks_b237 k60 A v0 v1 v2 v3 v5 v7))) else none) else none
def fX9_lacks_h96 (k60 : k_H → Int → Int → Int → Int → Int → Int → Option (Int × k_H)) : Nat → k_H → Int → Int → Int → Int → Int → Int → Int → Int → Option (Int × k_H)
  | 0, _, _, _, _, _, _, _, _, _ => none
  | N + 1, A, v0, v1, v2, v3, v4, v5, v6, v7 => if k_isO A v0 9 then (if k_isA A (k_rd A v0 13) 21 v1 then (if v7 < (k_rd A (k_rd A v0 13) v1) then (if k_isA A (k_rd A v0 9) 21 v2 then (if (k_rd A (k_rd A v0 9) v2) ≠ 0 then (if k_isA A (k_rd A v0 23) 21 (k_wr (Int.tmod v6 (k_rd A (k_rd A v0 9) v2))) then (if k_isA A (k_rd A v0 14) 21 (k_wr (k_wr (8 * v1) + v7)) then (k_lt (k_wt A (k_rd A v0 23) (k_wr (Int.tmod v6 (k_rd A (k_rd A v0 9) v2))) (k_wr ((k_rd A (k_rd A v0 23) (k_wr (Int.tmod v6 (k_rd A (k_rd A v0 9) v2)))) + (k_rd A (k_rd A v0 14) (k_wr (k_wr (8 * v1) + v7)))))) fun A8 => if k_isA A8 (k_rd A8 v0 9) 21 v2 then (if (k_rd A8 (k_rd A8 v0 9) v2) ≠ 0 then ((fX9_lacks_h96 k60 N) A8 v0 v1 v2 v3 v4 v5 (k_wr (Int.tdiv v6 (k_rd A8 (k_rd A8 v0 9) v2))) (k_wr (v7 + 1))) else none) else none) else none) else none) else none) else none) else (fX9_lacks_h159 k60 k_FU A v0 v1 v2 v3 v4 v5 0 0)) else none) else none
def fX9_lacks_h69 (k60 : k_H → Int → Int → Int → Int → Int → Int → Option (Int × k_H)) : Nat → k_H → Int → Int → Int → Int → Int → Int → Int → Option (Int × k_H)
  | 0, _, _, _, _, _, _, _, _ => none
  | N + 1, A, v0, v1, v2, v3, v4, v5, v6 => if v6 < 4 then (if k_isO A v0 9 then (if k_isA A (k_rd A v0 23) 21 v6 then (k_lt (k_wt A (k_rd A v0 23) v6 0) fun A4 => (fX9_lacks_h69 k60 N) A4 v0 v1 v2 v3 v4 v5 (k_wr (v6 + 1))) else none) else none) else (fX9_lacks_h96 k60 k_FU A v0 v1 v2 v3 v4 v5 v5 0)
def fX9_lacks_h60 : Nat → k_H → Int → Int → Int → Int → Int → Int → Option (Int × k_H)
  | 0, _, _, _, _, _, _, _ => none
  | N + 1, A, v0, v1, v2, v3, v4, v5 => if v5 < v3 then (fX9_lacks_h69 (fX9_lacks_h60 N) k_FU A v0 v1 v2 v3 v4 v5 0) else (some (v4, A))
def fX9_lacks_h28 : Nat → k_H → Int → Int → Int → Int → Int → Option (Int × k_H)
  | 0, _, _, _, _, _, _ => none
  | N + 1, A, v0, v1, v2, v3, v4 => if k_isO A v0 9 then (if k_isA A (k_rd A v0 13) 21 v1 then (if v4 < (k_rd A (k_rd A v0 13) v1) then (if k_isA A (k_rd A v0 9) 21 v2 then ((fX9_lacks_h28 N) A v0 v1 v2 (k_wr (v3 * (k_rd A (k_rd A v0 9) v2))) (k_wr (v4 + 1))) else none) else (fX9_lacks_h60 k_FU A v0 v1 v2 v3 (-1) 0)) else none) else none
def fX9_lacks_b0 (A : k_H) (v0 v1 v2 : Int) : Option (Int × k_H) := if k_isO A v0 9 then (k_lt (k_wt A v0 0 0) fun A2 => k_bd (fX9_isShow A2 v0 v1) fun r4 A5 => if r4 = 0 then (some ((-1), A5)) else (if k_isO A5 v0 9 then (k_bd (fX9_isHall A5 v0 v2) fun r9 A10 => if r9 = 0 then (some ((-1), A10)) else (fX9_lacks_h28 k_FU A10 v0 v1 v2 1 0)) else none)) else none
def fX9_lacks (A : k_H) (x0 x1 x2 : Int) : Option (Int × k_H) := fX9_lacks_b0 A x0 x1 x2
set_option maxRecDepth 100000 in
theorem okX9_lacks_b244 (k60 : k_H → Int → Int → Int → Int → Int → Int → Option (Int × k_H)) (hk60 : ∀ (A : k_H) (v0 v1 v2 v3 v4 v5 : Int) (r : Int) (A' : k_H), k60 A v0 v1 v2 v3 v4 v5 = some (r, A') → k_AW 2 mX9_lacks 60 [(1, v0), (0, v1), (0, v2), (0, v3), (0, v4), (0, v5), (3, 0), (3, 0), (3, 0)] [] A r A') (A : k_H) (v0 v1 v2 v3 v5 s0 : Int) (r : Int) (A' : k_H) (h : fX9_lacks_b244 k60 A v0 v1 v2 v3 v5 s0 = some (r, A')) : k_AW 2 mX9_lacks 244 [(1, v0), (0, v1), (0, v2), (0, v3), (3, 0), (0, v5), (3, 0), (3, 0), (3, 0)] [(0, s0)] A r A' := by
  unfold fX9_lacks_b244 at h
  refine k_istore (pc := 244) dX9_lacks_244 (Nat.le_of_ble_eq_true rfl) rfl ?_
  show k_AW _ _ _ [(1, v0), (0, v1), (0, v2), (0, v3), (0, s0), (0, v5), (3, 0), (3, 0), (3, 0)] _ _ _ _
  refine k_iinc (pc := 246) (x := v5) dX9_lacks_246 (Nat.le_of_ble_eq_true rfl) rfl rfl ?_
  show k_AW _ _ _ [(1, v0), (0, v1), (0, v2), (0, v3), (0, s0), (0, k_wr (v5 + 1)), (3, 0), (3, 0), (3, 0)] _ _ _ _
  refine k_goto (pc := 249) (tgt := 60) dX9_lacks_249 rfl ?_
  refine k_sub (ls' := [(1, v0), (0, v1), (0, v2), (0, v3), (0, s0), (0, k_wr (v5 + 1)), (3, 0), (3, 0), (3, 0)]) (k_sbl_ok _ _ ⟨Or.inr rfl, Or.inr rfl, Or.inr rfl, Or.inr rfl, Or.inr rfl, Or.inr rfl, Or.inl rfl, Or.inl rfl, Or.inl rfl, trivial⟩) ?_
  exact hk60 _ _ _ _ _ _ _ _ _ h
set_option maxRecDepth 100000 in
theorem okX9_lacks_b216 (k60 : k_H → Int → Int → Int → Int → Int → Int → Option (Int × k_H)) (hk60 : ∀ (A : k_H) (v0 v1 v2 v3 v4 v5 : Int) (r : Int) (A' : k_H), k60 A v0 v1 v2 v3 v4 v5 = some (r, A') → k_AW 2 mX9_lacks 60 [(1, v0), (0, v1), (0, v2), (0, v3), (0, v4), (0, v5), (3, 0), (3, 0), (3, 0)] [] A r A') (k159 : k_H → Int → Int → Int → Int → Int → Int → Int → Int → Option (Int × k_H)) (hk159 : ∀ (A : k_H) (v0 v1 v2 v3 v4 v5 v7 v8 : Int) (r : Int) (A' : k_H), k159 A v0 v1 v2 v3 v4 v5 v7 v8 = some (r, A') → k_AW 2 mX9_lacks 159 [(1, v0), (0, v1), (0, v2), (0, v3), (0, v4), (0, v5), (3, 0), (0, v7), (0, v8)] [] A r A') (A : k_H) (v0 v1 v2 v3 v4 v5 v8 s0 s1 : Int) (r : Int) (A' : k_H) (h : fX9_lacks_b216 k60 k159 A v0 v1 v2 v3 v4 v5 v8 s0 s1 = some (r, A')) : k_AW 2 mX9_lacks 216 [(1, v0), (0, v1), (0, v2), (0, v3), (0, v4), (0, v5), (3, 0), (3, 0), (0, v8)] [(0, s1), (0, s0)] A r A' := by
  unfold fX9_lacks_b216 at h
  refine k_iadd (pc := 216) dX9_lacks_216 ?_
  refine k_istore (pc := 217) dX9_lacks_217 (Nat.le_of_ble_eq_true rfl) rfl ?_
  show k_AW _ _ _ [(1, v0), (0, v1), (0, v2), (0, v3), (0, v4), (0, v5), (3, 0), (0, k_wr (s0 + s1)), (0, v8)] _ _ _ _
  refine k_iinc (pc := 219) (x := v8) dX9_lacks_219 (Nat.le_of_ble_eq_true rfl) rfl rfl ?_
  show k_AW _ _ _ [(1, v0), (0, v1), (0, v2), (0, v3), (0, v4), (0, v5), (3, 0), (0, k_wr (s0 + s1)), (0, k_wr (v8 + 1))] _ _ _ _
  refine k_goto (pc := 222) (tgt := 159) dX9_lacks_222 rfl ?_
  refine k_sub (ls' := [(1, v0), (0, v1), (0, v2), (0, v3), (0, v4), (0, v5), (3, 0), (0, k_wr (s0 + s1)), (0, k_wr (v8 + 1))]) (k_sbl_ok _ _ ⟨Or.inr rfl, Or.inr rfl, Or.inr rfl, Or.inr rfl, Or.inr rfl, Or.inr rfl, Or.inl rfl, Or.inr rfl, Or.inr rfl, trivial⟩) ?_
  exact hk159 _ _ _ _ _ _ _ _ _ _ _ h
set_option maxRecDepth 100000 in
theorem okX9_lacks_b237 (k60 : k_H → Int → Int → Int → Int → Int → Int → Option (Int × k_H)) (hk60 : ∀ (A : k_H) (v0 v1 v2 v3 v4 v5 : Int) (r : Int) (A' : k_H), k60 A v0 v1 v2 v3 v4 v5 = some (r, A') → k_AW 2 mX9_lacks 60 [(1, v0), (0, v1), (0, v2), (0, v3), (0, v4), (0, v5), (3, 0), (3, 0), (3, 0)] [] A r A') (A : k_H) (v0 v1 v2 v3 v5 v7 : Int) (r : Int) (A' : k_H) (h : fX9_lacks_b237 k60 A v0 v1 v2 v3 v5 v7 = some (r, A')) : k_AW 2 mX9_lacks 237 [(1, v0), (0, v1), (0, v2), (0, v3), (3, 0), (0, v5), (3, 0), (0, v7), (3, 0)] [] A r A' := by
  unfold fX9_lacks_b237 at h
  refine k_iload (pc := 237) (x := v7) dX9_lacks_237 rfl ?_
  refine k_goto (pc := 239) (tgt := 244) dX9_lacks_239 rfl ?_
  refine k_sub (ls' := [(1, v0), (0, v1), (0, v2), (0, v3), (3, 0), (0, v5), (3, 0), (3, 0), (3, 0)]) (k_sbl_ok _ _ ⟨Or.inr rfl, Or.inr rfl, Or.inr rfl, Or.inr rfl, Or.inl rfl, Or.inr rfl, Or.inl rfl, Or.inl rfl, Or.inl rfl, trivial⟩) ?_
  exact okX9_lacks_b244 k60 hk60 _ _ _ _ _ _ _ _ _ h
set_option maxRecDepth 100000 in
theorem okX9_lacks_h159 (k60 : k_H → Int → Int → Int → Int → Int → Int → Option (Int × k_H)) (hk60 : ∀ (A : k_H) (v0 v1 v2 v3 v4 v5 : Int) (r : Int) (A' : k_H), k60 A v0 v1 v2 v3 v4 v5 = some (r, A') → k_AW 2 mX9_lacks 60 [(1, v0), (0, v1), (0, v2), (0, v3), (0, v4), (0, v5), (3, 0), (3, 0), (3, 0)] [] A r A') : ∀ (N : Nat) (A : k_H) (v0 v1 v2 v3 v4 v5 v7 v8 : Int) (r : Int) (A' : k_H), fX9_lacks_h159 k60 N A v0 v1 v2 v3 v4 v5 v7 v8 = some (r, A') → k_AW 2 mX9_lacks 159 [(1, v0), (0, v1), (0, v2), (0, v3), (0, v4), (0, v5), (3, 0), (0, v7), (0, v8)] [] A r A' := by
  intro N
  induction N with
  | zero => intro A v0 v1 v2 v3 v4 v5 v7 v8 r A' h; exact absurd h (by simp [fX9_lacks_h159])
  | succ N ih =>
    intro A v0 v1 v2 v3 v4 v5 v7 v8 r A' h
    rw [fX9_lacks_h159] at h
    refine k_iload (pc := 159) (x := v8) dX9_lacks_159 rfl ?_
    refine k_aload_n (pc := 161) (x := v0) dX9_lacks_161 rfl rfl ?_
    obtain ⟨hc1, h⟩ := k_pk h
    refine k_getf (pc := 162) (t := 1) (fi := 9) dX9_lacks_162 flX9_26 rfl rfl hc1 ?_
    refine k_iload_n (pc := 165) (x := v2) dX9_lacks_165 rfl rfl ?_
    obtain ⟨hc2, h⟩ := k_pk h
    refine k_iaload (pc := 166) dX9_lacks_166 hc2 ?_
    refine k_icmp_ge (pc := 167) (tgt := 225) dX9_lacks_167 rfl (fun c3 => ?_) (fun c3 => ?_)
    · rw [if_neg (Int.not_lt.mpr c3)] at h
      refine k_iload (pc := 225) (x := v4) dX9_lacks_225 rfl ?_
      refine k_if_lt (pc := 227) (tgt := 237) dX9_lacks_227 rfl (fun c4 => ?_) (fun c4 => ?_)
      · rw [if_neg (Int.not_le.mpr c4)] at h
        refine k_sub (ls' := [(1, v0), (0, v1), (0, v2), (0, v3), (3, 0), (0, v5), (3, 0), (0, v7), (3, 0)]) (k_sbl_ok _ _ ⟨Or.inr rfl, Or.inr rfl, Or.inr rfl, Or.inr rfl, Or.inl rfl, Or.inr rfl, Or.inl rfl, Or.inr rfl, Or.inl rfl, trivial⟩) ?_
        exact okX9_lacks_b237 k60 hk60 _ _ _ _ _ _ _ _ _ h
      · rw [if_pos (Int.not_lt.mp c4)] at h
        refine k_iload (pc := 230) (x := v7) dX9_lacks_230 rfl ?_
        refine k_iload (pc := 232) (x := v4) dX9_lacks_232 rfl ?_
        refine k_icmp_ge (pc := 234) (tgt := 242) dX9_lacks_234 rfl (fun c5 => ?_) (fun c5 => ?_)
        · rw [if_neg (Int.not_lt.mpr c5)] at h
          refine k_iload (pc := 242) (x := v4) dX9_lacks_242 rfl ?_
          refine k_sub (ls' := [(1, v0), (0, v1), (0, v2), (0, v3), (3, 0), (0, v5), (3, 0), (3, 0), (3, 0)]) (k_sbl_ok _ _ ⟨Or.inr rfl, Or.inr rfl, Or.inr rfl, Or.inr rfl, Or.inl rfl, Or.inr rfl, Or.inl rfl, Or.inl rfl, Or.inl rfl, trivial⟩) ?_
          exact okX9_lacks_b244 k60 hk60 _ _ _ _ _ _ _ _ _ h
        · rw [if_pos (Int.not_le.mp c5)] at h
          refine k_sub (ls' := [(1, v0), (0, v1), (0, v2), (0, v3), (3, 0), (0, v5), (3, 0), (0, v7), (3, 0)]) (k_sbl_ok _ _ ⟨Or.inr rfl, Or.inr rfl, Or.inr rfl, Or.inr rfl, Or.inl rfl, Or.inr rfl, Or.inl rfl, Or.inr rfl, Or.inl rfl, trivial⟩) ?_
          exact okX9_lacks_b237 k60 hk60 _ _ _ _ _ _ _ _ _ h
    · rw [if_pos (Int.not_le.mp c3)] at h
      refine k_iload (pc := 170) (x := v7) dX9_lacks_170 rfl ?_
      refine k_aload_n (pc := 172) (x := v0) dX9_lacks_172 rfl rfl ?_
      refine k_getf (pc := 173) (t := 1) (fi := 23) dX9_lacks_173 flX9_62 rfl rfl hc1 ?_
      refine k_iload (pc := 176) (x := v8) dX9_lacks_176 rfl ?_
      obtain ⟨hc6, h⟩ := k_pk h
      refine k_iaload (pc := 178) dX9_lacks_178 hc6 ?_
      refine k_aload_n (pc := 179) (x := v0) dX9_lacks_179 rfl rfl ?_
      refine k_getf (pc := 180) (t := 1) (fi := 10) dX9_lacks_180 flX9_29 rfl rfl hc1 ?_
      refine k_iconst (pc := 183) dX9_lacks_183 ⟨by decide, by decide⟩ ?_
      refine k_iload_n (pc := 184) (x := v2) dX9_lacks_184 rfl rfl ?_
      refine k_imul (pc := 185) dX9_lacks_185 ?_
      refine k_iload (pc := 186) (x := v8) dX9_lacks_186 rfl ?_
      refine k_iadd (pc := 188) dX9_lacks_188 ?_
      obtain ⟨hc7, h⟩ := k_pk h
      refine k_iaload (pc := 189) dX9_lacks_189 hc7 ?_
      refine k_icmp_le (pc := 190) (tgt := 215) dX9_lacks_190 rfl (fun c8 => ?_) (fun c8 => ?_)
      · rw [if_neg (Int.not_lt.mpr c8)] at h
        refine k_iconst (pc := 215) dX9_lacks_215 ⟨by decide, by decide⟩ ?_
        refine k_sub (ls' := [(1, v0), (0, v1), (0, v2), (0, v3), (0, v4), (0, v5), (3, 0), (3, 0), (0, v8)]) (k_sbl_ok _ _ ⟨Or.inr rfl, Or.inr rfl, Or.inr rfl, Or.inr rfl, Or.inr rfl, Or.inr rfl, Or.inl rfl, Or.inl rfl, Or.inr rfl, trivial⟩) ?_
        exact okX9_lacks_b216 k60 hk60 (fX9_lacks_h159 k60 N) ih _ _ _ _ _ _ _ _ _ _ _ _ h
      · rw [if_pos (Int.not_le.mp c8)] at h
        refine k_aload_n (pc := 193) (x := v0) dX9_lacks_193 rfl rfl ?_
        refine k_getf (pc := 194) (t := 1) (fi := 23) dX9_lacks_194 flX9_62 rfl rfl hc1 ?_
        refine k_iload (pc := 197) (x := v8) dX9_lacks_197 rfl ?_
        refine k_iaload (pc := 199) dX9_lacks_199 hc6 ?_
        refine k_aload_n (pc := 200) (x := v0) dX9_lacks_200 rfl rfl ?_
        refine k_getf (pc := 201) (t := 1) (fi := 10) dX9_lacks_201 flX9_29 rfl rfl hc1 ?_
        refine k_iconst (pc := 204) dX9_lacks_204 ⟨by decide, by decide⟩ ?_
        refine k_iload_n (pc := 205) (x := v2) dX9_lacks_205 rfl rfl ?_
        refine k_imul (pc := 206) dX9_lacks_206 ?_
        refine k_iload (pc := 207) (x := v8) dX9_lacks_207 rfl ?_
        refine k_iadd (pc := 209) dX9_lacks_209 ?_
        refine k_iaload (pc := 210) dX9_lacks_210 hc7 ?_
        refine k_isub (pc := 211) dX9_lacks_211 ?_
        refine k_goto (pc := 212) (tgt := 216) dX9_lacks_212 rfl ?_
        refine k_sub (ls' := [(1, v0), (0, v1), (0, v2), (0, v3), (0, v4), (0, v5), (3, 0), (3, 0), (0, v8)]) (k_sbl_ok _ _ ⟨Or.inr rfl, Or.inr rfl, Or.inr rfl, Or.inr rfl, Or.inr rfl, Or.inr rfl, Or.inl rfl, Or.inl rfl, Or.inr rfl, trivial⟩) ?_
        exact okX9_lacks_b216 k60 hk60 (fX9_lacks_h159 k60 N) ih _ _ _ _ _ _ _ _ _ _ _ _ h
set_option maxRecDepth 100000 in
theorem okX9_lacks_h96 (k60 : k_H → Int → Int → Int → Int → Int → Int → Option (Int × k_H)) (hk60 : ∀ (A : k_H) (v0 v1 v2 v3 v4 v5 : Int) (r : Int) (A' : k_H), k60 A v0 v1 v2 v3 v4 v5 = some (r, A') → k_AW 2 mX9_lacks 60 [(1, v0), (0, v1), (0, v2), (0, v3), (0, v4), (0, v5), (3, 0), (3, 0), (3, 0)] [] A r A') : ∀ (N : Nat) (A : k_H) (v0 v1 v2 v3 v4 v5 v6 v7 : Int) (r : Int) (A' : k_H), fX9_lacks_h96 k60 N A v0 v1 v2 v3 v4 v5 v6 v7 = some (r, A') → k_AW 2 mX9_lacks 96 [(1, v0), (0, v1), (0, v2), (0, v3), (0, v4), (0, v5), (0, v6), (0, v7), (3, 0)] [] A r A' := by
  intro N
  induction N with
  | zero => intro A v0 v1 v2 v3 v4 v5 v6 v7 r A' h; exact absurd h (by simp [fX9_lacks_h96])
  | succ N ih =>
    intro A v0 v1 v2 v3 v4 v5 v6 v7 r A' h
    rw [fX9_lacks_h96] at h
    refine k_iload (pc := 96) (x := v7) dX9_lacks_96 rfl ?_
    refine k_aload_n (pc := 98) (x := v0) dX9_lacks_98 rfl rfl ?_
    obtain ⟨hc1, h⟩ := k_pk h
    refine k_getf (pc := 99) (t := 1) (fi := 13) dX9_lacks_99 flX9_38 rfl rfl hc1 ?_
    refine k_iload_n (pc := 102) (x := v1) dX9_lacks_102 rfl rfl ?_
    obtain ⟨hc2, h⟩ := k_pk h
    refine k_iaload (pc := 103) dX9_lacks_103 hc2 ?_
    refine k_icmp_ge (pc := 104) (tgt := 153) dX9_lacks_104 rfl (fun c3 => ?_) (fun c3 => ?_)
    · rw [if_neg (Int.not_lt.mpr c3)] at h
      refine k_iconst (pc := 153) dX9_lacks_153 ⟨by decide, by decide⟩ ?_
      refine k_istore (pc := 154) dX9_lacks_154 (Nat.le_of_ble_eq_true rfl) rfl ?_
      show k_AW _ _ _ [(1, v0), (0, v1), (0, v2), (0, v3), (0, v4), (0, v5), (0, v6), (0, 0), (3, 0)] _ _ _ _
      refine k_iconst (pc := 156) dX9_lacks_156 ⟨by decide, by decide⟩ ?_
      refine k_istore (pc := 157) dX9_lacks_157 (Nat.le_of_ble_eq_true rfl) rfl ?_
      show k_AW _ _ _ [(1, v0), (0, v1), (0, v2), (0, v3), (0, v4), (0, v5), (0, v6), (0, 0), (0, 0)] _ _ _ _
      refine k_sub (ls' := [(1, v0), (0, v1), (0, v2), (0, v3), (0, v4), (0, v5), (3, 0), (0, 0), (0, 0)]) (k_sbl_ok _ _ ⟨Or.inr rfl, Or.inr rfl, Or.inr rfl, Or.inr rfl, Or.inr rfl, Or.inr rfl, Or.inl rfl, Or.inr rfl, Or.inr rfl, trivial⟩) ?_
      exact okX9_lacks_h159 k60 hk60 _ _ _ _ _ _ _ _ _ _ _ _ h
    · rw [if_pos (Int.not_le.mp c3)] at h
      refine k_aload_n (pc := 107) (x := v0) dX9_lacks_107 rfl rfl ?_
      refine k_getf (pc := 108) (t := 1) (fi := 23) dX9_lacks_108 flX9_62 rfl rfl hc1 ?_
      refine k_iload (pc := 111) (x := v6) dX9_lacks_111 rfl ?_
      refine k_aload_n (pc := 113) (x := v0) dX9_lacks_113 rfl rfl ?_
      refine k_getf (pc := 114) (t := 1) (fi := 9) dX9_lacks_114 flX9_26 rfl rfl hc1 ?_
      refine k_iload_n (pc := 117) (x := v2) dX9_lacks_117 rfl rfl ?_
      obtain ⟨hc4, h⟩ := k_pk h
      refine k_iaload (pc := 118) dX9_lacks_118 hc4 ?_
      obtain ⟨hc5, h⟩ := k_pk h
      refine k_irem (pc := 119) dX9_lacks_119 hc5 ?_
      refine k_dup2 (pc := 120) dX9_lacks_120 (Nat.le_of_ble_eq_true rfl) (Nat.le_of_ble_eq_true rfl) ?_
      obtain ⟨hc6, h⟩ := k_pk h
      refine k_iaload (pc := 121) dX9_lacks_121 hc6 ?_
      refine k_aload_n (pc := 122) (x := v0) dX9_lacks_122 rfl rfl ?_
      refine k_getf (pc := 123) (t := 1) (fi := 14) dX9_lacks_123 flX9_41 rfl rfl hc1 ?_
      refine k_bipush (pc := 126) dX9_lacks_126 ⟨by decide, by decide⟩ (by decide +kernel) ?_
      refine k_iload_n (pc := 128) (x := v1) dX9_lacks_128 rfl rfl ?_
      refine k_imul (pc := 129) dX9_lacks_129 ?_
      refine k_iload (pc := 130) (x := v7) dX9_lacks_130 rfl ?_
      refine k_iadd (pc := 132) dX9_lacks_132 ?_
      obtain ⟨hc7, h⟩ := k_pk h
      refine k_iaload (pc := 133) dX9_lacks_133 hc7 ?_
      refine k_iadd (pc := 134) dX9_lacks_134 ?_
      refine k_iastore (pc := 135) dX9_lacks_135 hc6 ?_
      obtain ⟨A8, eA9, h⟩ := k_pl h
      refine k_hq eA9 ?_
      refine k_iload (pc := 136) (x := v6) dX9_lacks_136 rfl ?_
      refine k_aload_n (pc := 138) (x := v0) dX9_lacks_138 rfl rfl ?_
      have hf10 := k_oW eA9 hc1
      refine k_getf (pc := 139) (t := 1) (fi := 9) dX9_lacks_139 flX9_26 rfl rfl hf10 ?_
      refine k_iload_n (pc := 142) (x := v2) dX9_lacks_142 rfl rfl ?_
      obtain ⟨hc11, h⟩ := k_pk h
      refine k_iaload (pc := 143) dX9_lacks_143 hc11 ?_
      obtain ⟨hc12, h⟩ := k_pk h
      refine k_idiv (pc := 144) dX9_lacks_144 hc12 ?_
      refine k_istore (pc := 145) dX9_lacks_145 (Nat.le_of_ble_eq_true rfl) rfl ?_
      show k_AW _ _ _ [(1, v0), (0, v1), (0, v2), (0, v3), (0, v4), (0, v5), (0, k_wr (Int.tdiv v6 (k_rd A8 (k_rd A8 v0 9) v2))), (0, v7), (3, 0)] _ _ _ _
      refine k_iinc (pc := 147) (x := v7) dX9_lacks_147 (Nat.le_of_ble_eq_true rfl) rfl rfl ?_
      show k_AW _ _ _ [(1, v0), (0, v1), (0, v2), (0, v3), (0, v4), (0, v5), (0, k_wr (Int.tdiv v6 (k_rd A8 (k_rd A8 v0 9) v2))), (0, k_wr (v7 + 1)), (3, 0)] _ _ _ _
      refine k_goto (pc := 150) (tgt := 96) dX9_lacks_150 rfl ?_
      refine k_sub (ls' := [(1, v0), (0, v1), (0, v2), (0, v3), (0, v4), (0, v5), (0, k_wr (Int.tdiv v6 (k_rd A8 (k_rd A8 v0 9) v2))), (0, k_wr (v7 + 1)), (3, 0)]) (k_sbl_ok _ _ ⟨Or.inr rfl, Or.inr rfl, Or.inr rfl, Or.inr rfl, Or.inr rfl, Or.inr rfl, Or.inr rfl, Or.inr rfl, Or.inl rfl, trivial⟩) ?_
      exact ih _ _ _ _ _ _ _ _ _ _ _ h
set_option maxRecDepth 100000 in
theorem okX9_lacks_h69 (k60 : k_H → Int → Int → Int → Int → Int → Int → Option (Int × k_H)) (hk60 : ∀ (A : k_H) (v0 v1 v2 v3 v4 v5 : Int) (r : Int) (A' : k_H), k60 A v0 v1 v2 v3 v4 v5 = some (r, A') → k_AW 2 mX9_lacks 60 [(1, v0), (0, v1), (0, v2), (0, v3), (0, v4), (0, v5), (3, 0), (3, 0), (3, 0)] [] A r A') : ∀ (N : Nat) (A : k_H) (v0 v1 v2 v3 v4 v5 v6 : Int) (r : Int) (A' : k_H), fX9_lacks_h69 k60 N A v0 v1 v2 v3 v4 v5 v6 = some (r, A') → k_AW 2 mX9_lacks 69 [(1, v0), (0, v1), (0, v2), (0, v3), (0, v4), (0, v5), (0, v6), (3, 0), (3, 0)] [] A r A' := by
  intro N
  induction N with
  | zero => intro A v0 v1 v2 v3 v4 v5 v6 r A' h; exact absurd h (by simp [fX9_lacks_h69])
  | succ N ih =>
    intro A v0 v1 v2 v3 v4 v5 v6 r A' h
    rw [fX9_lacks_h69] at h
    refine k_iload (pc := 69) (x := v6) dX9_lacks_69 rfl ?_
    refine k_iconst (pc := 71) dX9_lacks_71 ⟨by decide, by decide⟩ ?_
    refine k_icmp_ge (pc := 72) (tgt := 89) dX9_lacks_72 rfl (fun c1 => ?_) (fun c1 => ?_)
    · rw [if_neg (Int.not_lt.mpr c1)] at h
      refine k_iload (pc := 89) (x := v5) dX9_lacks_89 rfl ?_
      refine k_istore (pc := 91) dX9_lacks_91 (Nat.le_of_ble_eq_true rfl) rfl ?_
      show k_AW _ _ _ [(1, v0), (0, v1), (0, v2), (0, v3), (0, v4), (0, v5), (0, v5), (3, 0), (3, 0)] _ _ _ _
      refine k_iconst (pc := 93) dX9_lacks_93 ⟨by decide, by decide⟩ ?_
      refine k_istore (pc := 94) dX9_lacks_94 (Nat.le_of_ble_eq_true rfl) rfl ?_
      show k_AW _ _ _ [(1, v0), (0, v1), (0, v2), (0, v3), (0, v4), (0, v5), (0, v5), (0, 0), (3, 0)] _ _ _ _
      refine k_sub (ls' := [(1, v0), (0, v1), (0, v2), (0, v3), (0, v4), (0, v5), (0, v5), (0, 0), (3, 0)]) (k_sbl_ok _ _ ⟨Or.inr rfl, Or.inr rfl, Or.inr rfl, Or.inr rfl, Or.inr rfl, Or.inr rfl, Or.inr rfl, Or.inr rfl, Or.inl rfl, trivial⟩) ?_
      exact okX9_lacks_h96 k60 hk60 _ _ _ _ _ _ _ _ _ _ _ _ h
    · rw [if_pos (Int.not_le.mp c1)] at h
      refine k_aload_n (pc := 75) (x := v0) dX9_lacks_75 rfl rfl ?_
      obtain ⟨hc2, h⟩ := k_pk h
      refine k_getf (pc := 76) (t := 1) (fi := 23) dX9_lacks_76 flX9_62 rfl rfl hc2 ?_
      refine k_iload (pc := 79) (x := v6) dX9_lacks_79 rfl ?_
      refine k_iconst (pc := 81) dX9_lacks_81 ⟨by decide, by decide⟩ ?_
      obtain ⟨hc3, h⟩ := k_pk h
      refine k_iastore (pc := 82) dX9_lacks_82 hc3 ?_
      obtain ⟨A4, eA5, h⟩ := k_pl h
      refine k_hq eA5 ?_
      refine k_iinc (pc := 83) (x := v6) dX9_lacks_83 (Nat.le_of_ble_eq_true rfl) rfl rfl ?_
      show k_AW _ _ _ [(1, v0), (0, v1), (0, v2), (0, v3), (0, v4), (0, v5), (0, k_wr (v6 + 1)), (3, 0), (3, 0)] _ _ _ _
      refine k_goto (pc := 86) (tgt := 69) dX9_lacks_86 rfl ?_
      refine k_sub (ls' := [(1, v0), (0, v1), (0, v2), (0, v3), (0, v4), (0, v5), (0, k_wr (v6 + 1)), (3, 0), (3, 0)]) (k_sbl_ok _ _ ⟨Or.inr rfl, Or.inr rfl, Or.inr rfl, Or.inr rfl, Or.inr rfl, Or.inr rfl, Or.inr rfl, Or.inl rfl, Or.inl rfl, trivial⟩) ?_
      exact ih _ _ _ _ _ _ _ _ _ _ h
set_option maxRecDepth 100000 in
theorem okX9_lacks_h60 : ∀ (N : Nat) (A : k_H) (v0 v1 v2 v3 v4 v5 : Int) (r : Int) (A' : k_H), fX9_lacks_h60 N A v0 v1 v2 v3 v4 v5 = some (r, A') → k_AW 2 mX9_lacks 60 [(1, v0), (0, v1), (0, v2), (0, v3), (0, v4), (0, v5), (3, 0), (3, 0), (3, 0)] [] A r A' := by
  intro N
  induction N with
  | zero => intro A v0 v1 v2 v3 v4 v5 r A' h; exact absurd h (by simp [fX9_lacks_h60])
  | succ N ih =>
    intro A v0 v1 v2 v3 v4 v5 r A' h
    rw [fX9_lacks_h60] at h
    refine k_iload (pc := 60) (x := v5) dX9_lacks_60 rfl ?_
    refine k_iload_n (pc := 62) (x := v3) dX9_lacks_62 rfl rfl ?_
    refine k_icmp_ge (pc := 63) (tgt := 252) dX9_lacks_63 rfl (fun c1 => ?_) (fun c1 => ?_)
    · rw [if_neg (Int.not_lt.mpr c1)] at h
      refine k_iload (pc := 252) (x := v4) dX9_lacks_252 rfl ?_
      obtain ⟨rfl, rfl⟩ := k_pr h
      exact k_ret (pc := 254) dX9_lacks_254 rfl rfl rfl
    · rw [if_pos (Int.not_le.mp c1)] at h
      refine k_iconst (pc := 66) dX9_lacks_66 ⟨by decide, by decide⟩ ?_
      refine k_istore (pc := 67) dX9_lacks_67 (Nat.le_of_ble_eq_true rfl) rfl ?_
      show k_AW _ _ _ [(1, v0), (0, v1), (0, v2), (0, v3), (0, v4), (0, v5), (0, 0), (3, 0), (3, 0)] _ _ _ _
      refine k_sub (ls' := [(1, v0), (0, v1), (0, v2), (0, v3), (0, v4), (0, v5), (0, 0), (3, 0), (3, 0)]) (k_sbl_ok _ _ ⟨Or.inr rfl, Or.inr rfl, Or.inr rfl, Or.inr rfl, Or.inr rfl, Or.inr rfl, Or.inr rfl, Or.inl rfl, Or.inl rfl, trivial⟩) ?_
      exact okX9_lacks_h69 (fX9_lacks_h60 N) ih _ _ _ _ _ _ _ _ _ _ _ h
set_option maxRecDepth 100000 in
theorem okX9_lacks_h28 : ∀ (N : Nat) (A : k_H) (v0 v1 v2 v3 v4 : Int) (r : Int) (A' : k_H), fX9_lacks_h28 N A v0 v1 v2 v3 v4 = some (r, A') → k_AW 2 mX9_lacks 28 [(1, v0), (0, v1), (0, v2), (0, v3), (0, v4), (3, 0), (3, 0), (3, 0), (3, 0)] [] A r A' := by
  intro N
  induction N with
  | zero => intro A v0 v1 v2 v3 v4 r A' h; exact absurd h (by simp [fX9_lacks_h28])
  | succ N ih =>
    intro A v0 v1 v2 v3 v4 r A' h
    rw [fX9_lacks_h28] at h
    refine k_iload (pc := 28) (x := v4) dX9_lacks_28 rfl ?_
    refine k_aload_n (pc := 30) (x := v0) dX9_lacks_30 rfl rfl ?_
    obtain ⟨hc1, h⟩ := k_pk h
    refine k_getf (pc := 31) (t := 1) (fi := 13) dX9_lacks_31 flX9_38 rfl rfl hc1 ?_
    refine k_iload_n (pc := 34) (x := v1) dX9_lacks_34 rfl rfl ?_
    obtain ⟨hc2, h⟩ := k_pk h
    refine k_iaload (pc := 35) dX9_lacks_35 hc2 ?_
    refine k_icmp_ge (pc := 36) (tgt := 54) dX9_lacks_36 rfl (fun c3 => ?_) (fun c3 => ?_)
    · rw [if_neg (Int.not_lt.mpr c3)] at h
      refine k_iconst (pc := 54) dX9_lacks_54 ⟨by decide, by decide⟩ ?_
      refine k_istore (pc := 55) dX9_lacks_55 (Nat.le_of_ble_eq_true rfl) rfl ?_
      show k_AW _ _ _ [(1, v0), (0, v1), (0, v2), (0, v3), (0, (-1)), (3, 0), (3, 0), (3, 0), (3, 0)] _ _ _ _
      refine k_iconst (pc := 57) dX9_lacks_57 ⟨by decide, by decide⟩ ?_
      refine k_istore (pc := 58) dX9_lacks_58 (Nat.le_of_ble_eq_true rfl) rfl ?_
      show k_AW _ _ _ [(1, v0), (0, v1), (0, v2), (0, v3), (0, (-1)), (0, 0), (3, 0), (3, 0), (3, 0)] _ _ _ _
      refine k_sub (ls' := [(1, v0), (0, v1), (0, v2), (0, v3), (0, (-1)), (0, 0), (3, 0), (3, 0), (3, 0)]) (k_sbl_ok _ _ ⟨Or.inr rfl, Or.inr rfl, Or.inr rfl, Or.inr rfl, Or.inr rfl, Or.inr rfl, Or.inl rfl, Or.inl rfl, Or.inl rfl, trivial⟩) ?_
      exact okX9_lacks_h60  _ _ _ _ _ _ _ _ _ _ h
    · rw [if_pos (Int.not_le.mp c3)] at h
      refine k_iload_n (pc := 39) (x := v3) dX9_lacks_39 rfl rfl ?_
      refine k_aload_n (pc := 40) (x := v0) dX9_lacks_40 rfl rfl ?_
      refine k_getf (pc := 41) (t := 1) (fi := 9) dX9_lacks_41 flX9_26 rfl rfl hc1 ?_
      refine k_iload_n (pc := 44) (x := v2) dX9_lacks_44 rfl rfl ?_
      obtain ⟨hc4, h⟩ := k_pk h
      refine k_iaload (pc := 45) dX9_lacks_45 hc4 ?_
      refine k_imul (pc := 46) dX9_lacks_46 ?_
      refine k_istore_n (pc := 47) dX9_lacks_47 rfl (Nat.le_of_ble_eq_true rfl) rfl ?_
      show k_AW _ _ _ [(1, v0), (0, v1), (0, v2), (0, k_wr (v3 * (k_rd A (k_rd A v0 9) v2))), (0, v4), (3, 0), (3, 0), (3, 0), (3, 0)] _ _ _ _
      refine k_iinc (pc := 48) (x := v4) dX9_lacks_48 (Nat.le_of_ble_eq_true rfl) rfl rfl ?_
      show k_AW _ _ _ [(1, v0), (0, v1), (0, v2), (0, k_wr (v3 * (k_rd A (k_rd A v0 9) v2))), (0, k_wr (v4 + 1)), (3, 0), (3, 0), (3, 0), (3, 0)] _ _ _ _
      refine k_goto (pc := 51) (tgt := 28) dX9_lacks_51 rfl ?_
      refine k_sub (ls' := [(1, v0), (0, v1), (0, v2), (0, k_wr (v3 * (k_rd A (k_rd A v0 9) v2))), (0, k_wr (v4 + 1)), (3, 0), (3, 0), (3, 0), (3, 0)]) (k_sbl_ok _ _ ⟨Or.inr rfl, Or.inr rfl, Or.inr rfl, Or.inr rfl, Or.inr rfl, Or.inl rfl, Or.inl rfl, Or.inl rfl, Or.inl rfl, trivial⟩) ?_
      exact ih _ _ _ _ _ _ _ _ h
set_option maxRecDepth 100000 in
theorem okX9_lacks_b0 (A : k_H) (v0 v1 v2 : Int) (r : Int) (A' : k_H) (h : fX9_lacks_b0 A v0 v1 v2 = some (r, A')) : k_AW 2 mX9_lacks 0 [(1, v0), (0, v1), (0, v2), (3, 0), (3, 0), (3, 0), (3, 0), (3, 0), (3, 0)] [] A r A' := by
  unfold fX9_lacks_b0 at h
  refine k_aload_n (pc := 0) (x := v0) dX9_lacks_0 rfl rfl ?_
  refine k_iconst (pc := 1) dX9_lacks_1 ⟨by decide, by decide⟩ ?_
  obtain ⟨hc1, h⟩ := k_pk h
  refine k_putf (pc := 2) (t := 0) (fi := 0) dX9_lacks_2 flX9_102 rfl rfl hc1 rfl ?_
  obtain ⟨A2, eA3, h⟩ := k_pl h
  refine k_hq eA3 ?_
  refine k_aload_n (pc := 5) (x := v0) dX9_lacks_5 rfl rfl ?_
  refine k_iload_n (pc := 6) (x := v1) dX9_lacks_6 rfl rfl ?_
  have hf7 := k_oW eA3 hc1
  obtain ⟨r4, A5, hq6, h⟩ := k_pb h
  refine k_callV (pc := 7) (ci := 9) (a := v0) (as := [(0, v1)]) (st := []) (st1 := [(0, r4)]) dX9_lacks_7 cbX9_isShow (k_gt 1054 (by decide +kernel) (by decide +kernel)) cvX9_isShow.1 cvX9_isShow.2 rfl (by decide) hf7 (by omega) rfl (Nat.le_of_ble_eq_true rfl) (okX9_isShow hq6) rfl ?_
  refine k_if_eq (pc := 10) (tgt := 21) dX9_lacks_10 rfl (fun c8 => ?_) (fun c8 => ?_)
  · rw [if_pos c8] at h
    refine k_iconst (pc := 21) dX9_lacks_21 ⟨by decide, by decide⟩ ?_
    obtain ⟨rfl, rfl⟩ := k_pr h
    exact k_ret (pc := 22) dX9_lacks_22 rfl rfl rfl
  · rw [if_neg c8] at h
    refine k_aload_n (pc := 13) (x := v0) dX9_lacks_13 rfl rfl ?_
    refine k_iload_n (pc := 14) (x := v2) dX9_lacks_14 rfl rfl ?_
    obtain ⟨hc12, h⟩ := k_pk h
    obtain ⟨r9, A10, hq11, h⟩ := k_pb h
    refine k_callV (pc := 15) (ci := 9) (a := v0) (as := [(0, v2)]) (st := []) (st1 := [(0, r9)]) dX9_lacks_15 cbX9_isHall (k_gt 1042 (by decide +kernel) (by decide +kernel)) cvX9_isHall.1 cvX9_isHall.2 rfl (by decide) hc12 (by omega) rfl (Nat.le_of_ble_eq_true rfl) (okX9_isHall hq11) rfl ?_
    refine k_if_ne (pc := 18) (tgt := 23) dX9_lacks_18 rfl (fun c13 => ?_) (fun c13 => ?_)
    · rw [if_neg c13] at h
      refine k_iconst (pc := 23) dX9_lacks_23 ⟨by decide, by decide⟩ ?_
      refine k_istore_n (pc := 24) dX9_lacks_24 rfl (Nat.le_of_ble_eq_true rfl) rfl ?_
      show k_AW _ _ _ [(1, v0), (0, v1), (0, v2), (0, 1), (3, 0), (3, 0), (3, 0), (3, 0), (3, 0)] _ _ _ _
      refine k_iconst (pc := 25) dX9_lacks_25 ⟨by decide, by decide⟩ ?_
      refine k_istore (pc := 26) dX9_lacks_26 (Nat.le_of_ble_eq_true rfl) rfl ?_
      show k_AW _ _ _ [(1, v0), (0, v1), (0, v2), (0, 1), (0, 0), (3, 0), (3, 0), (3, 0), (3, 0)] _ _ _ _
      refine k_sub (ls' := [(1, v0), (0, v1), (0, v2), (0, 1), (0, 0), (3, 0), (3, 0), (3, 0), (3, 0)]) (k_sbl_ok _ _ ⟨Or.inr rfl, Or.inr rfl, Or.inr rfl, Or.inr rfl, Or.inr rfl, Or.inl rfl, Or.inl rfl, Or.inl rfl, Or.inl rfl, trivial⟩) ?_
      exact okX9_lacks_h28  _ _ _ _ _ _ _ _ _ h
    · rw [if_pos (Classical.not_not.mp c13)] at h
      refine k_iconst (pc := 21) dX9_lacks_21 ⟨by decide, by decide⟩ ?_
      obtain ⟨rfl, rfl⟩ := k_pr h
      exact k_ret (pc := 22) dX9_lacks_22 rfl rfl rfl
theorem okX9_lacks {A : k_H} {x0 x1 x2 : Int} {r : Int} {A1 : k_H} (h : fX9_lacks A x0 x1 x2 = some (r, A1)) : k_AM 2 mX9_lacks [(1, x0), (0, x1), (0, x2)] A r A1 :=
  k_AM_of2 (ls := [(1, x0), (0, x1), (0, x2), (3, 0), (3, 0), (3, 0), (3, 0), (3, 0), (3, 0)]) (Or.inl (by decide +kernel)) (by decide +kernel) (by decide) rfl (Nat.le_of_ble_eq_true rfl) ⟨Or.inr rfl, Or.inr rfl, Or.inr rfl, rfl, rfl, rfl, rfl, rfl, rfl, trivial⟩ (okX9_lacks_b0 A x0 x1 x2 r A1 h)
/-! X9_go -/
def fX9_go_b106 (A : k_H) (v0 v1 v2 v4 v5 s0 : Int) : Option (Int × k_H) := if k_isO A v0 9 then (if k_isA A (k_rd A v0 28) 21 v2 then (if (k_and (k_shr (k_rd A (k_rd A v0 28) v2) v4) 1) = 1 then (some (0, A)) else (if k_isA A (k_rd A v0 31) 21 v2 then (if k_isA A (k_rd A v0 18) 21 v1 then (if (k_rd A (k_rd A v0 31) v2) = (k_rd A (k_rd A v0 18) v1) then (some (0, A)) else (if s0 = 0 then (k_bd (fX9_isFree A v0 v1 v5 v2) fun r8 A9 => if r8 = 0 then (some (0, A9)) else (if k_isO A9 v0 9 then (if k_isA A9 (k_rd A9 v0 28) 21 v2 then (if k_isA A9 (k_rd A9 v0 31) 21 v2 then (if k_isA A9 (k_rd A9 v0 32) 21 v2 then (if k_isA A9 (k_rd A9 v0 19) 21 (k_wr (k_wr (6 * v5) + v1)) then (k_bd (fX9_stand A9 v0 (k_wr (v2 + 1)) (k_or (k_rd A9 (k_rd A9 v0 28) v2) (k_shl 1 v4)) v4 v2 (k_wr ((k_rd A9 (k_rd A9 v0 31) v2) + 1)) (k_wr ((k_rd A9 (k_rd A9 v0 32) v2) + (k_rd A9 (k_rd A9 v0 19) (k_wr (k_wr (6 * v5) + v1)))))) fun r17 A18 => some (1, A18)) else none) else none) else none) else none) else none)) else (some (0, A)))) else none) else none)) else none) else none
def fX9_go_b105 (A : k_H) (v0 v1 v2 v4 v5 : Int) : Option (Int × k_H) := fX9_go_b106 A v0 v1 v2 v4 v5 0
def fX9_go_b0 (A : k_H) (v0 v1 v2 v3 : Int) : Option (Int × k_H) := if k_isO A v0 9 then (if k_isA A (k_rd A v0 27) 21 v2 then (if (k_rd A (k_rd A v0 27) v2) = v3 then (if k_isA A (k_rd A v0 28) 21 v2 then (if k_isA A (k_rd A v0 29) 21 v2 then (if k_isA A (k_rd A v0 30) 21 v2 then (if k_isA A (k_rd A v0 32) 21 v2 then (k_bd (fX9_stand A v0 (k_wr (v2 + 1)) (k_rd A (k_rd A v0 28) v2) (k_rd A (k_rd A v0 29) v2) (k_rd A (k_rd A v0 30) v2) 0 (k_rd A (k_rd A v0 32) v2)) fun r19 A20 => some (1, A20)) else none) else none) else none) else none) else (if k_isA A (k_rd A v0 26) 21 (k_rd A (k_rd A v0 27) v2) then (if k_isA A (k_rd A v0 29) 21 v2 then (if 0 ≤ (k_rd A (k_rd A v0 29) v2) then (if k_isA A (k_rd A v0 26) 21 (k_rd A (k_rd A v0 29) v2) then (k_bd (fX9_milesOf A v0 (k_rd A (k_rd A v0 26) (k_rd A (k_rd A v0 29) v2)) (k_rd A (k_rd A v0 26) (k_rd A (k_rd A v0 27) v2))) fun r8 A9 => if k_isO A9 v0 9 then (if k_isA A9 (k_rd A9 v0 17) 21 v1 then (if k_isA A9 (k_rd A9 v0 30) 21 v2 then (if k_wr ((k_rd A9 (k_rd A9 v0 17) v1) * k_wr (v2 - (k_rd A9 (k_rd A9 v0 30) v2))) < r8 then (fX9_go_b106 A9 v0 v1 v2 (k_rd A (k_rd A v0 27) v2) (k_rd A (k_rd A v0 26) (k_rd A (k_rd A v0 27) v2)) 1) else (fX9_go_b105 A9 v0 v1 v2 (k_rd A (k_rd A v0 27) v2) (k_rd A (k_rd A v0 26) (k_rd A (k_rd A v0 27) v2)))) else none) else none) else none) else none) else (fX9_go_b105 A v0 v1 v2 (k_rd A (k_rd A v0 27) v2) (k_rd A (k_rd A v0 26) (k_rd A (k_rd A v0 27) v2)))) else none) else none)) else none) else none
def fX9_go (A : k_H) (x0 x1 x2 x3 : Int) : Option (Int × k_H) := fX9_go_b0 A x0 x1 x2 x3
set_option maxRecDepth 100000 in
theorem okX9_go_b106 (A : k_H) (v0 v1 v2 v4 v5 s0 : Int) (r : Int) (A' : k_H) (h : fX9_go_b106 A v0 v1 v2 v4 v5 s0 = some (r, A')) : k_AW 2 mX9_go 106 [(1, v0), (0, v1), (0, v2), (3, 0), (0, v4), (0, v5), (3, 0)] [(0, s0)] A r A' := by
  unfold fX9_go_b106 at h
  refine k_istore (pc := 106) dX9_go_106 (Nat.le_of_ble_eq_true rfl) rfl ?_
  show k_AW _ _ _ [(1, v0), (0, v1), (0, v2), (3, 0), (0, v4), (0, v5), (0, s0)] _ _ _ _
  refine k_aload_n (pc := 108) (x := v0) dX9_go_108 rfl rfl ?_
  obtain ⟨hc1, h⟩ := k_pk h
  refine k_getf (pc := 109) (t := 1) (fi := 28) dX9_go_109 flX9_77 rfl rfl hc1 ?_
  refine k_iload_n (pc := 112) (x := v2) dX9_go_112 rfl rfl ?_
  obtain ⟨hc2, h⟩ := k_pk h
  refine k_iaload (pc := 113) dX9_go_113 hc2 ?_
  refine k_iload (pc := 114) (x := v4) dX9_go_114 rfl ?_
  refine k_ishr (pc := 116) dX9_go_116 ?_
  refine k_iconst (pc := 117) dX9_go_117 ⟨by decide, by decide⟩ ?_
  refine k_iand (pc := 118) dX9_go_118 ?_
  refine k_iconst (pc := 119) dX9_go_119 ⟨by decide, by decide⟩ ?_
  refine k_icmp_eq (pc := 120) (tgt := 154) dX9_go_120 rfl (fun c3 => ?_) (fun c3 => ?_)
  · rw [if_pos c3] at h
    refine k_iconst (pc := 154) dX9_go_154 ⟨by decide, by decide⟩ ?_
    obtain ⟨rfl, rfl⟩ := k_pr h
    exact k_ret (pc := 155) dX9_go_155 rfl rfl (by decide +kernel)
  · rw [if_neg c3] at h
    refine k_aload_n (pc := 123) (x := v0) dX9_go_123 rfl rfl ?_
    refine k_getf (pc := 124) (t := 1) (fi := 31) dX9_go_124 flX9_86 rfl rfl hc1 ?_
    refine k_iload_n (pc := 127) (x := v2) dX9_go_127 rfl rfl ?_
    obtain ⟨hc4, h⟩ := k_pk h
    refine k_iaload (pc := 128) dX9_go_128 hc4 ?_
    refine k_aload_n (pc := 129) (x := v0) dX9_go_129 rfl rfl ?_
    refine k_getf (pc := 130) (t := 1) (fi := 18) dX9_go_130 flX9_53 rfl rfl hc1 ?_
    refine k_iload_n (pc := 133) (x := v1) dX9_go_133 rfl rfl ?_
    obtain ⟨hc5, h⟩ := k_pk h
    refine k_iaload (pc := 134) dX9_go_134 hc5 ?_
    refine k_icmp_eq (pc := 135) (tgt := 154) dX9_go_135 rfl (fun c6 => ?_) (fun c6 => ?_)
    · rw [if_pos c6] at h
      refine k_iconst (pc := 154) dX9_go_154 ⟨by decide, by decide⟩ ?_
      obtain ⟨rfl, rfl⟩ := k_pr h
      exact k_ret (pc := 155) dX9_go_155 rfl rfl (by decide +kernel)
    · rw [if_neg c6] at h
      refine k_iload (pc := 138) (x := s0) dX9_go_138 rfl ?_
      refine k_if_ne (pc := 140) (tgt := 154) dX9_go_140 rfl (fun c7 => ?_) (fun c7 => ?_)
      · rw [if_neg c7] at h
        refine k_iconst (pc := 154) dX9_go_154 ⟨by decide, by decide⟩ ?_
        obtain ⟨rfl, rfl⟩ := k_pr h
        exact k_ret (pc := 155) dX9_go_155 rfl rfl (by decide +kernel)
      · rw [if_pos (Classical.not_not.mp c7)] at h
        refine k_aload_n (pc := 143) (x := v0) dX9_go_143 rfl rfl ?_
        refine k_iload_n (pc := 144) (x := v1) dX9_go_144 rfl rfl ?_
        refine k_iload (pc := 145) (x := v5) dX9_go_145 rfl ?_
        refine k_iload_n (pc := 147) (x := v2) dX9_go_147 rfl rfl ?_
        obtain ⟨r8, A9, hq10, h⟩ := k_pb h
        refine k_callV (pc := 148) (ci := 9) (a := v0) (as := [(0, v1), (0, v5), (0, v2)]) (st := []) (st1 := [(0, r8)]) dX9_go_148 cbX9_isFree (k_gt 1094 (by decide +kernel) (by decide +kernel)) cvX9_isFree.1 cvX9_isFree.2 rfl (by decide) hc1 (by omega) rfl (Nat.le_of_ble_eq_true rfl) (okX9_isFree hq10) rfl ?_
        refine k_if_ne (pc := 151) (tgt := 156) dX9_go_151 rfl (fun c11 => ?_) (fun c11 => ?_)
        · rw [if_neg c11] at h
          refine k_aload_n (pc := 156) (x := v0) dX9_go_156 rfl rfl ?_
          refine k_iload_n (pc := 157) (x := v2) dX9_go_157 rfl rfl ?_
          refine k_iconst (pc := 158) dX9_go_158 ⟨by decide, by decide⟩ ?_
          refine k_iadd (pc := 159) dX9_go_159 ?_
          refine k_aload_n (pc := 160) (x := v0) dX9_go_160 rfl rfl ?_
          obtain ⟨hc12, h⟩ := k_pk h
          refine k_getf (pc := 161) (t := 1) (fi := 28) dX9_go_161 flX9_77 rfl rfl hc12 ?_
          refine k_iload_n (pc := 164) (x := v2) dX9_go_164 rfl rfl ?_
          obtain ⟨hc13, h⟩ := k_pk h
          refine k_iaload (pc := 165) dX9_go_165 hc13 ?_
          refine k_iconst (pc := 166) dX9_go_166 ⟨by decide, by decide⟩ ?_
          refine k_iload (pc := 167) (x := v4) dX9_go_167 rfl ?_
          refine k_ishl (pc := 169) dX9_go_169 ?_
          refine k_ior (pc := 170) dX9_go_170 ?_
          refine k_iload (pc := 171) (x := v4) dX9_go_171 rfl ?_
          refine k_iload_n (pc := 173) (x := v2) dX9_go_173 rfl rfl ?_
          refine k_aload_n (pc := 174) (x := v0) dX9_go_174 rfl rfl ?_
          refine k_getf (pc := 175) (t := 1) (fi := 31) dX9_go_175 flX9_86 rfl rfl hc12 ?_
          refine k_iload_n (pc := 178) (x := v2) dX9_go_178 rfl rfl ?_
          obtain ⟨hc14, h⟩ := k_pk h
          refine k_iaload (pc := 179) dX9_go_179 hc14 ?_
          refine k_iconst (pc := 180) dX9_go_180 ⟨by decide, by decide⟩ ?_
          refine k_iadd (pc := 181) dX9_go_181 ?_
          refine k_aload_n (pc := 182) (x := v0) dX9_go_182 rfl rfl ?_
          refine k_getf (pc := 183) (t := 1) (fi := 32) dX9_go_183 flX9_89 rfl rfl hc12 ?_
          refine k_iload_n (pc := 186) (x := v2) dX9_go_186 rfl rfl ?_
          obtain ⟨hc15, h⟩ := k_pk h
          refine k_iaload (pc := 187) dX9_go_187 hc15 ?_
          refine k_aload_n (pc := 188) (x := v0) dX9_go_188 rfl rfl ?_
          refine k_getf (pc := 189) (t := 1) (fi := 19) dX9_go_189 flX9_56 rfl rfl hc12 ?_
          refine k_bipush (pc := 192) dX9_go_192 ⟨by decide, by decide⟩ (by decide +kernel) ?_
          refine k_iload (pc := 194) (x := v5) dX9_go_194 rfl ?_
          refine k_imul (pc := 196) dX9_go_196 ?_
          refine k_iload_n (pc := 197) (x := v1) dX9_go_197 rfl rfl ?_
          refine k_iadd (pc := 198) dX9_go_198 ?_
          obtain ⟨hc16, h⟩ := k_pk h
          refine k_iaload (pc := 199) dX9_go_199 hc16 ?_
          refine k_iadd (pc := 200) dX9_go_200 ?_
          obtain ⟨r17, A18, hq19, h⟩ := k_pb h
          refine k_callV (pc := 201) (ci := 9) (a := v0) (as := [(0, k_wr (v2 + 1)), (0, (k_or (k_rd A9 (k_rd A9 v0 28) v2) (k_shl 1 v4))), (0, v4), (0, v2), (0, k_wr ((k_rd A9 (k_rd A9 v0 31) v2) + 1)), (0, k_wr ((k_rd A9 (k_rd A9 v0 32) v2) + (k_rd A9 (k_rd A9 v0 19) (k_wr (k_wr (6 * v5) + v1)))))]) (st := []) (st1 := []) dX9_go_201 cbX9_stand (k_gt 1082 (by decide +kernel) (by decide +kernel)) cvX9_stand.1 cvX9_stand.2 rfl (by decide) hc12 (by omega) rfl (Nat.le_of_ble_eq_true rfl) (okX9_stand hq19) rfl ?_
          refine k_iconst (pc := 204) dX9_go_204 ⟨by decide, by decide⟩ ?_
          obtain ⟨rfl, rfl⟩ := k_pr h
          exact k_ret (pc := 205) dX9_go_205 rfl rfl (by decide +kernel)
        · rw [if_pos (Classical.not_not.mp c11)] at h
          refine k_iconst (pc := 154) dX9_go_154 ⟨by decide, by decide⟩ ?_
          obtain ⟨rfl, rfl⟩ := k_pr h
          exact k_ret (pc := 155) dX9_go_155 rfl rfl (by decide +kernel)
set_option maxRecDepth 100000 in
theorem okX9_go_b105 (A : k_H) (v0 v1 v2 v4 v5 : Int) (r : Int) (A' : k_H) (h : fX9_go_b105 A v0 v1 v2 v4 v5 = some (r, A')) : k_AW 2 mX9_go 105 [(1, v0), (0, v1), (0, v2), (3, 0), (0, v4), (0, v5), (3, 0)] [] A r A' := by
  unfold fX9_go_b105 at h
  refine k_iconst (pc := 105) dX9_go_105 ⟨by decide, by decide⟩ ?_
  refine k_sub (ls' := [(1, v0), (0, v1), (0, v2), (3, 0), (0, v4), (0, v5), (3, 0)]) (k_sbl_ok _ _ ⟨Or.inr rfl, Or.inr rfl, Or.inr rfl, Or.inl rfl, Or.inr rfl, Or.inr rfl, Or.inl rfl, trivial⟩) ?_
  exact okX9_go_b106  _ _ _ _ _ _ _ _ _ h
set_option maxRecDepth 100000 in
theorem okX9_go_b0 (A : k_H) (v0 v1 v2 v3 : Int) (r : Int) (A' : k_H) (h : fX9_go_b0 A v0 v1 v2 v3 = some (r, A')) : k_AW 2 mX9_go 0 [(1, v0), (0, v1), (0, v2), (0, v3), (3, 0), (3, 0), (3, 0)] [] A r A' := by
  unfold fX9_go_b0 at h
  refine k_aload_n (pc := 0) (x := v0) dX9_go_0 rfl rfl ?_
  obtain ⟨hc1, h⟩ := k_pk h
  refine k_getf (pc := 1) (t := 1) (fi := 27) dX9_go_1 flX9_74 rfl rfl hc1 ?_
  refine k_iload_n (pc := 4) (x := v2) dX9_go_4 rfl rfl ?_
  obtain ⟨hc2, h⟩ := k_pk h
  refine k_iaload (pc := 5) dX9_go_5 hc2 ?_
  refine k_istore (pc := 6) dX9_go_6 (Nat.le_of_ble_eq_true rfl) rfl ?_
  show k_AW _ _ _ [(1, v0), (0, v1), (0, v2), (0, v3), (0, (k_rd A (k_rd A v0 27) v2)), (3, 0), (3, 0)] _ _ _ _
  refine k_iload (pc := 8) (x := (k_rd A (k_rd A v0 27) v2)) dX9_go_8 rfl ?_
  refine k_iload_n (pc := 10) (x := v3) dX9_go_10 rfl rfl ?_
  refine k_icmp_ne (pc := 11) (tgt := 48) dX9_go_11 rfl (fun c3 => ?_) (fun c3 => ?_)
  · rw [if_neg c3] at h
    refine k_aload_n (pc := 48) (x := v0) dX9_go_48 rfl rfl ?_
    refine k_getf (pc := 49) (t := 1) (fi := 26) dX9_go_49 flX9_71 rfl rfl hc1 ?_
    refine k_iload (pc := 52) (x := (k_rd A (k_rd A v0 27) v2)) dX9_go_52 rfl ?_
    obtain ⟨hc4, h⟩ := k_pk h
    refine k_iaload (pc := 54) dX9_go_54 hc4 ?_
    refine k_istore (pc := 55) dX9_go_55 (Nat.le_of_ble_eq_true rfl) rfl ?_
    show k_AW _ _ _ [(1, v0), (0, v1), (0, v2), (0, v3), (0, (k_rd A (k_rd A v0 27) v2)), (0, (k_rd A (k_rd A v0 26) (k_rd A (k_rd A v0 27) v2))), (3, 0)] _ _ _ _
    refine k_aload_n (pc := 57) (x := v0) dX9_go_57 rfl rfl ?_
    refine k_getf (pc := 58) (t := 1) (fi := 29) dX9_go_58 flX9_80 rfl rfl hc1 ?_
    refine k_iload_n (pc := 61) (x := v2) dX9_go_61 rfl rfl ?_
    obtain ⟨hc5, h⟩ := k_pk h
    refine k_iaload (pc := 62) dX9_go_62 hc5 ?_
    refine k_if_lt (pc := 63) (tgt := 105) dX9_go_63 rfl (fun c6 => ?_) (fun c6 => ?_)
    · rw [if_neg (Int.not_le.mpr c6)] at h
      refine k_sub (ls' := [(1, v0), (0, v1), (0, v2), (3, 0), (0, (k_rd A (k_rd A v0 27) v2)), (0, (k_rd A (k_rd A v0 26) (k_rd A (k_rd A v0 27) v2))), (3, 0)]) (k_sbl_ok _ _ ⟨Or.inr rfl, Or.inr rfl, Or.inr rfl, Or.inl rfl, Or.inr rfl, Or.inr rfl, Or.inl rfl, trivial⟩) ?_
      exact okX9_go_b105  _ _ _ _ _ _ _ _ h
    · rw [if_pos (Int.not_lt.mp c6)] at h
      refine k_aload_n (pc := 66) (x := v0) dX9_go_66 rfl rfl ?_
      refine k_aload_n (pc := 67) (x := v0) dX9_go_67 rfl rfl ?_
      refine k_getf (pc := 68) (t := 1) (fi := 26) dX9_go_68 flX9_71 rfl rfl hc1 ?_
      refine k_aload_n (pc := 71) (x := v0) dX9_go_71 rfl rfl ?_
      refine k_getf (pc := 72) (t := 1) (fi := 29) dX9_go_72 flX9_80 rfl rfl hc1 ?_
      refine k_iload_n (pc := 75) (x := v2) dX9_go_75 rfl rfl ?_
      refine k_iaload (pc := 76) dX9_go_76 hc5 ?_
      obtain ⟨hc7, h⟩ := k_pk h
      refine k_iaload (pc := 77) dX9_go_77 hc7 ?_
      refine k_iload (pc := 78) (x := (k_rd A (k_rd A v0 26) (k_rd A (k_rd A v0 27) v2))) dX9_go_78 rfl ?_
      obtain ⟨r8, A9, hq10, h⟩ := k_pb h
      refine k_callV (pc := 80) (ci := 9) (a := v0) (as := [(0, (k_rd A (k_rd A v0 26) (k_rd A (k_rd A v0 29) v2))), (0, (k_rd A (k_rd A v0 26) (k_rd A (k_rd A v0 27) v2)))]) (st := []) (st1 := [(0, r8)]) dX9_go_80 cbX9_milesOf (k_gt 1090 (by decide +kernel) (by decide +kernel)) cvX9_milesOf.1 cvX9_milesOf.2 rfl (by decide) hc1 (by omega) rfl (Nat.le_of_ble_eq_true rfl) (okX9_milesOf hq10) rfl ?_
      refine k_aload_n (pc := 83) (x := v0) dX9_go_83 rfl rfl ?_
      obtain ⟨hc11, h⟩ := k_pk h
      refine k_getf (pc := 84) (t := 1) (fi := 17) dX9_go_84 flX9_50 rfl rfl hc11 ?_
      refine k_iload_n (pc := 87) (x := v1) dX9_go_87 rfl rfl ?_
      obtain ⟨hc12, h⟩ := k_pk h
      refine k_iaload (pc := 88) dX9_go_88 hc12 ?_
      refine k_iload_n (pc := 89) (x := v2) dX9_go_89 rfl rfl ?_
      refine k_aload_n (pc := 90) (x := v0) dX9_go_90 rfl rfl ?_
      refine k_getf (pc := 91) (t := 1) (fi := 30) dX9_go_91 flX9_83 rfl rfl hc11 ?_
      refine k_iload_n (pc := 94) (x := v2) dX9_go_94 rfl rfl ?_
      obtain ⟨hc13, h⟩ := k_pk h
      refine k_iaload (pc := 95) dX9_go_95 hc13 ?_
      refine k_isub (pc := 96) dX9_go_96 ?_
      refine k_imul (pc := 97) dX9_go_97 ?_
      refine k_icmp_le (pc := 98) (tgt := 105) dX9_go_98 rfl (fun c14 => ?_) (fun c14 => ?_)
      · rw [if_neg (Int.not_lt.mpr c14)] at h
        refine k_sub (ls' := [(1, v0), (0, v1), (0, v2), (3, 0), (0, (k_rd A (k_rd A v0 27) v2)), (0, (k_rd A (k_rd A v0 26) (k_rd A (k_rd A v0 27) v2))), (3, 0)]) (k_sbl_ok _ _ ⟨Or.inr rfl, Or.inr rfl, Or.inr rfl, Or.inl rfl, Or.inr rfl, Or.inr rfl, Or.inl rfl, trivial⟩) ?_
        exact okX9_go_b105  _ _ _ _ _ _ _ _ h
      · rw [if_pos (Int.not_le.mp c14)] at h
        refine k_iconst (pc := 101) dX9_go_101 ⟨by decide, by decide⟩ ?_
        refine k_goto (pc := 102) (tgt := 106) dX9_go_102 rfl ?_
        refine k_sub (ls' := [(1, v0), (0, v1), (0, v2), (3, 0), (0, (k_rd A (k_rd A v0 27) v2)), (0, (k_rd A (k_rd A v0 26) (k_rd A (k_rd A v0 27) v2))), (3, 0)]) (k_sbl_ok _ _ ⟨Or.inr rfl, Or.inr rfl, Or.inr rfl, Or.inl rfl, Or.inr rfl, Or.inr rfl, Or.inl rfl, trivial⟩) ?_
        exact okX9_go_b106  _ _ _ _ _ _ _ _ _ h
  · rw [if_pos (Classical.not_not.mp c3)] at h
    refine k_aload_n (pc := 14) (x := v0) dX9_go_14 rfl rfl ?_
    refine k_iload_n (pc := 15) (x := v2) dX9_go_15 rfl rfl ?_
    refine k_iconst (pc := 16) dX9_go_16 ⟨by decide, by decide⟩ ?_
    refine k_iadd (pc := 17) dX9_go_17 ?_
    refine k_aload_n (pc := 18) (x := v0) dX9_go_18 rfl rfl ?_
    refine k_getf (pc := 19) (t := 1) (fi := 28) dX9_go_19 flX9_77 rfl rfl hc1 ?_
    refine k_iload_n (pc := 22) (x := v2) dX9_go_22 rfl rfl ?_
    obtain ⟨hc15, h⟩ := k_pk h
    refine k_iaload (pc := 23) dX9_go_23 hc15 ?_
    refine k_aload_n (pc := 24) (x := v0) dX9_go_24 rfl rfl ?_
    refine k_getf (pc := 25) (t := 1) (fi := 29) dX9_go_25 flX9_80 rfl rfl hc1 ?_
    refine k_iload_n (pc := 28) (x := v2) dX9_go_28 rfl rfl ?_
    obtain ⟨hc16, h⟩ := k_pk h
    refine k_iaload (pc := 29) dX9_go_29 hc16 ?_
    refine k_aload_n (pc := 30) (x := v0) dX9_go_30 rfl rfl ?_
    refine k_getf (pc := 31) (t := 1) (fi := 30) dX9_go_31 flX9_83 rfl rfl hc1 ?_
    refine k_iload_n (pc := 34) (x := v2) dX9_go_34 rfl rfl ?_
    obtain ⟨hc17, h⟩ := k_pk h
    refine k_iaload (pc := 35) dX9_go_35 hc17 ?_
    refine k_iconst (pc := 36) dX9_go_36 ⟨by decide, by decide⟩ ?_
    refine k_aload_n (pc := 37) (x := v0) dX9_go_37 rfl rfl ?_
    refine k_getf (pc := 38) (t := 1) (fi := 32) dX9_go_38 flX9_89 rfl rfl hc1 ?_
    refine k_iload_n (pc := 41) (x := v2) dX9_go_41 rfl rfl ?_
    obtain ⟨hc18, h⟩ := k_pk h
    refine k_iaload (pc := 42) dX9_go_42 hc18 ?_
    obtain ⟨r19, A20, hq21, h⟩ := k_pb h
    refine k_callV (pc := 43) (ci := 9) (a := v0) (as := [(0, k_wr (v2 + 1)), (0, (k_rd A (k_rd A v0 28) v2)), (0, (k_rd A (k_rd A v0 29) v2)), (0, (k_rd A (k_rd A v0 30) v2)), (0, 0), (0, (k_rd A (k_rd A v0 32) v2))]) (st := []) (st1 := []) dX9_go_43 cbX9_stand (k_gt 1082 (by decide +kernel) (by decide +kernel)) cvX9_stand.1 cvX9_stand.2 rfl (by decide) hc1 (by omega) rfl (Nat.le_of_ble_eq_true rfl) (okX9_stand hq21) rfl ?_
    refine k_iconst (pc := 46) dX9_go_46 ⟨by decide, by decide⟩ ?_
    obtain ⟨rfl, rfl⟩ := k_pr h
    exact k_ret (pc := 47) dX9_go_47 rfl rfl (by decide +kernel)
theorem okX9_go {A : k_H} {x0 x1 x2 x3 : Int} {r : Int} {A1 : k_H} (h : fX9_go A x0 x1 x2 x3 = some (r, A1)) : k_AM 2 mX9_go [(1, x0), (0, x1), (0, x2), (0, x3)] A r A1 :=
  k_AM_of2 (ls := [(1, x0), (0, x1), (0, x2), (0, x3), (3, 0), (3, 0), (3, 0)]) (Or.inl (by decide +kernel)) (by decide +kernel) (by decide) rfl (Nat.le_of_ble_eq_true rfl) ⟨Or.inr rfl, Or.inr rfl, Or.inr rfl, Or.inr rfl, rfl, rfl, rfl, trivial⟩ (okX9_go_b0 A x0 x1 x2 x3 r A1 h)
/-! X9_on -/
def fX9_on_b0 (A : k_H) (v0 v1 v2 : Int) : Option (Int × k_H) := if k_isO A v0 9 then (k_lt (k_wt A v0 0 0) fun A2 => k_bd (fX9_isShow A2 v0 v1) fun r4 A5 => if r4 = 0 then (some ((-1), A5)) else (k_bd (fX9_isIn A5 v2 0 13) fun r9 A10 => if r9 = 0 then (some ((-1), A10)) else (if k_isO A10 v0 9 then (if k_isA A10 (k_rd A10 v0 24) 21 (k_wr (k_wr (14 * v1) + v2)) then (some ((k_rd A10 (k_rd A10 v0 24) (k_wr (k_wr (14 * v1) + v2))), A10)) else none) else none))) else none
def fX9_on (A : k_H) (x0 x1 x2 : Int) : Option (Int × k_H) := fX9_on_b0 A x0 x1 x2
set_option maxRecDepth 100000 in
theorem okX9_on_b0 (A : k_H) (v0 v1 v2 : Int) (r : Int) (A' : k_H) (h : fX9_on_b0 A v0 v1 v2 = some (r, A')) : k_AW 2 mX9_on 0 [(1, v0), (0, v1), (0, v2)] [] A r A' := by
  unfold fX9_on_b0 at h
  refine k_aload_n (pc := 0) (x := v0) dX9_on_0 rfl rfl ?_
  refine k_iconst (pc := 1) dX9_on_1 ⟨by decide, by decide⟩ ?_
  obtain ⟨hc1, h⟩ := k_pk h
  refine k_putf (pc := 2) (t := 0) (fi := 0) dX9_on_2 flX9_102 rfl rfl hc1 rfl ?_
  obtain ⟨A2, eA3, h⟩ := k_pl h
  refine k_hq eA3 ?_
  refine k_aload_n (pc := 5) (x := v0) dX9_on_5 rfl rfl ?_
  refine k_iload_n (pc := 6) (x := v1) dX9_on_6 rfl rfl ?_
  have hf7 := k_oW eA3 hc1
  obtain ⟨r4, A5, hq6, h⟩ := k_pb h
  refine k_callV (pc := 7) (ci := 9) (a := v0) (as := [(0, v1)]) (st := []) (st1 := [(0, r4)]) dX9_on_7 cbX9_isShow (k_gt 1054 (by decide +kernel) (by decide +kernel)) cvX9_isShow.1 cvX9_isShow.2 rfl (by decide) hf7 (by omega) rfl (Nat.le_of_ble_eq_true rfl) (okX9_isShow hq6) rfl ?_
  refine k_if_eq (pc := 10) (tgt := 37) dX9_on_10 rfl (fun c8 => ?_) (fun c8 => ?_)
  · rw [if_pos c8] at h
    refine k_iconst (pc := 37) dX9_on_37 ⟨by decide, by decide⟩ ?_
    obtain ⟨rfl, rfl⟩ := k_pr h
    exact k_ret (pc := 38) dX9_on_38 rfl rfl rfl
  · rw [if_neg c8] at h
    refine k_iload_n (pc := 13) (x := v2) dX9_on_13 rfl rfl ?_
    refine k_iconst (pc := 14) dX9_on_14 ⟨by decide, by decide⟩ ?_
    refine k_bipush (pc := 15) dX9_on_15 ⟨by decide, by decide⟩ (by decide +kernel) ?_
    obtain ⟨r9, A10, hq11, h⟩ := k_pb h
    refine k_callS (pc := 17) (as := [(0, v2), (0, 0), (0, 13)]) (st := []) (st1 := [(0, r9)]) dX9_on_17 cbX9_isIn (k_gt 1027 (by decide +kernel) (by decide +kernel)) (k_gt 1028 (by decide +kernel) (by decide +kernel)) (by omega) rfl (Nat.le_of_ble_eq_true rfl) (okX9_isIn hq11) rfl ?_
    refine k_if_eq (pc := 20) (tgt := 37) dX9_on_20 rfl (fun c12 => ?_) (fun c12 => ?_)
    · rw [if_pos c12] at h
      refine k_iconst (pc := 37) dX9_on_37 ⟨by decide, by decide⟩ ?_
      obtain ⟨rfl, rfl⟩ := k_pr h
      exact k_ret (pc := 38) dX9_on_38 rfl rfl rfl
    · rw [if_neg c12] at h
      refine k_aload_n (pc := 23) (x := v0) dX9_on_23 rfl rfl ?_
      obtain ⟨hc13, h⟩ := k_pk h
      refine k_getf (pc := 24) (t := 1) (fi := 24) dX9_on_24 flX9_65 rfl rfl hc13 ?_
      refine k_bipush (pc := 27) dX9_on_27 ⟨by decide, by decide⟩ (by decide +kernel) ?_
      refine k_iload_n (pc := 29) (x := v1) dX9_on_29 rfl rfl ?_
      refine k_imul (pc := 30) dX9_on_30 ?_
      refine k_iload_n (pc := 31) (x := v2) dX9_on_31 rfl rfl ?_
      refine k_iadd (pc := 32) dX9_on_32 ?_
      obtain ⟨hc14, h⟩ := k_pk h
      refine k_iaload (pc := 33) dX9_on_33 hc14 ?_
      refine k_goto (pc := 34) (tgt := 38) dX9_on_34 rfl ?_
      obtain ⟨rfl, rfl⟩ := k_pr h
      exact k_ret (pc := 38) dX9_on_38 rfl rfl rfl
theorem okX9_on {A : k_H} {x0 x1 x2 : Int} {r : Int} {A1 : k_H} (h : fX9_on A x0 x1 x2 = some (r, A1)) : k_AM 2 mX9_on [(1, x0), (0, x1), (0, x2)] A r A1 :=
  k_AM_of2 (ls := [(1, x0), (0, x1), (0, x2)]) (Or.inl (by decide +kernel)) (by decide +kernel) (by decide) rfl (Nat.le_of_ble_eq_true rfl) ⟨Or.inr rfl, Or.inr rfl, Or.inr rfl, trivial⟩ (okX9_on_b0 A x0 x1 x2 r A1 h)
/-! X9_isLawful -/
def fX9_isLawful_b111 (k7 : k_H → Int → Int → Int → Int → Int → Option (Int × k_H)) (A : k_H) (v0 v1 v2 v3 v4 : Int) : Option (Int × k_H) := k7 A v0 v1 v2 v3 (k_wr (v4 + 1))
def fX9_isLawful_b108 (k7 : k_H → Int → Int → Int → Int → Int → Option (Int × k_H)) (A : k_H) (v0 v1 v3 v4 : Int) : Option (Int × k_H) := fX9_isLawful_b111 k7 A v0 v1 v4 v3 v4
def fX9_isLawful_b40 (k7 : k_H → Int → Int → Int → Int → Int → Option (Int × k_H)) (A : k_H) (v0 v1 v2 v4 v5 s0 : Int) : Option (Int × k_H) := if v5 < 0 then (fX9_isLawful_b111 k7 A v0 v1 v2 s0 v4) else (if k_isO A v0 9 then (if k_isA A (k_rd A v0 18) 21 v1 then (if s0 ≤ (k_rd A (k_rd A v0 18) v1) then (k_bd (fX9_isFree A v0 v1 v5 v4) fun r5 A6 => if r5 = 0 then (some (0, A6)) else (if 0 ≤ v2 then (if k_isO A6 v0 9 then (if k_isA A6 (k_rd A6 v0 24) 21 (k_wr (k_wr (14 * v1) + v2)) then (k_bd (fX9_milesOf A6 v0 (k_rd A6 (k_rd A6 v0 24) (k_wr (k_wr (14 * v1) + v2))) v5) fun r12 A13 => if k_isO A13 v0 9 then (if k_isA A13 (k_rd A13 v0 17) 21 v1 then (if k_wr ((k_rd A13 (k_rd A13 v0 17) v1) * k_wr (v4 - v2)) < r12 then (some (0, A13)) else (fX9_isLawful_b108 k7 A13 v0 v1 s0 v4)) else none) else none) else none) else none) else (fX9_isLawful_b108 k7 A6 v0 v1 s0 v4))) else (some (0, A))) else none) else none)
def fX9_isLawful_h7 : Nat → k_H → Int → Int → Int → Int → Int → Option (Int × k_H)
  | 0, _, _, _, _, _, _ => none
  | N + 1, A, v0, v1, v2, v3, v4 => if v4 < 14 then (if k_isO A v0 9 then (if k_isA A (k_rd A v0 24) 21 (k_wr (k_wr (14 * v1) + v4)) then (if (k_rd A (k_rd A v0 24) (k_wr (k_wr (14 * v1) + v4))) < 0 then (fX9_isLawful_b40 (fX9_isLawful_h7 N) A v0 v1 v2 v4 (k_rd A (k_rd A v0 24) (k_wr (k_wr (14 * v1) + v4))) 0) else (fX9_isLawful_b40 (fX9_isLawful_h7 N) A v0 v1 v2 v4 (k_rd A (k_rd A v0 24) (k_wr (k_wr (14 * v1) + v4))) (k_wr (v3 + 1)))) else none) else none) else (some (1, A))
def fX9_isLawful_b0 (A : k_H) (v0 v1 : Int) : Option (Int × k_H) := fX9_isLawful_h7 k_FU A v0 v1 (-1) 0 0
def fX9_isLawful (A : k_H) (x0 x1 : Int) : Option (Int × k_H) := fX9_isLawful_b0 A x0 x1
set_option maxRecDepth 100000 in
theorem okX9_isLawful_b111 (k7 : k_H → Int → Int → Int → Int → Int → Option (Int × k_H)) (hk7 : ∀ (A : k_H) (v0 v1 v2 v3 v4 : Int) (r : Int) (A' : k_H), k7 A v0 v1 v2 v3 v4 = some (r, A') → k_AW 2 mX9_isLawful 7 [(1, v0), (0, v1), (0, v2), (0, v3), (0, v4), (3, 0)] [] A r A') (A : k_H) (v0 v1 v2 v3 v4 : Int) (r : Int) (A' : k_H) (h : fX9_isLawful_b111 k7 A v0 v1 v2 v3 v4 = some (r, A')) : k_AW 2 mX9_isLawful 111 [(1, v0), (0, v1), (0, v2), (0, v3), (0, v4), (3, 0)] [] A r A' := by
  unfold fX9_isLawful_b111 at h
  refine k_iinc (pc := 111) (x := v4) dX9_isLawful_111 (Nat.le_of_ble_eq_true rfl) rfl rfl ?_
  show k_AW _ _ _ [(1, v0), (0, v1), (0, v2), (0, v3), (0, k_wr (v4 + 1)), (3, 0)] _ _ _ _
  refine k_goto (pc := 114) (tgt := 7) dX9_isLawful_114 rfl ?_
  refine k_sub (ls' := [(1, v0), (0, v1), (0, v2), (0, v3), (0, k_wr (v4 + 1)), (3, 0)]) (k_sbl_ok _ _ ⟨Or.inr rfl, Or.inr rfl, Or.inr rfl, Or.inr rfl, Or.inr rfl, Or.inl rfl, trivial⟩) ?_
  exact hk7 _ _ _ _ _ _ _ _ h
set_option maxRecDepth 100000 in
theorem okX9_isLawful_b108 (k7 : k_H → Int → Int → Int → Int → Int → Option (Int × k_H)) (hk7 : ∀ (A : k_H) (v0 v1 v2 v3 v4 : Int) (r : Int) (A' : k_H), k7 A v0 v1 v2 v3 v4 = some (r, A') → k_AW 2 mX9_isLawful 7 [(1, v0), (0, v1), (0, v2), (0, v3), (0, v4), (3, 0)] [] A r A') (A : k_H) (v0 v1 v3 v4 : Int) (r : Int) (A' : k_H) (h : fX9_isLawful_b108 k7 A v0 v1 v3 v4 = some (r, A')) : k_AW 2 mX9_isLawful 108 [(1, v0), (0, v1), (3, 0), (0, v3), (0, v4), (3, 0)] [] A r A' := by
  unfold fX9_isLawful_b108 at h
  refine k_iload (pc := 108) (x := v4) dX9_isLawful_108 rfl ?_
  refine k_istore_n (pc := 110) dX9_isLawful_110 rfl (Nat.le_of_ble_eq_true rfl) rfl ?_
  show k_AW _ _ _ [(1, v0), (0, v1), (0, v4), (0, v3), (0, v4), (3, 0)] _ _ _ _
  refine k_sub (ls' := [(1, v0), (0, v1), (0, v4), (0, v3), (0, v4), (3, 0)]) (k_sbl_ok _ _ ⟨Or.inr rfl, Or.inr rfl, Or.inr rfl, Or.inr rfl, Or.inr rfl, Or.inl rfl, trivial⟩) ?_
  exact okX9_isLawful_b111 k7 hk7 _ _ _ _ _ _ _ _ h
set_option maxRecDepth 100000 in
theorem okX9_isLawful_b40 (k7 : k_H → Int → Int → Int → Int → Int → Option (Int × k_H)) (hk7 : ∀ (A : k_H) (v0 v1 v2 v3 v4 : Int) (r : Int) (A' : k_H), k7 A v0 v1 v2 v3 v4 = some (r, A') → k_AW 2 mX9_isLawful 7 [(1, v0), (0, v1), (0, v2), (0, v3), (0, v4), (3, 0)] [] A r A') (A : k_H) (v0 v1 v2 v4 v5 s0 : Int) (r : Int) (A' : k_H) (h : fX9_isLawful_b40 k7 A v0 v1 v2 v4 v5 s0 = some (r, A')) : k_AW 2 mX9_isLawful 40 [(1, v0), (0, v1), (0, v2), (3, 0), (0, v4), (0, v5)] [(0, s0)] A r A' := by
  unfold fX9_isLawful_b40 at h
  refine k_istore_n (pc := 40) dX9_isLawful_40 rfl (Nat.le_of_ble_eq_true rfl) rfl ?_
  show k_AW _ _ _ [(1, v0), (0, v1), (0, v2), (0, s0), (0, v4), (0, v5)] _ _ _ _
  refine k_iload (pc := 41) (x := v5) dX9_isLawful_41 rfl ?_
  refine k_if_ge (pc := 43) (tgt := 49) dX9_isLawful_43 rfl (fun c1 => ?_) (fun c1 => ?_)
  · rw [if_neg (Int.not_lt.mpr c1)] at h
    refine k_iload_n (pc := 49) (x := s0) dX9_isLawful_49 rfl rfl ?_
    refine k_aload_n (pc := 50) (x := v0) dX9_isLawful_50 rfl rfl ?_
    obtain ⟨hc2, h⟩ := k_pk h
    refine k_getf (pc := 51) (t := 1) (fi := 18) dX9_isLawful_51 flX9_53 rfl rfl hc2 ?_
    refine k_iload_n (pc := 54) (x := v1) dX9_isLawful_54 rfl rfl ?_
    obtain ⟨hc3, h⟩ := k_pk h
    refine k_iaload (pc := 55) dX9_isLawful_55 hc3 ?_
    refine k_icmp_gt (pc := 56) (tgt := 106) dX9_isLawful_56 rfl (fun c4 => ?_) (fun c4 => ?_)
    · rw [if_neg (Int.not_le.mpr c4)] at h
      refine k_iconst (pc := 106) dX9_isLawful_106 ⟨by decide, by decide⟩ ?_
      obtain ⟨rfl, rfl⟩ := k_pr h
      exact k_ret (pc := 107) dX9_isLawful_107 rfl rfl (by decide +kernel)
    · rw [if_pos (Int.not_lt.mp c4)] at h
      refine k_aload_n (pc := 59) (x := v0) dX9_isLawful_59 rfl rfl ?_
      refine k_iload_n (pc := 60) (x := v1) dX9_isLawful_60 rfl rfl ?_
      refine k_iload (pc := 61) (x := v5) dX9_isLawful_61 rfl ?_
      refine k_iload (pc := 63) (x := v4) dX9_isLawful_63 rfl ?_
      obtain ⟨r5, A6, hq7, h⟩ := k_pb h
      refine k_callV (pc := 65) (ci := 9) (a := v0) (as := [(0, v1), (0, v5), (0, v4)]) (st := []) (st1 := [(0, r5)]) dX9_isLawful_65 cbX9_isFree (k_gt 1094 (by decide +kernel) (by decide +kernel)) cvX9_isFree.1 cvX9_isFree.2 rfl (by decide) hc2 (by omega) rfl (Nat.le_of_ble_eq_true rfl) (okX9_isFree hq7) rfl ?_
      refine k_if_eq (pc := 68) (tgt := 106) dX9_isLawful_68 rfl (fun c8 => ?_) (fun c8 => ?_)
      · rw [if_pos c8] at h
        refine k_iconst (pc := 106) dX9_isLawful_106 ⟨by decide, by decide⟩ ?_
        obtain ⟨rfl, rfl⟩ := k_pr h
        exact k_ret (pc := 107) dX9_isLawful_107 rfl rfl (by decide +kernel)
      · rw [if_neg c8] at h
        refine k_iload_n (pc := 71) (x := v2) dX9_isLawful_71 rfl rfl ?_
        refine k_if_lt (pc := 72) (tgt := 108) dX9_isLawful_72 rfl (fun c9 => ?_) (fun c9 => ?_)
        · rw [if_neg (Int.not_le.mpr c9)] at h
          refine k_sub (ls' := [(1, v0), (0, v1), (3, 0), (0, s0), (0, v4), (3, 0)]) (k_sbl_ok _ _ ⟨Or.inr rfl, Or.inr rfl, Or.inl rfl, Or.inr rfl, Or.inr rfl, Or.inl rfl, trivial⟩) ?_
          exact okX9_isLawful_b108 k7 hk7 _ _ _ _ _ _ _ h
        · rw [if_pos (Int.not_lt.mp c9)] at h
          refine k_aload_n (pc := 75) (x := v0) dX9_isLawful_75 rfl rfl ?_
          refine k_aload_n (pc := 76) (x := v0) dX9_isLawful_76 rfl rfl ?_
          obtain ⟨hc10, h⟩ := k_pk h
          refine k_getf (pc := 77) (t := 1) (fi := 24) dX9_isLawful_77 flX9_65 rfl rfl hc10 ?_
          refine k_bipush (pc := 80) dX9_isLawful_80 ⟨by decide, by decide⟩ (by decide +kernel) ?_
          refine k_iload_n (pc := 82) (x := v1) dX9_isLawful_82 rfl rfl ?_
          refine k_imul (pc := 83) dX9_isLawful_83 ?_
          refine k_iload_n (pc := 84) (x := v2) dX9_isLawful_84 rfl rfl ?_
          refine k_iadd (pc := 85) dX9_isLawful_85 ?_
          obtain ⟨hc11, h⟩ := k_pk h
          refine k_iaload (pc := 86) dX9_isLawful_86 hc11 ?_
          refine k_iload (pc := 87) (x := v5) dX9_isLawful_87 rfl ?_
          obtain ⟨r12, A13, hq14, h⟩ := k_pb h
          refine k_callV (pc := 89) (ci := 9) (a := v0) (as := [(0, (k_rd A6 (k_rd A6 v0 24) (k_wr (k_wr (14 * v1) + v2)))), (0, v5)]) (st := []) (st1 := [(0, r12)]) dX9_isLawful_89 cbX9_milesOf (k_gt 1090 (by decide +kernel) (by decide +kernel)) cvX9_milesOf.1 cvX9_milesOf.2 rfl (by decide) hc10 (by omega) rfl (Nat.le_of_ble_eq_true rfl) (okX9_milesOf hq14) rfl ?_
          refine k_aload_n (pc := 92) (x := v0) dX9_isLawful_92 rfl rfl ?_
          obtain ⟨hc15, h⟩ := k_pk h
          refine k_getf (pc := 93) (t := 1) (fi := 17) dX9_isLawful_93 flX9_50 rfl rfl hc15 ?_
          refine k_iload_n (pc := 96) (x := v1) dX9_isLawful_96 rfl rfl ?_
          obtain ⟨hc16, h⟩ := k_pk h
          refine k_iaload (pc := 97) dX9_isLawful_97 hc16 ?_
          refine k_iload (pc := 98) (x := v4) dX9_isLawful_98 rfl ?_
          refine k_iload_n (pc := 100) (x := v2) dX9_isLawful_100 rfl rfl ?_
          refine k_isub (pc := 101) dX9_isLawful_101 ?_
          refine k_imul (pc := 102) dX9_isLawful_102 ?_
          refine k_icmp_le (pc := 103) (tgt := 108) dX9_isLawful_103 rfl (fun c17 => ?_) (fun c17 => ?_)
          · rw [if_neg (Int.not_lt.mpr c17)] at h
            refine k_sub (ls' := [(1, v0), (0, v1), (3, 0), (0, s0), (0, v4), (3, 0)]) (k_sbl_ok _ _ ⟨Or.inr rfl, Or.inr rfl, Or.inl rfl, Or.inr rfl, Or.inr rfl, Or.inl rfl, trivial⟩) ?_
            exact okX9_isLawful_b108 k7 hk7 _ _ _ _ _ _ _ h
          · rw [if_pos (Int.not_le.mp c17)] at h
            refine k_iconst (pc := 106) dX9_isLawful_106 ⟨by decide, by decide⟩ ?_
            obtain ⟨rfl, rfl⟩ := k_pr h
            exact k_ret (pc := 107) dX9_isLawful_107 rfl rfl (by decide +kernel)
  · rw [if_pos (Int.not_le.mp c1)] at h
    refine k_goto (pc := 46) (tgt := 111) dX9_isLawful_46 rfl ?_
    refine k_sub (ls' := [(1, v0), (0, v1), (0, v2), (0, s0), (0, v4), (3, 0)]) (k_sbl_ok _ _ ⟨Or.inr rfl, Or.inr rfl, Or.inr rfl, Or.inr rfl, Or.inr rfl, Or.inl rfl, trivial⟩) ?_
    exact okX9_isLawful_b111 k7 hk7 _ _ _ _ _ _ _ _ h
set_option maxRecDepth 100000 in
theorem okX9_isLawful_h7 : ∀ (N : Nat) (A : k_H) (v0 v1 v2 v3 v4 : Int) (r : Int) (A' : k_H), fX9_isLawful_h7 N A v0 v1 v2 v3 v4 = some (r, A') → k_AW 2 mX9_isLawful 7 [(1, v0), (0, v1), (0, v2), (0, v3), (0, v4), (3, 0)] [] A r A' := by
  intro N
  induction N with
  | zero => intro A v0 v1 v2 v3 v4 r A' h; exact absurd h (by simp [fX9_isLawful_h7])
  | succ N ih =>
    intro A v0 v1 v2 v3 v4 r A' h
    rw [fX9_isLawful_h7] at h
    refine k_iload (pc := 7) (x := v4) dX9_isLawful_7 rfl ?_
    refine k_bipush (pc := 9) dX9_isLawful_9 ⟨by decide, by decide⟩ (by decide +kernel) ?_
    refine k_icmp_ge (pc := 11) (tgt := 117) dX9_isLawful_11 rfl (fun c1 => ?_) (fun c1 => ?_)
    · rw [if_neg (Int.not_lt.mpr c1)] at h
      refine k_iconst (pc := 117) dX9_isLawful_117 ⟨by decide, by decide⟩ ?_
      obtain ⟨rfl, rfl⟩ := k_pr h
      exact k_ret (pc := 118) dX9_isLawful_118 rfl rfl (by decide +kernel)
    · rw [if_pos (Int.not_le.mp c1)] at h
      refine k_aload_n (pc := 14) (x := v0) dX9_isLawful_14 rfl rfl ?_
      obtain ⟨hc2, h⟩ := k_pk h
      refine k_getf (pc := 15) (t := 1) (fi := 24) dX9_isLawful_15 flX9_65 rfl rfl hc2 ?_
      refine k_bipush (pc := 18) dX9_isLawful_18 ⟨by decide, by decide⟩ (by decide +kernel) ?_
      refine k_iload_n (pc := 20) (x := v1) dX9_isLawful_20 rfl rfl ?_
      refine k_imul (pc := 21) dX9_isLawful_21 ?_
      refine k_iload (pc := 22) (x := v4) dX9_isLawful_22 rfl ?_
      refine k_iadd (pc := 24) dX9_isLawful_24 ?_
      obtain ⟨hc3, h⟩ := k_pk h
      refine k_iaload (pc := 25) dX9_isLawful_25 hc3 ?_
      refine k_istore (pc := 26) dX9_isLawful_26 (Nat.le_of_ble_eq_true rfl) rfl ?_
      show k_AW _ _ _ [(1, v0), (0, v1), (0, v2), (0, v3), (0, v4), (0, (k_rd A (k_rd A v0 24) (k_wr (k_wr (14 * v1) + v4))))] _ _ _ _
      refine k_iload (pc := 28) (x := (k_rd A (k_rd A v0 24) (k_wr (k_wr (14 * v1) + v4)))) dX9_isLawful_28 rfl ?_
      refine k_if_ge (pc := 30) (tgt := 37) dX9_isLawful_30 rfl (fun c4 => ?_) (fun c4 => ?_)
      · rw [if_neg (Int.not_lt.mpr c4)] at h
        refine k_iload_n (pc := 37) (x := v3) dX9_isLawful_37 rfl rfl ?_
        refine k_iconst (pc := 38) dX9_isLawful_38 ⟨by decide, by decide⟩ ?_
        refine k_iadd (pc := 39) dX9_isLawful_39 ?_
        refine k_sub (ls' := [(1, v0), (0, v1), (0, v2), (3, 0), (0, v4), (0, (k_rd A (k_rd A v0 24) (k_wr (k_wr (14 * v1) + v4))))]) (k_sbl_ok _ _ ⟨Or.inr rfl, Or.inr rfl, Or.inr rfl, Or.inl rfl, Or.inr rfl, Or.inr rfl, trivial⟩) ?_
        exact okX9_isLawful_b40 (fX9_isLawful_h7 N) ih _ _ _ _ _ _ _ _ _ h
      · rw [if_pos (Int.not_le.mp c4)] at h
        refine k_iconst (pc := 33) dX9_isLawful_33 ⟨by decide, by decide⟩ ?_
        refine k_goto (pc := 34) (tgt := 40) dX9_isLawful_34 rfl ?_
        refine k_sub (ls' := [(1, v0), (0, v1), (0, v2), (3, 0), (0, v4), (0, (k_rd A (k_rd A v0 24) (k_wr (k_wr (14 * v1) + v4))))]) (k_sbl_ok _ _ ⟨Or.inr rfl, Or.inr rfl, Or.inr rfl, Or.inl rfl, Or.inr rfl, Or.inr rfl, trivial⟩) ?_
        exact okX9_isLawful_b40 (fX9_isLawful_h7 N) ih _ _ _ _ _ _ _ _ _ h
set_option maxRecDepth 100000 in
theorem okX9_isLawful_b0 (A : k_H) (v0 v1 : Int) (r : Int) (A' : k_H) (h : fX9_isLawful_b0 A v0 v1 = some (r, A')) : k_AW 2 mX9_isLawful 0 [(1, v0), (0, v1), (3, 0), (3, 0), (3, 0), (3, 0)] [] A r A' := by
  unfold fX9_isLawful_b0 at h
  refine k_iconst (pc := 0) dX9_isLawful_0 ⟨by decide, by decide⟩ ?_
  refine k_istore_n (pc := 1) dX9_isLawful_1 rfl (Nat.le_of_ble_eq_true rfl) rfl ?_
  show k_AW _ _ _ [(1, v0), (0, v1), (0, (-1)), (3, 0), (3, 0), (3, 0)] _ _ _ _
  refine k_iconst (pc := 2) dX9_isLawful_2 ⟨by decide, by decide⟩ ?_
  refine k_istore_n (pc := 3) dX9_isLawful_3 rfl (Nat.le_of_ble_eq_true rfl) rfl ?_
  show k_AW _ _ _ [(1, v0), (0, v1), (0, (-1)), (0, 0), (3, 0), (3, 0)] _ _ _ _
  refine k_iconst (pc := 4) dX9_isLawful_4 ⟨by decide, by decide⟩ ?_
  refine k_istore (pc := 5) dX9_isLawful_5 (Nat.le_of_ble_eq_true rfl) rfl ?_
  show k_AW _ _ _ [(1, v0), (0, v1), (0, (-1)), (0, 0), (0, 0), (3, 0)] _ _ _ _
  refine k_sub (ls' := [(1, v0), (0, v1), (0, (-1)), (0, 0), (0, 0), (3, 0)]) (k_sbl_ok _ _ ⟨Or.inr rfl, Or.inr rfl, Or.inr rfl, Or.inr rfl, Or.inr rfl, Or.inl rfl, trivial⟩) ?_
  exact okX9_isLawful_h7  _ _ _ _ _ _ _ _ _ h
theorem okX9_isLawful {A : k_H} {x0 x1 : Int} {r : Int} {A1 : k_H} (h : fX9_isLawful A x0 x1 = some (r, A1)) : k_AM 2 mX9_isLawful [(1, x0), (0, x1)] A r A1 :=
  k_AM_of2 (ls := [(1, x0), (0, x1), (3, 0), (3, 0), (3, 0), (3, 0)]) (Or.inl (by decide +kernel)) (by decide +kernel) (by decide) rfl (Nat.le_of_ble_eq_true rfl) ⟨Or.inr rfl, Or.inr rfl, rfl, rfl, rfl, rfl, trivial⟩ (okX9_isLawful_b0 A x0 x1 r A1 h)
/-! X9_worth -/
def fX9_worth_b65 (k19 : k_H → Int → Int → Int → Int → Option (Int × k_H)) (A : k_H) (v0 v1 v3 s0 s1 : Int) : Option (Int × k_H) := k19 A v0 v1 (k_wr (s0 + s1)) (k_wr (v3 + 1))
def fX9_worth_h19 : Nat → k_H → Int → Int → Int → Int → Option (Int × k_H)
  | 0, _, _, _, _, _ => none
  | N + 1, A, v0, v1, v2, v3 => if v3 < 14 then (if k_isO A v0 9 then (if k_isA A (k_rd A v0 24) 21 (k_wr (k_wr (14 * v1) + v3)) then (if (k_rd A (k_rd A v0 24) (k_wr (k_wr (14 * v1) + v3))) < 0 then (fX9_worth_b65 (fX9_worth_h19 N) A v0 v1 v3 v2 0) else (if k_isA A (k_rd A v0 19) 21 (k_wr (k_wr (6 * (k_rd A (k_rd A v0 24) (k_wr (k_wr (14 * v1) + v3)))) + v1)) then (fX9_worth_b65 (fX9_worth_h19 N) A v0 v1 v3 v2 (k_rd A (k_rd A v0 19) (k_wr (k_wr (6 * (k_rd A (k_rd A v0 24) (k_wr (k_wr (14 * v1) + v3)))) + v1)))) else none)) else none) else none) else (some (v2, A))
def fX9_worth_b0 (A : k_H) (v0 v1 : Int) : Option (Int × k_H) := if k_isO A v0 9 then (k_lt (k_wt A v0 0 0) fun A2 => k_bd (fX9_isShow A2 v0 v1) fun r4 A5 => if r4 = 0 then (some ((-1), A5)) else (fX9_worth_h19 k_FU A5 v0 v1 0 0)) else none
def fX9_worth (A : k_H) (x0 x1 : Int) : Option (Int × k_H) := fX9_worth_b0 A x0 x1
set_option maxRecDepth 100000 in
theorem okX9_worth_b65 (k19 : k_H → Int → Int → Int → Int → Option (Int × k_H)) (hk19 : ∀ (A : k_H) (v0 v1 v2 v3 : Int) (r : Int) (A' : k_H), k19 A v0 v1 v2 v3 = some (r, A') → k_AW 2 mX9_worth 19 [(1, v0), (0, v1), (0, v2), (0, v3)] [] A r A') (A : k_H) (v0 v1 v3 s0 s1 : Int) (r : Int) (A' : k_H) (h : fX9_worth_b65 k19 A v0 v1 v3 s0 s1 = some (r, A')) : k_AW 2 mX9_worth 65 [(1, v0), (0, v1), (3, 0), (0, v3)] [(0, s1), (0, s0)] A r A' := by
  unfold fX9_worth_b65 at h
  refine k_iadd (pc := 65) dX9_worth_65 ?_
  refine k_istore_n (pc := 66) dX9_worth_66 rfl (Nat.le_of_ble_eq_true rfl) rfl ?_
  show k_AW _ _ _ [(1, v0), (0, v1), (0, k_wr (s0 + s1)), (0, v3)] _ _ _ _
  refine k_iinc (pc := 67) (x := v3) dX9_worth_67 (Nat.le_of_ble_eq_true rfl) rfl rfl ?_
  show k_AW _ _ _ [(1, v0), (0, v1), (0, k_wr (s0 + s1)), (0, k_wr (v3 + 1))] _ _ _ _
  refine k_goto (pc := 70) (tgt := 19) dX9_worth_70 rfl ?_
  refine k_sub (ls' := [(1, v0), (0, v1), (0, k_wr (s0 + s1)), (0, k_wr (v3 + 1))]) (k_sbl_ok _ _ ⟨Or.inr rfl, Or.inr rfl, Or.inr rfl, Or.inr rfl, trivial⟩) ?_
  exact hk19 _ _ _ _ _ _ _ h
set_option maxRecDepth 100000 in
theorem okX9_worth_h19 : ∀ (N : Nat) (A : k_H) (v0 v1 v2 v3 : Int) (r : Int) (A' : k_H), fX9_worth_h19 N A v0 v1 v2 v3 = some (r, A') → k_AW 2 mX9_worth 19 [(1, v0), (0, v1), (0, v2), (0, v3)] [] A r A' := by
  intro N
  induction N with
  | zero => intro A v0 v1 v2 v3 r A' h; exact absurd h (by simp [fX9_worth_h19])
  | succ N ih =>
    intro A v0 v1 v2 v3 r A' h
    rw [fX9_worth_h19] at h
    refine k_iload_n (pc := 19) (x := v3) dX9_worth_19 rfl rfl ?_
    refine k_bipush (pc := 20) dX9_worth_20 ⟨by decide, by decide⟩ (by decide +kernel) ?_
    refine k_icmp_ge (pc := 22) (tgt := 73) dX9_worth_22 rfl (fun c1 => ?_) (fun c1 => ?_)
    · rw [if_neg (Int.not_lt.mpr c1)] at h
      refine k_iload_n (pc := 73) (x := v2) dX9_worth_73 rfl rfl ?_
      obtain ⟨rfl, rfl⟩ := k_pr h
      exact k_ret (pc := 74) dX9_worth_74 rfl rfl rfl
    · rw [if_pos (Int.not_le.mp c1)] at h
      refine k_iload_n (pc := 25) (x := v2) dX9_worth_25 rfl rfl ?_
      refine k_aload_n (pc := 26) (x := v0) dX9_worth_26 rfl rfl ?_
      obtain ⟨hc2, h⟩ := k_pk h
      refine k_getf (pc := 27) (t := 1) (fi := 24) dX9_worth_27 flX9_65 rfl rfl hc2 ?_
      refine k_bipush (pc := 30) dX9_worth_30 ⟨by decide, by decide⟩ (by decide +kernel) ?_
      refine k_iload_n (pc := 32) (x := v1) dX9_worth_32 rfl rfl ?_
      refine k_imul (pc := 33) dX9_worth_33 ?_
      refine k_iload_n (pc := 34) (x := v3) dX9_worth_34 rfl rfl ?_
      refine k_iadd (pc := 35) dX9_worth_35 ?_
      obtain ⟨hc3, h⟩ := k_pk h
      refine k_iaload (pc := 36) dX9_worth_36 hc3 ?_
      refine k_if_ge (pc := 37) (tgt := 44) dX9_worth_37 rfl (fun c4 => ?_) (fun c4 => ?_)
      · rw [if_neg (Int.not_lt.mpr c4)] at h
        refine k_aload_n (pc := 44) (x := v0) dX9_worth_44 rfl rfl ?_
        refine k_getf (pc := 45) (t := 1) (fi := 19) dX9_worth_45 flX9_56 rfl rfl hc2 ?_
        refine k_bipush (pc := 48) dX9_worth_48 ⟨by decide, by decide⟩ (by decide +kernel) ?_
        refine k_aload_n (pc := 50) (x := v0) dX9_worth_50 rfl rfl ?_
        refine k_getf (pc := 51) (t := 1) (fi := 24) dX9_worth_51 flX9_65 rfl rfl hc2 ?_
        refine k_bipush (pc := 54) dX9_worth_54 ⟨by decide, by decide⟩ (by decide +kernel) ?_
        refine k_iload_n (pc := 56) (x := v1) dX9_worth_56 rfl rfl ?_
        refine k_imul (pc := 57) dX9_worth_57 ?_
        refine k_iload_n (pc := 58) (x := v3) dX9_worth_58 rfl rfl ?_
        refine k_iadd (pc := 59) dX9_worth_59 ?_
        refine k_iaload (pc := 60) dX9_worth_60 hc3 ?_
        refine k_imul (pc := 61) dX9_worth_61 ?_
        refine k_iload_n (pc := 62) (x := v1) dX9_worth_62 rfl rfl ?_
        refine k_iadd (pc := 63) dX9_worth_63 ?_
        obtain ⟨hc5, h⟩ := k_pk h
        refine k_iaload (pc := 64) dX9_worth_64 hc5 ?_
        refine k_sub (ls' := [(1, v0), (0, v1), (3, 0), (0, v3)]) (k_sbl_ok _ _ ⟨Or.inr rfl, Or.inr rfl, Or.inl rfl, Or.inr rfl, trivial⟩) ?_
        exact okX9_worth_b65 (fX9_worth_h19 N) ih _ _ _ _ _ _ _ _ h
      · rw [if_pos (Int.not_le.mp c4)] at h
        refine k_iconst (pc := 40) dX9_worth_40 ⟨by decide, by decide⟩ ?_
        refine k_goto (pc := 41) (tgt := 65) dX9_worth_41 rfl ?_
        refine k_sub (ls' := [(1, v0), (0, v1), (3, 0), (0, v3)]) (k_sbl_ok _ _ ⟨Or.inr rfl, Or.inr rfl, Or.inl rfl, Or.inr rfl, trivial⟩) ?_
        exact okX9_worth_b65 (fX9_worth_h19 N) ih _ _ _ _ _ _ _ _ h
set_option maxRecDepth 100000 in
theorem okX9_worth_b0 (A : k_H) (v0 v1 : Int) (r : Int) (A' : k_H) (h : fX9_worth_b0 A v0 v1 = some (r, A')) : k_AW 2 mX9_worth 0 [(1, v0), (0, v1), (3, 0), (3, 0)] [] A r A' := by
  unfold fX9_worth_b0 at h
  refine k_aload_n (pc := 0) (x := v0) dX9_worth_0 rfl rfl ?_
  refine k_iconst (pc := 1) dX9_worth_1 ⟨by decide, by decide⟩ ?_
  obtain ⟨hc1, h⟩ := k_pk h
  refine k_putf (pc := 2) (t := 0) (fi := 0) dX9_worth_2 flX9_102 rfl rfl hc1 rfl ?_
  obtain ⟨A2, eA3, h⟩ := k_pl h
  refine k_hq eA3 ?_
  refine k_aload_n (pc := 5) (x := v0) dX9_worth_5 rfl rfl ?_
  refine k_iload_n (pc := 6) (x := v1) dX9_worth_6 rfl rfl ?_
  have hf7 := k_oW eA3 hc1
  obtain ⟨r4, A5, hq6, h⟩ := k_pb h
  refine k_callV (pc := 7) (ci := 9) (a := v0) (as := [(0, v1)]) (st := []) (st1 := [(0, r4)]) dX9_worth_7 cbX9_isShow (k_gt 1054 (by decide +kernel) (by decide +kernel)) cvX9_isShow.1 cvX9_isShow.2 rfl (by decide) hf7 (by omega) rfl (Nat.le_of_ble_eq_true rfl) (okX9_isShow hq6) rfl ?_
  refine k_if_ne (pc := 10) (tgt := 15) dX9_worth_10 rfl (fun c8 => ?_) (fun c8 => ?_)
  · rw [if_neg c8] at h
    refine k_iconst (pc := 15) dX9_worth_15 ⟨by decide, by decide⟩ ?_
    refine k_istore_n (pc := 16) dX9_worth_16 rfl (Nat.le_of_ble_eq_true rfl) rfl ?_
    show k_AW _ _ _ [(1, v0), (0, v1), (0, 0), (3, 0)] _ _ _ _
    refine k_iconst (pc := 17) dX9_worth_17 ⟨by decide, by decide⟩ ?_
    refine k_istore_n (pc := 18) dX9_worth_18 rfl (Nat.le_of_ble_eq_true rfl) rfl ?_
    show k_AW _ _ _ [(1, v0), (0, v1), (0, 0), (0, 0)] _ _ _ _
    refine k_sub (ls' := [(1, v0), (0, v1), (0, 0), (0, 0)]) (k_sbl_ok _ _ ⟨Or.inr rfl, Or.inr rfl, Or.inr rfl, Or.inr rfl, trivial⟩) ?_
    exact okX9_worth_h19  _ _ _ _ _ _ _ _ h
  · rw [if_pos (Classical.not_not.mp c8)] at h
    refine k_iconst (pc := 13) dX9_worth_13 ⟨by decide, by decide⟩ ?_
    obtain ⟨rfl, rfl⟩ := k_pr h
    exact k_ret (pc := 14) dX9_worth_14 rfl rfl rfl
theorem okX9_worth {A : k_H} {x0 x1 : Int} {r : Int} {A1 : k_H} (h : fX9_worth A x0 x1 = some (r, A1)) : k_AM 2 mX9_worth [(1, x0), (0, x1)] A r A1 :=
  k_AM_of2 (ls := [(1, x0), (0, x1), (3, 0), (3, 0)]) (Or.inl (by decide +kernel)) (by decide +kernel) (by decide) rfl (Nat.le_of_ble_eq_true rfl) ⟨Or.inr rfl, Or.inr rfl, rfl, rfl, trivial⟩ (okX9_worth_b0 A x0 x1 r A1 h)
/-! X9_next -/
def fX9_next_b260 (A : k_H) (s0 s1 : Int) : Option (Int × k_H) := if k_isO A s0 9 then (k_lt (k_wt A s0 36 s1) fun A2 => some (0, A2)) else none
def fX9_next_b204 (k114 : k_H → Int → Int → Int → Int → Option (Int × k_H)) (A : k_H) (v0 v2 v3 v4 : Int) : Option (Int × k_H) := if k_isO A v0 9 then (k_lt (k_wt A v0 4 (k_wr ((k_rd A v0 4) + 1))) fun A2 => k114 A2 v0 v2 v3 (k_wr (v4 + 1))) else none
def fX9_next_b80 (A : k_H) (v0 s0 s1 : Int) : Option (Int × k_H) := if k_isO A s0 9 then (k_lt (k_wt A s0 36 s1) fun A2 => if k_isO A2 v0 9 then (k_lt (k_wt A2 v0 4 (k_wr ((k_rd A2 v0 4) + 1))) fun A5 => some (0, A5)) else none) else none
def fX9_next_b18 (k0 : k_H → Int → Option (Int × k_H)) (A : k_H) (v0 : Int) : Option (Int × k_H) := if k_isO A v0 9 then (k_lt (k_wt A v0 4 (k_wr ((k_rd A v0 4) + 1))) fun A2 => k0 A2 v0) else none
def fX9_next_b251 (A : k_H) (v2 s0 : Int) : Option (Int × k_H) := if v2 = 0 then (fX9_next_b260 A s0 2) else (fX9_next_b260 A s0 1)
def fX9_next_b247 (A : k_H) (s0 : Int) : Option (Int × k_H) := fX9_next_b260 A s0 4
def fX9_next_b179 (k114 : k_H → Int → Int → Int → Int → Option (Int × k_H)) (A : k_H) (v0 v2 v3 v4 : Int) : Option (Int × k_H) := if v4 < 5 then (if k_isO A v0 9 then (k_bd (fX9_peek A v0) fun r3 A4 => if k_isO A4 v0 9 then (k_lt (k_wt A4 v0 38 (k_wr (k_wr (k_wr (10 * (k_rd A v0 38)) + r3) - 48))) fun A7 => fX9_next_b204 k114 A7 v0 v2 v3 v4) else none) else none) else (fX9_next_b204 k114 A v0 v2 v3 v4)
def fX9_next_b232 (A : k_H) (v0 v2 v3 v4 : Int) : Option (Int × k_H) := if v3 = 0 then (fX9_next_b247 A v0) else (if v2 = 0 then (if 5 < v4 then (fX9_next_b247 A v0) else (fX9_next_b251 A v2 v0)) else (fX9_next_b251 A v2 v0))
def fX9_next_b154 (k114 : k_H → Int → Int → Int → Int → Option (Int × k_H)) (A : k_H) (v0 v2 v4 s0 : Int) : Option (Int × k_H) := if v4 < 8 then (if k_isO A v0 9 then (k_bd (fX9_peek A v0) fun r3 A4 => if k_isO A4 v0 9 then (k_lt (k_wt A4 v0 42 (k_lorr (k_lshl (k_rd A v0 42) 8) r3)) fun A7 => fX9_next_b179 k114 A7 v0 v2 s0 v4) else none) else none) else (fX9_next_b179 k114 A v0 v2 s0 v4)
def fX9_next_b153 (k114 : k_H → Int → Int → Int → Int → Option (Int × k_H)) (A : k_H) (v0 v2 v4 : Int) : Option (Int × k_H) := fX9_next_b154 k114 A v0 v2 v4 0
def fX9_next_b134 (k114 : k_H → Int → Int → Int → Int → Option (Int × k_H)) (A : k_H) (v0 v2 v3 v4 : Int) : Option (Int × k_H) := if v3 = 0 then (fX9_next_b153 k114 A v0 v2 v4) else (if k_isO A v0 9 then (k_bd (fX9_peek A v0) fun r2 A3 => k_bd (fX9_isSmall A3 r2) fun r6 A7 => if r6 = v2 then (fX9_next_b154 k114 A7 v0 v2 v4 1) else (fX9_next_b153 k114 A7 v0 v2 v4)) else none)
def fX9_next_h114 : Nat → k_H → Int → Int → Int → Int → Option (Int × k_H)
  | 0, _, _, _, _, _ => none
  | N + 1, A, v0, v2, v3, v4 => if k_isO A v0 9 then (k_bd (fX9_peek A v0) fun r1 A2 => k_bd (fX9_isSmall A2 r1) fun r5 A6 => if r5 = 0 then (if k_isO A6 v0 9 then (k_bd (fX9_peek A6 v0) fun r9 A10 => k_bd (fX9_isDigit A10 r9) fun r13 A14 => if r13 = 0 then (if 8 < v4 then (if k_isO A14 v0 9 then (k_lt (k_wt A14 v0 42 0) fun A19 => fX9_next_b232 A19 v0 v2 v3 v4) else none) else (fX9_next_b232 A14 v0 v2 v3 v4)) else (fX9_next_b134 (fX9_next_h114 N) A14 v0 v2 v3 v4)) else none) else (fX9_next_b134 (fX9_next_h114 N) A6 v0 v2 v3 v4)) else none
def fX9_next_b94 (A : k_H) (v0 v1 : Int) : Option (Int × k_H) := k_bd (fX9_isSmall A v1) fun r1 A2 => if k_isO A2 v0 9 then (k_lt (k_wt A2 v0 42 0) fun A5 => k_lt (k_wt A5 v0 38 0) fun A8 => fX9_next_h114 k_FU A8 v0 r1 1 0) else none
def fX9_next_h0 : Nat → k_H → Int → Option (Int × k_H)
  | 0, _, _ => none
  | N + 1, A, v0 => if k_isO A v0 9 then (k_bd (fX9_peek A v0) fun r1 A2 => if r1 = 32 then (fX9_next_b18 (fX9_next_h0 N) A2 v0) else (if k_isO A2 v0 9 then (k_bd (fX9_peek A2 v0) fun r6 A7 => if r6 = 10 then (fX9_next_b18 (fX9_next_h0 N) A7 v0) else (if k_isO A7 v0 9 then (k_lt (k_wt A7 v0 37 (k_rd A7 v0 4)) fun A12 => k_bd (fX9_peek A12 v0) fun r14 A15 => if r14 < 0 then (if k_isO A15 v0 9 then (k_lt (k_wt A15 v0 36 0) fun A29 => some (0, A29)) else none) else (k_bd (fX9_isSmall A15 r14) fun r19 A20 => if r19 = 0 then (k_bd (fX9_isDigit A20 r14) fun r23 A24 => if r23 = 0 then (if r14 = 59 then (fX9_next_b80 A24 v0 v0 3) else (fX9_next_b80 A24 v0 v0 4)) else (fX9_next_b94 A24 v0 r14)) else (fX9_next_b94 A20 v0 r14))) else none)) else none)) else none
def fX9_next (A : k_H) (x0 : Int) : Option (Int × k_H) := fX9_next_h0 k_FU A x0
set_option maxRecDepth 100000 in
theorem okX9_next_b260 (A : k_H) (s0 s1 : Int) (r : Int) (A' : k_H) (h : fX9_next_b260 A s0 s1 = some (r, A')) : k_AW 2 mX9_next 260 [(3, 0), (3, 0), (3, 0), (3, 0), (3, 0)] [(0, s1), (1, s0)] A r A' := by
  unfold fX9_next_b260 at h
  obtain ⟨hc1, h⟩ := k_pk h
  refine k_putf (pc := 260) (t := 0) (fi := 36) dX9_next_260 flX9_184 rfl rfl hc1 rfl ?_
  obtain ⟨A2, eA3, h⟩ := k_pl h
  refine k_hq eA3 ?_
  obtain ⟨rfl, rfl⟩ := k_pr h
  exact k_retv (pc := 263) dX9_next_263 rfl
set_option maxRecDepth 100000 in
theorem okX9_next_b204 (k114 : k_H → Int → Int → Int → Int → Option (Int × k_H)) (hk114 : ∀ (A : k_H) (v0 v2 v3 v4 : Int) (r : Int) (A' : k_H), k114 A v0 v2 v3 v4 = some (r, A') → k_AW 2 mX9_next 114 [(1, v0), (3, 0), (0, v2), (0, v3), (0, v4)] [] A r A') (A : k_H) (v0 v2 v3 v4 : Int) (r : Int) (A' : k_H) (h : fX9_next_b204 k114 A v0 v2 v3 v4 = some (r, A')) : k_AW 2 mX9_next 204 [(1, v0), (3, 0), (0, v2), (0, v3), (0, v4)] [] A r A' := by
  unfold fX9_next_b204 at h
  refine k_iinc (pc := 204) (x := v4) dX9_next_204 (Nat.le_of_ble_eq_true rfl) rfl rfl ?_
  show k_AW _ _ _ [(1, v0), (3, 0), (0, v2), (0, v3), (0, k_wr (v4 + 1))] _ _ _ _
  refine k_aload_n (pc := 207) (x := v0) dX9_next_207 rfl rfl ?_
  refine k_dup (pc := 208) dX9_next_208 (Nat.le_of_ble_eq_true rfl) ?_
  obtain ⟨hc1, h⟩ := k_pk h
  refine k_getf (pc := 209) (t := 0) (fi := 4) dX9_next_209 flX9_116 rfl rfl hc1 ?_
  refine k_iconst (pc := 212) dX9_next_212 ⟨by decide, by decide⟩ ?_
  refine k_iadd (pc := 213) dX9_next_213 ?_
  refine k_putf (pc := 214) (t := 0) (fi := 4) dX9_next_214 flX9_116 rfl rfl hc1 rfl ?_
  obtain ⟨A2, eA3, h⟩ := k_pl h
  refine k_hq eA3 ?_
  refine k_goto (pc := 217) (tgt := 114) dX9_next_217 rfl ?_
  refine k_sub (ls' := [(1, v0), (3, 0), (0, v2), (0, v3), (0, k_wr (v4 + 1))]) (k_sbl_ok _ _ ⟨Or.inr rfl, Or.inl rfl, Or.inr rfl, Or.inr rfl, Or.inr rfl, trivial⟩) ?_
  exact hk114 _ _ _ _ _ _ _ h
set_option maxRecDepth 100000 in
theorem okX9_next_b80 (A : k_H) (v0 s0 s1 : Int) (r : Int) (A' : k_H) (h : fX9_next_b80 A v0 s0 s1 = some (r, A')) : k_AW 2 mX9_next 80 [(1, v0), (3, 0), (3, 0), (3, 0), (3, 0)] [(0, s1), (1, s0)] A r A' := by
  unfold fX9_next_b80 at h
  obtain ⟨hc1, h⟩ := k_pk h
  refine k_putf (pc := 80) (t := 0) (fi := 36) dX9_next_80 flX9_184 rfl rfl hc1 rfl ?_
  obtain ⟨A2, eA3, h⟩ := k_pl h
  refine k_hq eA3 ?_
  refine k_aload_n (pc := 83) (x := v0) dX9_next_83 rfl rfl ?_
  refine k_dup (pc := 84) dX9_next_84 (Nat.le_of_ble_eq_true rfl) ?_
  obtain ⟨hc4, h⟩ := k_pk h
  refine k_getf (pc := 85) (t := 0) (fi := 4) dX9_next_85 flX9_116 rfl rfl hc4 ?_
  refine k_iconst (pc := 88) dX9_next_88 ⟨by decide, by decide⟩ ?_
  refine k_iadd (pc := 89) dX9_next_89 ?_
  refine k_putf (pc := 90) (t := 0) (fi := 4) dX9_next_90 flX9_116 rfl rfl hc4 rfl ?_
  obtain ⟨A5, eA6, h⟩ := k_pl h
  refine k_hq eA6 ?_
  obtain ⟨rfl, rfl⟩ := k_pr h
  exact k_retv (pc := 93) dX9_next_93 rfl
set_option maxRecDepth 100000 in
theorem okX9_next_b18 (k0 : k_H → Int → Option (Int × k_H)) (hk0 : ∀ (A : k_H) (v0 : Int) (r : Int) (A' : k_H), k0 A v0 = some (r, A') → k_AW 2 mX9_next 0 [(1, v0), (3, 0), (3, 0), (3, 0), (3, 0)] [] A r A') (A : k_H) (v0 : Int) (r : Int) (A' : k_H) (h : fX9_next_b18 k0 A v0 = some (r, A')) : k_AW 2 mX9_next 18 [(1, v0), (3, 0), (3, 0), (3, 0), (3, 0)] [] A r A' := by
  unfold fX9_next_b18 at h
  refine k_aload_n (pc := 18) (x := v0) dX9_next_18 rfl rfl ?_
  refine k_dup (pc := 19) dX9_next_19 (Nat.le_of_ble_eq_true rfl) ?_
  obtain ⟨hc1, h⟩ := k_pk h
  refine k_getf (pc := 20) (t := 0) (fi := 4) dX9_next_20 flX9_116 rfl rfl hc1 ?_
  refine k_iconst (pc := 23) dX9_next_23 ⟨by decide, by decide⟩ ?_
  refine k_iadd (pc := 24) dX9_next_24 ?_
  refine k_putf (pc := 25) (t := 0) (fi := 4) dX9_next_25 flX9_116 rfl rfl hc1 rfl ?_
  obtain ⟨A2, eA3, h⟩ := k_pl h
  refine k_hq eA3 ?_
  refine k_goto (pc := 28) (tgt := 0) dX9_next_28 rfl ?_
  refine k_sub (ls' := [(1, v0), (3, 0), (3, 0), (3, 0), (3, 0)]) (k_sbl_ok _ _ ⟨Or.inr rfl, Or.inl rfl, Or.inl rfl, Or.inl rfl, Or.inl rfl, trivial⟩) ?_
  exact hk0 _ _ _ _ h
set_option maxRecDepth 100000 in
theorem okX9_next_b251 (A : k_H) (v2 s0 : Int) (r : Int) (A' : k_H) (h : fX9_next_b251 A v2 s0 = some (r, A')) : k_AW 2 mX9_next 251 [(3, 0), (3, 0), (0, v2), (3, 0), (3, 0)] [(1, s0)] A r A' := by
  unfold fX9_next_b251 at h
  refine k_iload_n (pc := 251) (x := v2) dX9_next_251 rfl rfl ?_
  refine k_if_eq (pc := 252) (tgt := 259) dX9_next_252 rfl (fun c1 => ?_) (fun c1 => ?_)
  · rw [if_pos c1] at h
    refine k_iconst (pc := 259) dX9_next_259 ⟨by decide, by decide⟩ ?_
    refine k_sub (ls' := [(3, 0), (3, 0), (3, 0), (3, 0), (3, 0)]) (k_sbl_ok _ _ ⟨Or.inl rfl, Or.inl rfl, Or.inl rfl, Or.inl rfl, Or.inl rfl, trivial⟩) ?_
    exact okX9_next_b260  _ _ _ _ _ h
  · rw [if_neg c1] at h
    refine k_iconst (pc := 255) dX9_next_255 ⟨by decide, by decide⟩ ?_
    refine k_goto (pc := 256) (tgt := 260) dX9_next_256 rfl ?_
    refine k_sub (ls' := [(3, 0), (3, 0), (3, 0), (3, 0), (3, 0)]) (k_sbl_ok _ _ ⟨Or.inl rfl, Or.inl rfl, Or.inl rfl, Or.inl rfl, Or.inl rfl, trivial⟩) ?_
    exact okX9_next_b260  _ _ _ _ _ h
set_option maxRecDepth 100000 in
theorem okX9_next_b247 (A : k_H) (s0 : Int) (r : Int) (A' : k_H) (h : fX9_next_b247 A s0 = some (r, A')) : k_AW 2 mX9_next 247 [(3, 0), (3, 0), (3, 0), (3, 0), (3, 0)] [(1, s0)] A r A' := by
  unfold fX9_next_b247 at h
  refine k_iconst (pc := 247) dX9_next_247 ⟨by decide, by decide⟩ ?_
  refine k_goto (pc := 248) (tgt := 260) dX9_next_248 rfl ?_
  refine k_sub (ls' := [(3, 0), (3, 0), (3, 0), (3, 0), (3, 0)]) (k_sbl_ok _ _ ⟨Or.inl rfl, Or.inl rfl, Or.inl rfl, Or.inl rfl, Or.inl rfl, trivial⟩) ?_
  exact okX9_next_b260  _ _ _ _ _ h
set_option maxRecDepth 100000 in
theorem okX9_next_b179 (k114 : k_H → Int → Int → Int → Int → Option (Int × k_H)) (hk114 : ∀ (A : k_H) (v0 v2 v3 v4 : Int) (r : Int) (A' : k_H), k114 A v0 v2 v3 v4 = some (r, A') → k_AW 2 mX9_next 114 [(1, v0), (3, 0), (0, v2), (0, v3), (0, v4)] [] A r A') (A : k_H) (v0 v2 v3 v4 : Int) (r : Int) (A' : k_H) (h : fX9_next_b179 k114 A v0 v2 v3 v4 = some (r, A')) : k_AW 2 mX9_next 179 [(1, v0), (3, 0), (0, v2), (0, v3), (0, v4)] [] A r A' := by
  unfold fX9_next_b179 at h
  refine k_iload (pc := 179) (x := v4) dX9_next_179 rfl ?_
  refine k_iconst (pc := 181) dX9_next_181 ⟨by decide, by decide⟩ ?_
  refine k_icmp_ge (pc := 182) (tgt := 204) dX9_next_182 rfl (fun c1 => ?_) (fun c1 => ?_)
  · rw [if_neg (Int.not_lt.mpr c1)] at h
    refine k_sub (ls' := [(1, v0), (3, 0), (0, v2), (0, v3), (0, v4)]) (k_sbl_ok _ _ ⟨Or.inr rfl, Or.inl rfl, Or.inr rfl, Or.inr rfl, Or.inr rfl, trivial⟩) ?_
    exact okX9_next_b204 k114 hk114 _ _ _ _ _ _ _ h
  · rw [if_pos (Int.not_le.mp c1)] at h
    refine k_aload_n (pc := 185) (x := v0) dX9_next_185 rfl rfl ?_
    refine k_bipush (pc := 186) dX9_next_186 ⟨by decide, by decide⟩ (by decide +kernel) ?_
    refine k_aload_n (pc := 188) (x := v0) dX9_next_188 rfl rfl ?_
    obtain ⟨hc2, h⟩ := k_pk h
    refine k_getf (pc := 189) (t := 0) (fi := 38) dX9_next_189 flX9_197 rfl rfl hc2 ?_
    refine k_imul (pc := 192) dX9_next_192 ?_
    refine k_aload_n (pc := 193) (x := v0) dX9_next_193 rfl rfl ?_
    obtain ⟨r3, A4, hq5, h⟩ := k_pb h
    refine k_callV (pc := 194) (ci := 9) (a := v0) (as := []) (st := [(0, k_wr (10 * (k_rd A v0 38))), (1, v0)]) (st1 := [(0, r3), (0, k_wr (10 * (k_rd A v0 38))), (1, v0)]) dX9_next_194 cbX9_peek (k_gt 1130 (by decide +kernel) (by decide +kernel)) cvX9_peek.1 cvX9_peek.2 rfl (by decide) hc2 (by omega) rfl (Nat.le_of_ble_eq_true rfl) (okX9_peek hq5) rfl ?_
    refine k_iadd (pc := 197) dX9_next_197 ?_
    refine k_bipush (pc := 198) dX9_next_198 ⟨by decide, by decide⟩ (by decide +kernel) ?_
    refine k_isub (pc := 200) dX9_next_200 ?_
    obtain ⟨hc6, h⟩ := k_pk h
    refine k_putf (pc := 201) (t := 0) (fi := 38) dX9_next_201 flX9_197 rfl rfl hc6 rfl ?_
    obtain ⟨A7, eA8, h⟩ := k_pl h
    refine k_hq eA8 ?_
    refine k_sub (ls' := [(1, v0), (3, 0), (0, v2), (0, v3), (0, v4)]) (k_sbl_ok _ _ ⟨Or.inr rfl, Or.inl rfl, Or.inr rfl, Or.inr rfl, Or.inr rfl, trivial⟩) ?_
    exact okX9_next_b204 k114 hk114 _ _ _ _ _ _ _ h
set_option maxRecDepth 100000 in
theorem okX9_next_b232 (A : k_H) (v0 v2 v3 v4 : Int) (r : Int) (A' : k_H) (h : fX9_next_b232 A v0 v2 v3 v4 = some (r, A')) : k_AW 2 mX9_next 232 [(1, v0), (3, 0), (0, v2), (0, v3), (0, v4)] [] A r A' := by
  unfold fX9_next_b232 at h
  refine k_aload_n (pc := 232) (x := v0) dX9_next_232 rfl rfl ?_
  refine k_iload_n (pc := 233) (x := v3) dX9_next_233 rfl rfl ?_
  refine k_if_eq (pc := 234) (tgt := 247) dX9_next_234 rfl (fun c1 => ?_) (fun c1 => ?_)
  · rw [if_pos c1] at h
    refine k_sub (ls' := [(3, 0), (3, 0), (3, 0), (3, 0), (3, 0)]) (k_sbl_ok _ _ ⟨Or.inl rfl, Or.inl rfl, Or.inl rfl, Or.inl rfl, Or.inl rfl, trivial⟩) ?_
    exact okX9_next_b247  _ _ _ _ h
  · rw [if_neg c1] at h
    refine k_iload_n (pc := 237) (x := v2) dX9_next_237 rfl rfl ?_
    refine k_if_ne (pc := 238) (tgt := 251) dX9_next_238 rfl (fun c2 => ?_) (fun c2 => ?_)
    · rw [if_neg c2] at h
      refine k_sub (ls' := [(3, 0), (3, 0), (0, v2), (3, 0), (3, 0)]) (k_sbl_ok _ _ ⟨Or.inl rfl, Or.inl rfl, Or.inr rfl, Or.inl rfl, Or.inl rfl, trivial⟩) ?_
      exact okX9_next_b251  _ _ _ _ _ h
    · rw [if_pos (Classical.not_not.mp c2)] at h
      refine k_iload (pc := 241) (x := v4) dX9_next_241 rfl ?_
      refine k_iconst (pc := 243) dX9_next_243 ⟨by decide, by decide⟩ ?_
      refine k_icmp_le (pc := 244) (tgt := 251) dX9_next_244 rfl (fun c3 => ?_) (fun c3 => ?_)
      · rw [if_neg (Int.not_lt.mpr c3)] at h
        refine k_sub (ls' := [(3, 0), (3, 0), (0, v2), (3, 0), (3, 0)]) (k_sbl_ok _ _ ⟨Or.inl rfl, Or.inl rfl, Or.inr rfl, Or.inl rfl, Or.inl rfl, trivial⟩) ?_
        exact okX9_next_b251  _ _ _ _ _ h
      · rw [if_pos (Int.not_le.mp c3)] at h
        refine k_sub (ls' := [(3, 0), (3, 0), (3, 0), (3, 0), (3, 0)]) (k_sbl_ok _ _ ⟨Or.inl rfl, Or.inl rfl, Or.inl rfl, Or.inl rfl, Or.inl rfl, trivial⟩) ?_
        exact okX9_next_b247  _ _ _ _ h
set_option maxRecDepth 100000 in
theorem okX9_next_b154 (k114 : k_H → Int → Int → Int → Int → Option (Int × k_H)) (hk114 : ∀ (A : k_H) (v0 v2 v3 v4 : Int) (r : Int) (A' : k_H), k114 A v0 v2 v3 v4 = some (r, A') → k_AW 2 mX9_next 114 [(1, v0), (3, 0), (0, v2), (0, v3), (0, v4)] [] A r A') (A : k_H) (v0 v2 v4 s0 : Int) (r : Int) (A' : k_H) (h : fX9_next_b154 k114 A v0 v2 v4 s0 = some (r, A')) : k_AW 2 mX9_next 154 [(1, v0), (3, 0), (0, v2), (3, 0), (0, v4)] [(0, s0)] A r A' := by
  unfold fX9_next_b154 at h
  refine k_istore_n (pc := 154) dX9_next_154 rfl (Nat.le_of_ble_eq_true rfl) rfl ?_
  show k_AW _ _ _ [(1, v0), (3, 0), (0, v2), (0, s0), (0, v4)] _ _ _ _
  refine k_iload (pc := 155) (x := v4) dX9_next_155 rfl ?_
  refine k_bipush (pc := 157) dX9_next_157 ⟨by decide, by decide⟩ (by decide +kernel) ?_
  refine k_icmp_ge (pc := 159) (tgt := 179) dX9_next_159 rfl (fun c1 => ?_) (fun c1 => ?_)
  · rw [if_neg (Int.not_lt.mpr c1)] at h
    refine k_sub (ls' := [(1, v0), (3, 0), (0, v2), (0, s0), (0, v4)]) (k_sbl_ok _ _ ⟨Or.inr rfl, Or.inl rfl, Or.inr rfl, Or.inr rfl, Or.inr rfl, trivial⟩) ?_
    exact okX9_next_b179 k114 hk114 _ _ _ _ _ _ _ h
  · rw [if_pos (Int.not_le.mp c1)] at h
    refine k_aload_n (pc := 162) (x := v0) dX9_next_162 rfl rfl ?_
    refine k_aload_n (pc := 163) (x := v0) dX9_next_163 rfl rfl ?_
    obtain ⟨hc2, h⟩ := k_pk h
    refine k_getf (pc := 164) (t := 2) (fi := 42) dX9_next_164 flX9_193 rfl rfl hc2 ?_
    refine k_bipush (pc := 167) dX9_next_167 ⟨by decide, by decide⟩ (by decide +kernel) ?_
    refine k_lshl_ (pc := 169) dX9_next_169 ?_
    refine k_aload_n (pc := 170) (x := v0) dX9_next_170 rfl rfl ?_
    obtain ⟨r3, A4, hq5, h⟩ := k_pb h
    refine k_callV (pc := 171) (ci := 9) (a := v0) (as := []) (st := [(2, (k_lshl (k_rd A v0 42) 8)), (1, v0)]) (st1 := [(0, r3), (2, (k_lshl (k_rd A v0 42) 8)), (1, v0)]) dX9_next_171 cbX9_peek (k_gt 1130 (by decide +kernel) (by decide +kernel)) cvX9_peek.1 cvX9_peek.2 rfl (by decide) hc2 (by omega) rfl (Nat.le_of_ble_eq_true rfl) (okX9_peek hq5) rfl ?_
    refine k_i2l (pc := 174) dX9_next_174 ?_
    refine k_lor (pc := 175) dX9_next_175 ?_
    obtain ⟨hc6, h⟩ := k_pk h
    refine k_putf (pc := 176) (t := 2) (fi := 42) dX9_next_176 flX9_193 rfl rfl hc6 rfl ?_
    obtain ⟨A7, eA8, h⟩ := k_pl h
    refine k_hq eA8 ?_
    refine k_sub (ls' := [(1, v0), (3, 0), (0, v2), (0, s0), (0, v4)]) (k_sbl_ok _ _ ⟨Or.inr rfl, Or.inl rfl, Or.inr rfl, Or.inr rfl, Or.inr rfl, trivial⟩) ?_
    exact okX9_next_b179 k114 hk114 _ _ _ _ _ _ _ h
set_option maxRecDepth 100000 in
theorem okX9_next_b153 (k114 : k_H → Int → Int → Int → Int → Option (Int × k_H)) (hk114 : ∀ (A : k_H) (v0 v2 v3 v4 : Int) (r : Int) (A' : k_H), k114 A v0 v2 v3 v4 = some (r, A') → k_AW 2 mX9_next 114 [(1, v0), (3, 0), (0, v2), (0, v3), (0, v4)] [] A r A') (A : k_H) (v0 v2 v4 : Int) (r : Int) (A' : k_H) (h : fX9_next_b153 k114 A v0 v2 v4 = some (r, A')) : k_AW 2 mX9_next 153 [(1, v0), (3, 0), (0, v2), (3, 0), (0, v4)] [] A r A' := by
  unfold fX9_next_b153 at h
  refine k_iconst (pc := 153) dX9_next_153 ⟨by decide, by decide⟩ ?_
  refine k_sub (ls' := [(1, v0), (3, 0), (0, v2), (3, 0), (0, v4)]) (k_sbl_ok _ _ ⟨Or.inr rfl, Or.inl rfl, Or.inr rfl, Or.inl rfl, Or.inr rfl, trivial⟩) ?_
  exact okX9_next_b154 k114 hk114 _ _ _ _ _ _ _ h
set_option maxRecDepth 100000 in
theorem okX9_next_b134 (k114 : k_H → Int → Int → Int → Int → Option (Int × k_H)) (hk114 : ∀ (A : k_H) (v0 v2 v3 v4 : Int) (r : Int) (A' : k_H), k114 A v0 v2 v3 v4 = some (r, A') → k_AW 2 mX9_next 114 [(1, v0), (3, 0), (0, v2), (0, v3), (0, v4)] [] A r A') (A : k_H) (v0 v2 v3 v4 : Int) (r : Int) (A' : k_H) (h : fX9_next_b134 k114 A v0 v2 v3 v4 = some (r, A')) : k_AW 2 mX9_next 134 [(1, v0), (3, 0), (0, v2), (0, v3), (0, v4)] [] A r A' := by
  unfold fX9_next_b134 at h
  refine k_iload_n (pc := 134) (x := v3) dX9_next_134 rfl rfl ?_
  refine k_if_eq (pc := 135) (tgt := 153) dX9_next_135 rfl (fun c1 => ?_) (fun c1 => ?_)
  · rw [if_pos c1] at h
    refine k_sub (ls' := [(1, v0), (3, 0), (0, v2), (3, 0), (0, v4)]) (k_sbl_ok _ _ ⟨Or.inr rfl, Or.inl rfl, Or.inr rfl, Or.inl rfl, Or.inr rfl, trivial⟩) ?_
    exact okX9_next_b153 k114 hk114 _ _ _ _ _ _ h
  · rw [if_neg c1] at h
    refine k_aload_n (pc := 138) (x := v0) dX9_next_138 rfl rfl ?_
    obtain ⟨hc5, h⟩ := k_pk h
    obtain ⟨r2, A3, hq4, h⟩ := k_pb h
    refine k_callV (pc := 139) (ci := 9) (a := v0) (as := []) (st := []) (st1 := [(0, r2)]) dX9_next_139 cbX9_peek (k_gt 1130 (by decide +kernel) (by decide +kernel)) cvX9_peek.1 cvX9_peek.2 rfl (by decide) hc5 (by omega) rfl (Nat.le_of_ble_eq_true rfl) (okX9_peek hq4) rfl ?_
    obtain ⟨r6, A7, hq8, h⟩ := k_pb h
    refine k_callS (pc := 142) (as := [(0, r2)]) (st := []) (st1 := [(0, r6)]) dX9_next_142 cbX9_isSmall (k_gt 1134 (by decide +kernel) (by decide +kernel)) (k_gt 1135 (by decide +kernel) (by decide +kernel)) (by omega) rfl (Nat.le_of_ble_eq_true rfl) (okX9_isSmall hq8) rfl ?_
    refine k_iload_n (pc := 145) (x := v2) dX9_next_145 rfl rfl ?_
    refine k_icmp_ne (pc := 146) (tgt := 153) dX9_next_146 rfl (fun c9 => ?_) (fun c9 => ?_)
    · rw [if_neg c9] at h
      refine k_sub (ls' := [(1, v0), (3, 0), (0, v2), (3, 0), (0, v4)]) (k_sbl_ok _ _ ⟨Or.inr rfl, Or.inl rfl, Or.inr rfl, Or.inl rfl, Or.inr rfl, trivial⟩) ?_
      exact okX9_next_b153 k114 hk114 _ _ _ _ _ _ h
    · rw [if_pos (Classical.not_not.mp c9)] at h
      refine k_iconst (pc := 149) dX9_next_149 ⟨by decide, by decide⟩ ?_
      refine k_goto (pc := 150) (tgt := 154) dX9_next_150 rfl ?_
      refine k_sub (ls' := [(1, v0), (3, 0), (0, v2), (3, 0), (0, v4)]) (k_sbl_ok _ _ ⟨Or.inr rfl, Or.inl rfl, Or.inr rfl, Or.inl rfl, Or.inr rfl, trivial⟩) ?_
      exact okX9_next_b154 k114 hk114 _ _ _ _ _ _ _ h
set_option maxRecDepth 100000 in
theorem okX9_next_h114 : ∀ (N : Nat) (A : k_H) (v0 v2 v3 v4 : Int) (r : Int) (A' : k_H), fX9_next_h114 N A v0 v2 v3 v4 = some (r, A') → k_AW 2 mX9_next 114 [(1, v0), (3, 0), (0, v2), (0, v3), (0, v4)] [] A r A' := by
  intro N
  induction N with
  | zero => intro A v0 v2 v3 v4 r A' h; exact absurd h (by simp [fX9_next_h114])
  | succ N ih =>
    intro A v0 v2 v3 v4 r A' h
    rw [fX9_next_h114] at h
    refine k_aload_n (pc := 114) (x := v0) dX9_next_114 rfl rfl ?_
    obtain ⟨hc4, h⟩ := k_pk h
    obtain ⟨r1, A2, hq3, h⟩ := k_pb h
    refine k_callV (pc := 115) (ci := 9) (a := v0) (as := []) (st := []) (st1 := [(0, r1)]) dX9_next_115 cbX9_peek (k_gt 1130 (by decide +kernel) (by decide +kernel)) cvX9_peek.1 cvX9_peek.2 rfl (by decide) hc4 (by omega) rfl (Nat.le_of_ble_eq_true rfl) (okX9_peek hq3) rfl ?_
    obtain ⟨r5, A6, hq7, h⟩ := k_pb h
    refine k_callS (pc := 118) (as := [(0, r1)]) (st := []) (st1 := [(0, r5)]) dX9_next_118 cbX9_isSmall (k_gt 1134 (by decide +kernel) (by decide +kernel)) (k_gt 1135 (by decide +kernel) (by decide +kernel)) (by omega) rfl (Nat.le_of_ble_eq_true rfl) (okX9_isSmall hq7) rfl ?_
    refine k_if_ne (pc := 121) (tgt := 134) dX9_next_121 rfl (fun c8 => ?_) (fun c8 => ?_)
    · rw [if_neg c8] at h
      refine k_sub (ls' := [(1, v0), (3, 0), (0, v2), (0, v3), (0, v4)]) (k_sbl_ok _ _ ⟨Or.inr rfl, Or.inl rfl, Or.inr rfl, Or.inr rfl, Or.inr rfl, trivial⟩) ?_
      exact okX9_next_b134 (fX9_next_h114 N) ih _ _ _ _ _ _ _ h
    · rw [if_pos (Classical.not_not.mp c8)] at h
      refine k_aload_n (pc := 124) (x := v0) dX9_next_124 rfl rfl ?_
      obtain ⟨hc12, h⟩ := k_pk h
      obtain ⟨r9, A10, hq11, h⟩ := k_pb h
      refine k_callV (pc := 125) (ci := 9) (a := v0) (as := []) (st := []) (st1 := [(0, r9)]) dX9_next_125 cbX9_peek (k_gt 1130 (by decide +kernel) (by decide +kernel)) cvX9_peek.1 cvX9_peek.2 rfl (by decide) hc12 (by omega) rfl (Nat.le_of_ble_eq_true rfl) (okX9_peek hq11) rfl ?_
      obtain ⟨r13, A14, hq15, h⟩ := k_pb h
      refine k_callS (pc := 128) (as := [(0, r9)]) (st := []) (st1 := [(0, r13)]) dX9_next_128 cbX9_isDigit (k_gt 1137 (by decide +kernel) (by decide +kernel)) (k_gt 1138 (by decide +kernel) (by decide +kernel)) (by omega) rfl (Nat.le_of_ble_eq_true rfl) (okX9_isDigit hq15) rfl ?_
      refine k_if_eq (pc := 131) (tgt := 220) dX9_next_131 rfl (fun c16 => ?_) (fun c16 => ?_)
      · rw [if_pos c16] at h
        refine k_iload (pc := 220) (x := v4) dX9_next_220 rfl ?_
        refine k_bipush (pc := 222) dX9_next_222 ⟨by decide, by decide⟩ (by decide +kernel) ?_
        refine k_icmp_le (pc := 224) (tgt := 232) dX9_next_224 rfl (fun c17 => ?_) (fun c17 => ?_)
        · rw [if_neg (Int.not_lt.mpr c17)] at h
          refine k_sub (ls' := [(1, v0), (3, 0), (0, v2), (0, v3), (0, v4)]) (k_sbl_ok _ _ ⟨Or.inr rfl, Or.inl rfl, Or.inr rfl, Or.inr rfl, Or.inr rfl, trivial⟩) ?_
          exact okX9_next_b232  _ _ _ _ _ _ _ h
        · rw [if_pos (Int.not_le.mp c17)] at h
          refine k_aload_n (pc := 227) (x := v0) dX9_next_227 rfl rfl ?_
          refine k_lconst (pc := 228) (z := 0) dX9_next_228 (by decide +kernel) ⟨by decide, by decide⟩ ?_
          obtain ⟨hc18, h⟩ := k_pk h
          refine k_putf (pc := 229) (t := 2) (fi := 42) dX9_next_229 flX9_193 rfl rfl hc18 rfl ?_
          obtain ⟨A19, eA20, h⟩ := k_pl h
          refine k_hq eA20 ?_
          refine k_sub (ls' := [(1, v0), (3, 0), (0, v2), (0, v3), (0, v4)]) (k_sbl_ok _ _ ⟨Or.inr rfl, Or.inl rfl, Or.inr rfl, Or.inr rfl, Or.inr rfl, trivial⟩) ?_
          exact okX9_next_b232  _ _ _ _ _ _ _ h
      · rw [if_neg c16] at h
        refine k_sub (ls' := [(1, v0), (3, 0), (0, v2), (0, v3), (0, v4)]) (k_sbl_ok _ _ ⟨Or.inr rfl, Or.inl rfl, Or.inr rfl, Or.inr rfl, Or.inr rfl, trivial⟩) ?_
        exact okX9_next_b134 (fX9_next_h114 N) ih _ _ _ _ _ _ _ h
set_option maxRecDepth 100000 in
theorem okX9_next_b94 (A : k_H) (v0 v1 : Int) (r : Int) (A' : k_H) (h : fX9_next_b94 A v0 v1 = some (r, A')) : k_AW 2 mX9_next 94 [(1, v0), (0, v1), (3, 0), (3, 0), (3, 0)] [] A r A' := by
  unfold fX9_next_b94 at h
  refine k_iload_n (pc := 94) (x := v1) dX9_next_94 rfl rfl ?_
  obtain ⟨r1, A2, hq3, h⟩ := k_pb h
  refine k_callS (pc := 95) (as := [(0, v1)]) (st := []) (st1 := [(0, r1)]) dX9_next_95 cbX9_isSmall (k_gt 1134 (by decide +kernel) (by decide +kernel)) (k_gt 1135 (by decide +kernel) (by decide +kernel)) (by omega) rfl (Nat.le_of_ble_eq_true rfl) (okX9_isSmall hq3) rfl ?_
  refine k_istore_n (pc := 98) dX9_next_98 rfl (Nat.le_of_ble_eq_true rfl) rfl ?_
  show k_AW _ _ _ [(1, v0), (0, v1), (0, r1), (3, 0), (3, 0)] _ _ _ _
  refine k_iconst (pc := 99) dX9_next_99 ⟨by decide, by decide⟩ ?_
  refine k_istore_n (pc := 100) dX9_next_100 rfl (Nat.le_of_ble_eq_true rfl) rfl ?_
  show k_AW _ _ _ [(1, v0), (0, v1), (0, r1), (0, 1), (3, 0)] _ _ _ _
  refine k_iconst (pc := 101) dX9_next_101 ⟨by decide, by decide⟩ ?_
  refine k_istore (pc := 102) dX9_next_102 (Nat.le_of_ble_eq_true rfl) rfl ?_
  show k_AW _ _ _ [(1, v0), (0, v1), (0, r1), (0, 1), (0, 0)] _ _ _ _
  refine k_aload_n (pc := 104) (x := v0) dX9_next_104 rfl rfl ?_
  refine k_lconst (pc := 105) (z := 0) dX9_next_105 (by decide +kernel) ⟨by decide, by decide⟩ ?_
  obtain ⟨hc4, h⟩ := k_pk h
  refine k_putf (pc := 106) (t := 2) (fi := 42) dX9_next_106 flX9_193 rfl rfl hc4 rfl ?_
  obtain ⟨A5, eA6, h⟩ := k_pl h
  refine k_hq eA6 ?_
  refine k_aload_n (pc := 109) (x := v0) dX9_next_109 rfl rfl ?_
  refine k_iconst (pc := 110) dX9_next_110 ⟨by decide, by decide⟩ ?_
  have hf7 := k_oW eA6 hc4
  refine k_putf (pc := 111) (t := 0) (fi := 38) dX9_next_111 flX9_197 rfl rfl hf7 rfl ?_
  obtain ⟨A8, eA9, h⟩ := k_pl h
  refine k_hq eA9 ?_
  refine k_sub (ls' := [(1, v0), (3, 0), (0, r1), (0, 1), (0, 0)]) (k_sbl_ok _ _ ⟨Or.inr rfl, Or.inl rfl, Or.inr rfl, Or.inr rfl, Or.inr rfl, trivial⟩) ?_
  exact okX9_next_h114  _ _ _ _ _ _ _ _ h
set_option maxRecDepth 100000 in
theorem okX9_next_h0 : ∀ (N : Nat) (A : k_H) (v0 : Int) (r : Int) (A' : k_H), fX9_next_h0 N A v0 = some (r, A') → k_AW 2 mX9_next 0 [(1, v0), (3, 0), (3, 0), (3, 0), (3, 0)] [] A r A' := by
  intro N
  induction N with
  | zero => intro A v0 r A' h; exact absurd h (by simp [fX9_next_h0])
  | succ N ih =>
    intro A v0 r A' h
    rw [fX9_next_h0] at h
    refine k_aload_n (pc := 0) (x := v0) dX9_next_0 rfl rfl ?_
    obtain ⟨hc4, h⟩ := k_pk h
    obtain ⟨r1, A2, hq3, h⟩ := k_pb h
    refine k_callV (pc := 1) (ci := 9) (a := v0) (as := []) (st := []) (st1 := [(0, r1)]) dX9_next_1 cbX9_peek (k_gt 1130 (by decide +kernel) (by decide +kernel)) cvX9_peek.1 cvX9_peek.2 rfl (by decide) hc4 (by omega) rfl (Nat.le_of_ble_eq_true rfl) (okX9_peek hq3) rfl ?_
    refine k_bipush (pc := 4) dX9_next_4 ⟨by decide, by decide⟩ (by decide +kernel) ?_
    refine k_icmp_eq (pc := 6) (tgt := 18) dX9_next_6 rfl (fun c5 => ?_) (fun c5 => ?_)
    · rw [if_pos c5] at h
      refine k_sub (ls' := [(1, v0), (3, 0), (3, 0), (3, 0), (3, 0)]) (k_sbl_ok _ _ ⟨Or.inr rfl, Or.inl rfl, Or.inl rfl, Or.inl rfl, Or.inl rfl, trivial⟩) ?_
      exact okX9_next_b18 (fX9_next_h0 N) ih _ _ _ _ h
    · rw [if_neg c5] at h
      refine k_aload_n (pc := 9) (x := v0) dX9_next_9 rfl rfl ?_
      obtain ⟨hc9, h⟩ := k_pk h
      obtain ⟨r6, A7, hq8, h⟩ := k_pb h
      refine k_callV (pc := 10) (ci := 9) (a := v0) (as := []) (st := []) (st1 := [(0, r6)]) dX9_next_10 cbX9_peek (k_gt 1130 (by decide +kernel) (by decide +kernel)) cvX9_peek.1 cvX9_peek.2 rfl (by decide) hc9 (by omega) rfl (Nat.le_of_ble_eq_true rfl) (okX9_peek hq8) rfl ?_
      refine k_bipush (pc := 13) dX9_next_13 ⟨by decide, by decide⟩ (by decide +kernel) ?_
      refine k_icmp_ne (pc := 15) (tgt := 31) dX9_next_15 rfl (fun c10 => ?_) (fun c10 => ?_)
      · rw [if_neg c10] at h
        refine k_aload_n (pc := 31) (x := v0) dX9_next_31 rfl rfl ?_
        refine k_aload_n (pc := 32) (x := v0) dX9_next_32 rfl rfl ?_
        obtain ⟨hc11, h⟩ := k_pk h
        refine k_getf (pc := 33) (t := 0) (fi := 4) dX9_next_33 flX9_116 rfl rfl hc11 ?_
        refine k_putf (pc := 36) (t := 0) (fi := 37) dX9_next_36 flX9_181 rfl rfl hc11 rfl ?_
        obtain ⟨A12, eA13, h⟩ := k_pl h
        refine k_hq eA13 ?_
        refine k_aload_n (pc := 39) (x := v0) dX9_next_39 rfl rfl ?_
        have hf17 := k_oW eA13 hc11
        obtain ⟨r14, A15, hq16, h⟩ := k_pb h
        refine k_callV (pc := 40) (ci := 9) (a := v0) (as := []) (st := []) (st1 := [(0, r14)]) dX9_next_40 cbX9_peek (k_gt 1130 (by decide +kernel) (by decide +kernel)) cvX9_peek.1 cvX9_peek.2 rfl (by decide) hf17 (by omega) rfl (Nat.le_of_ble_eq_true rfl) (okX9_peek hq16) rfl ?_
        refine k_istore_n (pc := 43) dX9_next_43 rfl (Nat.le_of_ble_eq_true rfl) rfl ?_
        show k_AW _ _ _ [(1, v0), (0, r14), (3, 0), (3, 0), (3, 0)] _ _ _ _
        refine k_iload_n (pc := 44) (x := r14) dX9_next_44 rfl rfl ?_
        refine k_if_ge (pc := 45) (tgt := 54) dX9_next_45 rfl (fun c18 => ?_) (fun c18 => ?_)
        · rw [if_neg (Int.not_lt.mpr c18)] at h
          refine k_iload_n (pc := 54) (x := r14) dX9_next_54 rfl rfl ?_
          obtain ⟨r19, A20, hq21, h⟩ := k_pb h
          refine k_callS (pc := 55) (as := [(0, r14)]) (st := []) (st1 := [(0, r19)]) dX9_next_55 cbX9_isSmall (k_gt 1134 (by decide +kernel) (by decide +kernel)) (k_gt 1135 (by decide +kernel) (by decide +kernel)) (by omega) rfl (Nat.le_of_ble_eq_true rfl) (okX9_isSmall hq21) rfl ?_
          refine k_if_ne (pc := 58) (tgt := 94) dX9_next_58 rfl (fun c22 => ?_) (fun c22 => ?_)
          · rw [if_neg c22] at h
            refine k_sub (ls' := [(1, v0), (0, r14), (3, 0), (3, 0), (3, 0)]) (k_sbl_ok _ _ ⟨Or.inr rfl, Or.inr rfl, Or.inl rfl, Or.inl rfl, Or.inl rfl, trivial⟩) ?_
            exact okX9_next_b94  _ _ _ _ _ h
          · rw [if_pos (Classical.not_not.mp c22)] at h
            refine k_iload_n (pc := 61) (x := r14) dX9_next_61 rfl rfl ?_
            obtain ⟨r23, A24, hq25, h⟩ := k_pb h
            refine k_callS (pc := 62) (as := [(0, r14)]) (st := []) (st1 := [(0, r23)]) dX9_next_62 cbX9_isDigit (k_gt 1137 (by decide +kernel) (by decide +kernel)) (k_gt 1138 (by decide +kernel) (by decide +kernel)) (by omega) rfl (Nat.le_of_ble_eq_true rfl) (okX9_isDigit hq25) rfl ?_
            refine k_if_ne (pc := 65) (tgt := 94) dX9_next_65 rfl (fun c26 => ?_) (fun c26 => ?_)
            · rw [if_neg c26] at h
              refine k_sub (ls' := [(1, v0), (0, r14), (3, 0), (3, 0), (3, 0)]) (k_sbl_ok _ _ ⟨Or.inr rfl, Or.inr rfl, Or.inl rfl, Or.inl rfl, Or.inl rfl, trivial⟩) ?_
              exact okX9_next_b94  _ _ _ _ _ h
            · rw [if_pos (Classical.not_not.mp c26)] at h
              refine k_aload_n (pc := 68) (x := v0) dX9_next_68 rfl rfl ?_
              refine k_iload_n (pc := 69) (x := r14) dX9_next_69 rfl rfl ?_
              refine k_bipush (pc := 70) dX9_next_70 ⟨by decide, by decide⟩ (by decide +kernel) ?_
              refine k_icmp_ne (pc := 72) (tgt := 79) dX9_next_72 rfl (fun c27 => ?_) (fun c27 => ?_)
              · rw [if_neg c27] at h
                refine k_iconst (pc := 79) dX9_next_79 ⟨by decide, by decide⟩ ?_
                refine k_sub (ls' := [(1, v0), (3, 0), (3, 0), (3, 0), (3, 0)]) (k_sbl_ok _ _ ⟨Or.inr rfl, Or.inl rfl, Or.inl rfl, Or.inl rfl, Or.inl rfl, trivial⟩) ?_
                exact okX9_next_b80  _ _ _ _ _ _ h
              · rw [if_pos (Classical.not_not.mp c27)] at h
                refine k_iconst (pc := 75) dX9_next_75 ⟨by decide, by decide⟩ ?_
                refine k_goto (pc := 76) (tgt := 80) dX9_next_76 rfl ?_
                refine k_sub (ls' := [(1, v0), (3, 0), (3, 0), (3, 0), (3, 0)]) (k_sbl_ok _ _ ⟨Or.inr rfl, Or.inl rfl, Or.inl rfl, Or.inl rfl, Or.inl rfl, trivial⟩) ?_
                exact okX9_next_b80  _ _ _ _ _ _ h
        · rw [if_pos (Int.not_le.mp c18)] at h
          refine k_aload_n (pc := 48) (x := v0) dX9_next_48 rfl rfl ?_
          refine k_iconst (pc := 49) dX9_next_49 ⟨by decide, by decide⟩ ?_
          obtain ⟨hc28, h⟩ := k_pk h
          refine k_putf (pc := 50) (t := 0) (fi := 36) dX9_next_50 flX9_184 rfl rfl hc28 rfl ?_
          obtain ⟨A29, eA30, h⟩ := k_pl h
          refine k_hq eA30 ?_
          obtain ⟨rfl, rfl⟩ := k_pr h
          exact k_retv (pc := 53) dX9_next_53 rfl
      · rw [if_pos (Classical.not_not.mp c10)] at h
        refine k_sub (ls' := [(1, v0), (3, 0), (3, 0), (3, 0), (3, 0)]) (k_sbl_ok _ _ ⟨Or.inr rfl, Or.inl rfl, Or.inl rfl, Or.inl rfl, Or.inl rfl, trivial⟩) ?_
        exact okX9_next_b18 (fX9_next_h0 N) ih _ _ _ _ h
theorem okX9_next {A : k_H} {x0 : Int} {r : Int} {A1 : k_H} (h : fX9_next A x0 = some (r, A1)) : k_AM 2 mX9_next [(1, x0)] A r A1 :=
  k_AM_of2 (ls := [(1, x0), (3, 0), (3, 0), (3, 0), (3, 0)]) (Or.inl (by decide +kernel)) (by decide +kernel) (by decide) rfl (Nat.le_of_ble_eq_true rfl) ⟨Or.inr rfl, rfl, rfl, rfl, rfl, trivial⟩ (okX9_next_h0 k_FU A x0 r A1 h)
/-! X9_cant -/
def fX9_cant_b14 (A : k_H) (v0 s0 s1 : Int) : Option (Int × k_H) := if k_isO A v0 9 then (if k_isO A s0 9 then (k_bd (fX9_wrong A s0 s1 (k_rd A v0 37)) fun r2 A3 => if r2 = 0 ∨ r2 = 1 then (some (r2, A3)) else none) else none) else none
def fX9_cant_b0 (A : k_H) (v0 : Int) : Option (Int × k_H) := if k_isO A v0 9 then (if (k_rd A v0 36) = 4 then (fX9_cant_b14 A v0 v0 1) else (fX9_cant_b14 A v0 v0 2)) else none
def fX9_cant (A : k_H) (x0 : Int) : Option (Int × k_H) := fX9_cant_b0 A x0
set_option maxRecDepth 100000 in
theorem okX9_cant_b14 (A : k_H) (v0 s0 s1 : Int) (r : Int) (A' : k_H) (h : fX9_cant_b14 A v0 s0 s1 = some (r, A')) : k_AW 2 mX9_cant 14 [(1, v0)] [(0, s1), (1, s0)] A r A' := by
  unfold fX9_cant_b14 at h
  refine k_aload_n (pc := 14) (x := v0) dX9_cant_14 rfl rfl ?_
  obtain ⟨hc1, h⟩ := k_pk h
  refine k_getf (pc := 15) (t := 0) (fi := 37) dX9_cant_15 flX9_181 rfl rfl hc1 ?_
  obtain ⟨hc5, h⟩ := k_pk h
  obtain ⟨r2, A3, hq4, h⟩ := k_pb h
  refine k_callV (pc := 18) (ci := 9) (a := s0) (as := [(0, s1), (0, (k_rd A v0 37))]) (st := []) (st1 := [(0, r2)]) dX9_cant_18 cbX9_wrong (k_gt 1156 (by decide +kernel) (by decide +kernel)) cvX9_wrong.1 cvX9_wrong.2 rfl (by decide) hc5 (by omega) rfl (Nat.le_of_ble_eq_true rfl) (okX9_wrong hq4) rfl ?_
  obtain ⟨hc6, h⟩ := k_pk h
  obtain ⟨rfl, rfl⟩ := k_pr h
  exact k_ret (pc := 21) dX9_cant_21 rfl rfl (k_nz hc6)
set_option maxRecDepth 100000 in
theorem okX9_cant_b0 (A : k_H) (v0 : Int) (r : Int) (A' : k_H) (h : fX9_cant_b0 A v0 = some (r, A')) : k_AW 2 mX9_cant 0 [(1, v0)] [] A r A' := by
  unfold fX9_cant_b0 at h
  refine k_aload_n (pc := 0) (x := v0) dX9_cant_0 rfl rfl ?_
  refine k_aload_n (pc := 1) (x := v0) dX9_cant_1 rfl rfl ?_
  obtain ⟨hc1, h⟩ := k_pk h
  refine k_getf (pc := 2) (t := 0) (fi := 36) dX9_cant_2 flX9_184 rfl rfl hc1 ?_
  refine k_iconst (pc := 5) dX9_cant_5 ⟨by decide, by decide⟩ ?_
  refine k_icmp_ne (pc := 6) (tgt := 13) dX9_cant_6 rfl (fun c2 => ?_) (fun c2 => ?_)
  · rw [if_neg c2] at h
    refine k_iconst (pc := 13) dX9_cant_13 ⟨by decide, by decide⟩ ?_
    refine k_sub (ls' := [(1, v0)]) (k_sbl_ok _ _ ⟨Or.inr rfl, trivial⟩) ?_
    exact okX9_cant_b14  _ _ _ _ _ _ h
  · rw [if_pos (Classical.not_not.mp c2)] at h
    refine k_iconst (pc := 9) dX9_cant_9 ⟨by decide, by decide⟩ ?_
    refine k_goto (pc := 10) (tgt := 14) dX9_cant_10 rfl ?_
    refine k_sub (ls' := [(1, v0)]) (k_sbl_ok _ _ ⟨Or.inr rfl, trivial⟩) ?_
    exact okX9_cant_b14  _ _ _ _ _ _ h
theorem okX9_cant {A : k_H} {x0 : Int} {r : Int} {A1 : k_H} (h : fX9_cant A x0 = some (r, A1)) : k_AM 2 mX9_cant [(1, x0)] A r A1 :=
  k_AM_of2 (ls := [(1, x0)]) (Or.inl (by decide +kernel)) (by decide +kernel) (by decide) rfl (Nat.le_of_ble_eq_true rfl) ⟨Or.inr rfl, trivial⟩ (okX9_cant_b0 A x0 r A1 h)
/-! X9_door -/
def fX9_door_b0 (A : k_H) (v0 v1 v2 v3 : Int) : Option (Int × k_H) := if k_isO A v0 9 then (k_lt (k_wt A v0 0 0) fun A2 => k_bd (fX9_isShow A2 v0 v1) fun r4 A5 => if r4 = 0 then (some (0, A5)) else (k_bd (fX9_isIn A5 v2 0 13) fun r9 A10 => if r9 = 0 then (some (0, A10)) else (if k_isO A10 v0 9 then (if k_isA A10 (k_rd A10 v0 24) 21 (k_wr (k_wr (14 * v1) + v2)) then (if 0 ≤ (k_rd A10 (k_rd A10 v0 24) (k_wr (k_wr (14 * v1) + v2))) then (if 0 ≤ v3 then (if 1000000 < v3 then (some (0, A10)) else (if k_isA A10 (k_rd A10 v0 25) 21 (k_wr (k_wr (14 * v1) + v2)) then (k_lt (k_wt A10 (k_rd A10 v0 25) (k_wr (k_wr (14 * v1) + v2)) v3) fun A19 => some (1, A19)) else none)) else (some (0, A10))) else (some (0, A10))) else none) else none))) else none
def fX9_door (A : k_H) (x0 x1 x2 x3 : Int) : Option (Int × k_H) := fX9_door_b0 A x0 x1 x2 x3
set_option maxRecDepth 100000 in
theorem okX9_door_b0 (A : k_H) (v0 v1 v2 v3 : Int) (r : Int) (A' : k_H) (h : fX9_door_b0 A v0 v1 v2 v3 = some (r, A')) : k_AW 2 mX9_door 0 [(1, v0), (0, v1), (0, v2), (0, v3)] [] A r A' := by
  unfold fX9_door_b0 at h
  refine k_aload_n (pc := 0) (x := v0) dX9_door_0 rfl rfl ?_
  refine k_iconst (pc := 1) dX9_door_1 ⟨by decide, by decide⟩ ?_
  obtain ⟨hc1, h⟩ := k_pk h
  refine k_putf (pc := 2) (t := 0) (fi := 0) dX9_door_2 flX9_102 rfl rfl hc1 rfl ?_
  obtain ⟨A2, eA3, h⟩ := k_pl h
  refine k_hq eA3 ?_
  refine k_aload_n (pc := 5) (x := v0) dX9_door_5 rfl rfl ?_
  refine k_iload_n (pc := 6) (x := v1) dX9_door_6 rfl rfl ?_
  have hf7 := k_oW eA3 hc1
  obtain ⟨r4, A5, hq6, h⟩ := k_pb h
  refine k_callV (pc := 7) (ci := 9) (a := v0) (as := [(0, v1)]) (st := []) (st1 := [(0, r4)]) dX9_door_7 cbX9_isShow (k_gt 1054 (by decide +kernel) (by decide +kernel)) cvX9_isShow.1 cvX9_isShow.2 rfl (by decide) hf7 (by omega) rfl (Nat.le_of_ble_eq_true rfl) (okX9_isShow hq6) rfl ?_
  refine k_if_eq (pc := 10) (tgt := 47) dX9_door_10 rfl (fun c8 => ?_) (fun c8 => ?_)
  · rw [if_pos c8] at h
    refine k_iconst (pc := 47) dX9_door_47 ⟨by decide, by decide⟩ ?_
    obtain ⟨rfl, rfl⟩ := k_pr h
    exact k_ret (pc := 48) dX9_door_48 rfl rfl (by decide +kernel)
  · rw [if_neg c8] at h
    refine k_iload_n (pc := 13) (x := v2) dX9_door_13 rfl rfl ?_
    refine k_iconst (pc := 14) dX9_door_14 ⟨by decide, by decide⟩ ?_
    refine k_bipush (pc := 15) dX9_door_15 ⟨by decide, by decide⟩ (by decide +kernel) ?_
    obtain ⟨r9, A10, hq11, h⟩ := k_pb h
    refine k_callS (pc := 17) (as := [(0, v2), (0, 0), (0, 13)]) (st := []) (st1 := [(0, r9)]) dX9_door_17 cbX9_isIn (k_gt 1027 (by decide +kernel) (by decide +kernel)) (k_gt 1028 (by decide +kernel) (by decide +kernel)) (by omega) rfl (Nat.le_of_ble_eq_true rfl) (okX9_isIn hq11) rfl ?_
    refine k_if_eq (pc := 20) (tgt := 47) dX9_door_20 rfl (fun c12 => ?_) (fun c12 => ?_)
    · rw [if_pos c12] at h
      refine k_iconst (pc := 47) dX9_door_47 ⟨by decide, by decide⟩ ?_
      obtain ⟨rfl, rfl⟩ := k_pr h
      exact k_ret (pc := 48) dX9_door_48 rfl rfl (by decide +kernel)
    · rw [if_neg c12] at h
      refine k_aload_n (pc := 23) (x := v0) dX9_door_23 rfl rfl ?_
      obtain ⟨hc13, h⟩ := k_pk h
      refine k_getf (pc := 24) (t := 1) (fi := 24) dX9_door_24 flX9_65 rfl rfl hc13 ?_
      refine k_bipush (pc := 27) dX9_door_27 ⟨by decide, by decide⟩ (by decide +kernel) ?_
      refine k_iload_n (pc := 29) (x := v1) dX9_door_29 rfl rfl ?_
      refine k_imul (pc := 30) dX9_door_30 ?_
      refine k_iload_n (pc := 31) (x := v2) dX9_door_31 rfl rfl ?_
      refine k_iadd (pc := 32) dX9_door_32 ?_
      obtain ⟨hc14, h⟩ := k_pk h
      refine k_iaload (pc := 33) dX9_door_33 hc14 ?_
      refine k_if_lt (pc := 34) (tgt := 47) dX9_door_34 rfl (fun c15 => ?_) (fun c15 => ?_)
      · rw [if_neg (Int.not_le.mpr c15)] at h
        refine k_iconst (pc := 47) dX9_door_47 ⟨by decide, by decide⟩ ?_
        obtain ⟨rfl, rfl⟩ := k_pr h
        exact k_ret (pc := 48) dX9_door_48 rfl rfl (by decide +kernel)
      · rw [if_pos (Int.not_lt.mp c15)] at h
        refine k_iload_n (pc := 37) (x := v3) dX9_door_37 rfl rfl ?_
        refine k_if_lt (pc := 38) (tgt := 47) dX9_door_38 rfl (fun c16 => ?_) (fun c16 => ?_)
        · rw [if_neg (Int.not_le.mpr c16)] at h
          refine k_iconst (pc := 47) dX9_door_47 ⟨by decide, by decide⟩ ?_
          obtain ⟨rfl, rfl⟩ := k_pr h
          exact k_ret (pc := 48) dX9_door_48 rfl rfl (by decide +kernel)
        · rw [if_pos (Int.not_lt.mp c16)] at h
          refine k_iload_n (pc := 41) (x := v3) dX9_door_41 rfl rfl ?_
          refine k_ldci (pc := 42) (n := 1000000) dX9_door_42 (k_gt 1181 (by decide +kernel) (by decide +kernel)) ⟨by decide, by decide⟩ ?_
          refine k_icmp_le (pc := 44) (tgt := 49) dX9_door_44 rfl (fun c17 => ?_) (fun c17 => ?_)
          · rw [if_neg (Int.not_lt.mpr c17)] at h
            refine k_aload_n (pc := 49) (x := v0) dX9_door_49 rfl rfl ?_
            refine k_getf (pc := 50) (t := 1) (fi := 25) dX9_door_50 flX9_68 rfl rfl hc13 ?_
            refine k_bipush (pc := 53) dX9_door_53 ⟨by decide, by decide⟩ (by decide +kernel) ?_
            refine k_iload_n (pc := 55) (x := v1) dX9_door_55 rfl rfl ?_
            refine k_imul (pc := 56) dX9_door_56 ?_
            refine k_iload_n (pc := 57) (x := v2) dX9_door_57 rfl rfl ?_
            refine k_iadd (pc := 58) dX9_door_58 ?_
            refine k_iload_n (pc := 59) (x := v3) dX9_door_59 rfl rfl ?_
            obtain ⟨hc18, h⟩ := k_pk h
            refine k_iastore (pc := 60) dX9_door_60 hc18 ?_
            obtain ⟨A19, eA20, h⟩ := k_pl h
            refine k_hq eA20 ?_
            refine k_iconst (pc := 61) dX9_door_61 ⟨by decide, by decide⟩ ?_
            obtain ⟨rfl, rfl⟩ := k_pr h
            exact k_ret (pc := 62) dX9_door_62 rfl rfl (by decide +kernel)
          · rw [if_pos (Int.not_le.mp c17)] at h
            refine k_iconst (pc := 47) dX9_door_47 ⟨by decide, by decide⟩ ?_
            obtain ⟨rfl, rfl⟩ := k_pr h
            exact k_ret (pc := 48) dX9_door_48 rfl rfl (by decide +kernel)
theorem okX9_door {A : k_H} {x0 x1 x2 x3 : Int} {r : Int} {A1 : k_H} (h : fX9_door A x0 x1 x2 x3 = some (r, A1)) : k_AM 2 mX9_door [(1, x0), (0, x1), (0, x2), (0, x3)] A r A1 :=
  k_AM_of2 (ls := [(1, x0), (0, x1), (0, x2), (0, x3)]) (Or.inl (by decide +kernel)) (by decide +kernel) (by decide) rfl (Nat.le_of_ble_eq_true rfl) ⟨Or.inr rfl, Or.inr rfl, Or.inr rfl, Or.inr rfl, trivial⟩ (okX9_door_b0 A x0 x1 x2 x3 r A1 h)
/-! X9_shareOf -/
def fX9_shareOf_b109 (A : k_H) (v2 v3 v5 v6 v7 s0 : Int) : Option (Int × k_H) := if v3 = 0 then (some (v2, A)) else (if v3 = 1 then (some (v5, A)) else (if v3 = 2 then (some (k_wr (v7 + s0), A)) else (some (k_wr (v6 + s0), A))))
def fX9_shareOf_b108 (A : k_H) (v2 v3 v5 v6 v7 : Int) : Option (Int × k_H) := fX9_shareOf_b109 A v2 v3 v5 v6 v7 0
def fX9_shareOf_b69 (A : k_H) (v0 v2 v3 v4 v5 s0 : Int) : Option (Int × k_H) := if k_wr (k_wr (v2 + s0) - v5) < 0 then (if k_isO A v0 9 then (if k_isA A (k_rd A v0 35) 21 (k_wr (v4 + 10)) then (if (k_rd A (k_rd A v0 35) (k_wr (v4 + 10))) = 1 then (fX9_shareOf_b109 A v2 v3 v5 s0 (k_wr (k_wr (v2 + s0) - v5)) (k_wr (Int.tdiv (k_wr (1 - k_wr (k_wr (v2 + s0) - v5))) 2))) else (fX9_shareOf_b108 A v2 v3 v5 s0 (k_wr (k_wr (v2 + s0) - v5)))) else none) else none) else (fX9_shareOf_b108 A v2 v3 v5 s0 (k_wr (k_wr (v2 + s0) - v5)))
def fX9_shareOf_b0 (A : k_H) (v0 v1 v2 v3 : Int) : Option (Int × k_H) := if k_isO A v0 9 then (k_bd (fX9_company A v0 v1 v2) fun r1 A2 => if k_isO A2 v0 9 then (if k_isA A2 (k_rd A2 v0 35) 21 (k_wr (k_wr (12 * v1) + 0)) then (if k_isA A2 (k_rd A2 v0 35) 21 (k_wr (k_wr (12 * v1) + 8)) then (if k_isA A2 (k_rd A2 v0 35) 21 (k_wr (k_wr (12 * v1) + 9)) then (if k_wr (Int.tdiv (k_wr ((k_rd A2 (k_rd A2 v0 35) (k_wr (k_wr (12 * v1) + 0))) * (k_rd A2 (k_rd A2 v0 35) (k_wr (k_wr (12 * v1) + 8))))) 100) < (k_rd A2 (k_rd A2 v0 35) (k_wr (k_wr (12 * v1) + 9))) then (fX9_shareOf_b69 A2 v0 v2 v3 (k_wr (12 * v1)) r1 (k_wr (Int.tdiv (k_wr ((k_rd A2 (k_rd A2 v0 35) (k_wr (k_wr (12 * v1) + 0))) * (k_rd A2 (k_rd A2 v0 35) (k_wr (k_wr (12 * v1) + 8))))) 100))) else (fX9_shareOf_b69 A2 v0 v2 v3 (k_wr (12 * v1)) r1 (k_rd A2 (k_rd A2 v0 35) (k_wr (k_wr (12 * v1) + 9))))) else none) else none) else none) else none) else none
def fX9_shareOf (A : k_H) (x0 x1 x2 x3 : Int) : Option (Int × k_H) := fX9_shareOf_b0 A x0 x1 x2 x3
set_option maxRecDepth 100000 in
theorem okX9_shareOf_b109 (A : k_H) (v2 v3 v5 v6 v7 s0 : Int) (r : Int) (A' : k_H) (h : fX9_shareOf_b109 A v2 v3 v5 v6 v7 s0 = some (r, A')) : k_AW 2 mX9_shareOf 109 [(3, 0), (3, 0), (0, v2), (0, v3), (3, 0), (0, v5), (0, v6), (0, v7), (3, 0)] [(0, s0)] A r A' := by
  unfold fX9_shareOf_b109 at h
  refine k_istore (pc := 109) dX9_shareOf_109 (Nat.le_of_ble_eq_true rfl) rfl ?_
  show k_AW _ _ _ [(3, 0), (3, 0), (0, v2), (0, v3), (3, 0), (0, v5), (0, v6), (0, v7), (0, s0)] _ _ _ _
  refine k_iload_n (pc := 111) (x := v3) dX9_shareOf_111 rfl rfl ?_
  refine k_if_ne (pc := 112) (tgt := 119) dX9_shareOf_112 rfl (fun c1 => ?_) (fun c1 => ?_)
  · rw [if_neg c1] at h
    refine k_iload_n (pc := 119) (x := v3) dX9_shareOf_119 rfl rfl ?_
    refine k_iconst (pc := 120) dX9_shareOf_120 ⟨by decide, by decide⟩ ?_
    refine k_icmp_ne (pc := 121) (tgt := 129) dX9_shareOf_121 rfl (fun c2 => ?_) (fun c2 => ?_)
    · rw [if_neg c2] at h
      refine k_iload_n (pc := 129) (x := v3) dX9_shareOf_129 rfl rfl ?_
      refine k_iconst (pc := 130) dX9_shareOf_130 ⟨by decide, by decide⟩ ?_
      refine k_icmp_ne (pc := 131) (tgt := 142) dX9_shareOf_131 rfl (fun c3 => ?_) (fun c3 => ?_)
      · rw [if_neg c3] at h
        refine k_iload (pc := 142) (x := v6) dX9_shareOf_142 rfl ?_
        refine k_iload (pc := 144) (x := s0) dX9_shareOf_144 rfl ?_
        refine k_iadd (pc := 146) dX9_shareOf_146 ?_
        obtain ⟨rfl, rfl⟩ := k_pr h
        exact k_ret (pc := 147) dX9_shareOf_147 rfl rfl rfl
      · rw [if_pos (Classical.not_not.mp c3)] at h
        refine k_iload (pc := 134) (x := v7) dX9_shareOf_134 rfl ?_
        refine k_iload (pc := 136) (x := s0) dX9_shareOf_136 rfl ?_
        refine k_iadd (pc := 138) dX9_shareOf_138 ?_
        refine k_goto (pc := 139) (tgt := 147) dX9_shareOf_139 rfl ?_
        obtain ⟨rfl, rfl⟩ := k_pr h
        exact k_ret (pc := 147) dX9_shareOf_147 rfl rfl rfl
    · rw [if_pos (Classical.not_not.mp c2)] at h
      refine k_iload (pc := 124) (x := v5) dX9_shareOf_124 rfl ?_
      refine k_goto (pc := 126) (tgt := 147) dX9_shareOf_126 rfl ?_
      obtain ⟨rfl, rfl⟩ := k_pr h
      exact k_ret (pc := 147) dX9_shareOf_147 rfl rfl rfl
  · rw [if_pos (Classical.not_not.mp c1)] at h
    refine k_iload_n (pc := 115) (x := v2) dX9_shareOf_115 rfl rfl ?_
    refine k_goto (pc := 116) (tgt := 147) dX9_shareOf_116 rfl ?_
    obtain ⟨rfl, rfl⟩ := k_pr h
    exact k_ret (pc := 147) dX9_shareOf_147 rfl rfl rfl
set_option maxRecDepth 100000 in
theorem okX9_shareOf_b108 (A : k_H) (v2 v3 v5 v6 v7 : Int) (r : Int) (A' : k_H) (h : fX9_shareOf_b108 A v2 v3 v5 v6 v7 = some (r, A')) : k_AW 2 mX9_shareOf 108 [(3, 0), (3, 0), (0, v2), (0, v3), (3, 0), (0, v5), (0, v6), (0, v7), (3, 0)] [] A r A' := by
  unfold fX9_shareOf_b108 at h
  refine k_iconst (pc := 108) dX9_shareOf_108 ⟨by decide, by decide⟩ ?_
  refine k_sub (ls' := [(3, 0), (3, 0), (0, v2), (0, v3), (3, 0), (0, v5), (0, v6), (0, v7), (3, 0)]) (k_sbl_ok _ _ ⟨Or.inl rfl, Or.inl rfl, Or.inr rfl, Or.inr rfl, Or.inl rfl, Or.inr rfl, Or.inr rfl, Or.inr rfl, Or.inl rfl, trivial⟩) ?_
  exact okX9_shareOf_b109  _ _ _ _ _ _ _ _ _ h
set_option maxRecDepth 100000 in
theorem okX9_shareOf_b69 (A : k_H) (v0 v2 v3 v4 v5 s0 : Int) (r : Int) (A' : k_H) (h : fX9_shareOf_b69 A v0 v2 v3 v4 v5 s0 = some (r, A')) : k_AW 2 mX9_shareOf 69 [(1, v0), (3, 0), (0, v2), (0, v3), (0, v4), (0, v5), (3, 0), (3, 0), (3, 0)] [(0, s0)] A r A' := by
  unfold fX9_shareOf_b69 at h
  refine k_istore (pc := 69) dX9_shareOf_69 (Nat.le_of_ble_eq_true rfl) rfl ?_
  show k_AW _ _ _ [(1, v0), (3, 0), (0, v2), (0, v3), (0, v4), (0, v5), (0, s0), (3, 0), (3, 0)] _ _ _ _
  refine k_iload_n (pc := 71) (x := v2) dX9_shareOf_71 rfl rfl ?_
  refine k_iload (pc := 72) (x := s0) dX9_shareOf_72 rfl ?_
  refine k_iadd (pc := 74) dX9_shareOf_74 ?_
  refine k_iload (pc := 75) (x := v5) dX9_shareOf_75 rfl ?_
  refine k_isub (pc := 77) dX9_shareOf_77 ?_
  refine k_istore (pc := 78) dX9_shareOf_78 (Nat.le_of_ble_eq_true rfl) rfl ?_
  show k_AW _ _ _ [(1, v0), (3, 0), (0, v2), (0, v3), (0, v4), (0, v5), (0, s0), (0, k_wr (k_wr (v2 + s0) - v5)), (3, 0)] _ _ _ _
  refine k_iload (pc := 80) (x := k_wr (k_wr (v2 + s0) - v5)) dX9_shareOf_80 rfl ?_
  refine k_if_ge (pc := 82) (tgt := 108) dX9_shareOf_82 rfl (fun c1 => ?_) (fun c1 => ?_)
  · rw [if_neg (Int.not_lt.mpr c1)] at h
    refine k_sub (ls' := [(3, 0), (3, 0), (0, v2), (0, v3), (3, 0), (0, v5), (0, s0), (0, k_wr (k_wr (v2 + s0) - v5)), (3, 0)]) (k_sbl_ok _ _ ⟨Or.inl rfl, Or.inl rfl, Or.inr rfl, Or.inr rfl, Or.inl rfl, Or.inr rfl, Or.inr rfl, Or.inr rfl, Or.inl rfl, trivial⟩) ?_
    exact okX9_shareOf_b108  _ _ _ _ _ _ _ _ h
  · rw [if_pos (Int.not_le.mp c1)] at h
    refine k_aload_n (pc := 85) (x := v0) dX9_shareOf_85 rfl rfl ?_
    obtain ⟨hc2, h⟩ := k_pk h
    refine k_getf (pc := 86) (t := 1) (fi := 35) dX9_shareOf_86 flX9_99 rfl rfl hc2 ?_
    refine k_iload (pc := 89) (x := v4) dX9_shareOf_89 rfl ?_
    refine k_bipush (pc := 91) dX9_shareOf_91 ⟨by decide, by decide⟩ (by decide +kernel) ?_
    refine k_iadd (pc := 93) dX9_shareOf_93 ?_
    obtain ⟨hc3, h⟩ := k_pk h
    refine k_iaload (pc := 94) dX9_shareOf_94 hc3 ?_
    refine k_iconst (pc := 95) dX9_shareOf_95 ⟨by decide, by decide⟩ ?_
    refine k_icmp_ne (pc := 96) (tgt := 108) dX9_shareOf_96 rfl (fun c4 => ?_) (fun c4 => ?_)
    · rw [if_neg c4] at h
      refine k_sub (ls' := [(3, 0), (3, 0), (0, v2), (0, v3), (3, 0), (0, v5), (0, s0), (0, k_wr (k_wr (v2 + s0) - v5)), (3, 0)]) (k_sbl_ok _ _ ⟨Or.inl rfl, Or.inl rfl, Or.inr rfl, Or.inr rfl, Or.inl rfl, Or.inr rfl, Or.inr rfl, Or.inr rfl, Or.inl rfl, trivial⟩) ?_
      exact okX9_shareOf_b108  _ _ _ _ _ _ _ _ h
    · rw [if_pos (Classical.not_not.mp c4)] at h
      refine k_iconst (pc := 99) dX9_shareOf_99 ⟨by decide, by decide⟩ ?_
      refine k_iload (pc := 100) (x := k_wr (k_wr (v2 + s0) - v5)) dX9_shareOf_100 rfl ?_
      refine k_isub (pc := 102) dX9_shareOf_102 ?_
      refine k_iconst (pc := 103) dX9_shareOf_103 ⟨by decide, by decide⟩ ?_
      refine k_idiv (pc := 104) dX9_shareOf_104 (by decide) ?_
      refine k_goto (pc := 105) (tgt := 109) dX9_shareOf_105 rfl ?_
      refine k_sub (ls' := [(3, 0), (3, 0), (0, v2), (0, v3), (3, 0), (0, v5), (0, s0), (0, k_wr (k_wr (v2 + s0) - v5)), (3, 0)]) (k_sbl_ok _ _ ⟨Or.inl rfl, Or.inl rfl, Or.inr rfl, Or.inr rfl, Or.inl rfl, Or.inr rfl, Or.inr rfl, Or.inr rfl, Or.inl rfl, trivial⟩) ?_
      exact okX9_shareOf_b109  _ _ _ _ _ _ _ _ _ h
set_option maxRecDepth 100000 in
theorem okX9_shareOf_b0 (A : k_H) (v0 v1 v2 v3 : Int) (r : Int) (A' : k_H) (h : fX9_shareOf_b0 A v0 v1 v2 v3 = some (r, A')) : k_AW 2 mX9_shareOf 0 [(1, v0), (0, v1), (0, v2), (0, v3), (3, 0), (3, 0), (3, 0), (3, 0), (3, 0)] [] A r A' := by
  unfold fX9_shareOf_b0 at h
  refine k_bipush (pc := 0) dX9_shareOf_0 ⟨by decide, by decide⟩ (by decide +kernel) ?_
  refine k_iload_n (pc := 2) (x := v1) dX9_shareOf_2 rfl rfl ?_
  refine k_imul (pc := 3) dX9_shareOf_3 ?_
  refine k_istore (pc := 4) dX9_shareOf_4 (Nat.le_of_ble_eq_true rfl) rfl ?_
  show k_AW _ _ _ [(1, v0), (0, v1), (0, v2), (0, v3), (0, k_wr (12 * v1)), (3, 0), (3, 0), (3, 0), (3, 0)] _ _ _ _
  refine k_aload_n (pc := 6) (x := v0) dX9_shareOf_6 rfl rfl ?_
  refine k_iload_n (pc := 7) (x := v1) dX9_shareOf_7 rfl rfl ?_
  refine k_iload_n (pc := 8) (x := v2) dX9_shareOf_8 rfl rfl ?_
  obtain ⟨hc4, h⟩ := k_pk h
  obtain ⟨r1, A2, hq3, h⟩ := k_pb h
  refine k_callV (pc := 9) (ci := 9) (a := v0) (as := [(0, v1), (0, v2)]) (st := []) (st1 := [(0, r1)]) dX9_shareOf_9 cbX9_company (k_gt 1194 (by decide +kernel) (by decide +kernel)) cvX9_company.1 cvX9_company.2 rfl (by decide) hc4 (by omega) rfl (Nat.le_of_ble_eq_true rfl) (okX9_company hq3) rfl ?_
  refine k_istore (pc := 12) dX9_shareOf_12 (Nat.le_of_ble_eq_true rfl) rfl ?_
  show k_AW _ _ _ [(1, v0), (0, v1), (0, v2), (0, v3), (0, k_wr (12 * v1)), (0, r1), (3, 0), (3, 0), (3, 0)] _ _ _ _
  refine k_aload_n (pc := 14) (x := v0) dX9_shareOf_14 rfl rfl ?_
  obtain ⟨hc5, h⟩ := k_pk h
  refine k_getf (pc := 15) (t := 1) (fi := 35) dX9_shareOf_15 flX9_99 rfl rfl hc5 ?_
  refine k_iload (pc := 18) (x := k_wr (12 * v1)) dX9_shareOf_18 rfl ?_
  refine k_iconst (pc := 20) dX9_shareOf_20 ⟨by decide, by decide⟩ ?_
  refine k_iadd (pc := 21) dX9_shareOf_21 ?_
  obtain ⟨hc6, h⟩ := k_pk h
  refine k_iaload (pc := 22) dX9_shareOf_22 hc6 ?_
  refine k_aload_n (pc := 23) (x := v0) dX9_shareOf_23 rfl rfl ?_
  refine k_getf (pc := 24) (t := 1) (fi := 35) dX9_shareOf_24 flX9_99 rfl rfl hc5 ?_
  refine k_iload (pc := 27) (x := k_wr (12 * v1)) dX9_shareOf_27 rfl ?_
  refine k_bipush (pc := 29) dX9_shareOf_29 ⟨by decide, by decide⟩ (by decide +kernel) ?_
  refine k_iadd (pc := 31) dX9_shareOf_31 ?_
  obtain ⟨hc7, h⟩ := k_pk h
  refine k_iaload (pc := 32) dX9_shareOf_32 hc7 ?_
  refine k_imul (pc := 33) dX9_shareOf_33 ?_
  refine k_bipush (pc := 34) dX9_shareOf_34 ⟨by decide, by decide⟩ (by decide +kernel) ?_
  refine k_idiv (pc := 36) dX9_shareOf_36 (by decide) ?_
  refine k_istore (pc := 37) dX9_shareOf_37 (Nat.le_of_ble_eq_true rfl) rfl ?_
  show k_AW _ _ _ [(1, v0), (0, v1), (0, v2), (0, v3), (0, k_wr (12 * v1)), (0, r1), (0, k_wr (Int.tdiv (k_wr ((k_rd A2 (k_rd A2 v0 35) (k_wr (k_wr (12 * v1) + 0))) * (k_rd A2 (k_rd A2 v0 35) (k_wr (k_wr (12 * v1) + 8))))) 100)), (3, 0), (3, 0)] _ _ _ _
  refine k_iload (pc := 39) (x := k_wr (Int.tdiv (k_wr ((k_rd A2 (k_rd A2 v0 35) (k_wr (k_wr (12 * v1) + 0))) * (k_rd A2 (k_rd A2 v0 35) (k_wr (k_wr (12 * v1) + 8))))) 100)) dX9_shareOf_39 rfl ?_
  refine k_aload_n (pc := 41) (x := v0) dX9_shareOf_41 rfl rfl ?_
  refine k_getf (pc := 42) (t := 1) (fi := 35) dX9_shareOf_42 flX9_99 rfl rfl hc5 ?_
  refine k_iload (pc := 45) (x := k_wr (12 * v1)) dX9_shareOf_45 rfl ?_
  refine k_bipush (pc := 47) dX9_shareOf_47 ⟨by decide, by decide⟩ (by decide +kernel) ?_
  refine k_iadd (pc := 49) dX9_shareOf_49 ?_
  obtain ⟨hc8, h⟩ := k_pk h
  refine k_iaload (pc := 50) dX9_shareOf_50 hc8 ?_
  refine k_icmp_ge (pc := 51) (tgt := 59) dX9_shareOf_51 rfl (fun c9 => ?_) (fun c9 => ?_)
  · rw [if_neg (Int.not_lt.mpr c9)] at h
    refine k_aload_n (pc := 59) (x := v0) dX9_shareOf_59 rfl rfl ?_
    refine k_getf (pc := 60) (t := 1) (fi := 35) dX9_shareOf_60 flX9_99 rfl rfl hc5 ?_
    refine k_iload (pc := 63) (x := k_wr (12 * v1)) dX9_shareOf_63 rfl ?_
    refine k_bipush (pc := 65) dX9_shareOf_65 ⟨by decide, by decide⟩ (by decide +kernel) ?_
    refine k_iadd (pc := 67) dX9_shareOf_67 ?_
    refine k_iaload (pc := 68) dX9_shareOf_68 hc8 ?_
    refine k_sub (ls' := [(1, v0), (3, 0), (0, v2), (0, v3), (0, k_wr (12 * v1)), (0, r1), (3, 0), (3, 0), (3, 0)]) (k_sbl_ok _ _ ⟨Or.inr rfl, Or.inl rfl, Or.inr rfl, Or.inr rfl, Or.inr rfl, Or.inr rfl, Or.inl rfl, Or.inl rfl, Or.inl rfl, trivial⟩) ?_
    exact okX9_shareOf_b69  _ _ _ _ _ _ _ _ _ h
  · rw [if_pos (Int.not_le.mp c9)] at h
    refine k_iload (pc := 54) (x := k_wr (Int.tdiv (k_wr ((k_rd A2 (k_rd A2 v0 35) (k_wr (k_wr (12 * v1) + 0))) * (k_rd A2 (k_rd A2 v0 35) (k_wr (k_wr (12 * v1) + 8))))) 100)) dX9_shareOf_54 rfl ?_
    refine k_goto (pc := 56) (tgt := 69) dX9_shareOf_56 rfl ?_
    refine k_sub (ls' := [(1, v0), (3, 0), (0, v2), (0, v3), (0, k_wr (12 * v1)), (0, r1), (3, 0), (3, 0), (3, 0)]) (k_sbl_ok _ _ ⟨Or.inr rfl, Or.inl rfl, Or.inr rfl, Or.inr rfl, Or.inr rfl, Or.inr rfl, Or.inl rfl, Or.inl rfl, Or.inl rfl, trivial⟩) ?_
    exact okX9_shareOf_b69  _ _ _ _ _ _ _ _ _ h
theorem okX9_shareOf {A : k_H} {x0 x1 x2 x3 : Int} {r : Int} {A1 : k_H} (h : fX9_shareOf A x0 x1 x2 x3 = some (r, A1)) : k_AM 2 mX9_shareOf [(1, x0), (0, x1), (0, x2), (0, x3)] A r A1 :=
  k_AM_of2 (ls := [(1, x0), (0, x1), (0, x2), (0, x3), (3, 0), (3, 0), (3, 0), (3, 0), (3, 0)]) (Or.inl (by decide +kernel)) (by decide +kernel) (by decide) rfl (Nat.le_of_ble_eq_true rfl) ⟨Or.inr rfl, Or.inr rfl, Or.inr rfl, Or.inr rfl, rfl, rfl, rfl, rfl, rfl, trivial⟩ (okX9_shareOf_b0 A x0 x1 x2 x3 r A1 h)
/-! X9_fits -/
def fX9_fits_b0 (A : k_H) (v0 v1 v2 : Int) : Option (Int × k_H) := if k_isO A v0 9 then (k_lt (k_wt A v0 0 0) fun A2 => k_bd (fX9_isShow A2 v0 v1) fun r4 A5 => if r4 = 0 then (some ((-3), A5)) else (if k_isO A5 v0 9 then (k_bd (fX9_isHall A5 v0 v2) fun r9 A10 => if r9 = 0 then (some ((-3), A10)) else (if k_isO A10 v0 9 then (k_bd (fX9_fit A10 v0 v1 v2) fun r14 A15 => some (r14, A15)) else none)) else none)) else none
def fX9_fits (A : k_H) (x0 x1 x2 : Int) : Option (Int × k_H) := fX9_fits_b0 A x0 x1 x2
set_option maxRecDepth 100000 in
theorem okX9_fits_b0 (A : k_H) (v0 v1 v2 : Int) (r : Int) (A' : k_H) (h : fX9_fits_b0 A v0 v1 v2 = some (r, A')) : k_AW 3 mX9_fits 0 [(1, v0), (0, v1), (0, v2)] [] A r A' := by
  unfold fX9_fits_b0 at h
  refine k_aload_n (pc := 0) (x := v0) dX9_fits_0 rfl rfl ?_
  refine k_iconst (pc := 1) dX9_fits_1 ⟨by decide, by decide⟩ ?_
  obtain ⟨hc1, h⟩ := k_pk h
  refine k_putf (pc := 2) (t := 0) (fi := 0) dX9_fits_2 flX9_102 rfl rfl hc1 rfl ?_
  obtain ⟨A2, eA3, h⟩ := k_pl h
  refine k_hq eA3 ?_
  refine k_aload_n (pc := 5) (x := v0) dX9_fits_5 rfl rfl ?_
  refine k_iload_n (pc := 6) (x := v1) dX9_fits_6 rfl rfl ?_
  have hf7 := k_oW eA3 hc1
  obtain ⟨r4, A5, hq6, h⟩ := k_pb h
  refine k_callV (pc := 7) (ci := 9) (a := v0) (as := [(0, v1)]) (st := []) (st1 := [(0, r4)]) dX9_fits_7 cbX9_isShow (k_gt 1054 (by decide +kernel) (by decide +kernel)) cvX9_isShow.1 cvX9_isShow.2 rfl (by decide) hf7 (by omega) rfl (Nat.le_of_ble_eq_true rfl) (okX9_isShow hq6) rfl ?_
  refine k_if_eq (pc := 10) (tgt := 30) dX9_fits_10 rfl (fun c8 => ?_) (fun c8 => ?_)
  · rw [if_pos c8] at h
    refine k_bipush (pc := 30) dX9_fits_30 ⟨by decide, by decide⟩ (by decide +kernel) ?_
    obtain ⟨rfl, rfl⟩ := k_pr h
    exact k_ret (pc := 32) dX9_fits_32 rfl rfl rfl
  · rw [if_neg c8] at h
    refine k_aload_n (pc := 13) (x := v0) dX9_fits_13 rfl rfl ?_
    refine k_iload_n (pc := 14) (x := v2) dX9_fits_14 rfl rfl ?_
    obtain ⟨hc12, h⟩ := k_pk h
    obtain ⟨r9, A10, hq11, h⟩ := k_pb h
    refine k_callV (pc := 15) (ci := 9) (a := v0) (as := [(0, v2)]) (st := []) (st1 := [(0, r9)]) dX9_fits_15 cbX9_isHall (k_gt 1042 (by decide +kernel) (by decide +kernel)) cvX9_isHall.1 cvX9_isHall.2 rfl (by decide) hc12 (by omega) rfl (Nat.le_of_ble_eq_true rfl) (okX9_isHall hq11) rfl ?_
    refine k_if_eq (pc := 18) (tgt := 30) dX9_fits_18 rfl (fun c13 => ?_) (fun c13 => ?_)
    · rw [if_pos c13] at h
      refine k_bipush (pc := 30) dX9_fits_30 ⟨by decide, by decide⟩ (by decide +kernel) ?_
      obtain ⟨rfl, rfl⟩ := k_pr h
      exact k_ret (pc := 32) dX9_fits_32 rfl rfl rfl
    · rw [if_neg c13] at h
      refine k_aload_n (pc := 21) (x := v0) dX9_fits_21 rfl rfl ?_
      refine k_iload_n (pc := 22) (x := v1) dX9_fits_22 rfl rfl ?_
      refine k_iload_n (pc := 23) (x := v2) dX9_fits_23 rfl rfl ?_
      obtain ⟨hc17, h⟩ := k_pk h
      obtain ⟨r14, A15, hq16, h⟩ := k_pb h
      refine k_callV (pc := 24) (ci := 9) (a := v0) (as := [(0, v1), (0, v2)]) (st := []) (st1 := [(0, r14)]) dX9_fits_24 cbX9_fit (k_gt 1062 (by decide +kernel) (by decide +kernel)) cvX9_fit.1 cvX9_fit.2 rfl (by decide) hc17 (by omega) rfl (Nat.le_of_ble_eq_true rfl) (okX9_fit hq16) rfl ?_
      refine k_goto (pc := 27) (tgt := 32) dX9_fits_27 rfl ?_
      obtain ⟨rfl, rfl⟩ := k_pr h
      exact k_ret (pc := 32) dX9_fits_32 rfl rfl rfl
theorem okX9_fits {A : k_H} {x0 x1 x2 : Int} {r : Int} {A1 : k_H} (h : fX9_fits A x0 x1 x2 = some (r, A1)) : k_AM 3 mX9_fits [(1, x0), (0, x1), (0, x2)] A r A1 :=
  k_AM_of2 (ls := [(1, x0), (0, x1), (0, x2)]) (Or.inl (by decide +kernel)) (by decide +kernel) (by decide) rfl (Nat.le_of_ble_eq_true rfl) ⟨Or.inr rfl, Or.inr rfl, Or.inr rfl, trivial⟩ (okX9_fits_b0 A x0 x1 x2 r A1 h)
/-! X9_book -/
def fX9_book_h370 : Nat → k_H → Int → Int → Int → Int → Option (Int × k_H)
  | 0, _, _, _, _, _ => none
  | N + 1, A, v0, v1, v3, v5 => if k_isO A v0 9 then (if k_isA A (k_rd A v0 16) 21 v1 then (if v5 ≤ (k_rd A (k_rd A v0 16) v1) then (if k_isA A (k_rd A v0 33) 21 v5 then (if k_isA A (k_rd A v0 24) 21 (k_wr (k_wr (14 * v1) + v5)) then (k_lt (k_wt A (k_rd A v0 24) (k_wr (k_wr (14 * v1) + v5)) (k_rd A (k_rd A v0 33) v5)) fun A6 => (fX9_book_h370 N) A6 v0 v1 v3 (k_wr (v5 + 1))) else none) else none) else (some (v3, A))) else none) else none
def fX9_book_b345 (k165 : k_H → Int → Int → Int → Int → Int → Option (Int × k_H)) (A : k_H) (v0 v1 v2 v3 v4 : Int) : Option (Int × k_H) := k165 A v0 v1 v2 v3 (k_wr (v4 + (-1)))
def fX9_book_b310 (k165 : k_H → Int → Int → Int → Int → Int → Option (Int × k_H)) (A : k_H) (v0 v1 v2 v3 v4 : Int) : Option (Int × k_H) := k165 A v0 v1 v2 v3 (k_wr (v4 + (-1)))
def fX9_book_b303 (k165 : k_H → Int → Int → Int → Int → Int → Option (Int × k_H)) (k259 : k_H → Int → Int → Int → Int → Int → Int → Option (Int × k_H)) (A : k_H) (v0 v1 v2 v3 v4 v5 s0 s1 s2 : Int) : Option (Int × k_H) := if k_isA A s0 21 s1 then (k_lt (k_wt A s0 s1 s2) fun A2 => k259 A2 v0 v1 v2 v3 v4 (k_wr (v5 + 1))) else none
def fX9_book_b108 (k57 : k_H → Int → Int → Int → Int → Option (Int × k_H)) (A : k_H) (v0 v1 v2 v3 : Int) : Option (Int × k_H) := k57 A v0 v1 v2 (k_wr (v3 + 1))
def fX9_book_h259 (k165 : k_H → Int → Int → Int → Int → Int → Option (Int × k_H)) : Nat → k_H → Int → Int → Int → Int → Int → Int → Option (Int × k_H)
  | 0, _, _, _, _, _, _, _ => none
  | N + 1, A, v0, v1, v2, v3, v4, v5 => if k_isO A v0 9 then (if k_isA A (k_rd A v0 16) 21 v1 then (if v5 ≤ (k_rd A (k_rd A v0 16) v1) then (if k_isA A (k_rd A v0 27) 21 v5 then (if (k_rd A (k_rd A v0 27) v5) < v2 then (if k_isA A (k_rd A v0 26) 21 (k_rd A (k_rd A v0 27) v5) then (fX9_book_b303 k165 (fX9_book_h259 k165 N) A v0 v1 v2 v3 v4 v5 (k_rd A v0 33) v5 (k_rd A (k_rd A v0 26) (k_rd A (k_rd A v0 27) v5))) else none) else (fX9_book_b303 k165 (fX9_book_h259 k165 N) A v0 v1 v2 v3 v4 v5 (k_rd A v0 33) v5 (-1))) else none) else (fX9_book_b310 k165 A v0 v1 v2 v3 v4)) else none) else none
def fX9_book_h165 : Nat → k_H → Int → Int → Int → Int → Int → Option (Int × k_H)
  | 0, _, _, _, _, _, _ => none
  | N + 1, A, v0, v1, v2, v3, v4 => if k_isO A v0 9 then (if k_isA A (k_rd A v0 15) 21 v1 then (if (k_rd A (k_rd A v0 15) v1) ≤ v4 then (if k_isA A (k_rd A v0 27) 21 v4 then (k_lt (k_wt A (k_rd A v0 27) v4 (k_wr ((k_rd A (k_rd A v0 27) v4) + 1))) fun A5 => if k_isA A5 (k_rd A5 v0 27) 21 v4 then (if v2 < (k_rd A5 (k_rd A5 v0 27) v4) then ((fX9_book_h165 N) A5 v0 v1 v2 v3 (k_wr (v4 + (-1)))) else (k_bd (fX9_go A5 v0 v1 v4 v2) fun r10 A11 => if r10 = 0 then ((fX9_book_h165 N) A11 v0 v1 v2 v3 v4) else (if k_isO A11 v0 9 then (if k_isA A11 (k_rd A11 v0 16) 21 v1 then (if (k_rd A11 (k_rd A11 v0 16) v1) < k_wr (v4 + 1) then (if k_isA A11 (k_rd A11 v0 32) 21 (k_wr (v4 + 1)) then (if v3 < (k_rd A11 (k_rd A11 v0 32) (k_wr (v4 + 1))) then (if k_isA A11 (k_rd A11 v0 15) 21 v1 then (fX9_book_h259 (fX9_book_h165 N) k_FU A11 v0 v1 v2 (k_rd A11 (k_rd A11 v0 32) (k_wr (v4 + 1))) (k_wr (v4 + 1)) (k_rd A11 (k_rd A11 v0 15) v1)) else none) else (fX9_book_b310 (fX9_book_h165 N) A11 v0 v1 v2 v3 (k_wr (v4 + 1)))) else none) else (k_bd (fX9_wasThere A11 v0 (k_wr (v4 + 1))) fun r17 A18 => if r17 = 0 then (if k_isO A18 v0 9 then (if k_isA A18 (k_rd A18 v0 32) 21 (k_wr (v4 + 1)) then (k_bd (fX9_rest A18 v0 v1 (k_wr (v4 + 1)) v2) fun r23 A24 => if k_wr ((k_rd A18 (k_rd A18 v0 32) (k_wr (v4 + 1))) + r23) ≤ v3 then (fX9_book_b345 (fX9_book_h165 N) A24 v0 v1 v2 v3 (k_wr (v4 + 1))) else (if k_isO A24 v0 9 then (if k_isA A24 (k_rd A24 v0 27) 21 (k_wr (v4 + 1)) then (k_lt (k_wt A24 (k_rd A24 v0 27) (k_wr (v4 + 1)) (-1)) fun A29 => (fX9_book_h165 N) A29 v0 v1 v2 v3 (k_wr (v4 + 1))) else none) else none)) else none) else none) else (fX9_book_b345 (fX9_book_h165 N) A18 v0 v1 v2 v3 (k_wr (v4 + 1))))) else none) else none))) else none) else none) else (fX9_book_h370 k_FU A v0 v1 v3 (k_rd A (k_rd A v0 15) v1))) else none) else none
def fX9_book_h116 : Nat → k_H → Int → Int → Int → Int → Option (Int × k_H)
  | 0, _, _, _, _, _ => none
  | N + 1, A, v0, v1, v2, v3 => if v3 < 22050 then (if k_isO A v0 9 then (if k_isA A (k_rd A v0 34) 22 v3 then (k_lt (k_wt A (k_rd A v0 34) v3 0) fun A13 => (fX9_book_h116 N) A13 v0 v1 v2 (k_wr (v3 + 1))) else none) else none) else (if k_isO A v0 9 then (if k_isA A (k_rd A v0 15) 21 v1 then (k_bd (fX9_stand A v0 (k_rd A (k_rd A v0 15) v1) 0 (-1) 0 0 0) fun r4 A5 => if k_isO A5 v0 9 then (if k_isA A5 (k_rd A5 v0 27) 21 (k_rd A (k_rd A v0 15) v1) then (k_lt (k_wt A5 (k_rd A5 v0 27) (k_rd A (k_rd A v0 15) v1) (-1)) fun A9 => fX9_book_h165 k_FU A9 v0 v1 v2 (-1) (k_rd A (k_rd A v0 15) v1)) else none) else none) else none) else none)
def fX9_book_b114 (A : k_H) (v0 v1 v2 : Int) : Option (Int × k_H) := fX9_book_h116 k_FU A v0 v1 v2 0
def fX9_book_h57 : Nat → k_H → Int → Int → Int → Int → Option (Int × k_H)
  | 0, _, _, _, _, _ => none
  | N + 1, A, v0, v1, v2, v3 => if k_isO A v0 9 then (if v3 < (k_rd A v0 20) then (if v2 < 6 then (if k_isA A (k_rd A v0 19) 21 (k_wr (k_wr (6 * v3) + v1)) then (if (k_rd A (k_rd A v0 19) (k_wr (k_wr (6 * v3) + v1))) = 0 then (fX9_book_b108 (fX9_book_h57 N) A v0 v1 v2 v3) else (k_bd (fX9_fit A v0 v1 v3) fun r6 A7 => if r6 = 1 then (if k_isO A7 v0 9 then (if k_isA A7 (k_rd A7 v0 26) 21 v2 then (k_lt (k_wt A7 (k_rd A7 v0 26) v2 v3) fun A12 => fX9_book_b108 (fX9_book_h57 N) A12 v0 v1 (k_wr (v2 + 1)) v3) else none) else none) else (fX9_book_b108 (fX9_book_h57 N) A7 v0 v1 v2 v3))) else none) else (fX9_book_b114 A v0 v1 v2)) else (fX9_book_b114 A v0 v1 v2)) else none
def fX9_book_h17 : Nat → k_H → Int → Int → Int → Option (Int × k_H)
  | 0, _, _, _, _ => none
  | N + 1, A, v0, v1, v2 => if v2 < 14 then (if k_isO A v0 9 then (if k_isA A (k_rd A v0 24) 21 (k_wr (k_wr (14 * v1) + v2)) then (k_lt (k_wt A (k_rd A v0 24) (k_wr (k_wr (14 * v1) + v2)) (-1)) fun A4 => if k_isA A4 (k_rd A4 v0 25) 21 (k_wr (k_wr (14 * v1) + v2)) then (k_lt (k_wt A4 (k_rd A4 v0 25) (k_wr (k_wr (14 * v1) + v2)) (-1)) fun A8 => (fX9_book_h17 N) A8 v0 v1 (k_wr (v2 + 1))) else none) else none) else none) else (fX9_book_h57 k_FU A v0 v1 0 0)
def fX9_book_b0 (A : k_H) (v0 v1 : Int) : Option (Int × k_H) := if k_isO A v0 9 then (k_lt (k_wt A v0 0 0) fun A2 => k_bd (fX9_isShow A2 v0 v1) fun r4 A5 => if r4 = 0 then (some ((-1), A5)) else (fX9_book_h17 k_FU A5 v0 v1 0)) else none
def fX9_book (A : k_H) (x0 x1 : Int) : Option (Int × k_H) := fX9_book_b0 A x0 x1
set_option maxRecDepth 100000 in
theorem okX9_book_h370 : ∀ (N : Nat) (A : k_H) (v0 v1 v3 v5 : Int) (r : Int) (A' : k_H), fX9_book_h370 N A v0 v1 v3 v5 = some (r, A') → k_AW 3 mX9_book 370 [(1, v0), (0, v1), (3, 0), (0, v3), (3, 0), (0, v5)] [] A r A' := by
  intro N
  induction N with
  | zero => intro A v0 v1 v3 v5 r A' h; exact absurd h (by simp [fX9_book_h370])
  | succ N ih =>
    intro A v0 v1 v3 v5 r A' h
    rw [fX9_book_h370] at h
    refine k_iload (pc := 370) (x := v5) dX9_book_370 rfl ?_
    refine k_aload_n (pc := 372) (x := v0) dX9_book_372 rfl rfl ?_
    obtain ⟨hc1, h⟩ := k_pk h
    refine k_getf (pc := 373) (t := 1) (fi := 16) dX9_book_373 flX9_47 rfl rfl hc1 ?_
    refine k_iload_n (pc := 376) (x := v1) dX9_book_376 rfl rfl ?_
    obtain ⟨hc2, h⟩ := k_pk h
    refine k_iaload (pc := 377) dX9_book_377 hc2 ?_
    refine k_icmp_gt (pc := 378) (tgt := 406) dX9_book_378 rfl (fun c3 => ?_) (fun c3 => ?_)
    · rw [if_neg (Int.not_le.mpr c3)] at h
      refine k_iload_n (pc := 406) (x := v3) dX9_book_406 rfl rfl ?_
      obtain ⟨rfl, rfl⟩ := k_pr h
      exact k_ret (pc := 407) dX9_book_407 rfl rfl rfl
    · rw [if_pos (Int.not_lt.mp c3)] at h
      refine k_aload_n (pc := 381) (x := v0) dX9_book_381 rfl rfl ?_
      refine k_getf (pc := 382) (t := 1) (fi := 24) dX9_book_382 flX9_65 rfl rfl hc1 ?_
      refine k_bipush (pc := 385) dX9_book_385 ⟨by decide, by decide⟩ (by decide +kernel) ?_
      refine k_iload_n (pc := 387) (x := v1) dX9_book_387 rfl rfl ?_
      refine k_imul (pc := 388) dX9_book_388 ?_
      refine k_iload (pc := 389) (x := v5) dX9_book_389 rfl ?_
      refine k_iadd (pc := 391) dX9_book_391 ?_
      refine k_aload_n (pc := 392) (x := v0) dX9_book_392 rfl rfl ?_
      refine k_getf (pc := 393) (t := 1) (fi := 33) dX9_book_393 flX9_92 rfl rfl hc1 ?_
      refine k_iload (pc := 396) (x := v5) dX9_book_396 rfl ?_
      obtain ⟨hc4, h⟩ := k_pk h
      refine k_iaload (pc := 398) dX9_book_398 hc4 ?_
      obtain ⟨hc5, h⟩ := k_pk h
      refine k_iastore (pc := 399) dX9_book_399 hc5 ?_
      obtain ⟨A6, eA7, h⟩ := k_pl h
      refine k_hq eA7 ?_
      refine k_iinc (pc := 400) (x := v5) dX9_book_400 (Nat.le_of_ble_eq_true rfl) rfl rfl ?_
      show k_AW _ _ _ [(1, v0), (0, v1), (3, 0), (0, v3), (3, 0), (0, k_wr (v5 + 1))] _ _ _ _
      refine k_goto (pc := 403) (tgt := 370) dX9_book_403 rfl ?_
      refine k_sub (ls' := [(1, v0), (0, v1), (3, 0), (0, v3), (3, 0), (0, k_wr (v5 + 1))]) (k_sbl_ok _ _ ⟨Or.inr rfl, Or.inr rfl, Or.inl rfl, Or.inr rfl, Or.inl rfl, Or.inr rfl, trivial⟩) ?_
      exact ih _ _ _ _ _ _ _ h
set_option maxRecDepth 100000 in
theorem okX9_book_b345 (k165 : k_H → Int → Int → Int → Int → Int → Option (Int × k_H)) (hk165 : ∀ (A : k_H) (v0 v1 v2 v3 v4 : Int) (r : Int) (A' : k_H), k165 A v0 v1 v2 v3 v4 = some (r, A') → k_AW 3 mX9_book 165 [(1, v0), (0, v1), (0, v2), (0, v3), (0, v4), (3, 0)] [] A r A') (A : k_H) (v0 v1 v2 v3 v4 : Int) (r : Int) (A' : k_H) (h : fX9_book_b345 k165 A v0 v1 v2 v3 v4 = some (r, A')) : k_AW 3 mX9_book 345 [(1, v0), (0, v1), (0, v2), (0, v3), (0, v4), (3, 0)] [] A r A' := by
  unfold fX9_book_b345 at h
  refine k_iinc (pc := 345) (x := v4) dX9_book_345 (Nat.le_of_ble_eq_true rfl) rfl rfl ?_
  show k_AW _ _ _ [(1, v0), (0, v1), (0, v2), (0, v3), (0, k_wr (v4 + (-1))), (3, 0)] _ _ _ _
  refine k_goto (pc := 348) (tgt := 165) dX9_book_348 rfl ?_
  refine k_sub (ls' := [(1, v0), (0, v1), (0, v2), (0, v3), (0, k_wr (v4 + (-1))), (3, 0)]) (k_sbl_ok _ _ ⟨Or.inr rfl, Or.inr rfl, Or.inr rfl, Or.inr rfl, Or.inr rfl, Or.inl rfl, trivial⟩) ?_
  exact hk165 _ _ _ _ _ _ _ _ h
set_option maxRecDepth 100000 in
theorem okX9_book_b310 (k165 : k_H → Int → Int → Int → Int → Int → Option (Int × k_H)) (hk165 : ∀ (A : k_H) (v0 v1 v2 v3 v4 : Int) (r : Int) (A' : k_H), k165 A v0 v1 v2 v3 v4 = some (r, A') → k_AW 3 mX9_book 165 [(1, v0), (0, v1), (0, v2), (0, v3), (0, v4), (3, 0)] [] A r A') (A : k_H) (v0 v1 v2 v3 v4 : Int) (r : Int) (A' : k_H) (h : fX9_book_b310 k165 A v0 v1 v2 v3 v4 = some (r, A')) : k_AW 3 mX9_book 310 [(1, v0), (0, v1), (0, v2), (0, v3), (0, v4), (3, 0)] [] A r A' := by
  unfold fX9_book_b310 at h
  refine k_iinc (pc := 310) (x := v4) dX9_book_310 (Nat.le_of_ble_eq_true rfl) rfl rfl ?_
  show k_AW _ _ _ [(1, v0), (0, v1), (0, v2), (0, v3), (0, k_wr (v4 + (-1))), (3, 0)] _ _ _ _
  refine k_goto (pc := 313) (tgt := 165) dX9_book_313 rfl ?_
  refine k_sub (ls' := [(1, v0), (0, v1), (0, v2), (0, v3), (0, k_wr (v4 + (-1))), (3, 0)]) (k_sbl_ok _ _ ⟨Or.inr rfl, Or.inr rfl, Or.inr rfl, Or.inr rfl, Or.inr rfl, Or.inl rfl, trivial⟩) ?_
  exact hk165 _ _ _ _ _ _ _ _ h
set_option maxRecDepth 100000 in
theorem okX9_book_b303 (k165 : k_H → Int → Int → Int → Int → Int → Option (Int × k_H)) (hk165 : ∀ (A : k_H) (v0 v1 v2 v3 v4 : Int) (r : Int) (A' : k_H), k165 A v0 v1 v2 v3 v4 = some (r, A') → k_AW 3 mX9_book 165 [(1, v0), (0, v1), (0, v2), (0, v3), (0, v4), (3, 0)] [] A r A') (k259 : k_H → Int → Int → Int → Int → Int → Int → Option (Int × k_H)) (hk259 : ∀ (A : k_H) (v0 v1 v2 v3 v4 v5 : Int) (r : Int) (A' : k_H), k259 A v0 v1 v2 v3 v4 v5 = some (r, A') → k_AW 3 mX9_book 259 [(1, v0), (0, v1), (0, v2), (0, v3), (0, v4), (0, v5)] [] A r A') (A : k_H) (v0 v1 v2 v3 v4 v5 s0 s1 s2 : Int) (r : Int) (A' : k_H) (h : fX9_book_b303 k165 k259 A v0 v1 v2 v3 v4 v5 s0 s1 s2 = some (r, A')) : k_AW 3 mX9_book 303 [(1, v0), (0, v1), (0, v2), (0, v3), (0, v4), (0, v5)] [(0, s2), (0, s1), (1, s0)] A r A' := by
  unfold fX9_book_b303 at h
  obtain ⟨hc1, h⟩ := k_pk h
  refine k_iastore (pc := 303) dX9_book_303 hc1 ?_
  obtain ⟨A2, eA3, h⟩ := k_pl h
  refine k_hq eA3 ?_
  refine k_iinc (pc := 304) (x := v5) dX9_book_304 (Nat.le_of_ble_eq_true rfl) rfl rfl ?_
  show k_AW _ _ _ [(1, v0), (0, v1), (0, v2), (0, v3), (0, v4), (0, k_wr (v5 + 1))] _ _ _ _
  refine k_goto (pc := 307) (tgt := 259) dX9_book_307 rfl ?_
  refine k_sub (ls' := [(1, v0), (0, v1), (0, v2), (0, v3), (0, v4), (0, k_wr (v5 + 1))]) (k_sbl_ok _ _ ⟨Or.inr rfl, Or.inr rfl, Or.inr rfl, Or.inr rfl, Or.inr rfl, Or.inr rfl, trivial⟩) ?_
  exact hk259 _ _ _ _ _ _ _ _ _ h
set_option maxRecDepth 100000 in
theorem okX9_book_b108 (k57 : k_H → Int → Int → Int → Int → Option (Int × k_H)) (hk57 : ∀ (A : k_H) (v0 v1 v2 v3 : Int) (r : Int) (A' : k_H), k57 A v0 v1 v2 v3 = some (r, A') → k_AW 3 mX9_book 57 [(1, v0), (0, v1), (0, v2), (0, v3), (3, 0), (3, 0)] [] A r A') (A : k_H) (v0 v1 v2 v3 : Int) (r : Int) (A' : k_H) (h : fX9_book_b108 k57 A v0 v1 v2 v3 = some (r, A')) : k_AW 3 mX9_book 108 [(1, v0), (0, v1), (0, v2), (0, v3), (3, 0), (3, 0)] [] A r A' := by
  unfold fX9_book_b108 at h
  refine k_iinc (pc := 108) (x := v3) dX9_book_108 (Nat.le_of_ble_eq_true rfl) rfl rfl ?_
  show k_AW _ _ _ [(1, v0), (0, v1), (0, v2), (0, k_wr (v3 + 1)), (3, 0), (3, 0)] _ _ _ _
  refine k_goto (pc := 111) (tgt := 57) dX9_book_111 rfl ?_
  refine k_sub (ls' := [(1, v0), (0, v1), (0, v2), (0, k_wr (v3 + 1)), (3, 0), (3, 0)]) (k_sbl_ok _ _ ⟨Or.inr rfl, Or.inr rfl, Or.inr rfl, Or.inr rfl, Or.inl rfl, Or.inl rfl, trivial⟩) ?_
  exact hk57 _ _ _ _ _ _ _ h
set_option maxRecDepth 100000 in
theorem okX9_book_h259 (k165 : k_H → Int → Int → Int → Int → Int → Option (Int × k_H)) (hk165 : ∀ (A : k_H) (v0 v1 v2 v3 v4 : Int) (r : Int) (A' : k_H), k165 A v0 v1 v2 v3 v4 = some (r, A') → k_AW 3 mX9_book 165 [(1, v0), (0, v1), (0, v2), (0, v3), (0, v4), (3, 0)] [] A r A') : ∀ (N : Nat) (A : k_H) (v0 v1 v2 v3 v4 v5 : Int) (r : Int) (A' : k_H), fX9_book_h259 k165 N A v0 v1 v2 v3 v4 v5 = some (r, A') → k_AW 3 mX9_book 259 [(1, v0), (0, v1), (0, v2), (0, v3), (0, v4), (0, v5)] [] A r A' := by
  intro N
  induction N with
  | zero => intro A v0 v1 v2 v3 v4 v5 r A' h; exact absurd h (by simp [fX9_book_h259])
  | succ N ih =>
    intro A v0 v1 v2 v3 v4 v5 r A' h
    rw [fX9_book_h259] at h
    refine k_iload (pc := 259) (x := v5) dX9_book_259 rfl ?_
    refine k_aload_n (pc := 261) (x := v0) dX9_book_261 rfl rfl ?_
    obtain ⟨hc1, h⟩ := k_pk h
    refine k_getf (pc := 262) (t := 1) (fi := 16) dX9_book_262 flX9_47 rfl rfl hc1 ?_
    refine k_iload_n (pc := 265) (x := v1) dX9_book_265 rfl rfl ?_
    obtain ⟨hc2, h⟩ := k_pk h
    refine k_iaload (pc := 266) dX9_book_266 hc2 ?_
    refine k_icmp_gt (pc := 267) (tgt := 310) dX9_book_267 rfl (fun c3 => ?_) (fun c3 => ?_)
    · rw [if_neg (Int.not_le.mpr c3)] at h
      refine k_sub (ls' := [(1, v0), (0, v1), (0, v2), (0, v3), (0, v4), (3, 0)]) (k_sbl_ok _ _ ⟨Or.inr rfl, Or.inr rfl, Or.inr rfl, Or.inr rfl, Or.inr rfl, Or.inl rfl, trivial⟩) ?_
      exact okX9_book_b310 k165 hk165 _ _ _ _ _ _ _ _ h
    · rw [if_pos (Int.not_lt.mp c3)] at h
      refine k_aload_n (pc := 270) (x := v0) dX9_book_270 rfl rfl ?_
      refine k_getf (pc := 271) (t := 1) (fi := 33) dX9_book_271 flX9_92 rfl rfl hc1 ?_
      refine k_iload (pc := 274) (x := v5) dX9_book_274 rfl ?_
      refine k_aload_n (pc := 276) (x := v0) dX9_book_276 rfl rfl ?_
      refine k_getf (pc := 277) (t := 1) (fi := 27) dX9_book_277 flX9_74 rfl rfl hc1 ?_
      refine k_iload (pc := 280) (x := v5) dX9_book_280 rfl ?_
      obtain ⟨hc4, h⟩ := k_pk h
      refine k_iaload (pc := 282) dX9_book_282 hc4 ?_
      refine k_iload_n (pc := 283) (x := v2) dX9_book_283 rfl rfl ?_
      refine k_icmp_ge (pc := 284) (tgt := 302) dX9_book_284 rfl (fun c5 => ?_) (fun c5 => ?_)
      · rw [if_neg (Int.not_lt.mpr c5)] at h
        refine k_iconst (pc := 302) dX9_book_302 ⟨by decide, by decide⟩ ?_
        refine k_sub (ls' := [(1, v0), (0, v1), (0, v2), (0, v3), (0, v4), (0, v5)]) (k_sbl_ok _ _ ⟨Or.inr rfl, Or.inr rfl, Or.inr rfl, Or.inr rfl, Or.inr rfl, Or.inr rfl, trivial⟩) ?_
        exact okX9_book_b303 k165 hk165 (fX9_book_h259 k165 N) ih _ _ _ _ _ _ _ _ _ _ _ _ h
      · rw [if_pos (Int.not_le.mp c5)] at h
        refine k_aload_n (pc := 287) (x := v0) dX9_book_287 rfl rfl ?_
        refine k_getf (pc := 288) (t := 1) (fi := 26) dX9_book_288 flX9_71 rfl rfl hc1 ?_
        refine k_aload_n (pc := 291) (x := v0) dX9_book_291 rfl rfl ?_
        refine k_getf (pc := 292) (t := 1) (fi := 27) dX9_book_292 flX9_74 rfl rfl hc1 ?_
        refine k_iload (pc := 295) (x := v5) dX9_book_295 rfl ?_
        refine k_iaload (pc := 297) dX9_book_297 hc4 ?_
        obtain ⟨hc6, h⟩ := k_pk h
        refine k_iaload (pc := 298) dX9_book_298 hc6 ?_
        refine k_goto (pc := 299) (tgt := 303) dX9_book_299 rfl ?_
        refine k_sub (ls' := [(1, v0), (0, v1), (0, v2), (0, v3), (0, v4), (0, v5)]) (k_sbl_ok _ _ ⟨Or.inr rfl, Or.inr rfl, Or.inr rfl, Or.inr rfl, Or.inr rfl, Or.inr rfl, trivial⟩) ?_
        exact okX9_book_b303 k165 hk165 (fX9_book_h259 k165 N) ih _ _ _ _ _ _ _ _ _ _ _ _ h
set_option maxRecDepth 100000 in
theorem okX9_book_h165 : ∀ (N : Nat) (A : k_H) (v0 v1 v2 v3 v4 : Int) (r : Int) (A' : k_H), fX9_book_h165 N A v0 v1 v2 v3 v4 = some (r, A') → k_AW 3 mX9_book 165 [(1, v0), (0, v1), (0, v2), (0, v3), (0, v4), (3, 0)] [] A r A' := by
  intro N
  induction N with
  | zero => intro A v0 v1 v2 v3 v4 r A' h; exact absurd h (by simp [fX9_book_h165])
  | succ N ih =>
    intro A v0 v1 v2 v3 v4 r A' h
    rw [fX9_book_h165] at h
    refine k_iload (pc := 165) (x := v4) dX9_book_165 rfl ?_
    refine k_aload_n (pc := 167) (x := v0) dX9_book_167 rfl rfl ?_
    obtain ⟨hc1, h⟩ := k_pk h
    refine k_getf (pc := 168) (t := 1) (fi := 15) dX9_book_168 flX9_44 rfl rfl hc1 ?_
    refine k_iload_n (pc := 171) (x := v1) dX9_book_171 rfl rfl ?_
    obtain ⟨hc2, h⟩ := k_pk h
    refine k_iaload (pc := 172) dX9_book_172 hc2 ?_
    refine k_icmp_lt (pc := 173) (tgt := 362) dX9_book_173 rfl (fun c3 => ?_) (fun c3 => ?_)
    · rw [if_neg (Int.not_le.mpr c3)] at h
      refine k_aload_n (pc := 362) (x := v0) dX9_book_362 rfl rfl ?_
      refine k_getf (pc := 363) (t := 1) (fi := 15) dX9_book_363 flX9_44 rfl rfl hc1 ?_
      refine k_iload_n (pc := 366) (x := v1) dX9_book_366 rfl rfl ?_
      refine k_iaload (pc := 367) dX9_book_367 hc2 ?_
      refine k_istore (pc := 368) dX9_book_368 (Nat.le_of_ble_eq_true rfl) rfl ?_
      show k_AW _ _ _ [(1, v0), (0, v1), (0, v2), (0, v3), (0, v4), (0, (k_rd A (k_rd A v0 15) v1))] _ _ _ _
      refine k_sub (ls' := [(1, v0), (0, v1), (3, 0), (0, v3), (3, 0), (0, (k_rd A (k_rd A v0 15) v1))]) (k_sbl_ok _ _ ⟨Or.inr rfl, Or.inr rfl, Or.inl rfl, Or.inr rfl, Or.inl rfl, Or.inr rfl, trivial⟩) ?_
      exact okX9_book_h370  _ _ _ _ _ _ _ _ h
    · rw [if_pos (Int.not_lt.mp c3)] at h
      refine k_aload_n (pc := 176) (x := v0) dX9_book_176 rfl rfl ?_
      refine k_getf (pc := 177) (t := 1) (fi := 27) dX9_book_177 flX9_74 rfl rfl hc1 ?_
      refine k_iload (pc := 180) (x := v4) dX9_book_180 rfl ?_
      refine k_dup2 (pc := 182) dX9_book_182 (Nat.le_of_ble_eq_true rfl) (Nat.le_of_ble_eq_true rfl) ?_
      obtain ⟨hc4, h⟩ := k_pk h
      refine k_iaload (pc := 183) dX9_book_183 hc4 ?_
      refine k_iconst (pc := 184) dX9_book_184 ⟨by decide, by decide⟩ ?_
      refine k_iadd (pc := 185) dX9_book_185 ?_
      refine k_iastore (pc := 186) dX9_book_186 hc4 ?_
      obtain ⟨A5, eA6, h⟩ := k_pl h
      refine k_hq eA6 ?_
      refine k_aload_n (pc := 187) (x := v0) dX9_book_187 rfl rfl ?_
      have hf7 := k_oW eA6 hc1
      refine k_getf (pc := 188) (t := 1) (fi := 27) dX9_book_188 flX9_74 rfl rfl hf7 ?_
      refine k_iload (pc := 191) (x := v4) dX9_book_191 rfl ?_
      obtain ⟨hc8, h⟩ := k_pk h
      refine k_iaload (pc := 193) dX9_book_193 hc8 ?_
      refine k_iload_n (pc := 194) (x := v2) dX9_book_194 rfl rfl ?_
      refine k_icmp_le (pc := 195) (tgt := 204) dX9_book_195 rfl (fun c9 => ?_) (fun c9 => ?_)
      · rw [if_neg (Int.not_lt.mpr c9)] at h
        refine k_aload_n (pc := 204) (x := v0) dX9_book_204 rfl rfl ?_
        refine k_iload_n (pc := 205) (x := v1) dX9_book_205 rfl rfl ?_
        refine k_iload (pc := 206) (x := v4) dX9_book_206 rfl ?_
        refine k_iload_n (pc := 208) (x := v2) dX9_book_208 rfl rfl ?_
        obtain ⟨r10, A11, hq12, h⟩ := k_pb h
        refine k_callV (pc := 209) (ci := 9) (a := v0) (as := [(0, v1), (0, v4), (0, v2)]) (st := []) (st1 := [(0, r10)]) dX9_book_209 cbX9_go (k_gt 1086 (by decide +kernel) (by decide +kernel)) cvX9_go.1 cvX9_go.2 rfl (by decide) hf7 (by omega) rfl (Nat.le_of_ble_eq_true rfl) (okX9_go hq12) rfl ?_
        refine k_if_ne (pc := 212) (tgt := 218) dX9_book_212 rfl (fun c13 => ?_) (fun c13 => ?_)
        · rw [if_neg c13] at h
          refine k_iinc (pc := 218) (x := v4) dX9_book_218 (Nat.le_of_ble_eq_true rfl) rfl rfl ?_
          show k_AW _ _ _ [(1, v0), (0, v1), (0, v2), (0, v3), (0, k_wr (v4 + 1)), (3, 0)] _ _ _ _
          refine k_iload (pc := 221) (x := k_wr (v4 + 1)) dX9_book_221 rfl ?_
          refine k_aload_n (pc := 223) (x := v0) dX9_book_223 rfl rfl ?_
          obtain ⟨hc14, h⟩ := k_pk h
          refine k_getf (pc := 224) (t := 1) (fi := 16) dX9_book_224 flX9_47 rfl rfl hc14 ?_
          refine k_iload_n (pc := 227) (x := v1) dX9_book_227 rfl rfl ?_
          obtain ⟨hc15, h⟩ := k_pk h
          refine k_iaload (pc := 228) dX9_book_228 hc15 ?_
          refine k_icmp_le (pc := 229) (tgt := 316) dX9_book_229 rfl (fun c16 => ?_) (fun c16 => ?_)
          · rw [if_neg (Int.not_lt.mpr c16)] at h
            refine k_aload_n (pc := 316) (x := v0) dX9_book_316 rfl rfl ?_
            refine k_iload (pc := 317) (x := k_wr (v4 + 1)) dX9_book_317 rfl ?_
            obtain ⟨r17, A18, hq19, h⟩ := k_pb h
            refine k_callV (pc := 319) (ci := 9) (a := v0) (as := [(0, k_wr (v4 + 1))]) (st := []) (st1 := [(0, r17)]) dX9_book_319 cbX9_wasThere (k_gt 1098 (by decide +kernel) (by decide +kernel)) cvX9_wasThere.1 cvX9_wasThere.2 rfl (by decide) hc14 (by omega) rfl (Nat.le_of_ble_eq_true rfl) (okX9_wasThere hq19) rfl ?_
            refine k_if_ne (pc := 322) (tgt := 345) dX9_book_322 rfl (fun c20 => ?_) (fun c20 => ?_)
            · rw [if_neg c20] at h
              refine k_sub (ls' := [(1, v0), (0, v1), (0, v2), (0, v3), (0, k_wr (v4 + 1)), (3, 0)]) (k_sbl_ok _ _ ⟨Or.inr rfl, Or.inr rfl, Or.inr rfl, Or.inr rfl, Or.inr rfl, Or.inl rfl, trivial⟩) ?_
              exact okX9_book_b345 (fX9_book_h165 N) ih _ _ _ _ _ _ _ _ h
            · rw [if_pos (Classical.not_not.mp c20)] at h
              refine k_aload_n (pc := 325) (x := v0) dX9_book_325 rfl rfl ?_
              obtain ⟨hc21, h⟩ := k_pk h
              refine k_getf (pc := 326) (t := 1) (fi := 32) dX9_book_326 flX9_89 rfl rfl hc21 ?_
              refine k_iload (pc := 329) (x := k_wr (v4 + 1)) dX9_book_329 rfl ?_
              obtain ⟨hc22, h⟩ := k_pk h
              refine k_iaload (pc := 331) dX9_book_331 hc22 ?_
              refine k_aload_n (pc := 332) (x := v0) dX9_book_332 rfl rfl ?_
              refine k_iload_n (pc := 333) (x := v1) dX9_book_333 rfl rfl ?_
              refine k_iload (pc := 334) (x := k_wr (v4 + 1)) dX9_book_334 rfl ?_
              refine k_iload_n (pc := 336) (x := v2) dX9_book_336 rfl rfl ?_
              obtain ⟨r23, A24, hq25, h⟩ := k_pb h
              refine k_callV (pc := 337) (ci := 9) (a := v0) (as := [(0, v1), (0, k_wr (v4 + 1)), (0, v2)]) (st := [(0, (k_rd A18 (k_rd A18 v0 32) (k_wr (v4 + 1))))]) (st1 := [(0, r23), (0, (k_rd A18 (k_rd A18 v0 32) (k_wr (v4 + 1))))]) dX9_book_337 cbX9_rest (k_gt 1102 (by decide +kernel) (by decide +kernel)) cvX9_rest.1 cvX9_rest.2 rfl (by decide) hc21 (by omega) rfl (Nat.le_of_ble_eq_true rfl) (okX9_rest hq25) rfl ?_
              refine k_iadd (pc := 340) dX9_book_340 ?_
              refine k_iload_n (pc := 341) (x := v3) dX9_book_341 rfl rfl ?_
              refine k_icmp_gt (pc := 342) (tgt := 351) dX9_book_342 rfl (fun c26 => ?_) (fun c26 => ?_)
              · rw [if_neg (Int.not_le.mpr c26)] at h
                refine k_aload_n (pc := 351) (x := v0) dX9_book_351 rfl rfl ?_
                obtain ⟨hc27, h⟩ := k_pk h
                refine k_getf (pc := 352) (t := 1) (fi := 27) dX9_book_352 flX9_74 rfl rfl hc27 ?_
                refine k_iload (pc := 355) (x := k_wr (v4 + 1)) dX9_book_355 rfl ?_
                refine k_iconst (pc := 357) dX9_book_357 ⟨by decide, by decide⟩ ?_
                obtain ⟨hc28, h⟩ := k_pk h
                refine k_iastore (pc := 358) dX9_book_358 hc28 ?_
                obtain ⟨A29, eA30, h⟩ := k_pl h
                refine k_hq eA30 ?_
                refine k_goto (pc := 359) (tgt := 165) dX9_book_359 rfl ?_
                refine k_sub (ls' := [(1, v0), (0, v1), (0, v2), (0, v3), (0, k_wr (v4 + 1)), (3, 0)]) (k_sbl_ok _ _ ⟨Or.inr rfl, Or.inr rfl, Or.inr rfl, Or.inr rfl, Or.inr rfl, Or.inl rfl, trivial⟩) ?_
                exact ih _ _ _ _ _ _ _ _ h
              · rw [if_pos (Int.not_lt.mp c26)] at h
                refine k_sub (ls' := [(1, v0), (0, v1), (0, v2), (0, v3), (0, k_wr (v4 + 1)), (3, 0)]) (k_sbl_ok _ _ ⟨Or.inr rfl, Or.inr rfl, Or.inr rfl, Or.inr rfl, Or.inr rfl, Or.inl rfl, trivial⟩) ?_
                exact okX9_book_b345 (fX9_book_h165 N) ih _ _ _ _ _ _ _ _ h
          · rw [if_pos (Int.not_le.mp c16)] at h
            refine k_aload_n (pc := 232) (x := v0) dX9_book_232 rfl rfl ?_
            refine k_getf (pc := 233) (t := 1) (fi := 32) dX9_book_233 flX9_89 rfl rfl hc14 ?_
            refine k_iload (pc := 236) (x := k_wr (v4 + 1)) dX9_book_236 rfl ?_
            obtain ⟨hc31, h⟩ := k_pk h
            refine k_iaload (pc := 238) dX9_book_238 hc31 ?_
            refine k_iload_n (pc := 239) (x := v3) dX9_book_239 rfl rfl ?_
            refine k_icmp_le (pc := 240) (tgt := 310) dX9_book_240 rfl (fun c32 => ?_) (fun c32 => ?_)
            · rw [if_neg (Int.not_lt.mpr c32)] at h
              refine k_sub (ls' := [(1, v0), (0, v1), (0, v2), (0, v3), (0, k_wr (v4 + 1)), (3, 0)]) (k_sbl_ok _ _ ⟨Or.inr rfl, Or.inr rfl, Or.inr rfl, Or.inr rfl, Or.inr rfl, Or.inl rfl, trivial⟩) ?_
              exact okX9_book_b310 (fX9_book_h165 N) ih _ _ _ _ _ _ _ _ h
            · rw [if_pos (Int.not_le.mp c32)] at h
              refine k_aload_n (pc := 243) (x := v0) dX9_book_243 rfl rfl ?_
              refine k_getf (pc := 244) (t := 1) (fi := 32) dX9_book_244 flX9_89 rfl rfl hc14 ?_
              refine k_iload (pc := 247) (x := k_wr (v4 + 1)) dX9_book_247 rfl ?_
              refine k_iaload (pc := 249) dX9_book_249 hc31 ?_
              refine k_istore_n (pc := 250) dX9_book_250 rfl (Nat.le_of_ble_eq_true rfl) rfl ?_
              show k_AW _ _ _ [(1, v0), (0, v1), (0, v2), (0, (k_rd A11 (k_rd A11 v0 32) (k_wr (v4 + 1)))), (0, k_wr (v4 + 1)), (3, 0)] _ _ _ _
              refine k_aload_n (pc := 251) (x := v0) dX9_book_251 rfl rfl ?_
              refine k_getf (pc := 252) (t := 1) (fi := 15) dX9_book_252 flX9_44 rfl rfl hc14 ?_
              refine k_iload_n (pc := 255) (x := v1) dX9_book_255 rfl rfl ?_
              obtain ⟨hc33, h⟩ := k_pk h
              refine k_iaload (pc := 256) dX9_book_256 hc33 ?_
              refine k_istore (pc := 257) dX9_book_257 (Nat.le_of_ble_eq_true rfl) rfl ?_
              show k_AW _ _ _ [(1, v0), (0, v1), (0, v2), (0, (k_rd A11 (k_rd A11 v0 32) (k_wr (v4 + 1)))), (0, k_wr (v4 + 1)), (0, (k_rd A11 (k_rd A11 v0 15) v1))] _ _ _ _
              refine k_sub (ls' := [(1, v0), (0, v1), (0, v2), (0, (k_rd A11 (k_rd A11 v0 32) (k_wr (v4 + 1)))), (0, k_wr (v4 + 1)), (0, (k_rd A11 (k_rd A11 v0 15) v1))]) (k_sbl_ok _ _ ⟨Or.inr rfl, Or.inr rfl, Or.inr rfl, Or.inr rfl, Or.inr rfl, Or.inr rfl, trivial⟩) ?_
              exact okX9_book_h259 (fX9_book_h165 N) ih _ _ _ _ _ _ _ _ _ _ h
        · rw [if_pos (Classical.not_not.mp c13)] at h
          refine k_goto (pc := 215) (tgt := 165) dX9_book_215 rfl ?_
          refine k_sub (ls' := [(1, v0), (0, v1), (0, v2), (0, v3), (0, v4), (3, 0)]) (k_sbl_ok _ _ ⟨Or.inr rfl, Or.inr rfl, Or.inr rfl, Or.inr rfl, Or.inr rfl, Or.inl rfl, trivial⟩) ?_
          exact ih _ _ _ _ _ _ _ _ h
      · rw [if_pos (Int.not_le.mp c9)] at h
        refine k_iinc (pc := 198) (x := v4) dX9_book_198 (Nat.le_of_ble_eq_true rfl) rfl rfl ?_
        show k_AW _ _ _ [(1, v0), (0, v1), (0, v2), (0, v3), (0, k_wr (v4 + (-1))), (3, 0)] _ _ _ _
        refine k_goto (pc := 201) (tgt := 165) dX9_book_201 rfl ?_
        refine k_sub (ls' := [(1, v0), (0, v1), (0, v2), (0, v3), (0, k_wr (v4 + (-1))), (3, 0)]) (k_sbl_ok _ _ ⟨Or.inr rfl, Or.inr rfl, Or.inr rfl, Or.inr rfl, Or.inr rfl, Or.inl rfl, trivial⟩) ?_
        exact ih _ _ _ _ _ _ _ _ h
set_option maxRecDepth 100000 in
theorem okX9_book_h116 : ∀ (N : Nat) (A : k_H) (v0 v1 v2 v3 : Int) (r : Int) (A' : k_H), fX9_book_h116 N A v0 v1 v2 v3 = some (r, A') → k_AW 3 mX9_book 116 [(1, v0), (0, v1), (0, v2), (0, v3), (3, 0), (3, 0)] [] A r A' := by
  intro N
  induction N with
  | zero => intro A v0 v1 v2 v3 r A' h; exact absurd h (by simp [fX9_book_h116])
  | succ N ih =>
    intro A v0 v1 v2 v3 r A' h
    rw [fX9_book_h116] at h
    refine k_iload_n (pc := 116) (x := v3) dX9_book_116 rfl rfl ?_
    refine k_sipush (pc := 117) dX9_book_117 ⟨by decide, by decide⟩ (by decide +kernel) ?_
    refine k_icmp_ge (pc := 120) (tgt := 136) dX9_book_120 rfl (fun c1 => ?_) (fun c1 => ?_)
    · rw [if_neg (Int.not_lt.mpr c1)] at h
      refine k_iconst (pc := 136) dX9_book_136 ⟨by decide, by decide⟩ ?_
      refine k_istore_n (pc := 137) dX9_book_137 rfl (Nat.le_of_ble_eq_true rfl) rfl ?_
      show k_AW _ _ _ [(1, v0), (0, v1), (0, v2), (0, (-1)), (3, 0), (3, 0)] _ _ _ _
      refine k_aload_n (pc := 138) (x := v0) dX9_book_138 rfl rfl ?_
      obtain ⟨hc2, h⟩ := k_pk h
      refine k_getf (pc := 139) (t := 1) (fi := 15) dX9_book_139 flX9_44 rfl rfl hc2 ?_
      refine k_iload_n (pc := 142) (x := v1) dX9_book_142 rfl rfl ?_
      obtain ⟨hc3, h⟩ := k_pk h
      refine k_iaload (pc := 143) dX9_book_143 hc3 ?_
      refine k_istore (pc := 144) dX9_book_144 (Nat.le_of_ble_eq_true rfl) rfl ?_
      show k_AW _ _ _ [(1, v0), (0, v1), (0, v2), (0, (-1)), (0, (k_rd A (k_rd A v0 15) v1)), (3, 0)] _ _ _ _
      refine k_aload_n (pc := 146) (x := v0) dX9_book_146 rfl rfl ?_
      refine k_iload (pc := 147) (x := (k_rd A (k_rd A v0 15) v1)) dX9_book_147 rfl ?_
      refine k_iconst (pc := 149) dX9_book_149 ⟨by decide, by decide⟩ ?_
      refine k_iconst (pc := 150) dX9_book_150 ⟨by decide, by decide⟩ ?_
      refine k_iconst (pc := 151) dX9_book_151 ⟨by decide, by decide⟩ ?_
      refine k_iconst (pc := 152) dX9_book_152 ⟨by decide, by decide⟩ ?_
      refine k_iconst (pc := 153) dX9_book_153 ⟨by decide, by decide⟩ ?_
      obtain ⟨r4, A5, hq6, h⟩ := k_pb h
      refine k_callV (pc := 154) (ci := 9) (a := v0) (as := [(0, (k_rd A (k_rd A v0 15) v1)), (0, 0), (0, (-1)), (0, 0), (0, 0), (0, 0)]) (st := []) (st1 := []) dX9_book_154 cbX9_stand (k_gt 1082 (by decide +kernel) (by decide +kernel)) cvX9_stand.1 cvX9_stand.2 rfl (by decide) hc2 (by omega) rfl (Nat.le_of_ble_eq_true rfl) (okX9_stand hq6) rfl ?_
      refine k_aload_n (pc := 157) (x := v0) dX9_book_157 rfl rfl ?_
      obtain ⟨hc7, h⟩ := k_pk h
      refine k_getf (pc := 158) (t := 1) (fi := 27) dX9_book_158 flX9_74 rfl rfl hc7 ?_
      refine k_iload (pc := 161) (x := (k_rd A (k_rd A v0 15) v1)) dX9_book_161 rfl ?_
      refine k_iconst (pc := 163) dX9_book_163 ⟨by decide, by decide⟩ ?_
      obtain ⟨hc8, h⟩ := k_pk h
      refine k_iastore (pc := 164) dX9_book_164 hc8 ?_
      obtain ⟨A9, eA10, h⟩ := k_pl h
      refine k_hq eA10 ?_
      refine k_sub (ls' := [(1, v0), (0, v1), (0, v2), (0, (-1)), (0, (k_rd A (k_rd A v0 15) v1)), (3, 0)]) (k_sbl_ok _ _ ⟨Or.inr rfl, Or.inr rfl, Or.inr rfl, Or.inr rfl, Or.inr rfl, Or.inl rfl, trivial⟩) ?_
      exact okX9_book_h165  _ _ _ _ _ _ _ _ _ h
    · rw [if_pos (Int.not_le.mp c1)] at h
      refine k_aload_n (pc := 123) (x := v0) dX9_book_123 rfl rfl ?_
      obtain ⟨hc11, h⟩ := k_pk h
      refine k_getf (pc := 124) (t := 1) (fi := 34) dX9_book_124 flX9_95 rfl rfl hc11 ?_
      refine k_iload_n (pc := 127) (x := v3) dX9_book_127 rfl rfl ?_
      refine k_lconst (pc := 128) (z := 0) dX9_book_128 (by decide +kernel) ⟨by decide, by decide⟩ ?_
      obtain ⟨hc12, h⟩ := k_pk h
      refine k_lastore (pc := 129) dX9_book_129 hc12 ?_
      obtain ⟨A13, eA14, h⟩ := k_pl h
      refine k_hq eA14 ?_
      refine k_iinc (pc := 130) (x := v3) dX9_book_130 (Nat.le_of_ble_eq_true rfl) rfl rfl ?_
      show k_AW _ _ _ [(1, v0), (0, v1), (0, v2), (0, k_wr (v3 + 1)), (3, 0), (3, 0)] _ _ _ _
      refine k_goto (pc := 133) (tgt := 116) dX9_book_133 rfl ?_
      refine k_sub (ls' := [(1, v0), (0, v1), (0, v2), (0, k_wr (v3 + 1)), (3, 0), (3, 0)]) (k_sbl_ok _ _ ⟨Or.inr rfl, Or.inr rfl, Or.inr rfl, Or.inr rfl, Or.inl rfl, Or.inl rfl, trivial⟩) ?_
      exact ih _ _ _ _ _ _ _ h
set_option maxRecDepth 100000 in
theorem okX9_book_b114 (A : k_H) (v0 v1 v2 : Int) (r : Int) (A' : k_H) (h : fX9_book_b114 A v0 v1 v2 = some (r, A')) : k_AW 3 mX9_book 114 [(1, v0), (0, v1), (0, v2), (3, 0), (3, 0), (3, 0)] [] A r A' := by
  unfold fX9_book_b114 at h
  refine k_iconst (pc := 114) dX9_book_114 ⟨by decide, by decide⟩ ?_
  refine k_istore_n (pc := 115) dX9_book_115 rfl (Nat.le_of_ble_eq_true rfl) rfl ?_
  show k_AW _ _ _ [(1, v0), (0, v1), (0, v2), (0, 0), (3, 0), (3, 0)] _ _ _ _
  refine k_sub (ls' := [(1, v0), (0, v1), (0, v2), (0, 0), (3, 0), (3, 0)]) (k_sbl_ok _ _ ⟨Or.inr rfl, Or.inr rfl, Or.inr rfl, Or.inr rfl, Or.inl rfl, Or.inl rfl, trivial⟩) ?_
  exact okX9_book_h116  _ _ _ _ _ _ _ _ h
set_option maxRecDepth 100000 in
theorem okX9_book_h57 : ∀ (N : Nat) (A : k_H) (v0 v1 v2 v3 : Int) (r : Int) (A' : k_H), fX9_book_h57 N A v0 v1 v2 v3 = some (r, A') → k_AW 3 mX9_book 57 [(1, v0), (0, v1), (0, v2), (0, v3), (3, 0), (3, 0)] [] A r A' := by
  intro N
  induction N with
  | zero => intro A v0 v1 v2 v3 r A' h; exact absurd h (by simp [fX9_book_h57])
  | succ N ih =>
    intro A v0 v1 v2 v3 r A' h
    rw [fX9_book_h57] at h
    refine k_iload_n (pc := 57) (x := v3) dX9_book_57 rfl rfl ?_
    refine k_aload_n (pc := 58) (x := v0) dX9_book_58 rfl rfl ?_
    obtain ⟨hc1, h⟩ := k_pk h
    refine k_getf (pc := 59) (t := 0) (fi := 20) dX9_book_59 flX9_119 rfl rfl hc1 ?_
    refine k_icmp_ge (pc := 62) (tgt := 114) dX9_book_62 rfl (fun c2 => ?_) (fun c2 => ?_)
    · rw [if_neg (Int.not_lt.mpr c2)] at h
      refine k_sub (ls' := [(1, v0), (0, v1), (0, v2), (3, 0), (3, 0), (3, 0)]) (k_sbl_ok _ _ ⟨Or.inr rfl, Or.inr rfl, Or.inr rfl, Or.inl rfl, Or.inl rfl, Or.inl rfl, trivial⟩) ?_
      exact okX9_book_b114  _ _ _ _ _ _ h
    · rw [if_pos (Int.not_le.mp c2)] at h
      refine k_iload_n (pc := 65) (x := v2) dX9_book_65 rfl rfl ?_
      refine k_bipush (pc := 66) dX9_book_66 ⟨by decide, by decide⟩ (by decide +kernel) ?_
      refine k_icmp_ge (pc := 68) (tgt := 114) dX9_book_68 rfl (fun c3 => ?_) (fun c3 => ?_)
      · rw [if_neg (Int.not_lt.mpr c3)] at h
        refine k_sub (ls' := [(1, v0), (0, v1), (0, v2), (3, 0), (3, 0), (3, 0)]) (k_sbl_ok _ _ ⟨Or.inr rfl, Or.inr rfl, Or.inr rfl, Or.inl rfl, Or.inl rfl, Or.inl rfl, trivial⟩) ?_
        exact okX9_book_b114  _ _ _ _ _ _ h
      · rw [if_pos (Int.not_le.mp c3)] at h
        refine k_aload_n (pc := 71) (x := v0) dX9_book_71 rfl rfl ?_
        refine k_getf (pc := 72) (t := 1) (fi := 19) dX9_book_72 flX9_56 rfl rfl hc1 ?_
        refine k_bipush (pc := 75) dX9_book_75 ⟨by decide, by decide⟩ (by decide +kernel) ?_
        refine k_iload_n (pc := 77) (x := v3) dX9_book_77 rfl rfl ?_
        refine k_imul (pc := 78) dX9_book_78 ?_
        refine k_iload_n (pc := 79) (x := v1) dX9_book_79 rfl rfl ?_
        refine k_iadd (pc := 80) dX9_book_80 ?_
        obtain ⟨hc4, h⟩ := k_pk h
        refine k_iaload (pc := 81) dX9_book_81 hc4 ?_
        refine k_if_eq (pc := 82) (tgt := 108) dX9_book_82 rfl (fun c5 => ?_) (fun c5 => ?_)
        · rw [if_pos c5] at h
          refine k_sub (ls' := [(1, v0), (0, v1), (0, v2), (0, v3), (3, 0), (3, 0)]) (k_sbl_ok _ _ ⟨Or.inr rfl, Or.inr rfl, Or.inr rfl, Or.inr rfl, Or.inl rfl, Or.inl rfl, trivial⟩) ?_
          exact okX9_book_b108 (fX9_book_h57 N) ih _ _ _ _ _ _ _ h
        · rw [if_neg c5] at h
          refine k_aload_n (pc := 85) (x := v0) dX9_book_85 rfl rfl ?_
          refine k_iload_n (pc := 86) (x := v1) dX9_book_86 rfl rfl ?_
          refine k_iload_n (pc := 87) (x := v3) dX9_book_87 rfl rfl ?_
          obtain ⟨r6, A7, hq8, h⟩ := k_pb h
          refine k_callV (pc := 88) (ci := 9) (a := v0) (as := [(0, v1), (0, v3)]) (st := []) (st1 := [(0, r6)]) dX9_book_88 cbX9_fit (k_gt 1062 (by decide +kernel) (by decide +kernel)) cvX9_fit.1 cvX9_fit.2 rfl (by decide) hc1 (by omega) rfl (Nat.le_of_ble_eq_true rfl) (okX9_fit hq8) rfl ?_
          refine k_iconst (pc := 91) dX9_book_91 ⟨by decide, by decide⟩ ?_
          refine k_icmp_eq (pc := 92) (tgt := 98) dX9_book_92 rfl (fun c9 => ?_) (fun c9 => ?_)
          · rw [if_pos c9] at h
            refine k_aload_n (pc := 98) (x := v0) dX9_book_98 rfl rfl ?_
            obtain ⟨hc10, h⟩ := k_pk h
            refine k_getf (pc := 99) (t := 1) (fi := 26) dX9_book_99 flX9_71 rfl rfl hc10 ?_
            refine k_iload_n (pc := 102) (x := v2) dX9_book_102 rfl rfl ?_
            refine k_iload_n (pc := 103) (x := v3) dX9_book_103 rfl rfl ?_
            obtain ⟨hc11, h⟩ := k_pk h
            refine k_iastore (pc := 104) dX9_book_104 hc11 ?_
            obtain ⟨A12, eA13, h⟩ := k_pl h
            refine k_hq eA13 ?_
            refine k_iinc (pc := 105) (x := v2) dX9_book_105 (Nat.le_of_ble_eq_true rfl) rfl rfl ?_
            show k_AW _ _ _ [(1, v0), (0, v1), (0, k_wr (v2 + 1)), (0, v3), (3, 0), (3, 0)] _ _ _ _
            refine k_sub (ls' := [(1, v0), (0, v1), (0, k_wr (v2 + 1)), (0, v3), (3, 0), (3, 0)]) (k_sbl_ok _ _ ⟨Or.inr rfl, Or.inr rfl, Or.inr rfl, Or.inr rfl, Or.inl rfl, Or.inl rfl, trivial⟩) ?_
            exact okX9_book_b108 (fX9_book_h57 N) ih _ _ _ _ _ _ _ h
          · rw [if_neg c9] at h
            refine k_goto (pc := 95) (tgt := 108) dX9_book_95 rfl ?_
            refine k_sub (ls' := [(1, v0), (0, v1), (0, v2), (0, v3), (3, 0), (3, 0)]) (k_sbl_ok _ _ ⟨Or.inr rfl, Or.inr rfl, Or.inr rfl, Or.inr rfl, Or.inl rfl, Or.inl rfl, trivial⟩) ?_
            exact okX9_book_b108 (fX9_book_h57 N) ih _ _ _ _ _ _ _ h
set_option maxRecDepth 100000 in
theorem okX9_book_h17 : ∀ (N : Nat) (A : k_H) (v0 v1 v2 : Int) (r : Int) (A' : k_H), fX9_book_h17 N A v0 v1 v2 = some (r, A') → k_AW 3 mX9_book 17 [(1, v0), (0, v1), (0, v2), (3, 0), (3, 0), (3, 0)] [] A r A' := by
  intro N
  induction N with
  | zero => intro A v0 v1 v2 r A' h; exact absurd h (by simp [fX9_book_h17])
  | succ N ih =>
    intro A v0 v1 v2 r A' h
    rw [fX9_book_h17] at h
    refine k_iload_n (pc := 17) (x := v2) dX9_book_17 rfl rfl ?_
    refine k_bipush (pc := 18) dX9_book_18 ⟨by decide, by decide⟩ (by decide +kernel) ?_
    refine k_icmp_ge (pc := 20) (tgt := 53) dX9_book_20 rfl (fun c1 => ?_) (fun c1 => ?_)
    · rw [if_neg (Int.not_lt.mpr c1)] at h
      refine k_iconst (pc := 53) dX9_book_53 ⟨by decide, by decide⟩ ?_
      refine k_istore_n (pc := 54) dX9_book_54 rfl (Nat.le_of_ble_eq_true rfl) rfl ?_
      show k_AW _ _ _ [(1, v0), (0, v1), (0, 0), (3, 0), (3, 0), (3, 0)] _ _ _ _
      refine k_iconst (pc := 55) dX9_book_55 ⟨by decide, by decide⟩ ?_
      refine k_istore_n (pc := 56) dX9_book_56 rfl (Nat.le_of_ble_eq_true rfl) rfl ?_
      show k_AW _ _ _ [(1, v0), (0, v1), (0, 0), (0, 0), (3, 0), (3, 0)] _ _ _ _
      refine k_sub (ls' := [(1, v0), (0, v1), (0, 0), (0, 0), (3, 0), (3, 0)]) (k_sbl_ok _ _ ⟨Or.inr rfl, Or.inr rfl, Or.inr rfl, Or.inr rfl, Or.inl rfl, Or.inl rfl, trivial⟩) ?_
      exact okX9_book_h57  _ _ _ _ _ _ _ _ h
    · rw [if_pos (Int.not_le.mp c1)] at h
      refine k_aload_n (pc := 23) (x := v0) dX9_book_23 rfl rfl ?_
      obtain ⟨hc2, h⟩ := k_pk h
      refine k_getf (pc := 24) (t := 1) (fi := 24) dX9_book_24 flX9_65 rfl rfl hc2 ?_
      refine k_bipush (pc := 27) dX9_book_27 ⟨by decide, by decide⟩ (by decide +kernel) ?_
      refine k_iload_n (pc := 29) (x := v1) dX9_book_29 rfl rfl ?_
      refine k_imul (pc := 30) dX9_book_30 ?_
      refine k_iload_n (pc := 31) (x := v2) dX9_book_31 rfl rfl ?_
      refine k_iadd (pc := 32) dX9_book_32 ?_
      refine k_iconst (pc := 33) dX9_book_33 ⟨by decide, by decide⟩ ?_
      obtain ⟨hc3, h⟩ := k_pk h
      refine k_iastore (pc := 34) dX9_book_34 hc3 ?_
      obtain ⟨A4, eA5, h⟩ := k_pl h
      refine k_hq eA5 ?_
      refine k_aload_n (pc := 35) (x := v0) dX9_book_35 rfl rfl ?_
      have hf6 := k_oW eA5 hc2
      refine k_getf (pc := 36) (t := 1) (fi := 25) dX9_book_36 flX9_68 rfl rfl hf6 ?_
      refine k_bipush (pc := 39) dX9_book_39 ⟨by decide, by decide⟩ (by decide +kernel) ?_
      refine k_iload_n (pc := 41) (x := v1) dX9_book_41 rfl rfl ?_
      refine k_imul (pc := 42) dX9_book_42 ?_
      refine k_iload_n (pc := 43) (x := v2) dX9_book_43 rfl rfl ?_
      refine k_iadd (pc := 44) dX9_book_44 ?_
      refine k_iconst (pc := 45) dX9_book_45 ⟨by decide, by decide⟩ ?_
      obtain ⟨hc7, h⟩ := k_pk h
      refine k_iastore (pc := 46) dX9_book_46 hc7 ?_
      obtain ⟨A8, eA9, h⟩ := k_pl h
      refine k_hq eA9 ?_
      refine k_iinc (pc := 47) (x := v2) dX9_book_47 (Nat.le_of_ble_eq_true rfl) rfl rfl ?_
      show k_AW _ _ _ [(1, v0), (0, v1), (0, k_wr (v2 + 1)), (3, 0), (3, 0), (3, 0)] _ _ _ _
      refine k_goto (pc := 50) (tgt := 17) dX9_book_50 rfl ?_
      refine k_sub (ls' := [(1, v0), (0, v1), (0, k_wr (v2 + 1)), (3, 0), (3, 0), (3, 0)]) (k_sbl_ok _ _ ⟨Or.inr rfl, Or.inr rfl, Or.inr rfl, Or.inl rfl, Or.inl rfl, Or.inl rfl, trivial⟩) ?_
      exact ih _ _ _ _ _ _ h
set_option maxRecDepth 100000 in
theorem okX9_book_b0 (A : k_H) (v0 v1 : Int) (r : Int) (A' : k_H) (h : fX9_book_b0 A v0 v1 = some (r, A')) : k_AW 3 mX9_book 0 [(1, v0), (0, v1), (3, 0), (3, 0), (3, 0), (3, 0)] [] A r A' := by
  unfold fX9_book_b0 at h
  refine k_aload_n (pc := 0) (x := v0) dX9_book_0 rfl rfl ?_
  refine k_iconst (pc := 1) dX9_book_1 ⟨by decide, by decide⟩ ?_
  obtain ⟨hc1, h⟩ := k_pk h
  refine k_putf (pc := 2) (t := 0) (fi := 0) dX9_book_2 flX9_102 rfl rfl hc1 rfl ?_
  obtain ⟨A2, eA3, h⟩ := k_pl h
  refine k_hq eA3 ?_
  refine k_aload_n (pc := 5) (x := v0) dX9_book_5 rfl rfl ?_
  refine k_iload_n (pc := 6) (x := v1) dX9_book_6 rfl rfl ?_
  have hf7 := k_oW eA3 hc1
  obtain ⟨r4, A5, hq6, h⟩ := k_pb h
  refine k_callV (pc := 7) (ci := 9) (a := v0) (as := [(0, v1)]) (st := []) (st1 := [(0, r4)]) dX9_book_7 cbX9_isShow (k_gt 1054 (by decide +kernel) (by decide +kernel)) cvX9_isShow.1 cvX9_isShow.2 rfl (by decide) hf7 (by omega) rfl (Nat.le_of_ble_eq_true rfl) (okX9_isShow hq6) rfl ?_
  refine k_if_ne (pc := 10) (tgt := 15) dX9_book_10 rfl (fun c8 => ?_) (fun c8 => ?_)
  · rw [if_neg c8] at h
    refine k_iconst (pc := 15) dX9_book_15 ⟨by decide, by decide⟩ ?_
    refine k_istore_n (pc := 16) dX9_book_16 rfl (Nat.le_of_ble_eq_true rfl) rfl ?_
    show k_AW _ _ _ [(1, v0), (0, v1), (0, 0), (3, 0), (3, 0), (3, 0)] _ _ _ _
    refine k_sub (ls' := [(1, v0), (0, v1), (0, 0), (3, 0), (3, 0), (3, 0)]) (k_sbl_ok _ _ ⟨Or.inr rfl, Or.inr rfl, Or.inr rfl, Or.inl rfl, Or.inl rfl, Or.inl rfl, trivial⟩) ?_
    exact okX9_book_h17  _ _ _ _ _ _ _ h
  · rw [if_pos (Classical.not_not.mp c8)] at h
    refine k_iconst (pc := 13) dX9_book_13 ⟨by decide, by decide⟩ ?_
    obtain ⟨rfl, rfl⟩ := k_pr h
    exact k_ret (pc := 14) dX9_book_14 rfl rfl rfl
theorem okX9_book {A : k_H} {x0 x1 : Int} {r : Int} {A1 : k_H} (h : fX9_book A x0 x1 = some (r, A1)) : k_AM 3 mX9_book [(1, x0), (0, x1)] A r A1 :=
  k_AM_of2 (ls := [(1, x0), (0, x1), (3, 0), (3, 0), (3, 0), (3, 0)]) (Or.inl (by decide +kernel)) (by decide +kernel) (by decide) rfl (Nat.le_of_ble_eq_true rfl) ⟨Or.inr rfl, Or.inr rfl, rfl, rfl, rfl, rfl, trivial⟩ (okX9_book_b0 A x0 x1 r A1 h)
/-! X9_snow -/
def fX9_snow_b165 (k99 : k_H → Int → Int → Int → Int → Option (Int × k_H)) (A : k_H) (v0 v1 v3 v4 : Int) : Option (Int × k_H) := k99 A v0 v1 v3 (k_wr (v4 + 1))
def fX9_snow_b58 (k30 : k_H → Int → Int → Int → Int → Int → Option (Int × k_H)) (A : k_H) (v0 v1 v2 v3 v4 : Int) : Option (Int × k_H) := k30 A v0 v1 v2 v3 (k_wr (v4 + 1))
def fX9_snow_h99 : Nat → k_H → Int → Int → Int → Int → Option (Int × k_H)
  | 0, _, _, _, _, _ => none
  | N + 1, A, v0, v1, v3, v4 => if k_isO A v0 9 then (if k_isA A (k_rd A v0 16) 21 v3 then (if v4 ≤ (k_rd A (k_rd A v0 16) v3) then (if k_isA A (k_rd A v0 24) 21 (k_wr (k_wr (14 * v3) + v4)) then (if 0 ≤ (k_rd A (k_rd A v0 24) (k_wr (k_wr (14 * v3) + v4))) then (fX9_snow_b165 (fX9_snow_h99 N) A v0 v1 v3 v4) else (k_lt (k_wt A (k_rd A v0 24) (k_wr (k_wr (14 * v3) + v4)) v1) fun A6 => k_bd (fX9_isLawful A6 v0 v3) fun r8 A9 => if r8 = 0 then (if k_isO A9 v0 9 then (if k_isA A9 (k_rd A9 v0 24) 21 (k_wr (k_wr (14 * v3) + v4)) then (k_lt (k_wt A9 (k_rd A9 v0 24) (k_wr (k_wr (14 * v3) + v4)) (-1)) fun A15 => fX9_snow_b165 (fX9_snow_h99 N) A15 v0 v1 v3 v4) else none) else none) else (some (v4, A9)))) else none) else (some ((-2), A))) else none) else none
def fX9_snow_h30 : Nat → k_H → Int → Int → Int → Int → Int → Option (Int × k_H)
  | 0, _, _, _, _, _, _ => none
  | N + 1, A, v0, v1, v2, v3, v4 => if k_isO A v0 9 then (if v4 < (k_rd A v0 21) then (if k_isA A (k_rd A v0 24) 21 (k_wr (k_wr (14 * v4) + v2)) then (if (k_rd A (k_rd A v0 24) (k_wr (k_wr (14 * v4) + v2))) = v1 then (fX9_snow_b58 (fX9_snow_h30 N) A v0 v1 v2 v4 v4) else (fX9_snow_b58 (fX9_snow_h30 N) A v0 v1 v2 v3 v4)) else none) else (if v3 < 0 then (some ((-1), A)) else (if k_isA A (k_rd A v0 24) 21 (k_wr (k_wr (14 * v3) + v2)) then (k_lt (k_wt A (k_rd A v0 24) (k_wr (k_wr (14 * v3) + v2)) (-1)) fun A5 => if k_isA A5 (k_rd A5 v0 25) 21 (k_wr (k_wr (14 * v3) + v2)) then (k_lt (k_wt A5 (k_rd A5 v0 25) (k_wr (k_wr (14 * v3) + v2)) (-1)) fun A9 => fX9_snow_h99 k_FU A9 v0 v1 v3 (k_wr (v2 + 1))) else none) else none))) else none
def fX9_snow_b0 (A : k_H) (v0 v1 v2 : Int) : Option (Int × k_H) := if k_isO A v0 9 then (k_lt (k_wt A v0 0 0) fun A2 => k_bd (fX9_isHall A2 v0 v1) fun r4 A5 => if r4 = 0 then (some ((-1), A5)) else (k_bd (fX9_isIn A5 v2 0 13) fun r9 A10 => if r9 = 0 then (some ((-1), A10)) else (fX9_snow_h30 k_FU A10 v0 v1 v2 (-1) 0))) else none
def fX9_snow (A : k_H) (x0 x1 x2 : Int) : Option (Int × k_H) := fX9_snow_b0 A x0 x1 x2
set_option maxRecDepth 100000 in
theorem okX9_snow_b165 (k99 : k_H → Int → Int → Int → Int → Option (Int × k_H)) (hk99 : ∀ (A : k_H) (v0 v1 v3 v4 : Int) (r : Int) (A' : k_H), k99 A v0 v1 v3 v4 = some (r, A') → k_AW 3 mX9_snow 99 [(1, v0), (0, v1), (3, 0), (0, v3), (0, v4)] [] A r A') (A : k_H) (v0 v1 v3 v4 : Int) (r : Int) (A' : k_H) (h : fX9_snow_b165 k99 A v0 v1 v3 v4 = some (r, A')) : k_AW 3 mX9_snow 165 [(1, v0), (0, v1), (3, 0), (0, v3), (0, v4)] [] A r A' := by
  unfold fX9_snow_b165 at h
  refine k_iinc (pc := 165) (x := v4) dX9_snow_165 (Nat.le_of_ble_eq_true rfl) rfl rfl ?_
  show k_AW _ _ _ [(1, v0), (0, v1), (3, 0), (0, v3), (0, k_wr (v4 + 1))] _ _ _ _
  refine k_goto (pc := 168) (tgt := 99) dX9_snow_168 rfl ?_
  refine k_sub (ls' := [(1, v0), (0, v1), (3, 0), (0, v3), (0, k_wr (v4 + 1))]) (k_sbl_ok _ _ ⟨Or.inr rfl, Or.inr rfl, Or.inl rfl, Or.inr rfl, Or.inr rfl, trivial⟩) ?_
  exact hk99 _ _ _ _ _ _ _ h
set_option maxRecDepth 100000 in
theorem okX9_snow_b58 (k30 : k_H → Int → Int → Int → Int → Int → Option (Int × k_H)) (hk30 : ∀ (A : k_H) (v0 v1 v2 v3 v4 : Int) (r : Int) (A' : k_H), k30 A v0 v1 v2 v3 v4 = some (r, A') → k_AW 3 mX9_snow 30 [(1, v0), (0, v1), (0, v2), (0, v3), (0, v4)] [] A r A') (A : k_H) (v0 v1 v2 v3 v4 : Int) (r : Int) (A' : k_H) (h : fX9_snow_b58 k30 A v0 v1 v2 v3 v4 = some (r, A')) : k_AW 3 mX9_snow 58 [(1, v0), (0, v1), (0, v2), (0, v3), (0, v4)] [] A r A' := by
  unfold fX9_snow_b58 at h
  refine k_iinc (pc := 58) (x := v4) dX9_snow_58 (Nat.le_of_ble_eq_true rfl) rfl rfl ?_
  show k_AW _ _ _ [(1, v0), (0, v1), (0, v2), (0, v3), (0, k_wr (v4 + 1))] _ _ _ _
  refine k_goto (pc := 61) (tgt := 30) dX9_snow_61 rfl ?_
  refine k_sub (ls' := [(1, v0), (0, v1), (0, v2), (0, v3), (0, k_wr (v4 + 1))]) (k_sbl_ok _ _ ⟨Or.inr rfl, Or.inr rfl, Or.inr rfl, Or.inr rfl, Or.inr rfl, trivial⟩) ?_
  exact hk30 _ _ _ _ _ _ _ _ h
set_option maxRecDepth 100000 in
theorem okX9_snow_h99 : ∀ (N : Nat) (A : k_H) (v0 v1 v3 v4 : Int) (r : Int) (A' : k_H), fX9_snow_h99 N A v0 v1 v3 v4 = some (r, A') → k_AW 3 mX9_snow 99 [(1, v0), (0, v1), (3, 0), (0, v3), (0, v4)] [] A r A' := by
  intro N
  induction N with
  | zero => intro A v0 v1 v3 v4 r A' h; exact absurd h (by simp [fX9_snow_h99])
  | succ N ih =>
    intro A v0 v1 v3 v4 r A' h
    rw [fX9_snow_h99] at h
    refine k_iload (pc := 99) (x := v4) dX9_snow_99 rfl ?_
    refine k_aload_n (pc := 101) (x := v0) dX9_snow_101 rfl rfl ?_
    obtain ⟨hc1, h⟩ := k_pk h
    refine k_getf (pc := 102) (t := 1) (fi := 16) dX9_snow_102 flX9_47 rfl rfl hc1 ?_
    refine k_iload_n (pc := 105) (x := v3) dX9_snow_105 rfl rfl ?_
    obtain ⟨hc2, h⟩ := k_pk h
    refine k_iaload (pc := 106) dX9_snow_106 hc2 ?_
    refine k_icmp_gt (pc := 107) (tgt := 171) dX9_snow_107 rfl (fun c3 => ?_) (fun c3 => ?_)
    · rw [if_neg (Int.not_le.mpr c3)] at h
      refine k_bipush (pc := 171) dX9_snow_171 ⟨by decide, by decide⟩ (by decide +kernel) ?_
      obtain ⟨rfl, rfl⟩ := k_pr h
      exact k_ret (pc := 173) dX9_snow_173 rfl rfl rfl
    · rw [if_pos (Int.not_lt.mp c3)] at h
      refine k_aload_n (pc := 110) (x := v0) dX9_snow_110 rfl rfl ?_
      refine k_getf (pc := 111) (t := 1) (fi := 24) dX9_snow_111 flX9_65 rfl rfl hc1 ?_
      refine k_bipush (pc := 114) dX9_snow_114 ⟨by decide, by decide⟩ (by decide +kernel) ?_
      refine k_iload_n (pc := 116) (x := v3) dX9_snow_116 rfl rfl ?_
      refine k_imul (pc := 117) dX9_snow_117 ?_
      refine k_iload (pc := 118) (x := v4) dX9_snow_118 rfl ?_
      refine k_iadd (pc := 120) dX9_snow_120 ?_
      obtain ⟨hc4, h⟩ := k_pk h
      refine k_iaload (pc := 121) dX9_snow_121 hc4 ?_
      refine k_if_lt (pc := 122) (tgt := 128) dX9_snow_122 rfl (fun c5 => ?_) (fun c5 => ?_)
      · rw [if_neg (Int.not_le.mpr c5)] at h
        refine k_aload_n (pc := 128) (x := v0) dX9_snow_128 rfl rfl ?_
        refine k_getf (pc := 129) (t := 1) (fi := 24) dX9_snow_129 flX9_65 rfl rfl hc1 ?_
        refine k_bipush (pc := 132) dX9_snow_132 ⟨by decide, by decide⟩ (by decide +kernel) ?_
        refine k_iload_n (pc := 134) (x := v3) dX9_snow_134 rfl rfl ?_
        refine k_imul (pc := 135) dX9_snow_135 ?_
        refine k_iload (pc := 136) (x := v4) dX9_snow_136 rfl ?_
        refine k_iadd (pc := 138) dX9_snow_138 ?_
        refine k_iload_n (pc := 139) (x := v1) dX9_snow_139 rfl rfl ?_
        refine k_iastore (pc := 140) dX9_snow_140 hc4 ?_
        obtain ⟨A6, eA7, h⟩ := k_pl h
        refine k_hq eA7 ?_
        refine k_aload_n (pc := 141) (x := v0) dX9_snow_141 rfl rfl ?_
        refine k_iload_n (pc := 142) (x := v3) dX9_snow_142 rfl rfl ?_
        have hf11 := k_oW eA7 hc1
        obtain ⟨r8, A9, hq10, h⟩ := k_pb h
        refine k_callV (pc := 143) (ci := 9) (a := v0) (as := [(0, v3)]) (st := []) (st1 := [(0, r8)]) dX9_snow_143 cbX9_isLawful (k_gt 1114 (by decide +kernel) (by decide +kernel)) cvX9_isLawful.1 cvX9_isLawful.2 rfl (by decide) hf11 (by omega) rfl (Nat.le_of_ble_eq_true rfl) (okX9_isLawful hq10) rfl ?_
        refine k_if_eq (pc := 146) (tgt := 152) dX9_snow_146 rfl (fun c12 => ?_) (fun c12 => ?_)
        · rw [if_pos c12] at h
          refine k_aload_n (pc := 152) (x := v0) dX9_snow_152 rfl rfl ?_
          obtain ⟨hc13, h⟩ := k_pk h
          refine k_getf (pc := 153) (t := 1) (fi := 24) dX9_snow_153 flX9_65 rfl rfl hc13 ?_
          refine k_bipush (pc := 156) dX9_snow_156 ⟨by decide, by decide⟩ (by decide +kernel) ?_
          refine k_iload_n (pc := 158) (x := v3) dX9_snow_158 rfl rfl ?_
          refine k_imul (pc := 159) dX9_snow_159 ?_
          refine k_iload (pc := 160) (x := v4) dX9_snow_160 rfl ?_
          refine k_iadd (pc := 162) dX9_snow_162 ?_
          refine k_iconst (pc := 163) dX9_snow_163 ⟨by decide, by decide⟩ ?_
          obtain ⟨hc14, h⟩ := k_pk h
          refine k_iastore (pc := 164) dX9_snow_164 hc14 ?_
          obtain ⟨A15, eA16, h⟩ := k_pl h
          refine k_hq eA16 ?_
          refine k_sub (ls' := [(1, v0), (0, v1), (3, 0), (0, v3), (0, v4)]) (k_sbl_ok _ _ ⟨Or.inr rfl, Or.inr rfl, Or.inl rfl, Or.inr rfl, Or.inr rfl, trivial⟩) ?_
          exact okX9_snow_b165 (fX9_snow_h99 N) ih _ _ _ _ _ _ _ h
        · rw [if_neg c12] at h
          refine k_iload (pc := 149) (x := v4) dX9_snow_149 rfl ?_
          obtain ⟨rfl, rfl⟩ := k_pr h
          exact k_ret (pc := 151) dX9_snow_151 rfl rfl rfl
      · rw [if_pos (Int.not_lt.mp c5)] at h
        refine k_goto (pc := 125) (tgt := 165) dX9_snow_125 rfl ?_
        refine k_sub (ls' := [(1, v0), (0, v1), (3, 0), (0, v3), (0, v4)]) (k_sbl_ok _ _ ⟨Or.inr rfl, Or.inr rfl, Or.inl rfl, Or.inr rfl, Or.inr rfl, trivial⟩) ?_
        exact okX9_snow_b165 (fX9_snow_h99 N) ih _ _ _ _ _ _ _ h
set_option maxRecDepth 100000 in
theorem okX9_snow_h30 : ∀ (N : Nat) (A : k_H) (v0 v1 v2 v3 v4 : Int) (r : Int) (A' : k_H), fX9_snow_h30 N A v0 v1 v2 v3 v4 = some (r, A') → k_AW 3 mX9_snow 30 [(1, v0), (0, v1), (0, v2), (0, v3), (0, v4)] [] A r A' := by
  intro N
  induction N with
  | zero => intro A v0 v1 v2 v3 v4 r A' h; exact absurd h (by simp [fX9_snow_h30])
  | succ N ih =>
    intro A v0 v1 v2 v3 v4 r A' h
    rw [fX9_snow_h30] at h
    refine k_iload (pc := 30) (x := v4) dX9_snow_30 rfl ?_
    refine k_aload_n (pc := 32) (x := v0) dX9_snow_32 rfl rfl ?_
    obtain ⟨hc1, h⟩ := k_pk h
    refine k_getf (pc := 33) (t := 0) (fi := 21) dX9_snow_33 flX9_122 rfl rfl hc1 ?_
    refine k_icmp_ge (pc := 36) (tgt := 64) dX9_snow_36 rfl (fun c2 => ?_) (fun c2 => ?_)
    · rw [if_neg (Int.not_lt.mpr c2)] at h
      refine k_iload_n (pc := 64) (x := v3) dX9_snow_64 rfl rfl ?_
      refine k_if_ge (pc := 65) (tgt := 70) dX9_snow_65 rfl (fun c3 => ?_) (fun c3 => ?_)
      · rw [if_neg (Int.not_lt.mpr c3)] at h
        refine k_aload_n (pc := 70) (x := v0) dX9_snow_70 rfl rfl ?_
        refine k_getf (pc := 71) (t := 1) (fi := 24) dX9_snow_71 flX9_65 rfl rfl hc1 ?_
        refine k_bipush (pc := 74) dX9_snow_74 ⟨by decide, by decide⟩ (by decide +kernel) ?_
        refine k_iload_n (pc := 76) (x := v3) dX9_snow_76 rfl rfl ?_
        refine k_imul (pc := 77) dX9_snow_77 ?_
        refine k_iload_n (pc := 78) (x := v2) dX9_snow_78 rfl rfl ?_
        refine k_iadd (pc := 79) dX9_snow_79 ?_
        refine k_iconst (pc := 80) dX9_snow_80 ⟨by decide, by decide⟩ ?_
        obtain ⟨hc4, h⟩ := k_pk h
        refine k_iastore (pc := 81) dX9_snow_81 hc4 ?_
        obtain ⟨A5, eA6, h⟩ := k_pl h
        refine k_hq eA6 ?_
        refine k_aload_n (pc := 82) (x := v0) dX9_snow_82 rfl rfl ?_
        have hf7 := k_oW eA6 hc1
        refine k_getf (pc := 83) (t := 1) (fi := 25) dX9_snow_83 flX9_68 rfl rfl hf7 ?_
        refine k_bipush (pc := 86) dX9_snow_86 ⟨by decide, by decide⟩ (by decide +kernel) ?_
        refine k_iload_n (pc := 88) (x := v3) dX9_snow_88 rfl rfl ?_
        refine k_imul (pc := 89) dX9_snow_89 ?_
        refine k_iload_n (pc := 90) (x := v2) dX9_snow_90 rfl rfl ?_
        refine k_iadd (pc := 91) dX9_snow_91 ?_
        refine k_iconst (pc := 92) dX9_snow_92 ⟨by decide, by decide⟩ ?_
        obtain ⟨hc8, h⟩ := k_pk h
        refine k_iastore (pc := 93) dX9_snow_93 hc8 ?_
        obtain ⟨A9, eA10, h⟩ := k_pl h
        refine k_hq eA10 ?_
        refine k_iload_n (pc := 94) (x := v2) dX9_snow_94 rfl rfl ?_
        refine k_iconst (pc := 95) dX9_snow_95 ⟨by decide, by decide⟩ ?_
        refine k_iadd (pc := 96) dX9_snow_96 ?_
        refine k_istore (pc := 97) dX9_snow_97 (Nat.le_of_ble_eq_true rfl) rfl ?_
        show k_AW _ _ _ [(1, v0), (0, v1), (0, v2), (0, v3), (0, k_wr (v2 + 1))] _ _ _ _
        refine k_sub (ls' := [(1, v0), (0, v1), (3, 0), (0, v3), (0, k_wr (v2 + 1))]) (k_sbl_ok _ _ ⟨Or.inr rfl, Or.inr rfl, Or.inl rfl, Or.inr rfl, Or.inr rfl, trivial⟩) ?_
        exact okX9_snow_h99  _ _ _ _ _ _ _ _ h
      · rw [if_pos (Int.not_le.mp c3)] at h
        refine k_iconst (pc := 68) dX9_snow_68 ⟨by decide, by decide⟩ ?_
        obtain ⟨rfl, rfl⟩ := k_pr h
        exact k_ret (pc := 69) dX9_snow_69 rfl rfl rfl
    · rw [if_pos (Int.not_le.mp c2)] at h
      refine k_aload_n (pc := 39) (x := v0) dX9_snow_39 rfl rfl ?_
      refine k_getf (pc := 40) (t := 1) (fi := 24) dX9_snow_40 flX9_65 rfl rfl hc1 ?_
      refine k_bipush (pc := 43) dX9_snow_43 ⟨by decide, by decide⟩ (by decide +kernel) ?_
      refine k_iload (pc := 45) (x := v4) dX9_snow_45 rfl ?_
      refine k_imul (pc := 47) dX9_snow_47 ?_
      refine k_iload_n (pc := 48) (x := v2) dX9_snow_48 rfl rfl ?_
      refine k_iadd (pc := 49) dX9_snow_49 ?_
      obtain ⟨hc11, h⟩ := k_pk h
      refine k_iaload (pc := 50) dX9_snow_50 hc11 ?_
      refine k_iload_n (pc := 51) (x := v1) dX9_snow_51 rfl rfl ?_
      refine k_icmp_ne (pc := 52) (tgt := 58) dX9_snow_52 rfl (fun c12 => ?_) (fun c12 => ?_)
      · rw [if_neg c12] at h
        refine k_sub (ls' := [(1, v0), (0, v1), (0, v2), (0, v3), (0, v4)]) (k_sbl_ok _ _ ⟨Or.inr rfl, Or.inr rfl, Or.inr rfl, Or.inr rfl, Or.inr rfl, trivial⟩) ?_
        exact okX9_snow_b58 (fX9_snow_h30 N) ih _ _ _ _ _ _ _ _ h
      · rw [if_pos (Classical.not_not.mp c12)] at h
        refine k_iload (pc := 55) (x := v4) dX9_snow_55 rfl ?_
        refine k_istore_n (pc := 57) dX9_snow_57 rfl (Nat.le_of_ble_eq_true rfl) rfl ?_
        show k_AW _ _ _ [(1, v0), (0, v1), (0, v2), (0, v4), (0, v4)] _ _ _ _
        refine k_sub (ls' := [(1, v0), (0, v1), (0, v2), (0, v4), (0, v4)]) (k_sbl_ok _ _ ⟨Or.inr rfl, Or.inr rfl, Or.inr rfl, Or.inr rfl, Or.inr rfl, trivial⟩) ?_
        exact okX9_snow_b58 (fX9_snow_h30 N) ih _ _ _ _ _ _ _ _ h
set_option maxRecDepth 100000 in
theorem okX9_snow_b0 (A : k_H) (v0 v1 v2 : Int) (r : Int) (A' : k_H) (h : fX9_snow_b0 A v0 v1 v2 = some (r, A')) : k_AW 3 mX9_snow 0 [(1, v0), (0, v1), (0, v2), (3, 0), (3, 0)] [] A r A' := by
  unfold fX9_snow_b0 at h
  refine k_aload_n (pc := 0) (x := v0) dX9_snow_0 rfl rfl ?_
  refine k_iconst (pc := 1) dX9_snow_1 ⟨by decide, by decide⟩ ?_
  obtain ⟨hc1, h⟩ := k_pk h
  refine k_putf (pc := 2) (t := 0) (fi := 0) dX9_snow_2 flX9_102 rfl rfl hc1 rfl ?_
  obtain ⟨A2, eA3, h⟩ := k_pl h
  refine k_hq eA3 ?_
  refine k_aload_n (pc := 5) (x := v0) dX9_snow_5 rfl rfl ?_
  refine k_iload_n (pc := 6) (x := v1) dX9_snow_6 rfl rfl ?_
  have hf7 := k_oW eA3 hc1
  obtain ⟨r4, A5, hq6, h⟩ := k_pb h
  refine k_callV (pc := 7) (ci := 9) (a := v0) (as := [(0, v1)]) (st := []) (st1 := [(0, r4)]) dX9_snow_7 cbX9_isHall (k_gt 1042 (by decide +kernel) (by decide +kernel)) cvX9_isHall.1 cvX9_isHall.2 rfl (by decide) hf7 (by omega) rfl (Nat.le_of_ble_eq_true rfl) (okX9_isHall hq6) rfl ?_
  refine k_if_eq (pc := 10) (tgt := 23) dX9_snow_10 rfl (fun c8 => ?_) (fun c8 => ?_)
  · rw [if_pos c8] at h
    refine k_iconst (pc := 23) dX9_snow_23 ⟨by decide, by decide⟩ ?_
    obtain ⟨rfl, rfl⟩ := k_pr h
    exact k_ret (pc := 24) dX9_snow_24 rfl rfl rfl
  · rw [if_neg c8] at h
    refine k_iload_n (pc := 13) (x := v2) dX9_snow_13 rfl rfl ?_
    refine k_iconst (pc := 14) dX9_snow_14 ⟨by decide, by decide⟩ ?_
    refine k_bipush (pc := 15) dX9_snow_15 ⟨by decide, by decide⟩ (by decide +kernel) ?_
    obtain ⟨r9, A10, hq11, h⟩ := k_pb h
    refine k_callS (pc := 17) (as := [(0, v2), (0, 0), (0, 13)]) (st := []) (st1 := [(0, r9)]) dX9_snow_17 cbX9_isIn (k_gt 1027 (by decide +kernel) (by decide +kernel)) (k_gt 1028 (by decide +kernel) (by decide +kernel)) (by omega) rfl (Nat.le_of_ble_eq_true rfl) (okX9_isIn hq11) rfl ?_
    refine k_if_ne (pc := 20) (tgt := 25) dX9_snow_20 rfl (fun c12 => ?_) (fun c12 => ?_)
    · rw [if_neg c12] at h
      refine k_iconst (pc := 25) dX9_snow_25 ⟨by decide, by decide⟩ ?_
      refine k_istore_n (pc := 26) dX9_snow_26 rfl (Nat.le_of_ble_eq_true rfl) rfl ?_
      show k_AW _ _ _ [(1, v0), (0, v1), (0, v2), (0, (-1)), (3, 0)] _ _ _ _
      refine k_iconst (pc := 27) dX9_snow_27 ⟨by decide, by decide⟩ ?_
      refine k_istore (pc := 28) dX9_snow_28 (Nat.le_of_ble_eq_true rfl) rfl ?_
      show k_AW _ _ _ [(1, v0), (0, v1), (0, v2), (0, (-1)), (0, 0)] _ _ _ _
      refine k_sub (ls' := [(1, v0), (0, v1), (0, v2), (0, (-1)), (0, 0)]) (k_sbl_ok _ _ ⟨Or.inr rfl, Or.inr rfl, Or.inr rfl, Or.inr rfl, Or.inr rfl, trivial⟩) ?_
      exact okX9_snow_h30  _ _ _ _ _ _ _ _ _ h
    · rw [if_pos (Classical.not_not.mp c12)] at h
      refine k_iconst (pc := 23) dX9_snow_23 ⟨by decide, by decide⟩ ?_
      obtain ⟨rfl, rfl⟩ := k_pr h
      exact k_ret (pc := 24) dX9_snow_24 rfl rfl rfl
theorem okX9_snow {A : k_H} {x0 x1 x2 : Int} {r : Int} {A1 : k_H} (h : fX9_snow A x0 x1 x2 = some (r, A1)) : k_AM 3 mX9_snow [(1, x0), (0, x1), (0, x2)] A r A1 :=
  k_AM_of2 (ls := [(1, x0), (0, x1), (0, x2), (3, 0), (3, 0)]) (Or.inl (by decide +kernel)) (by decide +kernel) (by decide) rfl (Nat.le_of_ble_eq_true rfl) ⟨Or.inr rfl, Or.inr rfl, Or.inr rfl, rfl, rfl, trivial⟩ (okX9_snow_b0 A x0 x1 x2 r A1 h)
/-! X9_behind -/
def fX9_behind_b0 (A : k_H) (v0 v1 : Int) : Option (Int × k_H) := if k_isO A v0 9 then (k_bd (fX9_isWord A v0 v1) fun r1 A2 => if r1 = 0 then (if k_isO A2 v0 9 then (k_bd (fX9_cant A2 v0) fun r10 A11 => if r10 = 0 ∨ r10 = 1 then (some (r10, A11)) else none) else none) else (if k_isO A2 v0 9 then (k_bd (fX9_next A2 v0) fun r6 A7 => some (1, A7)) else none)) else none
def fX9_behind (A : k_H) (x0 x1 : Int) : Option (Int × k_H) := fX9_behind_b0 A x0 x1
set_option maxRecDepth 100000 in
theorem okX9_behind_b0 (A : k_H) (v0 v1 : Int) (r : Int) (A' : k_H) (h : fX9_behind_b0 A v0 v1 = some (r, A')) : k_AW 3 mX9_behind 0 [(1, v0), (2, v1), (3, 0)] [] A r A' := by
  unfold fX9_behind_b0 at h
  refine k_aload_n (pc := 0) (x := v0) dX9_behind_0 rfl rfl ?_
  refine k_lload_n (pc := 1) (x := v1) dX9_behind_1 rfl rfl ?_
  obtain ⟨hc4, h⟩ := k_pk h
  obtain ⟨r1, A2, hq3, h⟩ := k_pb h
  refine k_callV (pc := 2) (ci := 9) (a := v0) (as := [(2, v1)]) (st := []) (st1 := [(0, r1)]) dX9_behind_2 cbX9_isWord (k_gt 1145 (by decide +kernel) (by decide +kernel)) cvX9_isWord.1 cvX9_isWord.2 rfl (by decide) hc4 (by omega) rfl (Nat.le_of_ble_eq_true rfl) (okX9_isWord hq3) rfl ?_
  refine k_if_ne (pc := 5) (tgt := 13) dX9_behind_5 rfl (fun c5 => ?_) (fun c5 => ?_)
  · rw [if_neg c5] at h
    refine k_aload_n (pc := 13) (x := v0) dX9_behind_13 rfl rfl ?_
    obtain ⟨hc9, h⟩ := k_pk h
    obtain ⟨r6, A7, hq8, h⟩ := k_pb h
    refine k_callV (pc := 14) (ci := 9) (a := v0) (as := []) (st := []) (st1 := []) dX9_behind_14 cbX9_next (k_gt 1126 (by decide +kernel) (by decide +kernel)) cvX9_next.1 cvX9_next.2 rfl (by decide) hc9 (by omega) rfl (Nat.le_of_ble_eq_true rfl) (okX9_next hq8) rfl ?_
    refine k_iconst (pc := 17) dX9_behind_17 ⟨by decide, by decide⟩ ?_
    obtain ⟨rfl, rfl⟩ := k_pr h
    exact k_ret (pc := 18) dX9_behind_18 rfl rfl (by decide +kernel)
  · rw [if_pos (Classical.not_not.mp c5)] at h
    refine k_aload_n (pc := 8) (x := v0) dX9_behind_8 rfl rfl ?_
    obtain ⟨hc13, h⟩ := k_pk h
    obtain ⟨r10, A11, hq12, h⟩ := k_pb h
    refine k_callV (pc := 9) (ci := 9) (a := v0) (as := []) (st := []) (st1 := [(0, r10)]) dX9_behind_9 cbX9_cant (k_gt 1152 (by decide +kernel) (by decide +kernel)) cvX9_cant.1 cvX9_cant.2 rfl (by decide) hc13 (by omega) rfl (Nat.le_of_ble_eq_true rfl) (okX9_cant hq12) rfl ?_
    obtain ⟨hc14, h⟩ := k_pk h
    obtain ⟨rfl, rfl⟩ := k_pr h
    exact k_ret (pc := 12) dX9_behind_12 rfl rfl (k_nz hc14)
theorem okX9_behind {A : k_H} {x0 x1 : Int} {r : Int} {A1 : k_H} (h : fX9_behind A x0 x1 = some (r, A1)) : k_AM 3 mX9_behind [(1, x0), (2, x1)] A r A1 :=
  k_AM_of2 (ls := [(1, x0), (2, x1), (3, 0)]) (Or.inl (by decide +kernel)) (by decide +kernel) (by decide) rfl (Nat.le_of_ble_eq_true rfl) ⟨Or.inr rfl, Or.inr rfl, Or.inl rfl, trivial⟩ (okX9_behind_b0 A x0 x1 r A1 h)
/-! X9_take -/
def fX9_take_b29 (A : k_H) (v0 : Int) : Option (Int × k_H) := if k_isO A v0 9 then (k_bd (fX9_wrong A v0 3 (k_rd A v0 37)) fun r2 A3 => if r2 = 0 ∨ r2 = 1 then (some (r2, A3)) else none) else none
def fX9_take_b0 (A : k_H) (v0 v1 v2 v3 : Int) : Option (Int × k_H) := if k_isO A v0 9 then (if (k_rd A v0 36) = 2 then (if (k_rd A v0 38) ≤ v2 then (if (k_rd A v0 38) ≤ v3 then (fX9_take_b29 A v0) else (if k_isA A (k_rd A v0 35) 21 (k_wr (72 + v1)) then (k_lt (k_wt A (k_rd A v0 35) (k_wr (72 + v1)) (k_rd A v0 38)) fun A6 => k_bd (fX9_next A6 v0) fun r8 A9 => some (1, A9)) else none)) else (fX9_take_b29 A v0)) else (k_bd (fX9_cant A v0) fun r12 A13 => if r12 = 0 ∨ r12 = 1 then (some (r12, A13)) else none)) else none
def fX9_take (A : k_H) (x0 x1 x2 x3 : Int) : Option (Int × k_H) := fX9_take_b0 A x0 x1 x2 x3
set_option maxRecDepth 100000 in
theorem okX9_take_b29 (A : k_H) (v0 : Int) (r : Int) (A' : k_H) (h : fX9_take_b29 A v0 = some (r, A')) : k_AW 3 mX9_take 29 [(1, v0), (3, 0), (3, 0), (3, 0)] [] A r A' := by
  unfold fX9_take_b29 at h
  refine k_aload_n (pc := 29) (x := v0) dX9_take_29 rfl rfl ?_
  refine k_iconst (pc := 30) dX9_take_30 ⟨by decide, by decide⟩ ?_
  refine k_aload_n (pc := 31) (x := v0) dX9_take_31 rfl rfl ?_
  obtain ⟨hc1, h⟩ := k_pk h
  refine k_getf (pc := 32) (t := 0) (fi := 37) dX9_take_32 flX9_181 rfl rfl hc1 ?_
  obtain ⟨r2, A3, hq4, h⟩ := k_pb h
  refine k_callV (pc := 35) (ci := 9) (a := v0) (as := [(0, 3), (0, (k_rd A v0 37))]) (st := []) (st1 := [(0, r2)]) dX9_take_35 cbX9_wrong (k_gt 1156 (by decide +kernel) (by decide +kernel)) cvX9_wrong.1 cvX9_wrong.2 rfl (by decide) hc1 (by omega) rfl (Nat.le_of_ble_eq_true rfl) (okX9_wrong hq4) rfl ?_
  obtain ⟨hc5, h⟩ := k_pk h
  obtain ⟨rfl, rfl⟩ := k_pr h
  exact k_ret (pc := 38) dX9_take_38 rfl rfl (k_nz hc5)
set_option maxRecDepth 100000 in
theorem okX9_take_b0 (A : k_H) (v0 v1 v2 v3 : Int) (r : Int) (A' : k_H) (h : fX9_take_b0 A v0 v1 v2 v3 = some (r, A')) : k_AW 3 mX9_take 0 [(1, v0), (0, v1), (0, v2), (0, v3)] [] A r A' := by
  unfold fX9_take_b0 at h
  refine k_aload_n (pc := 0) (x := v0) dX9_take_0 rfl rfl ?_
  obtain ⟨hc1, h⟩ := k_pk h
  refine k_getf (pc := 1) (t := 0) (fi := 36) dX9_take_1 flX9_184 rfl rfl hc1 ?_
  refine k_iconst (pc := 4) dX9_take_4 ⟨by decide, by decide⟩ ?_
  refine k_icmp_eq (pc := 5) (tgt := 13) dX9_take_5 rfl (fun c2 => ?_) (fun c2 => ?_)
  · rw [if_pos c2] at h
    refine k_aload_n (pc := 13) (x := v0) dX9_take_13 rfl rfl ?_
    refine k_getf (pc := 14) (t := 0) (fi := 38) dX9_take_14 flX9_197 rfl rfl hc1 ?_
    refine k_iload_n (pc := 17) (x := v2) dX9_take_17 rfl rfl ?_
    refine k_icmp_gt (pc := 18) (tgt := 29) dX9_take_18 rfl (fun c3 => ?_) (fun c3 => ?_)
    · rw [if_neg (Int.not_le.mpr c3)] at h
      refine k_sub (ls' := [(1, v0), (3, 0), (3, 0), (3, 0)]) (k_sbl_ok _ _ ⟨Or.inr rfl, Or.inl rfl, Or.inl rfl, Or.inl rfl, trivial⟩) ?_
      exact okX9_take_b29  _ _ _ _ h
    · rw [if_pos (Int.not_lt.mp c3)] at h
      refine k_aload_n (pc := 21) (x := v0) dX9_take_21 rfl rfl ?_
      refine k_getf (pc := 22) (t := 0) (fi := 38) dX9_take_22 flX9_197 rfl rfl hc1 ?_
      refine k_iload_n (pc := 25) (x := v3) dX9_take_25 rfl rfl ?_
      refine k_icmp_gt (pc := 26) (tgt := 39) dX9_take_26 rfl (fun c4 => ?_) (fun c4 => ?_)
      · rw [if_neg (Int.not_le.mpr c4)] at h
        refine k_aload_n (pc := 39) (x := v0) dX9_take_39 rfl rfl ?_
        refine k_getf (pc := 40) (t := 1) (fi := 35) dX9_take_40 flX9_99 rfl rfl hc1 ?_
        refine k_bipush (pc := 43) dX9_take_43 ⟨by decide, by decide⟩ (by decide +kernel) ?_
        refine k_iload_n (pc := 45) (x := v1) dX9_take_45 rfl rfl ?_
        refine k_iadd (pc := 46) dX9_take_46 ?_
        refine k_aload_n (pc := 47) (x := v0) dX9_take_47 rfl rfl ?_
        refine k_getf (pc := 48) (t := 0) (fi := 38) dX9_take_48 flX9_197 rfl rfl hc1 ?_
        obtain ⟨hc5, h⟩ := k_pk h
        refine k_iastore (pc := 51) dX9_take_51 hc5 ?_
        obtain ⟨A6, eA7, h⟩ := k_pl h
        refine k_hq eA7 ?_
        refine k_aload_n (pc := 52) (x := v0) dX9_take_52 rfl rfl ?_
        have hf11 := k_oW eA7 hc1
        obtain ⟨r8, A9, hq10, h⟩ := k_pb h
        refine k_callV (pc := 53) (ci := 9) (a := v0) (as := []) (st := []) (st1 := []) dX9_take_53 cbX9_next (k_gt 1126 (by decide +kernel) (by decide +kernel)) cvX9_next.1 cvX9_next.2 rfl (by decide) hf11 (by omega) rfl (Nat.le_of_ble_eq_true rfl) (okX9_next hq10) rfl ?_
        refine k_iconst (pc := 56) dX9_take_56 ⟨by decide, by decide⟩ ?_
        obtain ⟨rfl, rfl⟩ := k_pr h
        exact k_ret (pc := 57) dX9_take_57 rfl rfl (by decide +kernel)
      · rw [if_pos (Int.not_lt.mp c4)] at h
        refine k_sub (ls' := [(1, v0), (3, 0), (3, 0), (3, 0)]) (k_sbl_ok _ _ ⟨Or.inr rfl, Or.inl rfl, Or.inl rfl, Or.inl rfl, trivial⟩) ?_
        exact okX9_take_b29  _ _ _ _ h
  · rw [if_neg c2] at h
    refine k_aload_n (pc := 8) (x := v0) dX9_take_8 rfl rfl ?_
    obtain ⟨r12, A13, hq14, h⟩ := k_pb h
    refine k_callV (pc := 9) (ci := 9) (a := v0) (as := []) (st := []) (st1 := [(0, r12)]) dX9_take_9 cbX9_cant (k_gt 1152 (by decide +kernel) (by decide +kernel)) cvX9_cant.1 cvX9_cant.2 rfl (by decide) hc1 (by omega) rfl (Nat.le_of_ble_eq_true rfl) (okX9_cant hq14) rfl ?_
    obtain ⟨hc15, h⟩ := k_pk h
    obtain ⟨rfl, rfl⟩ := k_pr h
    exact k_ret (pc := 12) dX9_take_12 rfl rfl (k_nz hc15)
theorem okX9_take {A : k_H} {x0 x1 x2 x3 : Int} {r : Int} {A1 : k_H} (h : fX9_take A x0 x1 x2 x3 = some (r, A1)) : k_AM 3 mX9_take [(1, x0), (0, x1), (0, x2), (0, x3)] A r A1 :=
  k_AM_of2 (ls := [(1, x0), (0, x1), (0, x2), (0, x3)]) (Or.inl (by decide +kernel)) (by decide +kernel) (by decide) rfl (Nat.le_of_ble_eq_true rfl) ⟨Or.inr rfl, Or.inr rfl, Or.inr rfl, Or.inr rfl, trivial⟩ (okX9_take_b0 A x0 x1 x2 x3 r A1 h)
/-! X9_shared -/
def fX9_shared_b47 (A : k_H) (v0 v1 v2 v3 s0 s1 : Int) : Option (Int × k_H) := if k_isO A s0 9 then (k_bd (fX9_throwsIf A s0 s1) fun r1 A2 => if r1 = 0 then (if k_isO A2 v0 9 then (if k_isA A2 (k_rd A2 v0 25) 21 (k_wr (k_wr (14 * v1) + v2)) then (k_bd (fX9_shareOf A2 v0 v1 (k_rd A2 (k_rd A2 v0 25) (k_wr (k_wr (14 * v1) + v2))) v3) fun r8 A9 => some (r8, A9)) else none) else none) else (some (0, A2))) else none
def fX9_shared_b42 (A : k_H) (v0 v1 v2 v3 s0 : Int) : Option (Int × k_H) := fX9_shared_b47 A v0 v1 v2 v3 s0 1
def fX9_shared_b0 (A : k_H) (v0 v1 v2 v3 : Int) : Option (Int × k_H) := if k_isO A v0 9 then (k_bd (fX9_isShow A v0 v1) fun r1 A2 => if r1 = 0 then (fX9_shared_b42 A2 v0 v1 v2 v3 v0) else (k_bd (fX9_isIn A2 v2 0 13) fun r6 A7 => if r6 = 0 then (fX9_shared_b42 A7 v0 v1 v2 v3 v0) else (if k_isO A7 v0 9 then (if k_isA A7 (k_rd A7 v0 25) 21 (k_wr (k_wr (14 * v1) + v2)) then (if 0 ≤ (k_rd A7 (k_rd A7 v0 25) (k_wr (k_wr (14 * v1) + v2))) then (k_bd (fX9_isIn A7 v3 0 3) fun r13 A14 => if r13 = 0 then (fX9_shared_b42 A14 v0 v1 v2 v3 v0) else (fX9_shared_b47 A14 v0 v1 v2 v3 v0 0)) else (fX9_shared_b42 A7 v0 v1 v2 v3 v0)) else none) else none))) else none
def fX9_shared (A : k_H) (x0 x1 x2 x3 : Int) : Option (Int × k_H) := fX9_shared_b0 A x0 x1 x2 x3
set_option maxRecDepth 100000 in
theorem okX9_shared_b47 (A : k_H) (v0 v1 v2 v3 s0 s1 : Int) (r : Int) (A' : k_H) (h : fX9_shared_b47 A v0 v1 v2 v3 s0 s1 = some (r, A')) : k_AW 3 mX9_shared 47 [(1, v0), (0, v1), (0, v2), (0, v3)] [(0, s1), (1, s0)] A r A' := by
  unfold fX9_shared_b47 at h
  obtain ⟨hc4, h⟩ := k_pk h
  obtain ⟨r1, A2, hq3, h⟩ := k_pb h
  refine k_callV (pc := 47) (ci := 9) (a := s0) (as := [(0, s1)]) (st := []) (st1 := [(0, r1)]) dX9_shared_47 cbX9_throwsIf (k_gt 1186 (by decide +kernel) (by decide +kernel)) cvX9_throwsIf.1 cvX9_throwsIf.2 rfl (by decide) hc4 (by omega) rfl (Nat.le_of_ble_eq_true rfl) (okX9_throwsIf hq3) rfl ?_
  refine k_if_eq (pc := 50) (tgt := 55) dX9_shared_50 rfl (fun c5 => ?_) (fun c5 => ?_)
  · rw [if_pos c5] at h
    refine k_aload_n (pc := 55) (x := v0) dX9_shared_55 rfl rfl ?_
    refine k_iload_n (pc := 56) (x := v1) dX9_shared_56 rfl rfl ?_
    refine k_aload_n (pc := 57) (x := v0) dX9_shared_57 rfl rfl ?_
    obtain ⟨hc6, h⟩ := k_pk h
    refine k_getf (pc := 58) (t := 1) (fi := 25) dX9_shared_58 flX9_68 rfl rfl hc6 ?_
    refine k_bipush (pc := 61) dX9_shared_61 ⟨by decide, by decide⟩ (by decide +kernel) ?_
    refine k_iload_n (pc := 63) (x := v1) dX9_shared_63 rfl rfl ?_
    refine k_imul (pc := 64) dX9_shared_64 ?_
    refine k_iload_n (pc := 65) (x := v2) dX9_shared_65 rfl rfl ?_
    refine k_iadd (pc := 66) dX9_shared_66 ?_
    obtain ⟨hc7, h⟩ := k_pk h
    refine k_iaload (pc := 67) dX9_shared_67 hc7 ?_
    refine k_iload_n (pc := 68) (x := v3) dX9_shared_68 rfl rfl ?_
    obtain ⟨r8, A9, hq10, h⟩ := k_pb h
    refine k_callV (pc := 69) (ci := 9) (a := v0) (as := [(0, v1), (0, (k_rd A2 (k_rd A2 v0 25) (k_wr (k_wr (14 * v1) + v2)))), (0, v3)]) (st := []) (st1 := [(0, r8)]) dX9_shared_69 cbX9_shareOf (k_gt 1190 (by decide +kernel) (by decide +kernel)) cvX9_shareOf.1 cvX9_shareOf.2 rfl (by decide) hc6 (by omega) rfl (Nat.le_of_ble_eq_true rfl) (okX9_shareOf hq10) rfl ?_
    obtain ⟨rfl, rfl⟩ := k_pr h
    exact k_ret (pc := 72) dX9_shared_72 rfl rfl rfl
  · rw [if_neg c5] at h
    refine k_iconst (pc := 53) dX9_shared_53 ⟨by decide, by decide⟩ ?_
    obtain ⟨rfl, rfl⟩ := k_pr h
    exact k_ret (pc := 54) dX9_shared_54 rfl rfl rfl
set_option maxRecDepth 100000 in
theorem okX9_shared_b42 (A : k_H) (v0 v1 v2 v3 s0 : Int) (r : Int) (A' : k_H) (h : fX9_shared_b42 A v0 v1 v2 v3 s0 = some (r, A')) : k_AW 3 mX9_shared 42 [(1, v0), (0, v1), (0, v2), (0, v3)] [(1, s0)] A r A' := by
  unfold fX9_shared_b42 at h
  refine k_iconst (pc := 42) dX9_shared_42 ⟨by decide, by decide⟩ ?_
  refine k_goto (pc := 43) (tgt := 47) dX9_shared_43 rfl ?_
  refine k_sub (ls' := [(1, v0), (0, v1), (0, v2), (0, v3)]) (k_sbl_ok _ _ ⟨Or.inr rfl, Or.inr rfl, Or.inr rfl, Or.inr rfl, trivial⟩) ?_
  exact okX9_shared_b47  _ _ _ _ _ _ _ _ _ h
set_option maxRecDepth 100000 in
theorem okX9_shared_b0 (A : k_H) (v0 v1 v2 v3 : Int) (r : Int) (A' : k_H) (h : fX9_shared_b0 A v0 v1 v2 v3 = some (r, A')) : k_AW 3 mX9_shared 0 [(1, v0), (0, v1), (0, v2), (0, v3)] [] A r A' := by
  unfold fX9_shared_b0 at h
  refine k_aload_n (pc := 0) (x := v0) dX9_shared_0 rfl rfl ?_
  refine k_aload_n (pc := 1) (x := v0) dX9_shared_1 rfl rfl ?_
  refine k_iload_n (pc := 2) (x := v1) dX9_shared_2 rfl rfl ?_
  obtain ⟨hc4, h⟩ := k_pk h
  obtain ⟨r1, A2, hq3, h⟩ := k_pb h
  refine k_callV (pc := 3) (ci := 9) (a := v0) (as := [(0, v1)]) (st := [(1, v0)]) (st1 := [(0, r1), (1, v0)]) dX9_shared_3 cbX9_isShow (k_gt 1054 (by decide +kernel) (by decide +kernel)) cvX9_isShow.1 cvX9_isShow.2 rfl (by decide) hc4 (by omega) rfl (Nat.le_of_ble_eq_true rfl) (okX9_isShow hq3) rfl ?_
  refine k_if_eq (pc := 6) (tgt := 42) dX9_shared_6 rfl (fun c5 => ?_) (fun c5 => ?_)
  · rw [if_pos c5] at h
    refine k_sub (ls' := [(1, v0), (0, v1), (0, v2), (0, v3)]) (k_sbl_ok _ _ ⟨Or.inr rfl, Or.inr rfl, Or.inr rfl, Or.inr rfl, trivial⟩) ?_
    exact okX9_shared_b42  _ _ _ _ _ _ _ _ h
  · rw [if_neg c5] at h
    refine k_iload_n (pc := 9) (x := v2) dX9_shared_9 rfl rfl ?_
    refine k_iconst (pc := 10) dX9_shared_10 ⟨by decide, by decide⟩ ?_
    refine k_bipush (pc := 11) dX9_shared_11 ⟨by decide, by decide⟩ (by decide +kernel) ?_
    obtain ⟨r6, A7, hq8, h⟩ := k_pb h
    refine k_callS (pc := 13) (as := [(0, v2), (0, 0), (0, 13)]) (st := [(1, v0)]) (st1 := [(0, r6), (1, v0)]) dX9_shared_13 cbX9_isIn (k_gt 1027 (by decide +kernel) (by decide +kernel)) (k_gt 1028 (by decide +kernel) (by decide +kernel)) (by omega) rfl (Nat.le_of_ble_eq_true rfl) (okX9_isIn hq8) rfl ?_
    refine k_if_eq (pc := 16) (tgt := 42) dX9_shared_16 rfl (fun c9 => ?_) (fun c9 => ?_)
    · rw [if_pos c9] at h
      refine k_sub (ls' := [(1, v0), (0, v1), (0, v2), (0, v3)]) (k_sbl_ok _ _ ⟨Or.inr rfl, Or.inr rfl, Or.inr rfl, Or.inr rfl, trivial⟩) ?_
      exact okX9_shared_b42  _ _ _ _ _ _ _ _ h
    · rw [if_neg c9] at h
      refine k_aload_n (pc := 19) (x := v0) dX9_shared_19 rfl rfl ?_
      obtain ⟨hc10, h⟩ := k_pk h
      refine k_getf (pc := 20) (t := 1) (fi := 25) dX9_shared_20 flX9_68 rfl rfl hc10 ?_
      refine k_bipush (pc := 23) dX9_shared_23 ⟨by decide, by decide⟩ (by decide +kernel) ?_
      refine k_iload_n (pc := 25) (x := v1) dX9_shared_25 rfl rfl ?_
      refine k_imul (pc := 26) dX9_shared_26 ?_
      refine k_iload_n (pc := 27) (x := v2) dX9_shared_27 rfl rfl ?_
      refine k_iadd (pc := 28) dX9_shared_28 ?_
      obtain ⟨hc11, h⟩ := k_pk h
      refine k_iaload (pc := 29) dX9_shared_29 hc11 ?_
      refine k_if_lt (pc := 30) (tgt := 42) dX9_shared_30 rfl (fun c12 => ?_) (fun c12 => ?_)
      · rw [if_neg (Int.not_le.mpr c12)] at h
        refine k_sub (ls' := [(1, v0), (0, v1), (0, v2), (0, v3)]) (k_sbl_ok _ _ ⟨Or.inr rfl, Or.inr rfl, Or.inr rfl, Or.inr rfl, trivial⟩) ?_
        exact okX9_shared_b42  _ _ _ _ _ _ _ _ h
      · rw [if_pos (Int.not_lt.mp c12)] at h
        refine k_iload_n (pc := 33) (x := v3) dX9_shared_33 rfl rfl ?_
        refine k_iconst (pc := 34) dX9_shared_34 ⟨by decide, by decide⟩ ?_
        refine k_iconst (pc := 35) dX9_shared_35 ⟨by decide, by decide⟩ ?_
        obtain ⟨r13, A14, hq15, h⟩ := k_pb h
        refine k_callS (pc := 36) (as := [(0, v3), (0, 0), (0, 3)]) (st := [(1, v0)]) (st1 := [(0, r13), (1, v0)]) dX9_shared_36 cbX9_isIn (k_gt 1027 (by decide +kernel) (by decide +kernel)) (k_gt 1028 (by decide +kernel) (by decide +kernel)) (by omega) rfl (Nat.le_of_ble_eq_true rfl) (okX9_isIn hq15) rfl ?_
        refine k_if_ne (pc := 39) (tgt := 46) dX9_shared_39 rfl (fun c16 => ?_) (fun c16 => ?_)
        · rw [if_neg c16] at h
          refine k_iconst (pc := 46) dX9_shared_46 ⟨by decide, by decide⟩ ?_
          refine k_sub (ls' := [(1, v0), (0, v1), (0, v2), (0, v3)]) (k_sbl_ok _ _ ⟨Or.inr rfl, Or.inr rfl, Or.inr rfl, Or.inr rfl, trivial⟩) ?_
          exact okX9_shared_b47  _ _ _ _ _ _ _ _ _ h
        · rw [if_pos (Classical.not_not.mp c16)] at h
          refine k_sub (ls' := [(1, v0), (0, v1), (0, v2), (0, v3)]) (k_sbl_ok _ _ ⟨Or.inr rfl, Or.inr rfl, Or.inr rfl, Or.inr rfl, trivial⟩) ?_
          exact okX9_shared_b42  _ _ _ _ _ _ _ _ h
theorem okX9_shared {A : k_H} {x0 x1 x2 x3 : Int} {r : Int} {A1 : k_H} (h : fX9_shared A x0 x1 x2 x3 = some (r, A1)) : k_AM 3 mX9_shared [(1, x0), (0, x1), (0, x2), (0, x3)] A r A1 :=
  k_AM_of2 (ls := [(1, x0), (0, x1), (0, x2), (0, x3)]) (Or.inl (by decide +kernel)) (by decide +kernel) (by decide) rfl (Nat.le_of_ble_eq_true rfl) ⟨Or.inr rfl, Or.inr rfl, Or.inr rfl, Or.inr rfl, trivial⟩ (okX9_shared_b0 A x0 x1 x2 x3 r A1 h)
/-! X9_sum -/
def fX9_sum_b83 (k20 : k_H → Int → Int → Int → Int → Option (Int × k_H)) (k31 : k_H → Int → Int → Int → Int → Int → Option (Int × k_H)) (A : k_H) (v0 v1 v2 v3 v4 : Int) : Option (Int × k_H) := k31 A v0 v1 v2 v3 (k_wr (v4 + 1))
def fX9_sum_b81 (k20 : k_H → Int → Int → Int → Int → Option (Int × k_H)) (k31 : k_H → Int → Int → Int → Int → Int → Option (Int × k_H)) (A : k_H) (v0 v1 v3 v4 s0 s1 : Int) : Option (Int × k_H) := fX9_sum_b83 k20 k31 A v0 v1 (k_wr (s0 + s1)) v3 v4
def fX9_sum_h31 (k20 : k_H → Int → Int → Int → Int → Option (Int × k_H)) : Nat → k_H → Int → Int → Int → Int → Int → Option (Int × k_H)
  | 0, _, _, _, _, _, _ => none
  | N + 1, A, v0, v1, v2, v3, v4 => if v4 < 14 then (if k_isO A v0 9 then (if k_isA A (k_rd A v0 25) 21 (k_wr (k_wr (14 * v3) + v4)) then (if 0 ≤ (k_rd A (k_rd A v0 25) (k_wr (k_wr (14 * v3) + v4))) then (if v1 = 4 then (fX9_sum_b81 k20 (fX9_sum_h31 k20 N) A v0 v1 v3 v4 v2 1) else (k_bd (fX9_shareOf A v0 v3 (k_rd A (k_rd A v0 25) (k_wr (k_wr (14 * v3) + v4))) v1) fun r6 A7 => fX9_sum_b81 k20 (fX9_sum_h31 k20 N) A7 v0 v1 v3 v4 v2 r6)) else (fX9_sum_b83 k20 (fX9_sum_h31 k20 N) A v0 v1 v2 v3 v4)) else none) else none) else (k20 A v0 v1 v2 (k_wr (v3 + 1)))
def fX9_sum_h20 : Nat → k_H → Int → Int → Int → Int → Option (Int × k_H)
  | 0, _, _, _, _, _ => none
  | N + 1, A, v0, v1, v2, v3 => if k_isO A v0 9 then (if v3 < (k_rd A v0 21) then (fX9_sum_h31 (fX9_sum_h20 N) k_FU A v0 v1 v2 v3 0) else (some (v2, A))) else none
def fX9_sum_b0 (A : k_H) (v0 v1 : Int) : Option (Int × k_H) := if k_isO A v0 9 then (k_lt (k_wt A v0 0 0) fun A2 => k_bd (fX9_isIn A2 v1 0 4) fun r4 A5 => if r4 = 0 then (some ((-1), A5)) else (fX9_sum_h20 k_FU A5 v0 v1 0 0)) else none
def fX9_sum (A : k_H) (x0 x1 : Int) : Option (Int × k_H) := fX9_sum_b0 A x0 x1
set_option maxRecDepth 100000 in
theorem okX9_sum_b83 (k20 : k_H → Int → Int → Int → Int → Option (Int × k_H)) (hk20 : ∀ (A : k_H) (v0 v1 v2 v3 : Int) (r : Int) (A' : k_H), k20 A v0 v1 v2 v3 = some (r, A') → k_AW 3 mX9_sum 20 [(1, v0), (0, v1), (0, v2), (0, v3), (3, 0)] [] A r A') (k31 : k_H → Int → Int → Int → Int → Int → Option (Int × k_H)) (hk31 : ∀ (A : k_H) (v0 v1 v2 v3 v4 : Int) (r : Int) (A' : k_H), k31 A v0 v1 v2 v3 v4 = some (r, A') → k_AW 3 mX9_sum 31 [(1, v0), (0, v1), (0, v2), (0, v3), (0, v4)] [] A r A') (A : k_H) (v0 v1 v2 v3 v4 : Int) (r : Int) (A' : k_H) (h : fX9_sum_b83 k20 k31 A v0 v1 v2 v3 v4 = some (r, A')) : k_AW 3 mX9_sum 83 [(1, v0), (0, v1), (0, v2), (0, v3), (0, v4)] [] A r A' := by
  unfold fX9_sum_b83 at h
  refine k_iinc (pc := 83) (x := v4) dX9_sum_83 (Nat.le_of_ble_eq_true rfl) rfl rfl ?_
  show k_AW _ _ _ [(1, v0), (0, v1), (0, v2), (0, v3), (0, k_wr (v4 + 1))] _ _ _ _
  refine k_goto (pc := 86) (tgt := 31) dX9_sum_86 rfl ?_
  refine k_sub (ls' := [(1, v0), (0, v1), (0, v2), (0, v3), (0, k_wr (v4 + 1))]) (k_sbl_ok _ _ ⟨Or.inr rfl, Or.inr rfl, Or.inr rfl, Or.inr rfl, Or.inr rfl, trivial⟩) ?_
  exact hk31 _ _ _ _ _ _ _ _ h
set_option maxRecDepth 100000 in
theorem okX9_sum_b81 (k20 : k_H → Int → Int → Int → Int → Option (Int × k_H)) (hk20 : ∀ (A : k_H) (v0 v1 v2 v3 : Int) (r : Int) (A' : k_H), k20 A v0 v1 v2 v3 = some (r, A') → k_AW 3 mX9_sum 20 [(1, v0), (0, v1), (0, v2), (0, v3), (3, 0)] [] A r A') (k31 : k_H → Int → Int → Int → Int → Int → Option (Int × k_H)) (hk31 : ∀ (A : k_H) (v0 v1 v2 v3 v4 : Int) (r : Int) (A' : k_H), k31 A v0 v1 v2 v3 v4 = some (r, A') → k_AW 3 mX9_sum 31 [(1, v0), (0, v1), (0, v2), (0, v3), (0, v4)] [] A r A') (A : k_H) (v0 v1 v3 v4 s0 s1 : Int) (r : Int) (A' : k_H) (h : fX9_sum_b81 k20 k31 A v0 v1 v3 v4 s0 s1 = some (r, A')) : k_AW 3 mX9_sum 81 [(1, v0), (0, v1), (3, 0), (0, v3), (0, v4)] [(0, s1), (0, s0)] A r A' := by
  unfold fX9_sum_b81 at h
  refine k_iadd (pc := 81) dX9_sum_81 ?_
  refine k_istore_n (pc := 82) dX9_sum_82 rfl (Nat.le_of_ble_eq_true rfl) rfl ?_
  show k_AW _ _ _ [(1, v0), (0, v1), (0, k_wr (s0 + s1)), (0, v3), (0, v4)] _ _ _ _
  refine k_sub (ls' := [(1, v0), (0, v1), (0, k_wr (s0 + s1)), (0, v3), (0, v4)]) (k_sbl_ok _ _ ⟨Or.inr rfl, Or.inr rfl, Or.inr rfl, Or.inr rfl, Or.inr rfl, trivial⟩) ?_
  exact okX9_sum_b83 k20 hk20 k31 hk31 _ _ _ _ _ _ _ _ h
set_option maxRecDepth 100000 in
theorem okX9_sum_h31 (k20 : k_H → Int → Int → Int → Int → Option (Int × k_H)) (hk20 : ∀ (A : k_H) (v0 v1 v2 v3 : Int) (r : Int) (A' : k_H), k20 A v0 v1 v2 v3 = some (r, A') → k_AW 3 mX9_sum 20 [(1, v0), (0, v1), (0, v2), (0, v3), (3, 0)] [] A r A') : ∀ (N : Nat) (A : k_H) (v0 v1 v2 v3 v4 : Int) (r : Int) (A' : k_H), fX9_sum_h31 k20 N A v0 v1 v2 v3 v4 = some (r, A') → k_AW 3 mX9_sum 31 [(1, v0), (0, v1), (0, v2), (0, v3), (0, v4)] [] A r A' := by
  intro N
  induction N with
  | zero => intro A v0 v1 v2 v3 v4 r A' h; exact absurd h (by simp [fX9_sum_h31])
  | succ N ih =>
    intro A v0 v1 v2 v3 v4 r A' h
    rw [fX9_sum_h31] at h
    refine k_iload (pc := 31) (x := v4) dX9_sum_31 rfl ?_
    refine k_bipush (pc := 33) dX9_sum_33 ⟨by decide, by decide⟩ (by decide +kernel) ?_
    refine k_icmp_ge (pc := 35) (tgt := 89) dX9_sum_35 rfl (fun c1 => ?_) (fun c1 => ?_)
    · rw [if_neg (Int.not_lt.mpr c1)] at h
      refine k_iinc (pc := 89) (x := v3) dX9_sum_89 (Nat.le_of_ble_eq_true rfl) rfl rfl ?_
      show k_AW _ _ _ [(1, v0), (0, v1), (0, v2), (0, k_wr (v3 + 1)), (0, v4)] _ _ _ _
      refine k_goto (pc := 92) (tgt := 20) dX9_sum_92 rfl ?_
      refine k_sub (ls' := [(1, v0), (0, v1), (0, v2), (0, k_wr (v3 + 1)), (3, 0)]) (k_sbl_ok _ _ ⟨Or.inr rfl, Or.inr rfl, Or.inr rfl, Or.inr rfl, Or.inl rfl, trivial⟩) ?_
      exact hk20 _ _ _ _ _ _ _ h
    · rw [if_pos (Int.not_le.mp c1)] at h
      refine k_aload_n (pc := 38) (x := v0) dX9_sum_38 rfl rfl ?_
      obtain ⟨hc2, h⟩ := k_pk h
      refine k_getf (pc := 39) (t := 1) (fi := 25) dX9_sum_39 flX9_68 rfl rfl hc2 ?_
      refine k_bipush (pc := 42) dX9_sum_42 ⟨by decide, by decide⟩ (by decide +kernel) ?_
      refine k_iload_n (pc := 44) (x := v3) dX9_sum_44 rfl rfl ?_
      refine k_imul (pc := 45) dX9_sum_45 ?_
      refine k_iload (pc := 46) (x := v4) dX9_sum_46 rfl ?_
      refine k_iadd (pc := 48) dX9_sum_48 ?_
      obtain ⟨hc3, h⟩ := k_pk h
      refine k_iaload (pc := 49) dX9_sum_49 hc3 ?_
      refine k_if_lt (pc := 50) (tgt := 83) dX9_sum_50 rfl (fun c4 => ?_) (fun c4 => ?_)
      · rw [if_neg (Int.not_le.mpr c4)] at h
        refine k_sub (ls' := [(1, v0), (0, v1), (0, v2), (0, v3), (0, v4)]) (k_sbl_ok _ _ ⟨Or.inr rfl, Or.inr rfl, Or.inr rfl, Or.inr rfl, Or.inr rfl, trivial⟩) ?_
        exact okX9_sum_b83 k20 hk20 (fX9_sum_h31 k20 N) ih _ _ _ _ _ _ _ _ h
      · rw [if_pos (Int.not_lt.mp c4)] at h
        refine k_iload_n (pc := 53) (x := v2) dX9_sum_53 rfl rfl ?_
        refine k_iload_n (pc := 54) (x := v1) dX9_sum_54 rfl rfl ?_
        refine k_iconst (pc := 55) dX9_sum_55 ⟨by decide, by decide⟩ ?_
        refine k_icmp_ne (pc := 56) (tgt := 63) dX9_sum_56 rfl (fun c5 => ?_) (fun c5 => ?_)
        · rw [if_neg c5] at h
          refine k_aload_n (pc := 63) (x := v0) dX9_sum_63 rfl rfl ?_
          refine k_iload_n (pc := 64) (x := v3) dX9_sum_64 rfl rfl ?_
          refine k_aload_n (pc := 65) (x := v0) dX9_sum_65 rfl rfl ?_
          refine k_getf (pc := 66) (t := 1) (fi := 25) dX9_sum_66 flX9_68 rfl rfl hc2 ?_
          refine k_bipush (pc := 69) dX9_sum_69 ⟨by decide, by decide⟩ (by decide +kernel) ?_
          refine k_iload_n (pc := 71) (x := v3) dX9_sum_71 rfl rfl ?_
          refine k_imul (pc := 72) dX9_sum_72 ?_
          refine k_iload (pc := 73) (x := v4) dX9_sum_73 rfl ?_
          refine k_iadd (pc := 75) dX9_sum_75 ?_
          refine k_iaload (pc := 76) dX9_sum_76 hc3 ?_
          refine k_iload_n (pc := 77) (x := v1) dX9_sum_77 rfl rfl ?_
          obtain ⟨r6, A7, hq8, h⟩ := k_pb h
          refine k_callV (pc := 78) (ci := 9) (a := v0) (as := [(0, v3), (0, (k_rd A (k_rd A v0 25) (k_wr (k_wr (14 * v3) + v4)))), (0, v1)]) (st := [(0, v2)]) (st1 := [(0, r6), (0, v2)]) dX9_sum_78 cbX9_shareOf (k_gt 1190 (by decide +kernel) (by decide +kernel)) cvX9_shareOf.1 cvX9_shareOf.2 rfl (by decide) hc2 (by omega) rfl (Nat.le_of_ble_eq_true rfl) (okX9_shareOf hq8) rfl ?_
          refine k_sub (ls' := [(1, v0), (0, v1), (3, 0), (0, v3), (0, v4)]) (k_sbl_ok _ _ ⟨Or.inr rfl, Or.inr rfl, Or.inl rfl, Or.inr rfl, Or.inr rfl, trivial⟩) ?_
          exact okX9_sum_b81 k20 hk20 (fX9_sum_h31 k20 N) ih _ _ _ _ _ _ _ _ _ h
        · rw [if_pos (Classical.not_not.mp c5)] at h
          refine k_iconst (pc := 59) dX9_sum_59 ⟨by decide, by decide⟩ ?_
          refine k_goto (pc := 60) (tgt := 81) dX9_sum_60 rfl ?_
          refine k_sub (ls' := [(1, v0), (0, v1), (3, 0), (0, v3), (0, v4)]) (k_sbl_ok _ _ ⟨Or.inr rfl, Or.inr rfl, Or.inl rfl, Or.inr rfl, Or.inr rfl, trivial⟩) ?_
          exact okX9_sum_b81 k20 hk20 (fX9_sum_h31 k20 N) ih _ _ _ _ _ _ _ _ _ h
set_option maxRecDepth 100000 in
theorem okX9_sum_h20 : ∀ (N : Nat) (A : k_H) (v0 v1 v2 v3 : Int) (r : Int) (A' : k_H), fX9_sum_h20 N A v0 v1 v2 v3 = some (r, A') → k_AW 3 mX9_sum 20 [(1, v0), (0, v1), (0, v2), (0, v3), (3, 0)] [] A r A' := by
  intro N
  induction N with
  | zero => intro A v0 v1 v2 v3 r A' h; exact absurd h (by simp [fX9_sum_h20])
  | succ N ih =>
    intro A v0 v1 v2 v3 r A' h
    rw [fX9_sum_h20] at h
    refine k_iload_n (pc := 20) (x := v3) dX9_sum_20 rfl rfl ?_
    refine k_aload_n (pc := 21) (x := v0) dX9_sum_21 rfl rfl ?_
    obtain ⟨hc1, h⟩ := k_pk h
    refine k_getf (pc := 22) (t := 0) (fi := 21) dX9_sum_22 flX9_122 rfl rfl hc1 ?_
    refine k_icmp_ge (pc := 25) (tgt := 95) dX9_sum_25 rfl (fun c2 => ?_) (fun c2 => ?_)
    · rw [if_neg (Int.not_lt.mpr c2)] at h
      refine k_iload_n (pc := 95) (x := v2) dX9_sum_95 rfl rfl ?_
      obtain ⟨rfl, rfl⟩ := k_pr h
      exact k_ret (pc := 96) dX9_sum_96 rfl rfl rfl
    · rw [if_pos (Int.not_le.mp c2)] at h
      refine k_iconst (pc := 28) dX9_sum_28 ⟨by decide, by decide⟩ ?_
      refine k_istore (pc := 29) dX9_sum_29 (Nat.le_of_ble_eq_true rfl) rfl ?_
      show k_AW _ _ _ [(1, v0), (0, v1), (0, v2), (0, v3), (0, 0)] _ _ _ _
      refine k_sub (ls' := [(1, v0), (0, v1), (0, v2), (0, v3), (0, 0)]) (k_sbl_ok _ _ ⟨Or.inr rfl, Or.inr rfl, Or.inr rfl, Or.inr rfl, Or.inr rfl, trivial⟩) ?_
      exact okX9_sum_h31 (fX9_sum_h20 N) ih _ _ _ _ _ _ _ _ _ h
set_option maxRecDepth 100000 in
theorem okX9_sum_b0 (A : k_H) (v0 v1 : Int) (r : Int) (A' : k_H) (h : fX9_sum_b0 A v0 v1 = some (r, A')) : k_AW 3 mX9_sum 0 [(1, v0), (0, v1), (3, 0), (3, 0), (3, 0)] [] A r A' := by
  unfold fX9_sum_b0 at h
  refine k_aload_n (pc := 0) (x := v0) dX9_sum_0 rfl rfl ?_
  refine k_iconst (pc := 1) dX9_sum_1 ⟨by decide, by decide⟩ ?_
  obtain ⟨hc1, h⟩ := k_pk h
  refine k_putf (pc := 2) (t := 0) (fi := 0) dX9_sum_2 flX9_102 rfl rfl hc1 rfl ?_
  obtain ⟨A2, eA3, h⟩ := k_pl h
  refine k_hq eA3 ?_
  refine k_iload_n (pc := 5) (x := v1) dX9_sum_5 rfl rfl ?_
  refine k_iconst (pc := 6) dX9_sum_6 ⟨by decide, by decide⟩ ?_
  refine k_iconst (pc := 7) dX9_sum_7 ⟨by decide, by decide⟩ ?_
  obtain ⟨r4, A5, hq6, h⟩ := k_pb h
  refine k_callS (pc := 8) (as := [(0, v1), (0, 0), (0, 4)]) (st := []) (st1 := [(0, r4)]) dX9_sum_8 cbX9_isIn (k_gt 1027 (by decide +kernel) (by decide +kernel)) (k_gt 1028 (by decide +kernel) (by decide +kernel)) (by omega) rfl (Nat.le_of_ble_eq_true rfl) (okX9_isIn hq6) rfl ?_
  refine k_if_ne (pc := 11) (tgt := 16) dX9_sum_11 rfl (fun c7 => ?_) (fun c7 => ?_)
  · rw [if_neg c7] at h
    refine k_iconst (pc := 16) dX9_sum_16 ⟨by decide, by decide⟩ ?_
    refine k_istore_n (pc := 17) dX9_sum_17 rfl (Nat.le_of_ble_eq_true rfl) rfl ?_
    show k_AW _ _ _ [(1, v0), (0, v1), (0, 0), (3, 0), (3, 0)] _ _ _ _
    refine k_iconst (pc := 18) dX9_sum_18 ⟨by decide, by decide⟩ ?_
    refine k_istore_n (pc := 19) dX9_sum_19 rfl (Nat.le_of_ble_eq_true rfl) rfl ?_
    show k_AW _ _ _ [(1, v0), (0, v1), (0, 0), (0, 0), (3, 0)] _ _ _ _
    refine k_sub (ls' := [(1, v0), (0, v1), (0, 0), (0, 0), (3, 0)]) (k_sbl_ok _ _ ⟨Or.inr rfl, Or.inr rfl, Or.inr rfl, Or.inr rfl, Or.inl rfl, trivial⟩) ?_
    exact okX9_sum_h20  _ _ _ _ _ _ _ _ h
  · rw [if_pos (Classical.not_not.mp c7)] at h
    refine k_iconst (pc := 14) dX9_sum_14 ⟨by decide, by decide⟩ ?_
    obtain ⟨rfl, rfl⟩ := k_pr h
    exact k_ret (pc := 15) dX9_sum_15 rfl rfl rfl
theorem okX9_sum {A : k_H} {x0 x1 : Int} {r : Int} {A1 : k_H} (h : fX9_sum A x0 x1 = some (r, A1)) : k_AM 3 mX9_sum [(1, x0), (0, x1)] A r A1 :=
  k_AM_of2 (ls := [(1, x0), (0, x1), (3, 0), (3, 0), (3, 0)]) (Or.inl (by decide +kernel)) (by decide +kernel) (by decide) rfl (Nat.le_of_ble_eq_true rfl) ⟨Or.inr rfl, Or.inr rfl, rfl, rfl, rfl, trivial⟩ (okX9_sum_b0 A x0 x1 r A1 h)
/-! X9_keeps -/
def fX9_keeps_b96 (k26 : k_H → Int → Int → Int → Int → Option (Int × k_H)) (k37 : k_H → Int → Int → Int → Int → Int → Option (Int × k_H)) (A : k_H) (v0 v1 v2 v3 v4 : Int) : Option (Int × k_H) := k37 A v0 v1 v2 v3 (k_wr (v4 + 1))
def fX9_keeps_h37 (k26 : k_H → Int → Int → Int → Int → Option (Int × k_H)) : Nat → k_H → Int → Int → Int → Int → Int → Option (Int × k_H)
  | 0, _, _, _, _, _, _ => none
  | N + 1, A, v0, v1, v2, v3, v4 => if v4 < 14 then (if k_isO A v0 9 then (if k_isA A (k_rd A v0 25) 21 (k_wr (k_wr (14 * v3) + v4)) then (if 0 ≤ (k_rd A (k_rd A v0 25) (k_wr (k_wr (14 * v3) + v4))) then (if k_isA A (k_rd A v0 24) 21 (k_wr (k_wr (14 * v3) + v4)) then (if (k_rd A (k_rd A v0 24) (k_wr (k_wr (14 * v3) + v4))) = v1 then (k_bd (fX9_shareOf A v0 v3 (k_rd A (k_rd A v0 25) (k_wr (k_wr (14 * v3) + v4))) 2) fun r7 A8 => fX9_keeps_b96 k26 (fX9_keeps_h37 k26 N) A8 v0 v1 (k_wr (v2 + r7)) v3 v4) else (fX9_keeps_b96 k26 (fX9_keeps_h37 k26 N) A v0 v1 v2 v3 v4)) else none) else (fX9_keeps_b96 k26 (fX9_keeps_h37 k26 N) A v0 v1 v2 v3 v4)) else none) else none) else (k26 A v0 v1 v2 (k_wr (v3 + 1)))
def fX9_keeps_h26 : Nat → k_H → Int → Int → Int → Int → Option (Int × k_H)
  | 0, _, _, _, _, _ => none
  | N + 1, A, v0, v1, v2, v3 => if k_isO A v0 9 then (if v3 < (k_rd A v0 21) then (fX9_keeps_h37 (fX9_keeps_h26 N) k_FU A v0 v1 v2 v3 0) else (some (v2, A))) else none
def fX9_keeps_b14 (A : k_H) (v0 v1 s0 s1 : Int) : Option (Int × k_H) := if k_isO A s0 9 then (k_bd (fX9_throwsIf A s0 s1) fun r1 A2 => if r1 = 0 then (fX9_keeps_h26 k_FU A2 v0 v1 0 0) else (some (0, A2))) else none
def fX9_keeps_b0 (A : k_H) (v0 v1 : Int) : Option (Int × k_H) := if k_isO A v0 9 then (k_bd (fX9_isHall A v0 v1) fun r1 A2 => if r1 = 0 then (fX9_keeps_b14 A2 v0 v1 v0 1) else (fX9_keeps_b14 A2 v0 v1 v0 0)) else none
def fX9_keeps (A : k_H) (x0 x1 : Int) : Option (Int × k_H) := fX9_keeps_b0 A x0 x1
set_option maxRecDepth 100000 in
theorem okX9_keeps_b96 (k26 : k_H → Int → Int → Int → Int → Option (Int × k_H)) (hk26 : ∀ (A : k_H) (v0 v1 v2 v3 : Int) (r : Int) (A' : k_H), k26 A v0 v1 v2 v3 = some (r, A') → k_AW 3 mX9_keeps 26 [(1, v0), (0, v1), (0, v2), (0, v3), (3, 0)] [] A r A') (k37 : k_H → Int → Int → Int → Int → Int → Option (Int × k_H)) (hk37 : ∀ (A : k_H) (v0 v1 v2 v3 v4 : Int) (r : Int) (A' : k_H), k37 A v0 v1 v2 v3 v4 = some (r, A') → k_AW 3 mX9_keeps 37 [(1, v0), (0, v1), (0, v2), (0, v3), (0, v4)] [] A r A') (A : k_H) (v0 v1 v2 v3 v4 : Int) (r : Int) (A' : k_H) (h : fX9_keeps_b96 k26 k37 A v0 v1 v2 v3 v4 = some (r, A')) : k_AW 3 mX9_keeps 96 [(1, v0), (0, v1), (0, v2), (0, v3), (0, v4)] [] A r A' := by
  unfold fX9_keeps_b96 at h
  refine k_iinc (pc := 96) (x := v4) dX9_keeps_96 (Nat.le_of_ble_eq_true rfl) rfl rfl ?_
  show k_AW _ _ _ [(1, v0), (0, v1), (0, v2), (0, v3), (0, k_wr (v4 + 1))] _ _ _ _
  refine k_goto (pc := 99) (tgt := 37) dX9_keeps_99 rfl ?_
  refine k_sub (ls' := [(1, v0), (0, v1), (0, v2), (0, v3), (0, k_wr (v4 + 1))]) (k_sbl_ok _ _ ⟨Or.inr rfl, Or.inr rfl, Or.inr rfl, Or.inr rfl, Or.inr rfl, trivial⟩) ?_
  exact hk37 _ _ _ _ _ _ _ _ h
set_option maxRecDepth 100000 in
theorem okX9_keeps_h37 (k26 : k_H → Int → Int → Int → Int → Option (Int × k_H)) (hk26 : ∀ (A : k_H) (v0 v1 v2 v3 : Int) (r : Int) (A' : k_H), k26 A v0 v1 v2 v3 = some (r, A') → k_AW 3 mX9_keeps 26 [(1, v0), (0, v1), (0, v2), (0, v3), (3, 0)] [] A r A') : ∀ (N : Nat) (A : k_H) (v0 v1 v2 v3 v4 : Int) (r : Int) (A' : k_H), fX9_keeps_h37 k26 N A v0 v1 v2 v3 v4 = some (r, A') → k_AW 3 mX9_keeps 37 [(1, v0), (0, v1), (0, v2), (0, v3), (0, v4)] [] A r A' := by
  intro N
  induction N with
  | zero => intro A v0 v1 v2 v3 v4 r A' h; exact absurd h (by simp [fX9_keeps_h37])
  | succ N ih =>
    intro A v0 v1 v2 v3 v4 r A' h
    rw [fX9_keeps_h37] at h
    refine k_iload (pc := 37) (x := v4) dX9_keeps_37 rfl ?_
    refine k_bipush (pc := 39) dX9_keeps_39 ⟨by decide, by decide⟩ (by decide +kernel) ?_
    refine k_icmp_ge (pc := 41) (tgt := 102) dX9_keeps_41 rfl (fun c1 => ?_) (fun c1 => ?_)
    · rw [if_neg (Int.not_lt.mpr c1)] at h
      refine k_iinc (pc := 102) (x := v3) dX9_keeps_102 (Nat.le_of_ble_eq_true rfl) rfl rfl ?_
      show k_AW _ _ _ [(1, v0), (0, v1), (0, v2), (0, k_wr (v3 + 1)), (0, v4)] _ _ _ _
      refine k_goto (pc := 105) (tgt := 26) dX9_keeps_105 rfl ?_
      refine k_sub (ls' := [(1, v0), (0, v1), (0, v2), (0, k_wr (v3 + 1)), (3, 0)]) (k_sbl_ok _ _ ⟨Or.inr rfl, Or.inr rfl, Or.inr rfl, Or.inr rfl, Or.inl rfl, trivial⟩) ?_
      exact hk26 _ _ _ _ _ _ _ h
    · rw [if_pos (Int.not_le.mp c1)] at h
      refine k_aload_n (pc := 44) (x := v0) dX9_keeps_44 rfl rfl ?_
      obtain ⟨hc2, h⟩ := k_pk h
      refine k_getf (pc := 45) (t := 1) (fi := 25) dX9_keeps_45 flX9_68 rfl rfl hc2 ?_
      refine k_bipush (pc := 48) dX9_keeps_48 ⟨by decide, by decide⟩ (by decide +kernel) ?_
      refine k_iload_n (pc := 50) (x := v3) dX9_keeps_50 rfl rfl ?_
      refine k_imul (pc := 51) dX9_keeps_51 ?_
      refine k_iload (pc := 52) (x := v4) dX9_keeps_52 rfl ?_
      refine k_iadd (pc := 54) dX9_keeps_54 ?_
      obtain ⟨hc3, h⟩ := k_pk h
      refine k_iaload (pc := 55) dX9_keeps_55 hc3 ?_
      refine k_if_lt (pc := 56) (tgt := 96) dX9_keeps_56 rfl (fun c4 => ?_) (fun c4 => ?_)
      · rw [if_neg (Int.not_le.mpr c4)] at h
        refine k_sub (ls' := [(1, v0), (0, v1), (0, v2), (0, v3), (0, v4)]) (k_sbl_ok _ _ ⟨Or.inr rfl, Or.inr rfl, Or.inr rfl, Or.inr rfl, Or.inr rfl, trivial⟩) ?_
        exact okX9_keeps_b96 k26 hk26 (fX9_keeps_h37 k26 N) ih _ _ _ _ _ _ _ _ h
      · rw [if_pos (Int.not_lt.mp c4)] at h
        refine k_aload_n (pc := 59) (x := v0) dX9_keeps_59 rfl rfl ?_
        refine k_getf (pc := 60) (t := 1) (fi := 24) dX9_keeps_60 flX9_65 rfl rfl hc2 ?_
        refine k_bipush (pc := 63) dX9_keeps_63 ⟨by decide, by decide⟩ (by decide +kernel) ?_
        refine k_iload_n (pc := 65) (x := v3) dX9_keeps_65 rfl rfl ?_
        refine k_imul (pc := 66) dX9_keeps_66 ?_
        refine k_iload (pc := 67) (x := v4) dX9_keeps_67 rfl ?_
        refine k_iadd (pc := 69) dX9_keeps_69 ?_
        obtain ⟨hc5, h⟩ := k_pk h
        refine k_iaload (pc := 70) dX9_keeps_70 hc5 ?_
        refine k_iload_n (pc := 71) (x := v1) dX9_keeps_71 rfl rfl ?_
        refine k_icmp_ne (pc := 72) (tgt := 96) dX9_keeps_72 rfl (fun c6 => ?_) (fun c6 => ?_)
        · rw [if_neg c6] at h
          refine k_sub (ls' := [(1, v0), (0, v1), (0, v2), (0, v3), (0, v4)]) (k_sbl_ok _ _ ⟨Or.inr rfl, Or.inr rfl, Or.inr rfl, Or.inr rfl, Or.inr rfl, trivial⟩) ?_
          exact okX9_keeps_b96 k26 hk26 (fX9_keeps_h37 k26 N) ih _ _ _ _ _ _ _ _ h
        · rw [if_pos (Classical.not_not.mp c6)] at h
          refine k_iload_n (pc := 75) (x := v2) dX9_keeps_75 rfl rfl ?_
          refine k_aload_n (pc := 76) (x := v0) dX9_keeps_76 rfl rfl ?_
          refine k_iload_n (pc := 77) (x := v3) dX9_keeps_77 rfl rfl ?_
          refine k_aload_n (pc := 78) (x := v0) dX9_keeps_78 rfl rfl ?_
          refine k_getf (pc := 79) (t := 1) (fi := 25) dX9_keeps_79 flX9_68 rfl rfl hc2 ?_
          refine k_bipush (pc := 82) dX9_keeps_82 ⟨by decide, by decide⟩ (by decide +kernel) ?_
          refine k_iload_n (pc := 84) (x := v3) dX9_keeps_84 rfl rfl ?_
          refine k_imul (pc := 85) dX9_keeps_85 ?_
          refine k_iload (pc := 86) (x := v4) dX9_keeps_86 rfl ?_
          refine k_iadd (pc := 88) dX9_keeps_88 ?_
          refine k_iaload (pc := 89) dX9_keeps_89 hc3 ?_
          refine k_iconst (pc := 90) dX9_keeps_90 ⟨by decide, by decide⟩ ?_
          obtain ⟨r7, A8, hq9, h⟩ := k_pb h
          refine k_callV (pc := 91) (ci := 9) (a := v0) (as := [(0, v3), (0, (k_rd A (k_rd A v0 25) (k_wr (k_wr (14 * v3) + v4)))), (0, 2)]) (st := [(0, v2)]) (st1 := [(0, r7), (0, v2)]) dX9_keeps_91 cbX9_shareOf (k_gt 1190 (by decide +kernel) (by decide +kernel)) cvX9_shareOf.1 cvX9_shareOf.2 rfl (by decide) hc2 (by omega) rfl (Nat.le_of_ble_eq_true rfl) (okX9_shareOf hq9) rfl ?_
          refine k_iadd (pc := 94) dX9_keeps_94 ?_
          refine k_istore_n (pc := 95) dX9_keeps_95 rfl (Nat.le_of_ble_eq_true rfl) rfl ?_
          show k_AW _ _ _ [(1, v0), (0, v1), (0, k_wr (v2 + r7)), (0, v3), (0, v4)] _ _ _ _
          refine k_sub (ls' := [(1, v0), (0, v1), (0, k_wr (v2 + r7)), (0, v3), (0, v4)]) (k_sbl_ok _ _ ⟨Or.inr rfl, Or.inr rfl, Or.inr rfl, Or.inr rfl, Or.inr rfl, trivial⟩) ?_
          exact okX9_keeps_b96 k26 hk26 (fX9_keeps_h37 k26 N) ih _ _ _ _ _ _ _ _ h
set_option maxRecDepth 100000 in
theorem okX9_keeps_h26 : ∀ (N : Nat) (A : k_H) (v0 v1 v2 v3 : Int) (r : Int) (A' : k_H), fX9_keeps_h26 N A v0 v1 v2 v3 = some (r, A') → k_AW 3 mX9_keeps 26 [(1, v0), (0, v1), (0, v2), (0, v3), (3, 0)] [] A r A' := by
  intro N
  induction N with
  | zero => intro A v0 v1 v2 v3 r A' h; exact absurd h (by simp [fX9_keeps_h26])
  | succ N ih =>
    intro A v0 v1 v2 v3 r A' h
    rw [fX9_keeps_h26] at h
    refine k_iload_n (pc := 26) (x := v3) dX9_keeps_26 rfl rfl ?_
    refine k_aload_n (pc := 27) (x := v0) dX9_keeps_27 rfl rfl ?_
    obtain ⟨hc1, h⟩ := k_pk h
    refine k_getf (pc := 28) (t := 0) (fi := 21) dX9_keeps_28 flX9_122 rfl rfl hc1 ?_
    refine k_icmp_ge (pc := 31) (tgt := 108) dX9_keeps_31 rfl (fun c2 => ?_) (fun c2 => ?_)
    · rw [if_neg (Int.not_lt.mpr c2)] at h
      refine k_iload_n (pc := 108) (x := v2) dX9_keeps_108 rfl rfl ?_
      obtain ⟨rfl, rfl⟩ := k_pr h
      exact k_ret (pc := 109) dX9_keeps_109 rfl rfl rfl
    · rw [if_pos (Int.not_le.mp c2)] at h
      refine k_iconst (pc := 34) dX9_keeps_34 ⟨by decide, by decide⟩ ?_
      refine k_istore (pc := 35) dX9_keeps_35 (Nat.le_of_ble_eq_true rfl) rfl ?_
      show k_AW _ _ _ [(1, v0), (0, v1), (0, v2), (0, v3), (0, 0)] _ _ _ _
      refine k_sub (ls' := [(1, v0), (0, v1), (0, v2), (0, v3), (0, 0)]) (k_sbl_ok _ _ ⟨Or.inr rfl, Or.inr rfl, Or.inr rfl, Or.inr rfl, Or.inr rfl, trivial⟩) ?_
      exact okX9_keeps_h37 (fX9_keeps_h26 N) ih _ _ _ _ _ _ _ _ _ h
set_option maxRecDepth 100000 in
theorem okX9_keeps_b14 (A : k_H) (v0 v1 s0 s1 : Int) (r : Int) (A' : k_H) (h : fX9_keeps_b14 A v0 v1 s0 s1 = some (r, A')) : k_AW 3 mX9_keeps 14 [(1, v0), (0, v1), (3, 0), (3, 0), (3, 0)] [(0, s1), (1, s0)] A r A' := by
  unfold fX9_keeps_b14 at h
  obtain ⟨hc4, h⟩ := k_pk h
  obtain ⟨r1, A2, hq3, h⟩ := k_pb h
  refine k_callV (pc := 14) (ci := 9) (a := s0) (as := [(0, s1)]) (st := []) (st1 := [(0, r1)]) dX9_keeps_14 cbX9_throwsIf (k_gt 1186 (by decide +kernel) (by decide +kernel)) cvX9_throwsIf.1 cvX9_throwsIf.2 rfl (by decide) hc4 (by omega) rfl (Nat.le_of_ble_eq_true rfl) (okX9_throwsIf hq3) rfl ?_
  refine k_if_eq (pc := 17) (tgt := 22) dX9_keeps_17 rfl (fun c5 => ?_) (fun c5 => ?_)
  · rw [if_pos c5] at h
    refine k_iconst (pc := 22) dX9_keeps_22 ⟨by decide, by decide⟩ ?_
    refine k_istore_n (pc := 23) dX9_keeps_23 rfl (Nat.le_of_ble_eq_true rfl) rfl ?_
    show k_AW _ _ _ [(1, v0), (0, v1), (0, 0), (3, 0), (3, 0)] _ _ _ _
    refine k_iconst (pc := 24) dX9_keeps_24 ⟨by decide, by decide⟩ ?_
    refine k_istore_n (pc := 25) dX9_keeps_25 rfl (Nat.le_of_ble_eq_true rfl) rfl ?_
    show k_AW _ _ _ [(1, v0), (0, v1), (0, 0), (0, 0), (3, 0)] _ _ _ _
    refine k_sub (ls' := [(1, v0), (0, v1), (0, 0), (0, 0), (3, 0)]) (k_sbl_ok _ _ ⟨Or.inr rfl, Or.inr rfl, Or.inr rfl, Or.inr rfl, Or.inl rfl, trivial⟩) ?_
    exact okX9_keeps_h26  _ _ _ _ _ _ _ _ h
  · rw [if_neg c5] at h
    refine k_iconst (pc := 20) dX9_keeps_20 ⟨by decide, by decide⟩ ?_
    obtain ⟨rfl, rfl⟩ := k_pr h
    exact k_ret (pc := 21) dX9_keeps_21 rfl rfl rfl
set_option maxRecDepth 100000 in
theorem okX9_keeps_b0 (A : k_H) (v0 v1 : Int) (r : Int) (A' : k_H) (h : fX9_keeps_b0 A v0 v1 = some (r, A')) : k_AW 3 mX9_keeps 0 [(1, v0), (0, v1), (3, 0), (3, 0), (3, 0)] [] A r A' := by
  unfold fX9_keeps_b0 at h
  refine k_aload_n (pc := 0) (x := v0) dX9_keeps_0 rfl rfl ?_
  refine k_aload_n (pc := 1) (x := v0) dX9_keeps_1 rfl rfl ?_
  refine k_iload_n (pc := 2) (x := v1) dX9_keeps_2 rfl rfl ?_
  obtain ⟨hc4, h⟩ := k_pk h
  obtain ⟨r1, A2, hq3, h⟩ := k_pb h
  refine k_callV (pc := 3) (ci := 9) (a := v0) (as := [(0, v1)]) (st := [(1, v0)]) (st1 := [(0, r1), (1, v0)]) dX9_keeps_3 cbX9_isHall (k_gt 1042 (by decide +kernel) (by decide +kernel)) cvX9_isHall.1 cvX9_isHall.2 rfl (by decide) hc4 (by omega) rfl (Nat.le_of_ble_eq_true rfl) (okX9_isHall hq3) rfl ?_
  refine k_if_ne (pc := 6) (tgt := 13) dX9_keeps_6 rfl (fun c5 => ?_) (fun c5 => ?_)
  · rw [if_neg c5] at h
    refine k_iconst (pc := 13) dX9_keeps_13 ⟨by decide, by decide⟩ ?_
    refine k_sub (ls' := [(1, v0), (0, v1), (3, 0), (3, 0), (3, 0)]) (k_sbl_ok _ _ ⟨Or.inr rfl, Or.inr rfl, Or.inl rfl, Or.inl rfl, Or.inl rfl, trivial⟩) ?_
    exact okX9_keeps_b14  _ _ _ _ _ _ _ h
  · rw [if_pos (Classical.not_not.mp c5)] at h
    refine k_iconst (pc := 9) dX9_keeps_9 ⟨by decide, by decide⟩ ?_
    refine k_goto (pc := 10) (tgt := 14) dX9_keeps_10 rfl ?_
    refine k_sub (ls' := [(1, v0), (0, v1), (3, 0), (3, 0), (3, 0)]) (k_sbl_ok _ _ ⟨Or.inr rfl, Or.inr rfl, Or.inl rfl, Or.inl rfl, Or.inl rfl, trivial⟩) ?_
    exact okX9_keeps_b14  _ _ _ _ _ _ _ h
theorem okX9_keeps {A : k_H} {x0 x1 : Int} {r : Int} {A1 : k_H} (h : fX9_keeps A x0 x1 = some (r, A1)) : k_AM 3 mX9_keeps [(1, x0), (0, x1)] A r A1 :=
  k_AM_of2 (ls := [(1, x0), (0, x1), (3, 0), (3, 0), (3, 0)]) (Or.inl (by decide +kernel)) (by decide +kernel) (by decide) rfl (Nat.le_of_ble_eq_true rfl) ⟨Or.inr rfl, Or.inr rfl, rfl, rfl, rfl, trivial⟩ (okX9_keeps_b0 A x0 x1 r A1 h)
/-! X9_term -/
def fX9_term_b337 (A : k_H) (v0 v3 : Int) : Option (Int × k_H) := if v3 = 0 then (some (0, A)) else (if k_isO A v0 9 then (if (k_rd A v0 36) = 3 then (if k_isA A (k_rd A v0 35) 21 83 then (k_lt (k_wt A (k_rd A v0 35) 83 (k_wr ((k_rd A (k_rd A v0 35) 83) + 1))) fun A5 => k_bd (fX9_next A5 v0) fun r7 A8 => some (1, A8)) else none) else (k_bd (fX9_cant A v0) fun r11 A12 => if r11 = 0 ∨ r11 = 1 then (some (r11, A12)) else none)) else none)
def fX9_term_b102 (A : k_H) (v0 : Int) : Option (Int × k_H) := if k_isO A v0 9 then (k_bd (fX9_wrong A v0 4 (k_rd A v0 37)) fun r2 A3 => if r2 = 0 ∨ r2 = 1 then (some (r2, A3)) else none) else none
def fX9_term_b328 (A : k_H) (v0 v3 s0 s1 s2 : Int) : Option (Int × k_H) := if k_isA A s0 21 s1 then (k_lt (k_wt A s0 s1 s2) fun A2 => if v3 = 0 then (fX9_term_b337 A2 v0 v3) else (if k_isO A2 v0 9 then (k_bd (fX9_next A2 v0) fun r5 A6 => fX9_term_b337 A6 v0 v3) else none)) else none
def fX9_term_b271 (A : k_H) (v0 s0 : Int) : Option (Int × k_H) := fX9_term_b337 A v0 s0
def fX9_term_b208 (A : k_H) (v0 v2 s0 : Int) : Option (Int × k_H) := if s0 = 0 then (fX9_term_b337 A v0 s0) else (if k_isO A v0 9 then (if k_isA A (k_rd A v0 35) 21 73 then (k_lt (k_wt A (k_rd A v0 35) 73 (k_wr (v2 + 1))) fun A4 => fX9_term_b337 A4 v0 s0) else none) else none)
def fX9_term_b311 (A : k_H) (v0 v4 s0 : Int) : Option (Int × k_H) := if k_isO A v0 9 then (if v4 = 0 then (fX9_term_b328 A v0 s0 (k_rd A v0 35) 82 0) else (fX9_term_b328 A v0 s0 (k_rd A v0 35) 82 1)) else none
def fX9_term_b270 (A : k_H) (v0 : Int) : Option (Int × k_H) := fX9_term_b271 A v0 0
def fX9_term_b207 (A : k_H) (v0 v2 : Int) : Option (Int × k_H) := fX9_term_b208 A v0 v2 0
def fX9_term_b306 (A : k_H) (v0 v4 : Int) : Option (Int × k_H) := fX9_term_b311 A v0 v4 1
def fX9_term_b197 (A : k_H) (v0 v2 s0 s1 s2 s3 : Int) : Option (Int × k_H) := if k_isO A s0 9 then (k_bd (fX9_take A s0 s1 s2 s3) fun r1 A2 => if r1 = 0 then (fX9_term_b207 A2 v0 v2) else (fX9_term_b208 A2 v0 v2 1)) else none
def fX9_term_b112 (A : k_H) (v0 v1 v2 : Int) : Option (Int × k_H) := if k_isO A v0 9 then (k_lt (k_wt A v0 41 (k_or (k_rd A v0 41) (k_shl 1 v1))) fun A2 => k_bd (fX9_next A2 v0) fun r4 A5 => if v1 = 0 then (if k_isO A5 v0 9 then (k_bd (fX9_take A5 v0 0 99999 (-1)) fun r54 A55 => fX9_term_b337 A55 v0 r54) else none) else (if v1 = 2 then (if k_isO A5 v0 9 then (k_bd (fX9_take A5 v0 (k_wr (2 + v2)) 100 (-1)) fun r41 A42 => if r41 = 0 then (fX9_term_b207 A42 v0 v2) else (if k_isO A42 v0 9 then (k_bd (fX9_behind A42 v0 418263299685) fun r46 A47 => if r46 = 0 then (fX9_term_b207 A47 v0 v2) else (if v2 = 0 then (fX9_term_b197 A47 v0 v2 v0 (k_wr (5 + v2)) 99999 (-1)) else (if k_isO A47 v0 9 then (if k_isA A47 (k_rd A47 v0 35) 21 (k_wr (k_wr (77 + v2) - 1)) then (fX9_term_b197 A47 v0 v2 v0 (k_wr (5 + v2)) 99999 (k_rd A47 (k_rd A47 v0 35) (k_wr (k_wr (77 + v2) - 1)))) else none) else none))) else none)) else none) else (if v1 = 8 then (if k_isO A5 v0 9 then (k_bd (fX9_take A5 v0 8 100 (-1)) fun r26 A27 => if r26 = 0 then (fX9_term_b270 A27 v0) else (if k_isO A27 v0 9 then (k_bd (fX9_behind A27 v0 1836020596) fun r31 A32 => if r31 = 0 then (fX9_term_b270 A32 v0) else (if k_isO A32 v0 9 then (k_bd (fX9_take A32 v0 9 99999 (-1)) fun r36 A37 => if r36 = 0 then (fX9_term_b270 A37 v0) else (fX9_term_b271 A37 v0 1)) else none)) else none)) else none) else (if k_isO A5 v0 9 then (k_bd (fX9_isWord A5 v0 1651471464) fun r11 A12 => if r11 = 0 then (if k_isO A12 v0 9 then (k_bd (fX9_isWord A12 v0 1751215212) fun r16 A17 => if r16 = 0 then (if k_isO A17 v0 9 then (k_bd (fX9_cant A17 v0) fun r21 A22 => if r21 = 0 then (fX9_term_b311 A22 v0 r11 0) else (fX9_term_b306 A22 v0 r11)) else none) else (fX9_term_b306 A17 v0 r11)) else none) else (fX9_term_b306 A12 v0 r11)) else none)))) else none
def fX9_term_b59 (A : k_H) (v0 s0 : Int) : Option (Int × k_H) := if s0 < 0 then (if k_isO A v0 9 then (k_bd (fX9_cant A v0) fun r7 A8 => if r7 = 0 ∨ r7 = 1 then (some (r7, A8)) else none) else none) else (if k_isO A v0 9 then (if k_isA A (k_rd A v0 35) 21 73 then (if s0 = 2 then (if (k_rd A (k_rd A v0 35) 73) = 3 then (fX9_term_b102 A v0) else (fX9_term_b112 A v0 s0 (k_rd A (k_rd A v0 35) 73))) else (if (k_and (k_shr (k_rd A v0 41) s0) 1) = 1 then (fX9_term_b102 A v0) else (fX9_term_b112 A v0 s0 (k_rd A (k_rd A v0 35) 73)))) else none) else none)
def fX9_term_b0 (A : k_H) (v0 : Int) : Option (Int × k_H) := if k_isO A v0 9 then (k_bd (fX9_isWord A v0 6710629) fun r1 A2 => if r1 = 0 then (if k_isO A2 v0 9 then (k_bd (fX9_isWord A2 v0 495672455781) fun r6 A7 => if r6 = 0 then (if k_isO A7 v0 9 then (k_bd (fX9_isWord A7 v0 32498688025257081) fun r11 A12 => if r11 = 0 then (if k_isO A12 v0 9 then (k_bd (fX9_isWord A12 v0 1819243379) fun r16 A17 => if r16 = 0 then (fX9_term_b59 A17 v0 (-1)) else (fX9_term_b59 A17 v0 10)) else none) else (fX9_term_b59 A12 v0 8)) else none) else (fX9_term_b59 A7 v0 2)) else none) else (fX9_term_b59 A2 v0 0)) else none
def fX9_term (A : k_H) (x0 : Int) : Option (Int × k_H) := fX9_term_b0 A x0
set_option maxRecDepth 100000 in
theorem okX9_term_b337 (A : k_H) (v0 v3 : Int) (r : Int) (A' : k_H) (h : fX9_term_b337 A v0 v3 = some (r, A')) : k_AW 4 mX9_term 337 [(1, v0), (3, 0), (3, 0), (0, v3), (3, 0)] [] A r A' := by
  unfold fX9_term_b337 at h
  refine k_iload_n (pc := 337) (x := v3) dX9_term_337 rfl rfl ?_
  refine k_if_ne (pc := 338) (tgt := 343) dX9_term_338 rfl (fun c1 => ?_) (fun c1 => ?_)
  · rw [if_neg c1] at h
    refine k_aload_n (pc := 343) (x := v0) dX9_term_343 rfl rfl ?_
    obtain ⟨hc2, h⟩ := k_pk h
    refine k_getf (pc := 344) (t := 0) (fi := 36) dX9_term_344 flX9_184 rfl rfl hc2 ?_
    refine k_iconst (pc := 347) dX9_term_347 ⟨by decide, by decide⟩ ?_
    refine k_icmp_eq (pc := 348) (tgt := 356) dX9_term_348 rfl (fun c3 => ?_) (fun c3 => ?_)
    · rw [if_pos c3] at h
      refine k_aload_n (pc := 356) (x := v0) dX9_term_356 rfl rfl ?_
      refine k_getf (pc := 357) (t := 1) (fi := 35) dX9_term_357 flX9_99 rfl rfl hc2 ?_
      refine k_bipush (pc := 360) dX9_term_360 ⟨by decide, by decide⟩ (by decide +kernel) ?_
      refine k_dup2 (pc := 362) dX9_term_362 (Nat.le_of_ble_eq_true rfl) (Nat.le_of_ble_eq_true rfl) ?_
      obtain ⟨hc4, h⟩ := k_pk h
      refine k_iaload (pc := 363) dX9_term_363 hc4 ?_
      refine k_iconst (pc := 364) dX9_term_364 ⟨by decide, by decide⟩ ?_
      refine k_iadd (pc := 365) dX9_term_365 ?_
      refine k_iastore (pc := 366) dX9_term_366 hc4 ?_
      obtain ⟨A5, eA6, h⟩ := k_pl h
      refine k_hq eA6 ?_
      refine k_aload_n (pc := 367) (x := v0) dX9_term_367 rfl rfl ?_
      have hf10 := k_oW eA6 hc2
      obtain ⟨r7, A8, hq9, h⟩ := k_pb h
      refine k_callV (pc := 368) (ci := 9) (a := v0) (as := []) (st := []) (st1 := []) dX9_term_368 cbX9_next (k_gt 1126 (by decide +kernel) (by decide +kernel)) cvX9_next.1 cvX9_next.2 rfl (by decide) hf10 (by omega) rfl (Nat.le_of_ble_eq_true rfl) (okX9_next hq9) rfl ?_
      refine k_iconst (pc := 371) dX9_term_371 ⟨by decide, by decide⟩ ?_
      obtain ⟨rfl, rfl⟩ := k_pr h
      exact k_ret (pc := 372) dX9_term_372 rfl rfl (by decide +kernel)
    · rw [if_neg c3] at h
      refine k_aload_n (pc := 351) (x := v0) dX9_term_351 rfl rfl ?_
      obtain ⟨r11, A12, hq13, h⟩ := k_pb h
      refine k_callV (pc := 352) (ci := 9) (a := v0) (as := []) (st := []) (st1 := [(0, r11)]) dX9_term_352 cbX9_cant (k_gt 1152 (by decide +kernel) (by decide +kernel)) cvX9_cant.1 cvX9_cant.2 rfl (by decide) hc2 (by omega) rfl (Nat.le_of_ble_eq_true rfl) (okX9_cant hq13) rfl ?_
      obtain ⟨hc14, h⟩ := k_pk h
      obtain ⟨rfl, rfl⟩ := k_pr h
      exact k_ret (pc := 355) dX9_term_355 rfl rfl (k_nz hc14)
  · rw [if_pos (Classical.not_not.mp c1)] at h
    refine k_iconst (pc := 341) dX9_term_341 ⟨by decide, by decide⟩ ?_
    obtain ⟨rfl, rfl⟩ := k_pr h
    exact k_ret (pc := 342) dX9_term_342 rfl rfl (by decide +kernel)
set_option maxRecDepth 100000 in
theorem okX9_term_b102 (A : k_H) (v0 : Int) (r : Int) (A' : k_H) (h : fX9_term_b102 A v0 = some (r, A')) : k_AW 4 mX9_term 102 [(1, v0), (3, 0), (3, 0), (3, 0), (3, 0)] [] A r A' := by
  unfold fX9_term_b102 at h
  refine k_aload_n (pc := 102) (x := v0) dX9_term_102 rfl rfl ?_
  refine k_iconst (pc := 103) dX9_term_103 ⟨by decide, by decide⟩ ?_
  refine k_aload_n (pc := 104) (x := v0) dX9_term_104 rfl rfl ?_
  obtain ⟨hc1, h⟩ := k_pk h
  refine k_getf (pc := 105) (t := 0) (fi := 37) dX9_term_105 flX9_181 rfl rfl hc1 ?_
  obtain ⟨r2, A3, hq4, h⟩ := k_pb h
  refine k_callV (pc := 108) (ci := 9) (a := v0) (as := [(0, 4), (0, (k_rd A v0 37))]) (st := []) (st1 := [(0, r2)]) dX9_term_108 cbX9_wrong (k_gt 1156 (by decide +kernel) (by decide +kernel)) cvX9_wrong.1 cvX9_wrong.2 rfl (by decide) hc1 (by omega) rfl (Nat.le_of_ble_eq_true rfl) (okX9_wrong hq4) rfl ?_
  obtain ⟨hc5, h⟩ := k_pk h
  obtain ⟨rfl, rfl⟩ := k_pr h
  exact k_ret (pc := 111) dX9_term_111 rfl rfl (k_nz hc5)
set_option maxRecDepth 100000 in
theorem okX9_term_b328 (A : k_H) (v0 v3 s0 s1 s2 : Int) (r : Int) (A' : k_H) (h : fX9_term_b328 A v0 v3 s0 s1 s2 = some (r, A')) : k_AW 4 mX9_term 328 [(1, v0), (3, 0), (3, 0), (0, v3), (3, 0)] [(0, s2), (0, s1), (1, s0)] A r A' := by
  unfold fX9_term_b328 at h
  obtain ⟨hc1, h⟩ := k_pk h
  refine k_iastore (pc := 328) dX9_term_328 hc1 ?_
  obtain ⟨A2, eA3, h⟩ := k_pl h
  refine k_hq eA3 ?_
  refine k_iload_n (pc := 329) (x := v3) dX9_term_329 rfl rfl ?_
  refine k_if_eq (pc := 330) (tgt := 337) dX9_term_330 rfl (fun c4 => ?_) (fun c4 => ?_)
  · rw [if_pos c4] at h
    refine k_sub (ls' := [(1, v0), (3, 0), (3, 0), (0, v3), (3, 0)]) (k_sbl_ok _ _ ⟨Or.inr rfl, Or.inl rfl, Or.inl rfl, Or.inr rfl, Or.inl rfl, trivial⟩) ?_
    exact okX9_term_b337  _ _ _ _ _ h
  · rw [if_neg c4] at h
    refine k_aload_n (pc := 333) (x := v0) dX9_term_333 rfl rfl ?_
    obtain ⟨hc8, h⟩ := k_pk h
    obtain ⟨r5, A6, hq7, h⟩ := k_pb h
    refine k_callV (pc := 334) (ci := 9) (a := v0) (as := []) (st := []) (st1 := []) dX9_term_334 cbX9_next (k_gt 1126 (by decide +kernel) (by decide +kernel)) cvX9_next.1 cvX9_next.2 rfl (by decide) hc8 (by omega) rfl (Nat.le_of_ble_eq_true rfl) (okX9_next hq7) rfl ?_
    refine k_sub (ls' := [(1, v0), (3, 0), (3, 0), (0, v3), (3, 0)]) (k_sbl_ok _ _ ⟨Or.inr rfl, Or.inl rfl, Or.inl rfl, Or.inr rfl, Or.inl rfl, trivial⟩) ?_
    exact okX9_term_b337  _ _ _ _ _ h
set_option maxRecDepth 100000 in
theorem okX9_term_b271 (A : k_H) (v0 s0 : Int) (r : Int) (A' : k_H) (h : fX9_term_b271 A v0 s0 = some (r, A')) : k_AW 4 mX9_term 271 [(1, v0), (3, 0), (3, 0), (3, 0), (3, 0)] [(0, s0)] A r A' := by
  unfold fX9_term_b271 at h
  refine k_istore_n (pc := 271) dX9_term_271 rfl (Nat.le_of_ble_eq_true rfl) rfl ?_
  show k_AW _ _ _ [(1, v0), (3, 0), (3, 0), (0, s0), (3, 0)] _ _ _ _
  refine k_goto (pc := 272) (tgt := 337) dX9_term_272 rfl ?_
  refine k_sub (ls' := [(1, v0), (3, 0), (3, 0), (0, s0), (3, 0)]) (k_sbl_ok _ _ ⟨Or.inr rfl, Or.inl rfl, Or.inl rfl, Or.inr rfl, Or.inl rfl, trivial⟩) ?_
  exact okX9_term_b337  _ _ _ _ _ h
set_option maxRecDepth 100000 in
theorem okX9_term_b208 (A : k_H) (v0 v2 s0 : Int) (r : Int) (A' : k_H) (h : fX9_term_b208 A v0 v2 s0 = some (r, A')) : k_AW 4 mX9_term 208 [(1, v0), (3, 0), (0, v2), (3, 0), (3, 0)] [(0, s0)] A r A' := by
  unfold fX9_term_b208 at h
  refine k_istore_n (pc := 208) dX9_term_208 rfl (Nat.le_of_ble_eq_true rfl) rfl ?_
  show k_AW _ _ _ [(1, v0), (3, 0), (0, v2), (0, s0), (3, 0)] _ _ _ _
  refine k_iload_n (pc := 209) (x := s0) dX9_term_209 rfl rfl ?_
  refine k_if_eq (pc := 210) (tgt := 337) dX9_term_210 rfl (fun c1 => ?_) (fun c1 => ?_)
  · rw [if_pos c1] at h
    refine k_sub (ls' := [(1, v0), (3, 0), (3, 0), (0, s0), (3, 0)]) (k_sbl_ok _ _ ⟨Or.inr rfl, Or.inl rfl, Or.inl rfl, Or.inr rfl, Or.inl rfl, trivial⟩) ?_
    exact okX9_term_b337  _ _ _ _ _ h
  · rw [if_neg c1] at h
    refine k_aload_n (pc := 213) (x := v0) dX9_term_213 rfl rfl ?_
    obtain ⟨hc2, h⟩ := k_pk h
    refine k_getf (pc := 214) (t := 1) (fi := 35) dX9_term_214 flX9_99 rfl rfl hc2 ?_
    refine k_bipush (pc := 217) dX9_term_217 ⟨by decide, by decide⟩ (by decide +kernel) ?_
    refine k_iload_n (pc := 219) (x := v2) dX9_term_219 rfl rfl ?_
    refine k_iconst (pc := 220) dX9_term_220 ⟨by decide, by decide⟩ ?_
    refine k_iadd (pc := 221) dX9_term_221 ?_
    obtain ⟨hc3, h⟩ := k_pk h
    refine k_iastore (pc := 222) dX9_term_222 hc3 ?_
    obtain ⟨A4, eA5, h⟩ := k_pl h
    refine k_hq eA5 ?_
    refine k_goto (pc := 223) (tgt := 337) dX9_term_223 rfl ?_
    refine k_sub (ls' := [(1, v0), (3, 0), (3, 0), (0, s0), (3, 0)]) (k_sbl_ok _ _ ⟨Or.inr rfl, Or.inl rfl, Or.inl rfl, Or.inr rfl, Or.inl rfl, trivial⟩) ?_
    exact okX9_term_b337  _ _ _ _ _ h
set_option maxRecDepth 100000 in
theorem okX9_term_b311 (A : k_H) (v0 v4 s0 : Int) (r : Int) (A' : k_H) (h : fX9_term_b311 A v0 v4 s0 = some (r, A')) : k_AW 4 mX9_term 311 [(1, v0), (3, 0), (3, 0), (3, 0), (0, v4)] [(0, s0)] A r A' := by
  unfold fX9_term_b311 at h
  refine k_istore_n (pc := 311) dX9_term_311 rfl (Nat.le_of_ble_eq_true rfl) rfl ?_
  show k_AW _ _ _ [(1, v0), (3, 0), (3, 0), (0, s0), (0, v4)] _ _ _ _
  refine k_aload_n (pc := 312) (x := v0) dX9_term_312 rfl rfl ?_
  obtain ⟨hc1, h⟩ := k_pk h
  refine k_getf (pc := 313) (t := 1) (fi := 35) dX9_term_313 flX9_99 rfl rfl hc1 ?_
  refine k_bipush (pc := 316) dX9_term_316 ⟨by decide, by decide⟩ (by decide +kernel) ?_
  refine k_iload (pc := 318) (x := v4) dX9_term_318 rfl ?_
  refine k_if_eq (pc := 320) (tgt := 327) dX9_term_320 rfl (fun c2 => ?_) (fun c2 => ?_)
  · rw [if_pos c2] at h
    refine k_iconst (pc := 327) dX9_term_327 ⟨by decide, by decide⟩ ?_
    refine k_sub (ls' := [(1, v0), (3, 0), (3, 0), (0, s0), (3, 0)]) (k_sbl_ok _ _ ⟨Or.inr rfl, Or.inl rfl, Or.inl rfl, Or.inr rfl, Or.inl rfl, trivial⟩) ?_
    exact okX9_term_b328  _ _ _ _ _ _ _ _ h
  · rw [if_neg c2] at h
    refine k_iconst (pc := 323) dX9_term_323 ⟨by decide, by decide⟩ ?_
    refine k_goto (pc := 324) (tgt := 328) dX9_term_324 rfl ?_
    refine k_sub (ls' := [(1, v0), (3, 0), (3, 0), (0, s0), (3, 0)]) (k_sbl_ok _ _ ⟨Or.inr rfl, Or.inl rfl, Or.inl rfl, Or.inr rfl, Or.inl rfl, trivial⟩) ?_
    exact okX9_term_b328  _ _ _ _ _ _ _ _ h
set_option maxRecDepth 100000 in
theorem okX9_term_b270 (A : k_H) (v0 : Int) (r : Int) (A' : k_H) (h : fX9_term_b270 A v0 = some (r, A')) : k_AW 4 mX9_term 270 [(1, v0), (3, 0), (3, 0), (3, 0), (3, 0)] [] A r A' := by
  unfold fX9_term_b270 at h
  refine k_iconst (pc := 270) dX9_term_270 ⟨by decide, by decide⟩ ?_
  refine k_sub (ls' := [(1, v0), (3, 0), (3, 0), (3, 0), (3, 0)]) (k_sbl_ok _ _ ⟨Or.inr rfl, Or.inl rfl, Or.inl rfl, Or.inl rfl, Or.inl rfl, trivial⟩) ?_
  exact okX9_term_b271  _ _ _ _ _ h
set_option maxRecDepth 100000 in
theorem okX9_term_b207 (A : k_H) (v0 v2 : Int) (r : Int) (A' : k_H) (h : fX9_term_b207 A v0 v2 = some (r, A')) : k_AW 4 mX9_term 207 [(1, v0), (3, 0), (0, v2), (3, 0), (3, 0)] [] A r A' := by
  unfold fX9_term_b207 at h
  refine k_iconst (pc := 207) dX9_term_207 ⟨by decide, by decide⟩ ?_
  refine k_sub (ls' := [(1, v0), (3, 0), (0, v2), (3, 0), (3, 0)]) (k_sbl_ok _ _ ⟨Or.inr rfl, Or.inl rfl, Or.inr rfl, Or.inl rfl, Or.inl rfl, trivial⟩) ?_
  exact okX9_term_b208  _ _ _ _ _ _ h
set_option maxRecDepth 100000 in
theorem okX9_term_b306 (A : k_H) (v0 v4 : Int) (r : Int) (A' : k_H) (h : fX9_term_b306 A v0 v4 = some (r, A')) : k_AW 4 mX9_term 306 [(1, v0), (3, 0), (3, 0), (3, 0), (0, v4)] [] A r A' := by
  unfold fX9_term_b306 at h
  refine k_iconst (pc := 306) dX9_term_306 ⟨by decide, by decide⟩ ?_
  refine k_goto (pc := 307) (tgt := 311) dX9_term_307 rfl ?_
  refine k_sub (ls' := [(1, v0), (3, 0), (3, 0), (3, 0), (0, v4)]) (k_sbl_ok _ _ ⟨Or.inr rfl, Or.inl rfl, Or.inl rfl, Or.inl rfl, Or.inr rfl, trivial⟩) ?_
  exact okX9_term_b311  _ _ _ _ _ _ h
set_option maxRecDepth 100000 in
theorem okX9_term_b197 (A : k_H) (v0 v2 s0 s1 s2 s3 : Int) (r : Int) (A' : k_H) (h : fX9_term_b197 A v0 v2 s0 s1 s2 s3 = some (r, A')) : k_AW 4 mX9_term 197 [(1, v0), (3, 0), (0, v2), (3, 0), (3, 0)] [(0, s3), (0, s2), (0, s1), (1, s0)] A r A' := by
  unfold fX9_term_b197 at h
  obtain ⟨hc4, h⟩ := k_pk h
  obtain ⟨r1, A2, hq3, h⟩ := k_pb h
  refine k_callV (pc := 197) (ci := 9) (a := s0) (as := [(0, s1), (0, s2), (0, s3)]) (st := []) (st1 := [(0, r1)]) dX9_term_197 cbX9_take (k_gt 1161 (by decide +kernel) (by decide +kernel)) cvX9_take.1 cvX9_take.2 rfl (by decide) hc4 (by omega) rfl (Nat.le_of_ble_eq_true rfl) (okX9_take hq3) rfl ?_
  refine k_if_eq (pc := 200) (tgt := 207) dX9_term_200 rfl (fun c5 => ?_) (fun c5 => ?_)
  · rw [if_pos c5] at h
    refine k_sub (ls' := [(1, v0), (3, 0), (0, v2), (3, 0), (3, 0)]) (k_sbl_ok _ _ ⟨Or.inr rfl, Or.inl rfl, Or.inr rfl, Or.inl rfl, Or.inl rfl, trivial⟩) ?_
    exact okX9_term_b207  _ _ _ _ _ h
  · rw [if_neg c5] at h
    refine k_iconst (pc := 203) dX9_term_203 ⟨by decide, by decide⟩ ?_
    refine k_goto (pc := 204) (tgt := 208) dX9_term_204 rfl ?_
    refine k_sub (ls' := [(1, v0), (3, 0), (0, v2), (3, 0), (3, 0)]) (k_sbl_ok _ _ ⟨Or.inr rfl, Or.inl rfl, Or.inr rfl, Or.inl rfl, Or.inl rfl, trivial⟩) ?_
    exact okX9_term_b208  _ _ _ _ _ _ h
set_option maxRecDepth 100000 in
theorem okX9_term_b112 (A : k_H) (v0 v1 v2 : Int) (r : Int) (A' : k_H) (h : fX9_term_b112 A v0 v1 v2 = some (r, A')) : k_AW 4 mX9_term 112 [(1, v0), (0, v1), (0, v2), (3, 0), (3, 0)] [] A r A' := by
  unfold fX9_term_b112 at h
  refine k_aload_n (pc := 112) (x := v0) dX9_term_112 rfl rfl ?_
  refine k_aload_n (pc := 113) (x := v0) dX9_term_113 rfl rfl ?_
  obtain ⟨hc1, h⟩ := k_pk h
  refine k_getf (pc := 114) (t := 0) (fi := 41) dX9_term_114 flX9_209 rfl rfl hc1 ?_
  refine k_iconst (pc := 117) dX9_term_117 ⟨by decide, by decide⟩ ?_
  refine k_iload_n (pc := 118) (x := v1) dX9_term_118 rfl rfl ?_
  refine k_ishl (pc := 119) dX9_term_119 ?_
  refine k_ior (pc := 120) dX9_term_120 ?_
  refine k_putf (pc := 121) (t := 0) (fi := 41) dX9_term_121 flX9_209 rfl rfl hc1 rfl ?_
  obtain ⟨A2, eA3, h⟩ := k_pl h
  refine k_hq eA3 ?_
  refine k_aload_n (pc := 124) (x := v0) dX9_term_124 rfl rfl ?_
  have hf7 := k_oW eA3 hc1
  obtain ⟨r4, A5, hq6, h⟩ := k_pb h
  refine k_callV (pc := 125) (ci := 9) (a := v0) (as := []) (st := []) (st1 := []) dX9_term_125 cbX9_next (k_gt 1126 (by decide +kernel) (by decide +kernel)) cvX9_next.1 cvX9_next.2 rfl (by decide) hf7 (by omega) rfl (Nat.le_of_ble_eq_true rfl) (okX9_next hq6) rfl ?_
  refine k_iload_n (pc := 128) (x := v1) dX9_term_128 rfl rfl ?_
  refine k_if_ne (pc := 129) (tgt := 144) dX9_term_129 rfl (fun c8 => ?_) (fun c8 => ?_)
  · rw [if_neg c8] at h
    refine k_iload_n (pc := 144) (x := v1) dX9_term_144 rfl rfl ?_
    refine k_iconst (pc := 145) dX9_term_145 ⟨by decide, by decide⟩ ?_
    refine k_icmp_ne (pc := 146) (tgt := 226) dX9_term_146 rfl (fun c9 => ?_) (fun c9 => ?_)
    · rw [if_neg c9] at h
      refine k_iload_n (pc := 226) (x := v1) dX9_term_226 rfl rfl ?_
      refine k_bipush (pc := 227) dX9_term_227 ⟨by decide, by decide⟩ (by decide +kernel) ?_
      refine k_icmp_ne (pc := 229) (tgt := 275) dX9_term_229 rfl (fun c10 => ?_) (fun c10 => ?_)
      · rw [if_neg c10] at h
        refine k_aload_n (pc := 275) (x := v0) dX9_term_275 rfl rfl ?_
        refine k_ldc2 (pc := 276) (n := 1651471464) dX9_term_276 (k_gt 1171 (by decide +kernel) (by decide +kernel)) ⟨by decide, by decide⟩ ?_
        obtain ⟨hc14, h⟩ := k_pk h
        obtain ⟨r11, A12, hq13, h⟩ := k_pb h
        refine k_callV (pc := 279) (ci := 9) (a := v0) (as := [(2, 1651471464)]) (st := []) (st1 := [(0, r11)]) dX9_term_279 cbX9_isWord (k_gt 1145 (by decide +kernel) (by decide +kernel)) cvX9_isWord.1 cvX9_isWord.2 rfl (by decide) hc14 (by omega) rfl (Nat.le_of_ble_eq_true rfl) (okX9_isWord hq13) rfl ?_
        refine k_istore (pc := 282) dX9_term_282 (Nat.le_of_ble_eq_true rfl) rfl ?_
        show k_AW _ _ _ [(1, v0), (0, v1), (0, v2), (3, 0), (0, r11)] _ _ _ _
        refine k_iload (pc := 284) (x := r11) dX9_term_284 rfl ?_
        refine k_if_ne (pc := 286) (tgt := 306) dX9_term_286 rfl (fun c15 => ?_) (fun c15 => ?_)
        · rw [if_neg c15] at h
          refine k_sub (ls' := [(1, v0), (3, 0), (3, 0), (3, 0), (0, r11)]) (k_sbl_ok _ _ ⟨Or.inr rfl, Or.inl rfl, Or.inl rfl, Or.inl rfl, Or.inr rfl, trivial⟩) ?_
          exact okX9_term_b306  _ _ _ _ _ h
        · rw [if_pos (Classical.not_not.mp c15)] at h
          refine k_aload_n (pc := 289) (x := v0) dX9_term_289 rfl rfl ?_
          refine k_ldc2 (pc := 290) (n := 1751215212) dX9_term_290 (k_gt 1172 (by decide +kernel) (by decide +kernel)) ⟨by decide, by decide⟩ ?_
          obtain ⟨hc19, h⟩ := k_pk h
          obtain ⟨r16, A17, hq18, h⟩ := k_pb h
          refine k_callV (pc := 293) (ci := 9) (a := v0) (as := [(2, 1751215212)]) (st := []) (st1 := [(0, r16)]) dX9_term_293 cbX9_isWord (k_gt 1145 (by decide +kernel) (by decide +kernel)) cvX9_isWord.1 cvX9_isWord.2 rfl (by decide) hc19 (by omega) rfl (Nat.le_of_ble_eq_true rfl) (okX9_isWord hq18) rfl ?_
          refine k_if_ne (pc := 296) (tgt := 306) dX9_term_296 rfl (fun c20 => ?_) (fun c20 => ?_)
          · rw [if_neg c20] at h
            refine k_sub (ls' := [(1, v0), (3, 0), (3, 0), (3, 0), (0, r11)]) (k_sbl_ok _ _ ⟨Or.inr rfl, Or.inl rfl, Or.inl rfl, Or.inl rfl, Or.inr rfl, trivial⟩) ?_
            exact okX9_term_b306  _ _ _ _ _ h
          · rw [if_pos (Classical.not_not.mp c20)] at h
            refine k_aload_n (pc := 299) (x := v0) dX9_term_299 rfl rfl ?_
            obtain ⟨hc24, h⟩ := k_pk h
            obtain ⟨r21, A22, hq23, h⟩ := k_pb h
            refine k_callV (pc := 300) (ci := 9) (a := v0) (as := []) (st := []) (st1 := [(0, r21)]) dX9_term_300 cbX9_cant (k_gt 1152 (by decide +kernel) (by decide +kernel)) cvX9_cant.1 cvX9_cant.2 rfl (by decide) hc24 (by omega) rfl (Nat.le_of_ble_eq_true rfl) (okX9_cant hq23) rfl ?_
            refine k_if_eq (pc := 303) (tgt := 310) dX9_term_303 rfl (fun c25 => ?_) (fun c25 => ?_)
            · rw [if_pos c25] at h
              refine k_iconst (pc := 310) dX9_term_310 ⟨by decide, by decide⟩ ?_
              refine k_sub (ls' := [(1, v0), (3, 0), (3, 0), (3, 0), (0, r11)]) (k_sbl_ok _ _ ⟨Or.inr rfl, Or.inl rfl, Or.inl rfl, Or.inl rfl, Or.inr rfl, trivial⟩) ?_
              exact okX9_term_b311  _ _ _ _ _ _ h
            · rw [if_neg c25] at h
              refine k_sub (ls' := [(1, v0), (3, 0), (3, 0), (3, 0), (0, r11)]) (k_sbl_ok _ _ ⟨Or.inr rfl, Or.inl rfl, Or.inl rfl, Or.inl rfl, Or.inr rfl, trivial⟩) ?_
              exact okX9_term_b306  _ _ _ _ _ h
      · rw [if_pos (Classical.not_not.mp c10)] at h
        refine k_aload_n (pc := 232) (x := v0) dX9_term_232 rfl rfl ?_
        refine k_bipush (pc := 233) dX9_term_233 ⟨by decide, by decide⟩ (by decide +kernel) ?_
        refine k_bipush (pc := 235) dX9_term_235 ⟨by decide, by decide⟩ (by decide +kernel) ?_
        refine k_iconst (pc := 237) dX9_term_237 ⟨by decide, by decide⟩ ?_
        obtain ⟨hc29, h⟩ := k_pk h
        obtain ⟨r26, A27, hq28, h⟩ := k_pb h
        refine k_callV (pc := 238) (ci := 9) (a := v0) (as := [(0, 8), (0, 100), (0, (-1))]) (st := []) (st1 := [(0, r26)]) dX9_term_238 cbX9_take (k_gt 1161 (by decide +kernel) (by decide +kernel)) cvX9_take.1 cvX9_take.2 rfl (by decide) hc29 (by omega) rfl (Nat.le_of_ble_eq_true rfl) (okX9_take hq28) rfl ?_
        refine k_if_eq (pc := 241) (tgt := 270) dX9_term_241 rfl (fun c30 => ?_) (fun c30 => ?_)
        · rw [if_pos c30] at h
          refine k_sub (ls' := [(1, v0), (3, 0), (3, 0), (3, 0), (3, 0)]) (k_sbl_ok _ _ ⟨Or.inr rfl, Or.inl rfl, Or.inl rfl, Or.inl rfl, Or.inl rfl, trivial⟩) ?_
          exact okX9_term_b270  _ _ _ _ h
        · rw [if_neg c30] at h
          refine k_aload_n (pc := 244) (x := v0) dX9_term_244 rfl rfl ?_
          refine k_ldc2 (pc := 245) (n := 1836020596) dX9_term_245 (k_gt 1170 (by decide +kernel) (by decide +kernel)) ⟨by decide, by decide⟩ ?_
          obtain ⟨hc34, h⟩ := k_pk h
          obtain ⟨r31, A32, hq33, h⟩ := k_pb h
          refine k_callV (pc := 248) (ci := 9) (a := v0) (as := [(2, 1836020596)]) (st := []) (st1 := [(0, r31)]) dX9_term_248 cbX9_behind (k_gt 1166 (by decide +kernel) (by decide +kernel)) cvX9_behind.1 cvX9_behind.2 rfl (by decide) hc34 (by omega) rfl (Nat.le_of_ble_eq_true rfl) (okX9_behind hq33) rfl ?_
          refine k_if_eq (pc := 251) (tgt := 270) dX9_term_251 rfl (fun c35 => ?_) (fun c35 => ?_)
          · rw [if_pos c35] at h
            refine k_sub (ls' := [(1, v0), (3, 0), (3, 0), (3, 0), (3, 0)]) (k_sbl_ok _ _ ⟨Or.inr rfl, Or.inl rfl, Or.inl rfl, Or.inl rfl, Or.inl rfl, trivial⟩) ?_
            exact okX9_term_b270  _ _ _ _ h
          · rw [if_neg c35] at h
            refine k_aload_n (pc := 254) (x := v0) dX9_term_254 rfl rfl ?_
            refine k_bipush (pc := 255) dX9_term_255 ⟨by decide, by decide⟩ (by decide +kernel) ?_
            refine k_ldci (pc := 257) (n := 99999) dX9_term_257 (k_gt 1160 (by decide +kernel) (by decide +kernel)) ⟨by decide, by decide⟩ ?_
            refine k_iconst (pc := 259) dX9_term_259 ⟨by decide, by decide⟩ ?_
            obtain ⟨hc39, h⟩ := k_pk h
            obtain ⟨r36, A37, hq38, h⟩ := k_pb h
            refine k_callV (pc := 260) (ci := 9) (a := v0) (as := [(0, 9), (0, 99999), (0, (-1))]) (st := []) (st1 := [(0, r36)]) dX9_term_260 cbX9_take (k_gt 1161 (by decide +kernel) (by decide +kernel)) cvX9_take.1 cvX9_take.2 rfl (by decide) hc39 (by omega) rfl (Nat.le_of_ble_eq_true rfl) (okX9_take hq38) rfl ?_
            refine k_if_eq (pc := 263) (tgt := 270) dX9_term_263 rfl (fun c40 => ?_) (fun c40 => ?_)
            · rw [if_pos c40] at h
              refine k_sub (ls' := [(1, v0), (3, 0), (3, 0), (3, 0), (3, 0)]) (k_sbl_ok _ _ ⟨Or.inr rfl, Or.inl rfl, Or.inl rfl, Or.inl rfl, Or.inl rfl, trivial⟩) ?_
              exact okX9_term_b270  _ _ _ _ h
            · rw [if_neg c40] at h
              refine k_iconst (pc := 266) dX9_term_266 ⟨by decide, by decide⟩ ?_
              refine k_goto (pc := 267) (tgt := 271) dX9_term_267 rfl ?_
              refine k_sub (ls' := [(1, v0), (3, 0), (3, 0), (3, 0), (3, 0)]) (k_sbl_ok _ _ ⟨Or.inr rfl, Or.inl rfl, Or.inl rfl, Or.inl rfl, Or.inl rfl, trivial⟩) ?_
              exact okX9_term_b271  _ _ _ _ _ h
    · rw [if_pos (Classical.not_not.mp c9)] at h
      refine k_aload_n (pc := 149) (x := v0) dX9_term_149 rfl rfl ?_
      refine k_iconst (pc := 150) dX9_term_150 ⟨by decide, by decide⟩ ?_
      refine k_iload_n (pc := 151) (x := v2) dX9_term_151 rfl rfl ?_
      refine k_iadd (pc := 152) dX9_term_152 ?_
      refine k_bipush (pc := 153) dX9_term_153 ⟨by decide, by decide⟩ (by decide +kernel) ?_
      refine k_iconst (pc := 155) dX9_term_155 ⟨by decide, by decide⟩ ?_
      obtain ⟨hc44, h⟩ := k_pk h
      obtain ⟨r41, A42, hq43, h⟩ := k_pb h
      refine k_callV (pc := 156) (ci := 9) (a := v0) (as := [(0, k_wr (2 + v2)), (0, 100), (0, (-1))]) (st := []) (st1 := [(0, r41)]) dX9_term_156 cbX9_take (k_gt 1161 (by decide +kernel) (by decide +kernel)) cvX9_take.1 cvX9_take.2 rfl (by decide) hc44 (by omega) rfl (Nat.le_of_ble_eq_true rfl) (okX9_take hq43) rfl ?_
      refine k_if_eq (pc := 159) (tgt := 207) dX9_term_159 rfl (fun c45 => ?_) (fun c45 => ?_)
      · rw [if_pos c45] at h
        refine k_sub (ls' := [(1, v0), (3, 0), (0, v2), (3, 0), (3, 0)]) (k_sbl_ok _ _ ⟨Or.inr rfl, Or.inl rfl, Or.inr rfl, Or.inl rfl, Or.inl rfl, trivial⟩) ?_
        exact okX9_term_b207  _ _ _ _ _ h
      · rw [if_neg c45] at h
        refine k_aload_n (pc := 162) (x := v0) dX9_term_162 rfl rfl ?_
        refine k_ldc2 (pc := 163) (n := 418263299685) dX9_term_163 (k_gt 1165 (by decide +kernel) (by decide +kernel)) ⟨by decide, by decide⟩ ?_
        obtain ⟨hc49, h⟩ := k_pk h
        obtain ⟨r46, A47, hq48, h⟩ := k_pb h
        refine k_callV (pc := 166) (ci := 9) (a := v0) (as := [(2, 418263299685)]) (st := []) (st1 := [(0, r46)]) dX9_term_166 cbX9_behind (k_gt 1166 (by decide +kernel) (by decide +kernel)) cvX9_behind.1 cvX9_behind.2 rfl (by decide) hc49 (by omega) rfl (Nat.le_of_ble_eq_true rfl) (okX9_behind hq48) rfl ?_
        refine k_if_eq (pc := 169) (tgt := 207) dX9_term_169 rfl (fun c50 => ?_) (fun c50 => ?_)
        · rw [if_pos c50] at h
          refine k_sub (ls' := [(1, v0), (3, 0), (0, v2), (3, 0), (3, 0)]) (k_sbl_ok _ _ ⟨Or.inr rfl, Or.inl rfl, Or.inr rfl, Or.inl rfl, Or.inl rfl, trivial⟩) ?_
          exact okX9_term_b207  _ _ _ _ _ h
        · rw [if_neg c50] at h
          refine k_aload_n (pc := 172) (x := v0) dX9_term_172 rfl rfl ?_
          refine k_iconst (pc := 173) dX9_term_173 ⟨by decide, by decide⟩ ?_
          refine k_iload_n (pc := 174) (x := v2) dX9_term_174 rfl rfl ?_
          refine k_iadd (pc := 175) dX9_term_175 ?_
          refine k_ldci (pc := 176) (n := 99999) dX9_term_176 (k_gt 1160 (by decide +kernel) (by decide +kernel)) ⟨by decide, by decide⟩ ?_
          refine k_iload_n (pc := 178) (x := v2) dX9_term_178 rfl rfl ?_
          refine k_if_ne (pc := 179) (tgt := 186) dX9_term_179 rfl (fun c51 => ?_) (fun c51 => ?_)
          · rw [if_neg c51] at h
            refine k_aload_n (pc := 186) (x := v0) dX9_term_186 rfl rfl ?_
            obtain ⟨hc52, h⟩ := k_pk h
            refine k_getf (pc := 187) (t := 1) (fi := 35) dX9_term_187 flX9_99 rfl rfl hc52 ?_
            refine k_bipush (pc := 190) dX9_term_190 ⟨by decide, by decide⟩ (by decide +kernel) ?_
            refine k_iload_n (pc := 192) (x := v2) dX9_term_192 rfl rfl ?_
            refine k_iadd (pc := 193) dX9_term_193 ?_
            refine k_iconst (pc := 194) dX9_term_194 ⟨by decide, by decide⟩ ?_
            refine k_isub (pc := 195) dX9_term_195 ?_
            obtain ⟨hc53, h⟩ := k_pk h
            refine k_iaload (pc := 196) dX9_term_196 hc53 ?_
            refine k_sub (ls' := [(1, v0), (3, 0), (0, v2), (3, 0), (3, 0)]) (k_sbl_ok _ _ ⟨Or.inr rfl, Or.inl rfl, Or.inr rfl, Or.inl rfl, Or.inl rfl, trivial⟩) ?_
            exact okX9_term_b197  _ _ _ _ _ _ _ _ _ h
          · rw [if_pos (Classical.not_not.mp c51)] at h
            refine k_iconst (pc := 182) dX9_term_182 ⟨by decide, by decide⟩ ?_
            refine k_goto (pc := 183) (tgt := 197) dX9_term_183 rfl ?_
            refine k_sub (ls' := [(1, v0), (3, 0), (0, v2), (3, 0), (3, 0)]) (k_sbl_ok _ _ ⟨Or.inr rfl, Or.inl rfl, Or.inr rfl, Or.inl rfl, Or.inl rfl, trivial⟩) ?_
            exact okX9_term_b197  _ _ _ _ _ _ _ _ _ h
  · rw [if_pos (Classical.not_not.mp c8)] at h
    refine k_aload_n (pc := 132) (x := v0) dX9_term_132 rfl rfl ?_
    refine k_iconst (pc := 133) dX9_term_133 ⟨by decide, by decide⟩ ?_
    refine k_ldci (pc := 134) (n := 99999) dX9_term_134 (k_gt 1160 (by decide +kernel) (by decide +kernel)) ⟨by decide, by decide⟩ ?_
    refine k_iconst (pc := 136) dX9_term_136 ⟨by decide, by decide⟩ ?_
    obtain ⟨hc57, h⟩ := k_pk h
    obtain ⟨r54, A55, hq56, h⟩ := k_pb h
    refine k_callV (pc := 137) (ci := 9) (a := v0) (as := [(0, 0), (0, 99999), (0, (-1))]) (st := []) (st1 := [(0, r54)]) dX9_term_137 cbX9_take (k_gt 1161 (by decide +kernel) (by decide +kernel)) cvX9_take.1 cvX9_take.2 rfl (by decide) hc57 (by omega) rfl (Nat.le_of_ble_eq_true rfl) (okX9_take hq56) rfl ?_
    refine k_istore_n (pc := 140) dX9_term_140 rfl (Nat.le_of_ble_eq_true rfl) rfl ?_
    show k_AW _ _ _ [(1, v0), (0, v1), (0, v2), (0, r54), (3, 0)] _ _ _ _
    refine k_goto (pc := 141) (tgt := 337) dX9_term_141 rfl ?_
    refine k_sub (ls' := [(1, v0), (3, 0), (3, 0), (0, r54), (3, 0)]) (k_sbl_ok _ _ ⟨Or.inr rfl, Or.inl rfl, Or.inl rfl, Or.inr rfl, Or.inl rfl, trivial⟩) ?_
    exact okX9_term_b337  _ _ _ _ _ h
set_option maxRecDepth 100000 in
theorem okX9_term_b59 (A : k_H) (v0 s0 : Int) (r : Int) (A' : k_H) (h : fX9_term_b59 A v0 s0 = some (r, A')) : k_AW 4 mX9_term 59 [(1, v0), (3, 0), (3, 0), (3, 0), (3, 0)] [(0, s0)] A r A' := by
  unfold fX9_term_b59 at h
  refine k_istore_n (pc := 59) dX9_term_59 rfl (Nat.le_of_ble_eq_true rfl) rfl ?_
  show k_AW _ _ _ [(1, v0), (0, s0), (3, 0), (3, 0), (3, 0)] _ _ _ _
  refine k_iload_n (pc := 60) (x := s0) dX9_term_60 rfl rfl ?_
  refine k_if_ge (pc := 61) (tgt := 69) dX9_term_61 rfl (fun c1 => ?_) (fun c1 => ?_)
  · rw [if_neg (Int.not_lt.mpr c1)] at h
    refine k_aload_n (pc := 69) (x := v0) dX9_term_69 rfl rfl ?_
    obtain ⟨hc2, h⟩ := k_pk h
    refine k_getf (pc := 70) (t := 1) (fi := 35) dX9_term_70 flX9_99 rfl rfl hc2 ?_
    refine k_bipush (pc := 73) dX9_term_73 ⟨by decide, by decide⟩ (by decide +kernel) ?_
    obtain ⟨hc3, h⟩ := k_pk h
    refine k_iaload (pc := 75) dX9_term_75 hc3 ?_
    refine k_istore_n (pc := 76) dX9_term_76 rfl (Nat.le_of_ble_eq_true rfl) rfl ?_
    show k_AW _ _ _ [(1, v0), (0, s0), (0, (k_rd A (k_rd A v0 35) 73)), (3, 0), (3, 0)] _ _ _ _
    refine k_iload_n (pc := 77) (x := s0) dX9_term_77 rfl rfl ?_
    refine k_iconst (pc := 78) dX9_term_78 ⟨by decide, by decide⟩ ?_
    refine k_icmp_ne (pc := 79) (tgt := 90) dX9_term_79 rfl (fun c4 => ?_) (fun c4 => ?_)
    · rw [if_neg c4] at h
      refine k_aload_n (pc := 90) (x := v0) dX9_term_90 rfl rfl ?_
      refine k_getf (pc := 91) (t := 0) (fi := 41) dX9_term_91 flX9_209 rfl rfl hc2 ?_
      refine k_iload_n (pc := 94) (x := s0) dX9_term_94 rfl rfl ?_
      refine k_ishr (pc := 95) dX9_term_95 ?_
      refine k_iconst (pc := 96) dX9_term_96 ⟨by decide, by decide⟩ ?_
      refine k_iand (pc := 97) dX9_term_97 ?_
      refine k_iconst (pc := 98) dX9_term_98 ⟨by decide, by decide⟩ ?_
      refine k_icmp_ne (pc := 99) (tgt := 112) dX9_term_99 rfl (fun c5 => ?_) (fun c5 => ?_)
      · rw [if_neg c5] at h
        refine k_sub (ls' := [(1, v0), (0, s0), (0, (k_rd A (k_rd A v0 35) 73)), (3, 0), (3, 0)]) (k_sbl_ok _ _ ⟨Or.inr rfl, Or.inr rfl, Or.inr rfl, Or.inl rfl, Or.inl rfl, trivial⟩) ?_
        exact okX9_term_b112  _ _ _ _ _ _ h
      · rw [if_pos (Classical.not_not.mp c5)] at h
        refine k_sub (ls' := [(1, v0), (3, 0), (3, 0), (3, 0), (3, 0)]) (k_sbl_ok _ _ ⟨Or.inr rfl, Or.inl rfl, Or.inl rfl, Or.inl rfl, Or.inl rfl, trivial⟩) ?_
        exact okX9_term_b102  _ _ _ _ h
    · rw [if_pos (Classical.not_not.mp c4)] at h
      refine k_iload_n (pc := 82) (x := (k_rd A (k_rd A v0 35) 73)) dX9_term_82 rfl rfl ?_
      refine k_iconst (pc := 83) dX9_term_83 ⟨by decide, by decide⟩ ?_
      refine k_icmp_ne (pc := 84) (tgt := 112) dX9_term_84 rfl (fun c6 => ?_) (fun c6 => ?_)
      · rw [if_neg c6] at h
        refine k_sub (ls' := [(1, v0), (0, s0), (0, (k_rd A (k_rd A v0 35) 73)), (3, 0), (3, 0)]) (k_sbl_ok _ _ ⟨Or.inr rfl, Or.inr rfl, Or.inr rfl, Or.inl rfl, Or.inl rfl, trivial⟩) ?_
        exact okX9_term_b112  _ _ _ _ _ _ h
      · rw [if_pos (Classical.not_not.mp c6)] at h
        refine k_goto (pc := 87) (tgt := 102) dX9_term_87 rfl ?_
        refine k_sub (ls' := [(1, v0), (3, 0), (3, 0), (3, 0), (3, 0)]) (k_sbl_ok _ _ ⟨Or.inr rfl, Or.inl rfl, Or.inl rfl, Or.inl rfl, Or.inl rfl, trivial⟩) ?_
        exact okX9_term_b102  _ _ _ _ h
  · rw [if_pos (Int.not_le.mp c1)] at h
    refine k_aload_n (pc := 64) (x := v0) dX9_term_64 rfl rfl ?_
    obtain ⟨hc10, h⟩ := k_pk h
    obtain ⟨r7, A8, hq9, h⟩ := k_pb h
    refine k_callV (pc := 65) (ci := 9) (a := v0) (as := []) (st := []) (st1 := [(0, r7)]) dX9_term_65 cbX9_cant (k_gt 1152 (by decide +kernel) (by decide +kernel)) cvX9_cant.1 cvX9_cant.2 rfl (by decide) hc10 (by omega) rfl (Nat.le_of_ble_eq_true rfl) (okX9_cant hq9) rfl ?_
    obtain ⟨hc11, h⟩ := k_pk h
    obtain ⟨rfl, rfl⟩ := k_pr h
    exact k_ret (pc := 68) dX9_term_68 rfl rfl (k_nz hc11)
set_option maxRecDepth 100000 in
theorem okX9_term_b0 (A : k_H) (v0 : Int) (r : Int) (A' : k_H) (h : fX9_term_b0 A v0 = some (r, A')) : k_AW 4 mX9_term 0 [(1, v0), (3, 0), (3, 0), (3, 0), (3, 0)] [] A r A' := by
  unfold fX9_term_b0 at h
  refine k_aload_n (pc := 0) (x := v0) dX9_term_0 rfl rfl ?_
  refine k_ldc2 (pc := 1) (n := 6710629) dX9_term_1 (k_gt 1144 (by decide +kernel) (by decide +kernel)) ⟨by decide, by decide⟩ ?_
  obtain ⟨hc4, h⟩ := k_pk h
  obtain ⟨r1, A2, hq3, h⟩ := k_pb h
  refine k_callV (pc := 4) (ci := 9) (a := v0) (as := [(2, 6710629)]) (st := []) (st1 := [(0, r1)]) dX9_term_4 cbX9_isWord (k_gt 1145 (by decide +kernel) (by decide +kernel)) cvX9_isWord.1 cvX9_isWord.2 rfl (by decide) hc4 (by omega) rfl (Nat.le_of_ble_eq_true rfl) (okX9_isWord hq3) rfl ?_
  refine k_if_eq (pc := 7) (tgt := 14) dX9_term_7 rfl (fun c5 => ?_) (fun c5 => ?_)
  · rw [if_pos c5] at h
    refine k_aload_n (pc := 14) (x := v0) dX9_term_14 rfl rfl ?_
    refine k_ldc2 (pc := 15) (n := 495672455781) dX9_term_15 (k_gt 1149 (by decide +kernel) (by decide +kernel)) ⟨by decide, by decide⟩ ?_
    obtain ⟨hc9, h⟩ := k_pk h
    obtain ⟨r6, A7, hq8, h⟩ := k_pb h
    refine k_callV (pc := 18) (ci := 9) (a := v0) (as := [(2, 495672455781)]) (st := []) (st1 := [(0, r6)]) dX9_term_18 cbX9_isWord (k_gt 1145 (by decide +kernel) (by decide +kernel)) cvX9_isWord.1 cvX9_isWord.2 rfl (by decide) hc9 (by omega) rfl (Nat.le_of_ble_eq_true rfl) (okX9_isWord hq8) rfl ?_
    refine k_if_eq (pc := 21) (tgt := 28) dX9_term_21 rfl (fun c10 => ?_) (fun c10 => ?_)
    · rw [if_pos c10] at h
      refine k_aload_n (pc := 28) (x := v0) dX9_term_28 rfl rfl ?_
      refine k_ldc2 (pc := 29) (n := 32498688025257081) dX9_term_29 (k_gt 1150 (by decide +kernel) (by decide +kernel)) ⟨by decide, by decide⟩ ?_
      obtain ⟨hc14, h⟩ := k_pk h
      obtain ⟨r11, A12, hq13, h⟩ := k_pb h
      refine k_callV (pc := 32) (ci := 9) (a := v0) (as := [(2, 32498688025257081)]) (st := []) (st1 := [(0, r11)]) dX9_term_32 cbX9_isWord (k_gt 1145 (by decide +kernel) (by decide +kernel)) cvX9_isWord.1 cvX9_isWord.2 rfl (by decide) hc14 (by omega) rfl (Nat.le_of_ble_eq_true rfl) (okX9_isWord hq13) rfl ?_
      refine k_if_eq (pc := 35) (tgt := 43) dX9_term_35 rfl (fun c15 => ?_) (fun c15 => ?_)
      · rw [if_pos c15] at h
        refine k_aload_n (pc := 43) (x := v0) dX9_term_43 rfl rfl ?_
        refine k_ldc2 (pc := 44) (n := 1819243379) dX9_term_44 (k_gt 1151 (by decide +kernel) (by decide +kernel)) ⟨by decide, by decide⟩ ?_
        obtain ⟨hc19, h⟩ := k_pk h
        obtain ⟨r16, A17, hq18, h⟩ := k_pb h
        refine k_callV (pc := 47) (ci := 9) (a := v0) (as := [(2, 1819243379)]) (st := []) (st1 := [(0, r16)]) dX9_term_47 cbX9_isWord (k_gt 1145 (by decide +kernel) (by decide +kernel)) cvX9_isWord.1 cvX9_isWord.2 rfl (by decide) hc19 (by omega) rfl (Nat.le_of_ble_eq_true rfl) (okX9_isWord hq18) rfl ?_
        refine k_if_eq (pc := 50) (tgt := 58) dX9_term_50 rfl (fun c20 => ?_) (fun c20 => ?_)
        · rw [if_pos c20] at h
          refine k_iconst (pc := 58) dX9_term_58 ⟨by decide, by decide⟩ ?_
          refine k_sub (ls' := [(1, v0), (3, 0), (3, 0), (3, 0), (3, 0)]) (k_sbl_ok _ _ ⟨Or.inr rfl, Or.inl rfl, Or.inl rfl, Or.inl rfl, Or.inl rfl, trivial⟩) ?_
          exact okX9_term_b59  _ _ _ _ _ h
        · rw [if_neg c20] at h
          refine k_bipush (pc := 53) dX9_term_53 ⟨by decide, by decide⟩ (by decide +kernel) ?_
          refine k_goto (pc := 55) (tgt := 59) dX9_term_55 rfl ?_
          refine k_sub (ls' := [(1, v0), (3, 0), (3, 0), (3, 0), (3, 0)]) (k_sbl_ok _ _ ⟨Or.inr rfl, Or.inl rfl, Or.inl rfl, Or.inl rfl, Or.inl rfl, trivial⟩) ?_
          exact okX9_term_b59  _ _ _ _ _ h
      · rw [if_neg c15] at h
        refine k_bipush (pc := 38) dX9_term_38 ⟨by decide, by decide⟩ (by decide +kernel) ?_
        refine k_goto (pc := 40) (tgt := 59) dX9_term_40 rfl ?_
        refine k_sub (ls' := [(1, v0), (3, 0), (3, 0), (3, 0), (3, 0)]) (k_sbl_ok _ _ ⟨Or.inr rfl, Or.inl rfl, Or.inl rfl, Or.inl rfl, Or.inl rfl, trivial⟩) ?_
        exact okX9_term_b59  _ _ _ _ _ h
    · rw [if_neg c10] at h
      refine k_iconst (pc := 24) dX9_term_24 ⟨by decide, by decide⟩ ?_
      refine k_goto (pc := 25) (tgt := 59) dX9_term_25 rfl ?_
      refine k_sub (ls' := [(1, v0), (3, 0), (3, 0), (3, 0), (3, 0)]) (k_sbl_ok _ _ ⟨Or.inr rfl, Or.inl rfl, Or.inl rfl, Or.inl rfl, Or.inl rfl, trivial⟩) ?_
      exact okX9_term_b59  _ _ _ _ _ h
  · rw [if_neg c5] at h
    refine k_iconst (pc := 10) dX9_term_10 ⟨by decide, by decide⟩ ?_
    refine k_goto (pc := 11) (tgt := 59) dX9_term_11 rfl ?_
    refine k_sub (ls' := [(1, v0), (3, 0), (3, 0), (3, 0), (3, 0)]) (k_sbl_ok _ _ ⟨Or.inr rfl, Or.inl rfl, Or.inl rfl, Or.inl rfl, Or.inl rfl, trivial⟩) ?_
    exact okX9_term_b59  _ _ _ _ _ h
theorem okX9_term {A : k_H} {x0 : Int} {r : Int} {A1 : k_H} (h : fX9_term A x0 = some (r, A1)) : k_AM 4 mX9_term [(1, x0)] A r A1 :=
  k_AM_of2 (ls := [(1, x0), (3, 0), (3, 0), (3, 0), (3, 0)]) (Or.inl (by decide +kernel)) (by decide +kernel) (by decide) rfl (Nat.le_of_ble_eq_true rfl) ⟨Or.inr rfl, rfl, rfl, rfl, rfl, trivial⟩ (okX9_term_b0 A x0 r A1 h)
/-! X9_terms -/
def fX9_terms_h82 : Nat → k_H → Int → Int → Int → Option (Int × k_H)
  | 0, _, _, _, _ => none
  | N + 1, A, v0, v1, v2 => if v2 < 12 then (if k_isO A v0 9 then (if k_isA A (k_rd A v0 35) 21 (k_wr (72 + v2)) then (if k_isA A (k_rd A v0 35) 21 (k_wr (k_wr (12 * v1) + v2)) then (k_lt (k_wt A (k_rd A v0 35) (k_wr (k_wr (12 * v1) + v2)) (k_rd A (k_rd A v0 35) (k_wr (72 + v2)))) fun A7 => (fX9_terms_h82 N) A7 v0 v1 (k_wr (v2 + 1))) else none) else none) else none) else (if k_isO A v0 9 then (if k_isA A (k_rd A v0 35) 21 83 then (some ((k_rd A (k_rd A v0 35) 83), A)) else none) else none)
def fX9_terms_h59 : Nat → k_H → Int → Int → Option (Int × k_H)
  | 0, _, _, _ => none
  | N + 1, A, v0, v1 => if k_isO A v0 9 then (if (k_rd A v0 36) = 0 then (fX9_terms_h82 k_FU A v0 v1 0) else (k_bd (fX9_term A v0) fun r3 A4 => if r3 = 0 then (if k_isO A4 v0 9 then (some (k_wr ((-1) - (k_rd A4 v0 40)), A4)) else none) else ((fX9_terms_h59 N) A4 v0 v1))) else none
def fX9_terms_h33 : Nat → k_H → Int → Int → Int → Option (Int × k_H)
  | 0, _, _, _, _ => none
  | N + 1, A, v0, v1, v2 => if v2 < 12 then (if k_isO A v0 9 then (if k_isA A (k_rd A v0 35) 21 (k_wr (72 + v2)) then (k_lt (k_wt A (k_rd A v0 35) (k_wr (72 + v2)) 0) fun A8 => (fX9_terms_h33 N) A8 v0 v1 (k_wr (v2 + 1))) else none) else none) else (if k_isO A v0 9 then (k_bd (fX9_next A v0) fun r2 A3 => fX9_terms_h59 k_FU A3 v0 v1) else none)
def fX9_terms_b0 (A : k_H) (v0 v1 : Int) : Option (Int × k_H) := if k_isO A v0 9 then (k_lt (k_wt A v0 0 0) fun A2 => k_bd (fX9_taken A2 v0) fun r4 A5 => if k_isO A5 v0 9 then (k_bd (fX9_isShow A5 v0 v1) fun r8 A9 => if r8 = 0 then (some ((-300), A9)) else (if k_isO A9 v0 9 then (k_lt (k_wt A9 v0 39 0) fun A14 => k_lt (k_wt A14 v0 41 0) fun A17 => fX9_terms_h33 k_FU A17 v0 v1 0) else none)) else none) else none
def fX9_terms (A : k_H) (x0 x1 : Int) : Option (Int × k_H) := fX9_terms_b0 A x0 x1
set_option maxRecDepth 100000 in
theorem okX9_terms_h82 : ∀ (N : Nat) (A : k_H) (v0 v1 v2 : Int) (r : Int) (A' : k_H), fX9_terms_h82 N A v0 v1 v2 = some (r, A') → k_AW 5 mX9_terms 82 [(1, v0), (0, v1), (0, v2)] [] A r A' := by
  intro N
  induction N with
  | zero => intro A v0 v1 v2 r A' h; exact absurd h (by simp [fX9_terms_h82])
  | succ N ih =>
    intro A v0 v1 v2 r A' h
    rw [fX9_terms_h82] at h
    refine k_iload_n (pc := 82) (x := v2) dX9_terms_82 rfl rfl ?_
    refine k_bipush (pc := 83) dX9_terms_83 ⟨by decide, by decide⟩ (by decide +kernel) ?_
    refine k_icmp_ge (pc := 85) (tgt := 114) dX9_terms_85 rfl (fun c1 => ?_) (fun c1 => ?_)
    · rw [if_neg (Int.not_lt.mpr c1)] at h
      refine k_aload_n (pc := 114) (x := v0) dX9_terms_114 rfl rfl ?_
      obtain ⟨hc2, h⟩ := k_pk h
      refine k_getf (pc := 115) (t := 1) (fi := 35) dX9_terms_115 flX9_99 rfl rfl hc2 ?_
      refine k_bipush (pc := 118) dX9_terms_118 ⟨by decide, by decide⟩ (by decide +kernel) ?_
      obtain ⟨hc3, h⟩ := k_pk h
      refine k_iaload (pc := 120) dX9_terms_120 hc3 ?_
      obtain ⟨rfl, rfl⟩ := k_pr h
      exact k_ret (pc := 121) dX9_terms_121 rfl rfl rfl
    · rw [if_pos (Int.not_le.mp c1)] at h
      refine k_aload_n (pc := 88) (x := v0) dX9_terms_88 rfl rfl ?_
      obtain ⟨hc4, h⟩ := k_pk h
      refine k_getf (pc := 89) (t := 1) (fi := 35) dX9_terms_89 flX9_99 rfl rfl hc4 ?_
      refine k_bipush (pc := 92) dX9_terms_92 ⟨by decide, by decide⟩ (by decide +kernel) ?_
      refine k_iload_n (pc := 94) (x := v1) dX9_terms_94 rfl rfl ?_
      refine k_imul (pc := 95) dX9_terms_95 ?_
      refine k_iload_n (pc := 96) (x := v2) dX9_terms_96 rfl rfl ?_
      refine k_iadd (pc := 97) dX9_terms_97 ?_
      refine k_aload_n (pc := 98) (x := v0) dX9_terms_98 rfl rfl ?_
      refine k_getf (pc := 99) (t := 1) (fi := 35) dX9_terms_99 flX9_99 rfl rfl hc4 ?_
      refine k_bipush (pc := 102) dX9_terms_102 ⟨by decide, by decide⟩ (by decide +kernel) ?_
      refine k_iload_n (pc := 104) (x := v2) dX9_terms_104 rfl rfl ?_
      refine k_iadd (pc := 105) dX9_terms_105 ?_
      obtain ⟨hc5, h⟩ := k_pk h
      refine k_iaload (pc := 106) dX9_terms_106 hc5 ?_
      obtain ⟨hc6, h⟩ := k_pk h
      refine k_iastore (pc := 107) dX9_terms_107 hc6 ?_
      obtain ⟨A7, eA8, h⟩ := k_pl h
      refine k_hq eA8 ?_
      refine k_iinc (pc := 108) (x := v2) dX9_terms_108 (Nat.le_of_ble_eq_true rfl) rfl rfl ?_
      show k_AW _ _ _ [(1, v0), (0, v1), (0, k_wr (v2 + 1))] _ _ _ _
      refine k_goto (pc := 111) (tgt := 82) dX9_terms_111 rfl ?_
      refine k_sub (ls' := [(1, v0), (0, v1), (0, k_wr (v2 + 1))]) (k_sbl_ok _ _ ⟨Or.inr rfl, Or.inr rfl, Or.inr rfl, trivial⟩) ?_
      exact ih _ _ _ _ _ _ h
set_option maxRecDepth 100000 in
theorem okX9_terms_h59 : ∀ (N : Nat) (A : k_H) (v0 v1 : Int) (r : Int) (A' : k_H), fX9_terms_h59 N A v0 v1 = some (r, A') → k_AW 5 mX9_terms 59 [(1, v0), (0, v1), (3, 0)] [] A r A' := by
  intro N
  induction N with
  | zero => intro A v0 v1 r A' h; exact absurd h (by simp [fX9_terms_h59])
  | succ N ih =>
    intro A v0 v1 r A' h
    rw [fX9_terms_h59] at h
    refine k_aload_n (pc := 59) (x := v0) dX9_terms_59 rfl rfl ?_
    obtain ⟨hc1, h⟩ := k_pk h
    refine k_getf (pc := 60) (t := 0) (fi := 36) dX9_terms_60 flX9_184 rfl rfl hc1 ?_
    refine k_if_eq (pc := 63) (tgt := 80) dX9_terms_63 rfl (fun c2 => ?_) (fun c2 => ?_)
    · rw [if_pos c2] at h
      refine k_iconst (pc := 80) dX9_terms_80 ⟨by decide, by decide⟩ ?_
      refine k_istore_n (pc := 81) dX9_terms_81 rfl (Nat.le_of_ble_eq_true rfl) rfl ?_
      show k_AW _ _ _ [(1, v0), (0, v1), (0, 0)] _ _ _ _
      refine k_sub (ls' := [(1, v0), (0, v1), (0, 0)]) (k_sbl_ok _ _ ⟨Or.inr rfl, Or.inr rfl, Or.inr rfl, trivial⟩) ?_
      exact okX9_terms_h82  _ _ _ _ _ _ _ h
    · rw [if_neg c2] at h
      refine k_aload_n (pc := 66) (x := v0) dX9_terms_66 rfl rfl ?_
      obtain ⟨r3, A4, hq5, h⟩ := k_pb h
      refine k_callV (pc := 67) (ci := 9) (a := v0) (as := []) (st := []) (st1 := [(0, r3)]) dX9_terms_67 cbX9_term (k_gt 1140 (by decide +kernel) (by decide +kernel)) cvX9_term.1 cvX9_term.2 rfl (by decide) hc1 (by omega) rfl (Nat.le_of_ble_eq_true rfl) (okX9_term hq5) rfl ?_
      refine k_if_ne (pc := 70) (tgt := 59) dX9_terms_70 rfl (fun c6 => ?_) (fun c6 => ?_)
      · rw [if_neg c6] at h
        refine k_sub (ls' := [(1, v0), (0, v1), (3, 0)]) (k_sbl_ok _ _ ⟨Or.inr rfl, Or.inr rfl, Or.inl rfl, trivial⟩) ?_
        exact ih _ _ _ _ _ h
      · rw [if_pos (Classical.not_not.mp c6)] at h
        refine k_iconst (pc := 73) dX9_terms_73 ⟨by decide, by decide⟩ ?_
        refine k_aload_n (pc := 74) (x := v0) dX9_terms_74 rfl rfl ?_
        obtain ⟨hc7, h⟩ := k_pk h
        refine k_getf (pc := 75) (t := 0) (fi := 40) dX9_terms_75 flX9_203 rfl rfl hc7 ?_
        refine k_isub (pc := 78) dX9_terms_78 ?_
        obtain ⟨rfl, rfl⟩ := k_pr h
        exact k_ret (pc := 79) dX9_terms_79 rfl rfl rfl
set_option maxRecDepth 100000 in
theorem okX9_terms_h33 : ∀ (N : Nat) (A : k_H) (v0 v1 v2 : Int) (r : Int) (A' : k_H), fX9_terms_h33 N A v0 v1 v2 = some (r, A') → k_AW 5 mX9_terms 33 [(1, v0), (0, v1), (0, v2)] [] A r A' := by
  intro N
  induction N with
  | zero => intro A v0 v1 v2 r A' h; exact absurd h (by simp [fX9_terms_h33])
  | succ N ih =>
    intro A v0 v1 v2 r A' h
    rw [fX9_terms_h33] at h
    refine k_iload_n (pc := 33) (x := v2) dX9_terms_33 rfl rfl ?_
    refine k_bipush (pc := 34) dX9_terms_34 ⟨by decide, by decide⟩ (by decide +kernel) ?_
    refine k_icmp_ge (pc := 36) (tgt := 55) dX9_terms_36 rfl (fun c1 => ?_) (fun c1 => ?_)
    · rw [if_neg (Int.not_lt.mpr c1)] at h
      refine k_aload_n (pc := 55) (x := v0) dX9_terms_55 rfl rfl ?_
      obtain ⟨hc5, h⟩ := k_pk h
      obtain ⟨r2, A3, hq4, h⟩ := k_pb h
      refine k_callV (pc := 56) (ci := 9) (a := v0) (as := []) (st := []) (st1 := []) dX9_terms_56 cbX9_next (k_gt 1126 (by decide +kernel) (by decide +kernel)) cvX9_next.1 cvX9_next.2 rfl (by decide) hc5 (by omega) rfl (Nat.le_of_ble_eq_true rfl) (okX9_next hq4) rfl ?_
      refine k_sub (ls' := [(1, v0), (0, v1), (3, 0)]) (k_sbl_ok _ _ ⟨Or.inr rfl, Or.inr rfl, Or.inl rfl, trivial⟩) ?_
      exact okX9_terms_h59  _ _ _ _ _ _ h
    · rw [if_pos (Int.not_le.mp c1)] at h
      refine k_aload_n (pc := 39) (x := v0) dX9_terms_39 rfl rfl ?_
      obtain ⟨hc6, h⟩ := k_pk h
      refine k_getf (pc := 40) (t := 1) (fi := 35) dX9_terms_40 flX9_99 rfl rfl hc6 ?_
      refine k_bipush (pc := 43) dX9_terms_43 ⟨by decide, by decide⟩ (by decide +kernel) ?_
      refine k_iload_n (pc := 45) (x := v2) dX9_terms_45 rfl rfl ?_
      refine k_iadd (pc := 46) dX9_terms_46 ?_
      refine k_iconst (pc := 47) dX9_terms_47 ⟨by decide, by decide⟩ ?_
      obtain ⟨hc7, h⟩ := k_pk h
      refine k_iastore (pc := 48) dX9_terms_48 hc7 ?_
      obtain ⟨A8, eA9, h⟩ := k_pl h
      refine k_hq eA9 ?_
      refine k_iinc (pc := 49) (x := v2) dX9_terms_49 (Nat.le_of_ble_eq_true rfl) rfl rfl ?_
      show k_AW _ _ _ [(1, v0), (0, v1), (0, k_wr (v2 + 1))] _ _ _ _
      refine k_goto (pc := 52) (tgt := 33) dX9_terms_52 rfl ?_
      refine k_sub (ls' := [(1, v0), (0, v1), (0, k_wr (v2 + 1))]) (k_sbl_ok _ _ ⟨Or.inr rfl, Or.inr rfl, Or.inr rfl, trivial⟩) ?_
      exact ih _ _ _ _ _ _ h
set_option maxRecDepth 100000 in
theorem okX9_terms_b0 (A : k_H) (v0 v1 : Int) (r : Int) (A' : k_H) (h : fX9_terms_b0 A v0 v1 = some (r, A')) : k_AW 5 mX9_terms 0 [(1, v0), (0, v1), (3, 0)] [] A r A' := by
  unfold fX9_terms_b0 at h
  refine k_aload_n (pc := 0) (x := v0) dX9_terms_0 rfl rfl ?_
  refine k_iconst (pc := 1) dX9_terms_1 ⟨by decide, by decide⟩ ?_
  obtain ⟨hc1, h⟩ := k_pk h
  refine k_putf (pc := 2) (t := 0) (fi := 0) dX9_terms_2 flX9_102 rfl rfl hc1 rfl ?_
  obtain ⟨A2, eA3, h⟩ := k_pl h
  refine k_hq eA3 ?_
  refine k_aload_n (pc := 5) (x := v0) dX9_terms_5 rfl rfl ?_
  have hf7 := k_oW eA3 hc1
  obtain ⟨r4, A5, hq6, h⟩ := k_pb h
  refine k_callV (pc := 6) (ci := 9) (a := v0) (as := []) (st := []) (st1 := []) dX9_terms_6 cbX9_taken (k_gt 1023 (by decide +kernel) (by decide +kernel)) cvX9_taken.1 cvX9_taken.2 rfl (by decide) hf7 (by omega) rfl (Nat.le_of_ble_eq_true rfl) (okX9_taken hq6) rfl ?_
  refine k_aload_n (pc := 9) (x := v0) dX9_terms_9 rfl rfl ?_
  refine k_iload_n (pc := 10) (x := v1) dX9_terms_10 rfl rfl ?_
  obtain ⟨hc11, h⟩ := k_pk h
  obtain ⟨r8, A9, hq10, h⟩ := k_pb h
  refine k_callV (pc := 11) (ci := 9) (a := v0) (as := [(0, v1)]) (st := []) (st1 := [(0, r8)]) dX9_terms_11 cbX9_isShow (k_gt 1054 (by decide +kernel) (by decide +kernel)) cvX9_isShow.1 cvX9_isShow.2 rfl (by decide) hc11 (by omega) rfl (Nat.le_of_ble_eq_true rfl) (okX9_isShow hq10) rfl ?_
  refine k_if_ne (pc := 14) (tgt := 21) dX9_terms_14 rfl (fun c12 => ?_) (fun c12 => ?_)
  · rw [if_neg c12] at h
    refine k_aload_n (pc := 21) (x := v0) dX9_terms_21 rfl rfl ?_
    refine k_iconst (pc := 22) dX9_terms_22 ⟨by decide, by decide⟩ ?_
    obtain ⟨hc13, h⟩ := k_pk h
    refine k_putf (pc := 23) (t := 0) (fi := 39) dX9_terms_23 flX9_200 rfl rfl hc13 rfl ?_
    obtain ⟨A14, eA15, h⟩ := k_pl h
    refine k_hq eA15 ?_
    refine k_aload_n (pc := 26) (x := v0) dX9_terms_26 rfl rfl ?_
    refine k_iconst (pc := 27) dX9_terms_27 ⟨by decide, by decide⟩ ?_
    have hf16 := k_oW eA15 hc13
    refine k_putf (pc := 28) (t := 0) (fi := 41) dX9_terms_28 flX9_209 rfl rfl hf16 rfl ?_
    obtain ⟨A17, eA18, h⟩ := k_pl h
    refine k_hq eA18 ?_
    refine k_iconst (pc := 31) dX9_terms_31 ⟨by decide, by decide⟩ ?_
    refine k_istore_n (pc := 32) dX9_terms_32 rfl (Nat.le_of_ble_eq_true rfl) rfl ?_
    show k_AW _ _ _ [(1, v0), (0, v1), (0, 0)] _ _ _ _
    refine k_sub (ls' := [(1, v0), (0, v1), (0, 0)]) (k_sbl_ok _ _ ⟨Or.inr rfl, Or.inr rfl, Or.inr rfl, trivial⟩) ?_
    exact okX9_terms_h33  _ _ _ _ _ _ _ h
  · rw [if_pos (Classical.not_not.mp c12)] at h
    refine k_sipush (pc := 17) dX9_terms_17 ⟨by decide, by decide⟩ (by decide +kernel) ?_
    obtain ⟨rfl, rfl⟩ := k_pr h
    exact k_ret (pc := 20) dX9_terms_20 rfl rfl rfl
theorem okX9_terms {A : k_H} {x0 x1 : Int} {r : Int} {A1 : k_H} (h : fX9_terms A x0 x1 = some (r, A1)) : k_AM 5 mX9_terms [(1, x0), (0, x1)] A r A1 :=
  k_AM_of2 (ls := [(1, x0), (0, x1), (3, 0)]) (Or.inl (by decide +kernel)) (by decide +kernel) (by decide) rfl (Nat.le_of_ble_eq_true rfl) ⟨Or.inr rfl, Or.inr rfl, rfl, trivial⟩ (okX9_terms_b0 A x0 x1 r A1 h)
