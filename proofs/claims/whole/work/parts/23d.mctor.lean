def cI_k_X11_init (I : fc_I) : fc_I := (fc_wI (fc_wI (fc_wI (fc_wI (fc_wI (fc_wI (fc_wI (fc_wI (fc_wI (fc_wI (fc_wI (fc_zI (fc_zI (fc_zI (fc_wI (fc_wI (fc_wI (fc_wI (fc_zI (fc_wI (fc_wI (fc_wI (fc_wI (fc_wI (fc_wI (fc_zI (fc_zI (fc_zI (fc_zI (fc_zI (fc_zI (fc_zI (fc_zI (fc_zI (fc_zI (fc_zI (fc_zI (fc_zI (fc_zI (fc_wI (fc_wI (fc_wI (fc_wI (fc_wI (fc_wI (fc_wI (fc_wI (fc_wI (fc_wI (fc_wI (fc_wI (fc_zI (fc_wI (fc_wI (fc_wI (fc_wI (fc_wI (fc_wI (fc_wI (fc_wI (fc_wI (fc_wI (fc_wI (fc_wI (fc_wI (fc_wI (fc_wI (fc_wI (fc_wI (fc_wI (fc_wI (fc_wI (fc_wI (fc_wI (fc_wI (fc_wI (fc_wI (fc_wI (fc_wI (fc_wI (fc_wI (fc_wI (fc_wI (fc_wI (fc_wI (fc_wI (fc_wI (fc_wI (fc_wI (fc_wI (fc_wI (fc_wI (fc_wI (fc_wI (fc_wI (fc_wI (fc_zI (fc_zI (fc_zI (fc_zI (fc_zI (fc_zI (fc_zI (fc_zI (fc_zI (fc_zI (fc_zI (fc_zI (fc_wI (fc_wI (fc_wI (fc_zI (fc_zI (fc_wI (fc_wI (fc_wI (fc_wI (fc_zI (fc_zI (fc_zI (fc_zI (fc_zI (fc_zI (fc_zI (fc_zI (fc_zI (fc_zI (fc_zI (fc_zI (fc_zI (fc_wI (fc_wI (fc_wI (fc_wI (fc_wI (fc_wI (fc_zI (fc_wI (fc_wI (fc_wI (fc_wI (fc_wI (fc_wI (fc_zI (fc_zI (fc_zI (fc_zI (fc_zI (fc_wI I 78 1 30) 79) 80) 81) 82) 83) 83 (cn 0) (-1)) 83 (cn 1) (-1)) 83 (cn 2) (-1)) 83 (cn 3) (-1)) 83 (cn 4) (-1)) 83 (cn 5) (-1)) 84) 84 (cn 0) (-1)) 84 (cn 1) (-1)) 84 (cn 2) (-1)) 84 (cn 3) (-1)) 84 (cn 4) (-1)) 84 (cn 5) (-1)) 85) 86) 87) 88) 89) 90) 91) 92) 93) 94) 95) 96) 97) 97 (cn 0) (-1)) 97 (cn 1) (-1)) 97 (cn 2) (-1)) 97 (cn 3) (-1)) 98) 99) 99 (cn 0) 1) 99 (cn 1) 0) 99 (cn 2) 0) 100) 101) 102) 103) 104) 105) 106) 107) 108) 109) 110) 111) 111 (cn 0) 115) 111 (cn 1) 105) 111 (cn 2) 110) 111 (cn 3) 99) 111 (cn 4) 101) 111 (cn 5) 104) 111 (cn 6) 101) 111 (cn 7) 105) 111 (cn 8) 103) 111 (cn 9) 104) 111 (cn 10) 116) 111 (cn 11) 119) 111 (cn 12) 105) 111 (cn 13) 110) 111 (cn 14) 100) 111 (cn 15) 108) 111 (cn 16) 101) 111 (cn 17) 102) 111 (cn 18) 116) 111 (cn 19) 99) 111 (cn 20) 114) 111 (cn 21) 111) 111 (cn 22) 119) 111 (cn 23) 100) 111 (cn 24) 122) 111 (cn 25) 111) 111 (cn 26) 110) 111 (cn 27) 101) 111 (cn 28) 104) 111 (cn 29) 101) 111 (cn 30) 101) 111 (cn 31) 100) 111 (cn 32) 115) 111 (cn 33) 116) 111 (cn 34) 111) 111 (cn 35) 112) 111 (cn 36) 111) 111 (cn 37) 114) 111 (cn 38) 97) 111 (cn 39) 110) 111 (cn 40) 100) 111 (cn 41) 110) 111 (cn 42) 111) 111 (cn 43) 116) 112) 112 (cn 0) 0) 112 (cn 1) 5) 112 (cn 2) 11) 112 (cn 3) 15) 112 (cn 4) 19) 112 (cn 5) 24) 112 (cn 6) 28) 112 (cn 7) 32) 112 (cn 8) 36) 112 (cn 9) 38) 112 (cn 10) 41) 112 (cn 11) 44) 113) 114) 115) 116) 117) 118) 119) 120) 121) 122) 123) 124) 125) 126) 126 (cn 0) (-1)) 126 (cn 1) (-1)) 126 (cn 2) (-1)) 126 (cn 3) (-1)) 126 (cn 4) (-1)) 126 (cn 5) (-1)) 127) 127 (cn 0) (-1)) 127 (cn 1) (-1)) 127 (cn 2) (-1)) 127 (cn 3) (-1)) 128) 129) 130) 109 (cn 0) (-21)) 109 (cn 1) 0) 109 (cn 2) (-11)) 109 (cn 3) 8) 109 (cn 4) 6) 110 (cn 0) 5) 109 (cn 160) (-61)) 109 (cn 161) 2) 109 (cn 162) 9) 110 (cn 1) 3) 78 40 1)
def cP_k_X11_init (P : fc_P) : fc_P := (fc_wP (fc_zP (fc_wP (fc_zP (fc_wP (fc_zP (fc_wP (fc_zP (fc_wP (fc_zP (fc_wP (fc_zP (fc_wP (fc_zP (fc_wP (fc_zP (fc_wP (fc_zP (fc_wP (fc_zP (fc_wP (fc_zP (fc_wP (fc_zP (fc_wP (fc_zP (fc_wP (fc_zP (fc_wP (fc_zP (fc_wP (fc_zP (fc_wP (fc_zP (fc_wP (fc_zP (fc_wP (fc_zP (fc_wP (fc_zP (fc_wP (fc_zP (fc_wP (fc_zP (fc_wP (fc_zP (fc_wP (fc_zP (fc_wP (fc_zP (fc_wP (fc_zP (fc_wP (fc_zP (fc_wP (fc_zP (fc_wP (fc_zP (fc_wP (fc_zP (fc_wP (fc_zP (fc_wP (fc_zP (fc_wP (fc_zP (fc_wP (fc_zP (fc_wP (fc_zP (fc_wP (fc_zP (fc_wP (fc_zP (fc_wP (fc_zP (fc_wP (fc_zP (fc_wP (fc_zP (fc_wP (fc_zP (fc_wP (fc_zP (fc_wP (fc_zP (fc_wP (fc_zP (fc_wP (fc_zP (fc_wP (fc_zP (fc_wP (fc_zP (fc_wP (fc_zP (fc_wP (fc_zP (fc_wP (fc_zP (fc_wP (fc_zP (fc_wP (fc_zP P 79) 78 3 79) 80) 78 4 80) 81) 78 5 81) 82) 78 6 82) 83) 78 7 83) 84) 78 8 84) 85) 78 10 85) 86) 78 11 86) 87) 78 12 87) 88) 78 14 88) 89) 78 15 89) 90) 78 16 90) 91) 78 17 91) 92) 78 18 92) 93) 78 20 93) 94) 78 21 94) 95) 78 22 95) 96) 78 23 96) 97) 78 24 97) 98) 78 25 98) 99) 78 27 99) 100) 78 30 100) 101) 78 31 101) 102) 78 32 102) 103) 78 33 103) 104) 78 34 104) 105) 78 35 105) 106) 78 36 106) 107) 78 37 107) 108) 78 38 108) 109) 78 42 109) 110) 78 43 110) 111) 78 48 111) 112) 78 49 112) 113) 78 50 113) 114) 78 54 114) 115) 78 57 115) 116) 78 58 116) 117) 78 59 117) 118) 78 60 118) 119) 78 61 119) 120) 78 62 120) 121) 78 63 121) 122) 78 64 122) 123) 78 65 123) 124) 78 66 124) 125) 78 69 125) 126) 78 70 126) 127) 78 71 127) 128) 78 72 128) 129) 78 73 129) 130) 78 74 130)
set_option maxHeartbeats 4000000 in
set_option maxRecDepth 100000 in
theorem k_X11_init {d : Nat} {I : fc_I} {P : fc_P} : fc_C X11_init (d + 1) 52 3508 [.ref 78] (fc_SH.take 79) I P (fun v sh' I' P' => v = none ∧ sh' = fc_SH.take 131 ∧ I' = cI_k_X11_init I ∧ P' = cP_k_X11_init P) := by
  refine fc_C.of (ls := [some (.ref 78)]) ⟨rfl, rfl⟩ (Nat.le_of_ble_eq_true rfl) rfl ?_
  refine ft_aload_n dX11_init_0 rfl ?_
  refine ft_objInit cf_X11_304 (Nat.le_of_ble_eq_true rfl) dX11_init_1 ?_
  refine ft_aload_n dX11_init_4 rfl ?_
  refine ft_bipush (v := 30) dX11_init_5 rfl ?_
  refine ft_putI fl_X11_136 rfl (fun q h => by cases h; rfl) rfl (by decide) dX11_init_7 ?_
  refine ft_aload_n dX11_init_10 rfl ?_
  refine ft_bipush (v := 6) dX11_init_11 rfl ?_
  refine ft_newI (nb := 51) (zb := 3502) (N := 6) ac_I (by decide) rfl (by decide) rfl (by decide) dX11_init_13 ?_
  show fc_T _ _ _ _ _ _ (.ref 79 :: _) (fc_SH.take 80) _ _ _
  refine ft_putRF fl_X11_29 rfl (fun q h => by cases h; exact ⟨rfl, rfl⟩) rfl rfl (by decide) (by decide) dX11_init_15 ?_
  refine ft_aload_n dX11_init_18 rfl ?_
  refine ft_bipush (v := 6) dX11_init_19 rfl ?_
  refine ft_newI (nb := 50) (zb := 3496) (N := 6) ac_I (by decide) rfl (by decide) rfl (by decide) dX11_init_21 ?_
  show fc_T _ _ _ _ _ _ (.ref 80 :: _) (fc_SH.take 81) _ _ _
  refine ft_putRF fl_X11_33 rfl (fun q h => by cases h; exact ⟨rfl, rfl⟩) rfl rfl (by decide) (by decide) dX11_init_23 ?_
  refine ft_aload_n dX11_init_26 rfl ?_
  refine ft_bipush (v := 6) dX11_init_27 rfl ?_
  refine ft_newI (nb := 49) (zb := 3490) (N := 6) ac_I (by decide) rfl (by decide) rfl (by decide) dX11_init_29 ?_
  show fc_T _ _ _ _ _ _ (.ref 81 :: _) (fc_SH.take 82) _ _ _
  refine ft_putRF fl_X11_93 rfl (fun q h => by cases h; exact ⟨rfl, rfl⟩) rfl rfl (by decide) (by decide) dX11_init_31 ?_
  refine ft_aload_n dX11_init_34 rfl ?_
  refine ft_bipush (v := 6) dX11_init_35 rfl ?_
  refine ft_newI (nb := 48) (zb := 3484) (N := 6) ac_I (by decide) rfl (by decide) rfl (by decide) dX11_init_37 ?_
  show fc_T _ _ _ _ _ _ (.ref 82 :: _) (fc_SH.take 83) _ _ _
  refine ft_putRF fl_X11_36 rfl (fun q h => by cases h; exact ⟨rfl, rfl⟩) rfl rfl (by decide) (by decide) dX11_init_39 ?_
  refine ft_aload_n dX11_init_42 rfl ?_
  refine ft_bipush (v := 6) dX11_init_43 rfl ?_
  refine ft_newI (nb := 47) (zb := 3478) (N := 6) ac_I (by decide) rfl (by decide) rfl (by decide) dX11_init_45 ?_
  show fc_T _ _ _ _ _ _ (.ref 83 :: _) (fc_SH.take 84) _ _ _
  refine ft_dup dX11_init_47 rfl ?_
  refine ft_iconst (v := 0) dX11_init_48 rfl ?_
  refine ft_iconst (v := (-1)) dX11_init_49 rfl ?_
  refine ft_iast (N := 6) rfl (vp_in_iff.mpr (by decide)) (y := (-1)) rfl dX11_init_50 ?_
  refine ft_dup dX11_init_51 rfl ?_
  refine ft_iconst (v := 1) dX11_init_52 rfl ?_
  refine ft_iconst (v := (-1)) dX11_init_53 rfl ?_
  refine ft_iast (N := 6) rfl (vp_in_iff.mpr (by decide)) (y := (-1)) rfl dX11_init_54 ?_
  refine ft_dup dX11_init_55 rfl ?_
  refine ft_iconst (v := 2) dX11_init_56 rfl ?_
  refine ft_iconst (v := (-1)) dX11_init_57 rfl ?_
  refine ft_iast (N := 6) rfl (vp_in_iff.mpr (by decide)) (y := (-1)) rfl dX11_init_58 ?_
  refine ft_dup dX11_init_59 rfl ?_
  refine ft_iconst (v := 3) dX11_init_60 rfl ?_
  refine ft_iconst (v := (-1)) dX11_init_61 rfl ?_
  refine ft_iast (N := 6) rfl (vp_in_iff.mpr (by decide)) (y := (-1)) rfl dX11_init_62 ?_
  refine ft_dup dX11_init_63 rfl ?_
  refine ft_iconst (v := 4) dX11_init_64 rfl ?_
  refine ft_iconst (v := (-1)) dX11_init_65 rfl ?_
  refine ft_iast (N := 6) rfl (vp_in_iff.mpr (by decide)) (y := (-1)) rfl dX11_init_66 ?_
  refine ft_dup dX11_init_67 rfl ?_
  refine ft_iconst (v := 5) dX11_init_68 rfl ?_
  refine ft_iconst (v := (-1)) dX11_init_69 rfl ?_
  refine ft_iast (N := 6) rfl (vp_in_iff.mpr (by decide)) (y := (-1)) rfl dX11_init_70 ?_
  refine ft_putRF fl_X11_96 rfl (fun q h => by cases h; exact ⟨rfl, rfl⟩) rfl rfl (by decide) (by decide) dX11_init_71 ?_
  refine ft_aload_n dX11_init_74 rfl ?_
  refine ft_bipush (v := 6) dX11_init_75 rfl ?_
  refine ft_newI (nb := 46) (zb := 3472) (N := 6) ac_I (by decide) rfl (by decide) rfl (by decide) dX11_init_77 ?_
  show fc_T _ _ _ _ _ _ (.ref 84 :: _) (fc_SH.take 85) _ _ _
  refine ft_dup dX11_init_79 rfl ?_
  refine ft_iconst (v := 0) dX11_init_80 rfl ?_
  refine ft_iconst (v := (-1)) dX11_init_81 rfl ?_
  refine ft_iast (N := 6) rfl (vp_in_iff.mpr (by decide)) (y := (-1)) rfl dX11_init_82 ?_
  refine ft_dup dX11_init_83 rfl ?_
  refine ft_iconst (v := 1) dX11_init_84 rfl ?_
  refine ft_iconst (v := (-1)) dX11_init_85 rfl ?_
  refine ft_iast (N := 6) rfl (vp_in_iff.mpr (by decide)) (y := (-1)) rfl dX11_init_86 ?_
  refine ft_dup dX11_init_87 rfl ?_
  refine ft_iconst (v := 2) dX11_init_88 rfl ?_
  refine ft_iconst (v := (-1)) dX11_init_89 rfl ?_
  refine ft_iast (N := 6) rfl (vp_in_iff.mpr (by decide)) (y := (-1)) rfl dX11_init_90 ?_
  refine ft_dup dX11_init_91 rfl ?_
  refine ft_iconst (v := 3) dX11_init_92 rfl ?_
  refine ft_iconst (v := (-1)) dX11_init_93 rfl ?_
  refine ft_iast (N := 6) rfl (vp_in_iff.mpr (by decide)) (y := (-1)) rfl dX11_init_94 ?_
  refine ft_dup dX11_init_95 rfl ?_
  refine ft_iconst (v := 4) dX11_init_96 rfl ?_
  refine ft_iconst (v := (-1)) dX11_init_97 rfl ?_
  refine ft_iast (N := 6) rfl (vp_in_iff.mpr (by decide)) (y := (-1)) rfl dX11_init_98 ?_
  refine ft_dup dX11_init_99 rfl ?_
  refine ft_iconst (v := 5) dX11_init_100 rfl ?_
  refine ft_iconst (v := (-1)) dX11_init_101 rfl ?_
  refine ft_iast (N := 6) rfl (vp_in_iff.mpr (by decide)) (y := (-1)) rfl dX11_init_102 ?_
  refine ft_putRF fl_X11_74 rfl (fun q h => by cases h; exact ⟨rfl, rfl⟩) rfl rfl (by decide) (by decide) dX11_init_103 ?_
  refine ft_aload_n dX11_init_106 rfl ?_
  refine ft_iconst (v := 3) dX11_init_107 rfl ?_
  refine ft_newI (nb := 45) (zb := 3469) (N := 3) ac_I (by decide) rfl (by decide) rfl (by decide) dX11_init_108 ?_
  show fc_T _ _ _ _ _ _ (.ref 85 :: _) (fc_SH.take 86) _ _ _
  refine ft_putRF fl_X11_39 rfl (fun q h => by cases h; exact ⟨rfl, rfl⟩) rfl rfl (by decide) (by decide) dX11_init_110 ?_
  refine ft_aload_n dX11_init_113 rfl ?_
  refine ft_iconst (v := 3) dX11_init_114 rfl ?_
  refine ft_newI (nb := 44) (zb := 3466) (N := 3) ac_I (by decide) rfl (by decide) rfl (by decide) dX11_init_115 ?_
  show fc_T _ _ _ _ _ _ (.ref 86 :: _) (fc_SH.take 87) _ _ _
  refine ft_putRF fl_X11_106 rfl (fun q h => by cases h; exact ⟨rfl, rfl⟩) rfl rfl (by decide) (by decide) dX11_init_117 ?_
  refine ft_aload_n dX11_init_120 rfl ?_
  refine ft_iconst (v := 3) dX11_init_121 rfl ?_
  refine ft_newI (nb := 43) (zb := 3463) (N := 3) ac_I (by decide) rfl (by decide) rfl (by decide) dX11_init_122 ?_
  show fc_T _ _ _ _ _ _ (.ref 87 :: _) (fc_SH.take 88) _ _ _
  refine ft_putRF fl_X11_109 rfl (fun q h => by cases h; exact ⟨rfl, rfl⟩) rfl rfl (by decide) (by decide) dX11_init_124 ?_
  refine ft_aload_n dX11_init_127 rfl ?_
  refine ft_bipush (v := 14) dX11_init_128 rfl ?_
  refine ft_newI (nb := 42) (zb := 3449) (N := 14) ac_I (by decide) rfl (by decide) rfl (by decide) dX11_init_130 ?_
  show fc_T _ _ _ _ _ _ (.ref 88 :: _) (fc_SH.take 89) _ _ _
  refine ft_putRF fl_X11_56 rfl (fun q h => by cases h; exact ⟨rfl, rfl⟩) rfl rfl (by decide) (by decide) dX11_init_132 ?_
  refine ft_aload_n dX11_init_135 rfl ?_
  refine ft_bipush (v := 14) dX11_init_136 rfl ?_
  refine ft_newI (nb := 41) (zb := 3435) (N := 14) ac_I (by decide) rfl (by decide) rfl (by decide) dX11_init_138 ?_
  show fc_T _ _ _ _ _ _ (.ref 89 :: _) (fc_SH.take 90) _ _ _
  refine ft_putRF fl_X11_59 rfl (fun q h => by cases h; exact ⟨rfl, rfl⟩) rfl rfl (by decide) (by decide) dX11_init_140 ?_
  refine ft_aload_n dX11_init_143 rfl ?_
  refine ft_bipush (v := 14) dX11_init_144 rfl ?_
  refine ft_newI (nb := 40) (zb := 3421) (N := 14) ac_I (by decide) rfl (by decide) rfl (by decide) dX11_init_146 ?_
  show fc_T _ _ _ _ _ _ (.ref 90 :: _) (fc_SH.take 91) _ _ _
  refine ft_putRF fl_X11_62 rfl (fun q h => by cases h; exact ⟨rfl, rfl⟩) rfl rfl (by decide) (by decide) dX11_init_148 ?_
  refine ft_aload_n dX11_init_151 rfl ?_
  refine ft_bipush (v := 14) dX11_init_152 rfl ?_
  refine ft_newI (nb := 39) (zb := 3407) (N := 14) ac_I (by decide) rfl (by decide) rfl (by decide) dX11_init_154 ?_
  show fc_T _ _ _ _ _ _ (.ref 91 :: _) (fc_SH.take 92) _ _ _
  refine ft_putRF fl_X11_65 rfl (fun q h => by cases h; exact ⟨rfl, rfl⟩) rfl rfl (by decide) (by decide) dX11_init_156 ?_
  refine ft_aload_n dX11_init_159 rfl ?_
  refine ft_bipush (v := 14) dX11_init_160 rfl ?_
  refine ft_newI (nb := 38) (zb := 3393) (N := 14) ac_I (by decide) rfl (by decide) rfl (by decide) dX11_init_162 ?_
  show fc_T _ _ _ _ _ _ (.ref 92 :: _) (fc_SH.take 93) _ _ _
  refine ft_putRF fl_X11_68 rfl (fun q h => by cases h; exact ⟨rfl, rfl⟩) rfl rfl (by decide) (by decide) dX11_init_164 ?_
  refine ft_aload_n dX11_init_167 rfl ?_
  refine ft_iconst (v := 4) dX11_init_168 rfl ?_
  refine ft_newI (nb := 37) (zb := 3389) (N := 4) ac_I (by decide) rfl (by decide) rfl (by decide) dX11_init_169 ?_
  show fc_T _ _ _ _ _ _ (.ref 93 :: _) (fc_SH.take 94) _ _ _
  refine ft_putRF fl_X11_79 rfl (fun q h => by cases h; exact ⟨rfl, rfl⟩) rfl rfl (by decide) (by decide) dX11_init_171 ?_
  refine ft_aload_n dX11_init_174 rfl ?_
  refine ft_iconst (v := 4) dX11_init_175 rfl ?_
  refine ft_newI (nb := 36) (zb := 3385) (N := 4) ac_I (by decide) rfl (by decide) rfl (by decide) dX11_init_176 ?_
  show fc_T _ _ _ _ _ _ (.ref 94 :: _) (fc_SH.take 95) _ _ _
  refine ft_putRF fl_X11_82 rfl (fun q h => by cases h; exact ⟨rfl, rfl⟩) rfl rfl (by decide) (by decide) dX11_init_178 ?_
  refine ft_aload_n dX11_init_181 rfl ?_
  refine ft_iconst (v := 4) dX11_init_182 rfl ?_
  refine ft_newI (nb := 35) (zb := 3381) (N := 4) ac_I (by decide) rfl (by decide) rfl (by decide) dX11_init_183 ?_
  show fc_T _ _ _ _ _ _ (.ref 95 :: _) (fc_SH.take 96) _ _ _
  refine ft_putRF fl_X11_85 rfl (fun q h => by cases h; exact ⟨rfl, rfl⟩) rfl rfl (by decide) (by decide) dX11_init_185 ?_
  refine ft_aload_n dX11_init_188 rfl ?_
  refine ft_iconst (v := 4) dX11_init_189 rfl ?_
  refine ft_newI (nb := 34) (zb := 3377) (N := 4) ac_I (by decide) rfl (by decide) rfl (by decide) dX11_init_190 ?_
  show fc_T _ _ _ _ _ _ (.ref 96 :: _) (fc_SH.take 97) _ _ _
  refine ft_putRF fl_X11_88 rfl (fun q h => by cases h; exact ⟨rfl, rfl⟩) rfl rfl (by decide) (by decide) dX11_init_192 ?_
  refine ft_aload_n dX11_init_195 rfl ?_
  refine ft_iconst (v := 4) dX11_init_196 rfl ?_
  refine ft_newI (nb := 33) (zb := 3373) (N := 4) ac_I (by decide) rfl (by decide) rfl (by decide) dX11_init_197 ?_
  show fc_T _ _ _ _ _ _ (.ref 97 :: _) (fc_SH.take 98) _ _ _
  refine ft_dup dX11_init_199 rfl ?_
  refine ft_iconst (v := 0) dX11_init_200 rfl ?_
  refine ft_iconst (v := (-1)) dX11_init_201 rfl ?_
  refine ft_iast (N := 4) rfl (vp_in_iff.mpr (by decide)) (y := (-1)) rfl dX11_init_202 ?_
  refine ft_dup dX11_init_203 rfl ?_
  refine ft_iconst (v := 1) dX11_init_204 rfl ?_
  refine ft_iconst (v := (-1)) dX11_init_205 rfl ?_
  refine ft_iast (N := 4) rfl (vp_in_iff.mpr (by decide)) (y := (-1)) rfl dX11_init_206 ?_
  refine ft_dup dX11_init_207 rfl ?_
  refine ft_iconst (v := 2) dX11_init_208 rfl ?_
  refine ft_iconst (v := (-1)) dX11_init_209 rfl ?_
  refine ft_iast (N := 4) rfl (vp_in_iff.mpr (by decide)) (y := (-1)) rfl dX11_init_210 ?_
  refine ft_dup dX11_init_211 rfl ?_
  refine ft_iconst (v := 3) dX11_init_212 rfl ?_
  refine ft_iconst (v := (-1)) dX11_init_213 rfl ?_
  refine ft_iast (N := 4) rfl (vp_in_iff.mpr (by decide)) (y := (-1)) rfl dX11_init_214 ?_
  refine ft_putRF fl_X11_125 rfl (fun q h => by cases h; exact ⟨rfl, rfl⟩) rfl rfl (by decide) (by decide) dX11_init_215 ?_
  refine ft_aload_n dX11_init_218 rfl ?_
  refine ft_iconst (v := 4) dX11_init_219 rfl ?_
  refine ft_newI (nb := 32) (zb := 3369) (N := 4) ac_I (by decide) rfl (by decide) rfl (by decide) dX11_init_220 ?_
  show fc_T _ _ _ _ _ _ (.ref 98 :: _) (fc_SH.take 99) _ _ _
  refine ft_putRF fl_X11_128 rfl (fun q h => by cases h; exact ⟨rfl, rfl⟩) rfl rfl (by decide) (by decide) dX11_init_222 ?_
  refine ft_aload_n dX11_init_225 rfl ?_
  refine ft_iconst (v := 3) dX11_init_226 rfl ?_
  refine ft_newI (nb := 31) (zb := 3366) (N := 3) ac_I (by decide) rfl (by decide) rfl (by decide) dX11_init_227 ?_
  show fc_T _ _ _ _ _ _ (.ref 99 :: _) (fc_SH.take 100) _ _ _
  refine ft_dup dX11_init_229 rfl ?_
  refine ft_iconst (v := 0) dX11_init_230 rfl ?_
  refine ft_iconst (v := 1) dX11_init_231 rfl ?_
  refine ft_iast (N := 3) rfl (vp_in_iff.mpr (by decide)) (y := 1) rfl dX11_init_232 ?_
  refine ft_dup dX11_init_233 rfl ?_
  refine ft_iconst (v := 1) dX11_init_234 rfl ?_
  refine ft_iconst (v := 0) dX11_init_235 rfl ?_
  refine ft_iast (N := 3) rfl (vp_in_iff.mpr (by decide)) (y := 0) rfl dX11_init_236 ?_
  refine ft_dup dX11_init_237 rfl ?_
  refine ft_iconst (v := 2) dX11_init_238 rfl ?_
  refine ft_iconst (v := 0) dX11_init_239 rfl ?_
  refine ft_iast (N := 3) rfl (vp_in_iff.mpr (by decide)) (y := 0) rfl dX11_init_240 ?_
  refine ft_putRF fl_X11_142 rfl (fun q h => by cases h; exact ⟨rfl, rfl⟩) rfl rfl (by decide) (by decide) dX11_init_241 ?_
  refine ft_aload_n dX11_init_244 rfl ?_
  refine ft_bipush (v := 40) dX11_init_245 rfl ?_
  refine ft_newI (nb := 30) (zb := 3326) (N := 40) ac_I (by decide) rfl (by decide) rfl (by decide) dX11_init_247 ?_
  show fc_T _ _ _ _ _ _ (.ref 100 :: _) (fc_SH.take 101) _ _ _
  refine ft_putRF fl_X11_150 rfl (fun q h => by cases h; exact ⟨rfl, rfl⟩) rfl rfl (by decide) (by decide) dX11_init_249 ?_
  refine ft_aload_n dX11_init_252 rfl ?_
  refine ft_bipush (v := 40) dX11_init_253 rfl ?_
  refine ft_newI (nb := 29) (zb := 3286) (N := 40) ac_I (by decide) rfl (by decide) rfl (by decide) dX11_init_255 ?_
  show fc_T _ _ _ _ _ _ (.ref 101 :: _) (fc_SH.take 102) _ _ _
  refine ft_putRF fl_X11_153 rfl (fun q h => by cases h; exact ⟨rfl, rfl⟩) rfl rfl (by decide) (by decide) dX11_init_257 ?_
  refine ft_aload_n dX11_init_260 rfl ?_
  refine ft_bipush (v := 40) dX11_init_261 rfl ?_
  refine ft_newI (nb := 28) (zb := 3246) (N := 40) ac_I (by decide) rfl (by decide) rfl (by decide) dX11_init_263 ?_
  show fc_T _ _ _ _ _ _ (.ref 102 :: _) (fc_SH.take 103) _ _ _
  refine ft_putRF fl_X11_156 rfl (fun q h => by cases h; exact ⟨rfl, rfl⟩) rfl rfl (by decide) (by decide) dX11_init_265 ?_
  refine ft_aload_n dX11_init_268 rfl ?_
  refine ft_bipush (v := 40) dX11_init_269 rfl ?_
  refine ft_newI (nb := 27) (zb := 3206) (N := 40) ac_I (by decide) rfl (by decide) rfl (by decide) dX11_init_271 ?_
  show fc_T _ _ _ _ _ _ (.ref 103 :: _) (fc_SH.take 104) _ _ _
  refine ft_putRF fl_X11_159 rfl (fun q h => by cases h; exact ⟨rfl, rfl⟩) rfl rfl (by decide) (by decide) dX11_init_273 ?_
  refine ft_aload_n dX11_init_276 rfl ?_
  refine ft_bipush (v := 40) dX11_init_277 rfl ?_
  refine ft_newI (nb := 26) (zb := 3166) (N := 40) ac_I (by decide) rfl (by decide) rfl (by decide) dX11_init_279 ?_
  show fc_T _ _ _ _ _ _ (.ref 104 :: _) (fc_SH.take 105) _ _ _
  refine ft_putRF fl_X11_162 rfl (fun q h => by cases h; exact ⟨rfl, rfl⟩) rfl rfl (by decide) (by decide) dX11_init_281 ?_
  refine ft_aload_n dX11_init_284 rfl ?_
  refine ft_bipush (v := 40) dX11_init_285 rfl ?_
  refine ft_newI (nb := 25) (zb := 3126) (N := 40) ac_I (by decide) rfl (by decide) rfl (by decide) dX11_init_287 ?_
  show fc_T _ _ _ _ _ _ (.ref 105 :: _) (fc_SH.take 106) _ _ _
  refine ft_putRF fl_X11_165 rfl (fun q h => by cases h; exact ⟨rfl, rfl⟩) rfl rfl (by decide) (by decide) dX11_init_289 ?_
  refine ft_aload_n dX11_init_292 rfl ?_
  refine ft_sipush (v := 183) dX11_init_293 rfl ?_
  refine ft_newI (nb := 24) (zb := 2943) (N := 183) ac_I (by decide) rfl (by decide) rfl (by decide) dX11_init_296 ?_
  show fc_T _ _ _ _ _ _ (.ref 106 :: _) (fc_SH.take 107) _ _ _
  refine ft_putRF fl_X11_131 rfl (fun q h => by cases h; exact ⟨rfl, rfl⟩) rfl rfl (by decide) (by decide) dX11_init_298 ?_
  refine ft_aload_n dX11_init_301 rfl ?_
  refine ft_sipush (v := 183) dX11_init_302 rfl ?_
  refine ft_newI (nb := 23) (zb := 2760) (N := 183) ac_I (by decide) rfl (by decide) rfl (by decide) dX11_init_305 ?_
  show fc_T _ _ _ _ _ _ (.ref 107 :: _) (fc_SH.take 108) _ _ _
  refine ft_putRF fl_X11_168 rfl (fun q h => by cases h; exact ⟨rfl, rfl⟩) rfl rfl (by decide) (by decide) dX11_init_307 ?_
  refine ft_aload_n dX11_init_310 rfl ?_
  refine ft_sipush (v := 160) dX11_init_311 rfl ?_
  refine ft_newB (nb := 22) (zb := 2600) (N := 160) ac_B (by decide) rfl (by decide) rfl (by decide) dX11_init_314 ?_
  show fc_T _ _ _ _ _ _ (.ref 108 :: _) (fc_SH.take 109) _ _ _
  refine ft_putRF fl_X11_180 rfl (fun q h => by cases h; exact ⟨rfl, rfl⟩) rfl rfl (by decide) (by decide) dX11_init_316 ?_
  refine ft_aload_n dX11_init_319 rfl ?_
  refine ft_sipush (v := 1920) dX11_init_320 rfl ?_
  refine ft_newI (nb := 21) (zb := 680) (N := 1920) ac_I (by decide) rfl (by decide) rfl (by decide) dX11_init_323 ?_
  show fc_T _ _ _ _ _ _ (.ref 109 :: _) (fc_SH.take 110) _ _ _
  refine ft_putRF fl_X11_216 rfl (fun q h => by cases h; exact ⟨rfl, rfl⟩) rfl rfl (by decide) (by decide) dX11_init_325 ?_
  refine ft_aload_n dX11_init_328 rfl ?_
  refine ft_bipush (v := 12) dX11_init_329 rfl ?_
  refine ft_newI (nb := 20) (zb := 668) (N := 12) ac_I (by decide) rfl (by decide) rfl (by decide) dX11_init_331 ?_
  show fc_T _ _ _ _ _ _ (.ref 110 :: _) (fc_SH.take 111) _ _ _
  refine ft_putRF fl_X11_264 rfl (fun q h => by cases h; exact ⟨rfl, rfl⟩) rfl rfl (by decide) (by decide) dX11_init_333 ?_
  refine ft_aload_n dX11_init_336 rfl ?_
  refine ft_bipush (v := 44) dX11_init_337 rfl ?_
  refine ft_newC (nb := 19) (zb := 624) (N := 44) ac_C (by decide) rfl (by decide) rfl (by decide) dX11_init_339 ?_
  show fc_T _ _ _ _ _ _ (.ref 111 :: _) (fc_SH.take 112) _ _ _
  refine ft_dup dX11_init_341 rfl ?_
  refine ft_iconst (v := 0) dX11_init_342 rfl ?_
  refine ft_bipush (v := 115) dX11_init_343 rfl ?_
  refine ft_cast (N := 44) rfl (vp_in_iff.mpr (by decide)) (y := 115) rfl dX11_init_345 ?_
  refine ft_dup dX11_init_346 rfl ?_
  refine ft_iconst (v := 1) dX11_init_347 rfl ?_
  refine ft_bipush (v := 105) dX11_init_348 rfl ?_
  refine ft_cast (N := 44) rfl (vp_in_iff.mpr (by decide)) (y := 105) rfl dX11_init_350 ?_
  refine ft_dup dX11_init_351 rfl ?_
  refine ft_iconst (v := 2) dX11_init_352 rfl ?_
  refine ft_bipush (v := 110) dX11_init_353 rfl ?_
  refine ft_cast (N := 44) rfl (vp_in_iff.mpr (by decide)) (y := 110) rfl dX11_init_355 ?_
  refine ft_dup dX11_init_356 rfl ?_
  refine ft_iconst (v := 3) dX11_init_357 rfl ?_
  refine ft_bipush (v := 99) dX11_init_358 rfl ?_
  refine ft_cast (N := 44) rfl (vp_in_iff.mpr (by decide)) (y := 99) rfl dX11_init_360 ?_
  refine ft_dup dX11_init_361 rfl ?_
  refine ft_iconst (v := 4) dX11_init_362 rfl ?_
  refine ft_bipush (v := 101) dX11_init_363 rfl ?_
  refine ft_cast (N := 44) rfl (vp_in_iff.mpr (by decide)) (y := 101) rfl dX11_init_365 ?_
  refine ft_dup dX11_init_366 rfl ?_
  refine ft_iconst (v := 5) dX11_init_367 rfl ?_
  refine ft_bipush (v := 104) dX11_init_368 rfl ?_
  refine ft_cast (N := 44) rfl (vp_in_iff.mpr (by decide)) (y := 104) rfl dX11_init_370 ?_
  refine ft_dup dX11_init_371 rfl ?_
  refine ft_bipush (v := 6) dX11_init_372 rfl ?_
  refine ft_bipush (v := 101) dX11_init_374 rfl ?_
  refine ft_cast (N := 44) rfl (vp_in_iff.mpr (by decide)) (y := 101) rfl dX11_init_376 ?_
  refine ft_dup dX11_init_377 rfl ?_
  refine ft_bipush (v := 7) dX11_init_378 rfl ?_
  refine ft_bipush (v := 105) dX11_init_380 rfl ?_
  refine ft_cast (N := 44) rfl (vp_in_iff.mpr (by decide)) (y := 105) rfl dX11_init_382 ?_
  refine ft_dup dX11_init_383 rfl ?_
  refine ft_bipush (v := 8) dX11_init_384 rfl ?_
  refine ft_bipush (v := 103) dX11_init_386 rfl ?_
  refine ft_cast (N := 44) rfl (vp_in_iff.mpr (by decide)) (y := 103) rfl dX11_init_388 ?_
  refine ft_dup dX11_init_389 rfl ?_
  refine ft_bipush (v := 9) dX11_init_390 rfl ?_
  refine ft_bipush (v := 104) dX11_init_392 rfl ?_
  refine ft_cast (N := 44) rfl (vp_in_iff.mpr (by decide)) (y := 104) rfl dX11_init_394 ?_
  refine ft_dup dX11_init_395 rfl ?_
  refine ft_bipush (v := 10) dX11_init_396 rfl ?_
  refine ft_bipush (v := 116) dX11_init_398 rfl ?_
  refine ft_cast (N := 44) rfl (vp_in_iff.mpr (by decide)) (y := 116) rfl dX11_init_400 ?_
  refine ft_dup dX11_init_401 rfl ?_
  refine ft_bipush (v := 11) dX11_init_402 rfl ?_
  refine ft_bipush (v := 119) dX11_init_404 rfl ?_
  refine ft_cast (N := 44) rfl (vp_in_iff.mpr (by decide)) (y := 119) rfl dX11_init_406 ?_
  refine ft_dup dX11_init_407 rfl ?_
  refine ft_bipush (v := 12) dX11_init_408 rfl ?_
  refine ft_bipush (v := 105) dX11_init_410 rfl ?_
  refine ft_cast (N := 44) rfl (vp_in_iff.mpr (by decide)) (y := 105) rfl dX11_init_412 ?_
  refine ft_dup dX11_init_413 rfl ?_
  refine ft_bipush (v := 13) dX11_init_414 rfl ?_
  refine ft_bipush (v := 110) dX11_init_416 rfl ?_
  refine ft_cast (N := 44) rfl (vp_in_iff.mpr (by decide)) (y := 110) rfl dX11_init_418 ?_
  refine ft_dup dX11_init_419 rfl ?_
  refine ft_bipush (v := 14) dX11_init_420 rfl ?_
  refine ft_bipush (v := 100) dX11_init_422 rfl ?_
  refine ft_cast (N := 44) rfl (vp_in_iff.mpr (by decide)) (y := 100) rfl dX11_init_424 ?_
  refine ft_dup dX11_init_425 rfl ?_
  refine ft_bipush (v := 15) dX11_init_426 rfl ?_
  refine ft_bipush (v := 108) dX11_init_428 rfl ?_
  refine ft_cast (N := 44) rfl (vp_in_iff.mpr (by decide)) (y := 108) rfl dX11_init_430 ?_
  refine ft_dup dX11_init_431 rfl ?_
  refine ft_bipush (v := 16) dX11_init_432 rfl ?_
  refine ft_bipush (v := 101) dX11_init_434 rfl ?_
  refine ft_cast (N := 44) rfl (vp_in_iff.mpr (by decide)) (y := 101) rfl dX11_init_436 ?_
  refine ft_dup dX11_init_437 rfl ?_
  refine ft_bipush (v := 17) dX11_init_438 rfl ?_
  refine ft_bipush (v := 102) dX11_init_440 rfl ?_
  refine ft_cast (N := 44) rfl (vp_in_iff.mpr (by decide)) (y := 102) rfl dX11_init_442 ?_
  refine ft_dup dX11_init_443 rfl ?_
  refine ft_bipush (v := 18) dX11_init_444 rfl ?_
  refine ft_bipush (v := 116) dX11_init_446 rfl ?_
  refine ft_cast (N := 44) rfl (vp_in_iff.mpr (by decide)) (y := 116) rfl dX11_init_448 ?_
  refine ft_dup dX11_init_449 rfl ?_
  refine ft_bipush (v := 19) dX11_init_450 rfl ?_
  refine ft_bipush (v := 99) dX11_init_452 rfl ?_
  refine ft_cast (N := 44) rfl (vp_in_iff.mpr (by decide)) (y := 99) rfl dX11_init_454 ?_
  refine ft_dup dX11_init_455 rfl ?_
  refine ft_bipush (v := 20) dX11_init_456 rfl ?_
  refine ft_bipush (v := 114) dX11_init_458 rfl ?_
  refine ft_cast (N := 44) rfl (vp_in_iff.mpr (by decide)) (y := 114) rfl dX11_init_460 ?_
  refine ft_dup dX11_init_461 rfl ?_
  refine ft_bipush (v := 21) dX11_init_462 rfl ?_
  refine ft_bipush (v := 111) dX11_init_464 rfl ?_
  refine ft_cast (N := 44) rfl (vp_in_iff.mpr (by decide)) (y := 111) rfl dX11_init_466 ?_
  refine ft_dup dX11_init_467 rfl ?_
  refine ft_bipush (v := 22) dX11_init_468 rfl ?_
  refine ft_bipush (v := 119) dX11_init_470 rfl ?_
  refine ft_cast (N := 44) rfl (vp_in_iff.mpr (by decide)) (y := 119) rfl dX11_init_472 ?_
  refine ft_dup dX11_init_473 rfl ?_
  refine ft_bipush (v := 23) dX11_init_474 rfl ?_
  refine ft_bipush (v := 100) dX11_init_476 rfl ?_
  refine ft_cast (N := 44) rfl (vp_in_iff.mpr (by decide)) (y := 100) rfl dX11_init_478 ?_
  refine ft_dup dX11_init_479 rfl ?_
  refine ft_bipush (v := 24) dX11_init_480 rfl ?_
  refine ft_bipush (v := 122) dX11_init_482 rfl ?_
  refine ft_cast (N := 44) rfl (vp_in_iff.mpr (by decide)) (y := 122) rfl dX11_init_484 ?_
  refine ft_dup dX11_init_485 rfl ?_
  refine ft_bipush (v := 25) dX11_init_486 rfl ?_
  refine ft_bipush (v := 111) dX11_init_488 rfl ?_
  refine ft_cast (N := 44) rfl (vp_in_iff.mpr (by decide)) (y := 111) rfl dX11_init_490 ?_
  refine ft_dup dX11_init_491 rfl ?_
  refine ft_bipush (v := 26) dX11_init_492 rfl ?_
  refine ft_bipush (v := 110) dX11_init_494 rfl ?_
  refine ft_cast (N := 44) rfl (vp_in_iff.mpr (by decide)) (y := 110) rfl dX11_init_496 ?_
  refine ft_dup dX11_init_497 rfl ?_
  refine ft_bipush (v := 27) dX11_init_498 rfl ?_
  refine ft_bipush (v := 101) dX11_init_500 rfl ?_
  refine ft_cast (N := 44) rfl (vp_in_iff.mpr (by decide)) (y := 101) rfl dX11_init_502 ?_
  refine ft_dup dX11_init_503 rfl ?_
  refine ft_bipush (v := 28) dX11_init_504 rfl ?_
  refine ft_bipush (v := 104) dX11_init_506 rfl ?_
  refine ft_cast (N := 44) rfl (vp_in_iff.mpr (by decide)) (y := 104) rfl dX11_init_508 ?_
  refine ft_dup dX11_init_509 rfl ?_
  refine ft_bipush (v := 29) dX11_init_510 rfl ?_
  refine ft_bipush (v := 101) dX11_init_512 rfl ?_
  refine ft_cast (N := 44) rfl (vp_in_iff.mpr (by decide)) (y := 101) rfl dX11_init_514 ?_
  refine ft_dup dX11_init_515 rfl ?_
  refine ft_bipush (v := 30) dX11_init_516 rfl ?_
  refine ft_bipush (v := 101) dX11_init_518 rfl ?_
  refine ft_cast (N := 44) rfl (vp_in_iff.mpr (by decide)) (y := 101) rfl dX11_init_520 ?_
  refine ft_dup dX11_init_521 rfl ?_
  refine ft_bipush (v := 31) dX11_init_522 rfl ?_
  refine ft_bipush (v := 100) dX11_init_524 rfl ?_
  refine ft_cast (N := 44) rfl (vp_in_iff.mpr (by decide)) (y := 100) rfl dX11_init_526 ?_
  refine ft_dup dX11_init_527 rfl ?_
  refine ft_bipush (v := 32) dX11_init_528 rfl ?_
  refine ft_bipush (v := 115) dX11_init_530 rfl ?_
  refine ft_cast (N := 44) rfl (vp_in_iff.mpr (by decide)) (y := 115) rfl dX11_init_532 ?_
  refine ft_dup dX11_init_533 rfl ?_
  refine ft_bipush (v := 33) dX11_init_534 rfl ?_
  refine ft_bipush (v := 116) dX11_init_536 rfl ?_
  refine ft_cast (N := 44) rfl (vp_in_iff.mpr (by decide)) (y := 116) rfl dX11_init_538 ?_
  refine ft_dup dX11_init_539 rfl ?_
  refine ft_bipush (v := 34) dX11_init_540 rfl ?_
  refine ft_bipush (v := 111) dX11_init_542 rfl ?_
  refine ft_cast (N := 44) rfl (vp_in_iff.mpr (by decide)) (y := 111) rfl dX11_init_544 ?_
  refine ft_dup dX11_init_545 rfl ?_
  refine ft_bipush (v := 35) dX11_init_546 rfl ?_
  refine ft_bipush (v := 112) dX11_init_548 rfl ?_
  refine ft_cast (N := 44) rfl (vp_in_iff.mpr (by decide)) (y := 112) rfl dX11_init_550 ?_
  refine ft_dup dX11_init_551 rfl ?_
  refine ft_bipush (v := 36) dX11_init_552 rfl ?_
  refine ft_bipush (v := 111) dX11_init_554 rfl ?_
  refine ft_cast (N := 44) rfl (vp_in_iff.mpr (by decide)) (y := 111) rfl dX11_init_556 ?_
  refine ft_dup dX11_init_557 rfl ?_
  refine ft_bipush (v := 37) dX11_init_558 rfl ?_
  refine ft_bipush (v := 114) dX11_init_560 rfl ?_
  refine ft_cast (N := 44) rfl (vp_in_iff.mpr (by decide)) (y := 114) rfl dX11_init_562 ?_
  refine ft_dup dX11_init_563 rfl ?_
  refine ft_bipush (v := 38) dX11_init_564 rfl ?_
  refine ft_bipush (v := 97) dX11_init_566 rfl ?_
  refine ft_cast (N := 44) rfl (vp_in_iff.mpr (by decide)) (y := 97) rfl dX11_init_568 ?_
  refine ft_dup dX11_init_569 rfl ?_
  refine ft_bipush (v := 39) dX11_init_570 rfl ?_
  refine ft_bipush (v := 110) dX11_init_572 rfl ?_
  refine ft_cast (N := 44) rfl (vp_in_iff.mpr (by decide)) (y := 110) rfl dX11_init_574 ?_
  refine ft_dup dX11_init_575 rfl ?_
  refine ft_bipush (v := 40) dX11_init_576 rfl ?_
  refine ft_bipush (v := 100) dX11_init_578 rfl ?_
  refine ft_cast (N := 44) rfl (vp_in_iff.mpr (by decide)) (y := 100) rfl dX11_init_580 ?_
  refine ft_dup dX11_init_581 rfl ?_
  refine ft_bipush (v := 41) dX11_init_582 rfl ?_
  refine ft_bipush (v := 110) dX11_init_584 rfl ?_
  refine ft_cast (N := 44) rfl (vp_in_iff.mpr (by decide)) (y := 110) rfl dX11_init_586 ?_
  refine ft_dup dX11_init_587 rfl ?_
  refine ft_bipush (v := 42) dX11_init_588 rfl ?_
  refine ft_bipush (v := 111) dX11_init_590 rfl ?_
  refine ft_cast (N := 44) rfl (vp_in_iff.mpr (by decide)) (y := 111) rfl dX11_init_592 ?_
  refine ft_dup dX11_init_593 rfl ?_
  refine ft_bipush (v := 43) dX11_init_594 rfl ?_
  refine ft_bipush (v := 116) dX11_init_596 rfl ?_
  refine ft_cast (N := 44) rfl (vp_in_iff.mpr (by decide)) (y := 116) rfl dX11_init_598 ?_
  refine ft_putRF fl_X11_199 rfl (fun q h => by cases h; exact ⟨rfl, rfl⟩) rfl rfl (by decide) (by decide) dX11_init_599 ?_
  refine ft_aload_n dX11_init_602 rfl ?_
  refine ft_bipush (v := 12) dX11_init_603 rfl ?_
  refine ft_newI (nb := 18) (zb := 612) (N := 12) ac_I (by decide) rfl (by decide) rfl (by decide) dX11_init_605 ?_
  show fc_T _ _ _ _ _ _ (.ref 112 :: _) (fc_SH.take 113) _ _ _
  refine ft_dup dX11_init_607 rfl ?_
  refine ft_iconst (v := 0) dX11_init_608 rfl ?_
  refine ft_iconst (v := 0) dX11_init_609 rfl ?_
  refine ft_iast (N := 12) rfl (vp_in_iff.mpr (by decide)) (y := 0) rfl dX11_init_610 ?_
  refine ft_dup dX11_init_611 rfl ?_
  refine ft_iconst (v := 1) dX11_init_612 rfl ?_
  refine ft_iconst (v := 5) dX11_init_613 rfl ?_
  refine ft_iast (N := 12) rfl (vp_in_iff.mpr (by decide)) (y := 5) rfl dX11_init_614 ?_
  refine ft_dup dX11_init_615 rfl ?_
  refine ft_iconst (v := 2) dX11_init_616 rfl ?_
  refine ft_bipush (v := 11) dX11_init_617 rfl ?_
  refine ft_iast (N := 12) rfl (vp_in_iff.mpr (by decide)) (y := 11) rfl dX11_init_619 ?_
  refine ft_dup dX11_init_620 rfl ?_
  refine ft_iconst (v := 3) dX11_init_621 rfl ?_
  refine ft_bipush (v := 15) dX11_init_622 rfl ?_
  refine ft_iast (N := 12) rfl (vp_in_iff.mpr (by decide)) (y := 15) rfl dX11_init_624 ?_
  refine ft_dup dX11_init_625 rfl ?_
  refine ft_iconst (v := 4) dX11_init_626 rfl ?_
  refine ft_bipush (v := 19) dX11_init_627 rfl ?_
  refine ft_iast (N := 12) rfl (vp_in_iff.mpr (by decide)) (y := 19) rfl dX11_init_629 ?_
  refine ft_dup dX11_init_630 rfl ?_
  refine ft_iconst (v := 5) dX11_init_631 rfl ?_
  refine ft_bipush (v := 24) dX11_init_632 rfl ?_
  refine ft_iast (N := 12) rfl (vp_in_iff.mpr (by decide)) (y := 24) rfl dX11_init_634 ?_
  refine ft_dup dX11_init_635 rfl ?_
  refine ft_bipush (v := 6) dX11_init_636 rfl ?_
  refine ft_bipush (v := 28) dX11_init_638 rfl ?_
  refine ft_iast (N := 12) rfl (vp_in_iff.mpr (by decide)) (y := 28) rfl dX11_init_640 ?_
  refine ft_dup dX11_init_641 rfl ?_
  refine ft_bipush (v := 7) dX11_init_642 rfl ?_
  refine ft_bipush (v := 32) dX11_init_644 rfl ?_
  refine ft_iast (N := 12) rfl (vp_in_iff.mpr (by decide)) (y := 32) rfl dX11_init_646 ?_
  refine ft_dup dX11_init_647 rfl ?_
  refine ft_bipush (v := 8) dX11_init_648 rfl ?_
  refine ft_bipush (v := 36) dX11_init_650 rfl ?_
  refine ft_iast (N := 12) rfl (vp_in_iff.mpr (by decide)) (y := 36) rfl dX11_init_652 ?_
  refine ft_dup dX11_init_653 rfl ?_
  refine ft_bipush (v := 9) dX11_init_654 rfl ?_
  refine ft_bipush (v := 38) dX11_init_656 rfl ?_
  refine ft_iast (N := 12) rfl (vp_in_iff.mpr (by decide)) (y := 38) rfl dX11_init_658 ?_
  refine ft_dup dX11_init_659 rfl ?_
  refine ft_bipush (v := 10) dX11_init_660 rfl ?_
  refine ft_bipush (v := 41) dX11_init_662 rfl ?_
  refine ft_iast (N := 12) rfl (vp_in_iff.mpr (by decide)) (y := 41) rfl dX11_init_664 ?_
  refine ft_dup dX11_init_665 rfl ?_
  refine ft_bipush (v := 11) dX11_init_666 rfl ?_
  refine ft_bipush (v := 44) dX11_init_668 rfl ?_
  refine ft_iast (N := 12) rfl (vp_in_iff.mpr (by decide)) (y := 44) rfl dX11_init_670 ?_
  refine ft_putRF fl_X11_193 rfl (fun q h => by cases h; exact ⟨rfl, rfl⟩) rfl rfl (by decide) (by decide) dX11_init_671 ?_
  refine ft_aload_n dX11_init_674 rfl ?_
  refine ft_sipush (v := 170) dX11_init_675 rfl ?_
  refine ft_newI (nb := 17) (zb := 442) (N := 170) ac_I (by decide) rfl (by decide) rfl (by decide) dX11_init_678 ?_
  show fc_T _ _ _ _ _ _ (.ref 113 :: _) (fc_SH.take 114) _ _ _
  refine ft_putRF fl_X11_228 rfl (fun q h => by cases h; exact ⟨rfl, rfl⟩) rfl rfl (by decide) (by decide) dX11_init_680 ?_
  refine ft_aload_n dX11_init_683 rfl ?_
  refine ft_bipush (v := 8) dX11_init_684 rfl ?_
  refine ft_newZ (nb := 16) (zb := 434) (N := 8) ac_Z (by decide) rfl (by decide) rfl (by decide) dX11_init_686 ?_
  show fc_T _ _ _ _ _ _ (.ref 114 :: _) (fc_SH.take 115) _ _ _
  refine ft_putRF fl_X11_247 rfl (fun q h => by cases h; exact ⟨rfl, rfl⟩) rfl rfl (by decide) (by decide) dX11_init_688 ?_
  refine ft_aload_n dX11_init_691 rfl ?_
  refine ft_sipush (v := 170) dX11_init_692 rfl ?_
  refine ft_newI (nb := 15) (zb := 264) (N := 170) ac_I (by decide) rfl (by decide) rfl (by decide) dX11_init_695 ?_
  show fc_T _ _ _ _ _ _ (.ref 115 :: _) (fc_SH.take 116) _ _ _
  refine ft_putRF fl_X11_289 rfl (fun q h => by cases h; exact ⟨rfl, rfl⟩) rfl rfl (by decide) (by decide) dX11_init_697 ?_
  refine ft_aload_n dX11_init_700 rfl ?_
  refine ft_bipush (v := 6) dX11_init_701 rfl ?_
  refine ft_newI (nb := 14) (zb := 258) (N := 6) ac_I (by decide) rfl (by decide) rfl (by decide) dX11_init_703 ?_
  show fc_T _ _ _ _ _ _ (.ref 116 :: _) (fc_SH.take 117) _ _ _
  refine ft_putRF fl_X11_309 rfl (fun q h => by cases h; exact ⟨rfl, rfl⟩) rfl rfl (by decide) (by decide) dX11_init_705 ?_
  refine ft_aload_n dX11_init_708 rfl ?_
  refine ft_bipush (v := 6) dX11_init_709 rfl ?_
  refine ft_newI (nb := 13) (zb := 252) (N := 6) ac_I (by decide) rfl (by decide) rfl (by decide) dX11_init_711 ?_
  show fc_T _ _ _ _ _ _ (.ref 117 :: _) (fc_SH.take 118) _ _ _
  refine ft_putRF fl_X11_312 rfl (fun q h => by cases h; exact ⟨rfl, rfl⟩) rfl rfl (by decide) (by decide) dX11_init_713 ?_
  refine ft_aload_n dX11_init_716 rfl ?_
  refine ft_bipush (v := 6) dX11_init_717 rfl ?_
  refine ft_newI (nb := 12) (zb := 246) (N := 6) ac_I (by decide) rfl (by decide) rfl (by decide) dX11_init_719 ?_
  show fc_T _ _ _ _ _ _ (.ref 118 :: _) (fc_SH.take 119) _ _ _
  refine ft_putRF fl_X11_315 rfl (fun q h => by cases h; exact ⟨rfl, rfl⟩) rfl rfl (by decide) (by decide) dX11_init_721 ?_
  refine ft_aload_n dX11_init_724 rfl ?_
  refine ft_bipush (v := 6) dX11_init_725 rfl ?_
  refine ft_newI (nb := 11) (zb := 240) (N := 6) ac_I (by decide) rfl (by decide) rfl (by decide) dX11_init_727 ?_
  show fc_T _ _ _ _ _ _ (.ref 119 :: _) (fc_SH.take 120) _ _ _
  refine ft_putRF fl_X11_318 rfl (fun q h => by cases h; exact ⟨rfl, rfl⟩) rfl rfl (by decide) (by decide) dX11_init_729 ?_
  refine ft_aload_n dX11_init_732 rfl ?_
  refine ft_bipush (v := 6) dX11_init_733 rfl ?_
  refine ft_newI (nb := 10) (zb := 234) (N := 6) ac_I (by decide) rfl (by decide) rfl (by decide) dX11_init_735 ?_
  show fc_T _ _ _ _ _ _ (.ref 120 :: _) (fc_SH.take 121) _ _ _
  refine ft_putRF fl_X11_321 rfl (fun q h => by cases h; exact ⟨rfl, rfl⟩) rfl rfl (by decide) (by decide) dX11_init_737 ?_
  refine ft_aload_n dX11_init_740 rfl ?_
  refine ft_iconst (v := 3) dX11_init_741 rfl ?_
  refine ft_newI (nb := 9) (zb := 231) (N := 3) ac_I (by decide) rfl (by decide) rfl (by decide) dX11_init_742 ?_
  show fc_T _ _ _ _ _ _ (.ref 121 :: _) (fc_SH.take 122) _ _ _
  refine ft_putRF fl_X11_324 rfl (fun q h => by cases h; exact ⟨rfl, rfl⟩) rfl rfl (by decide) (by decide) dX11_init_744 ?_
  refine ft_aload_n dX11_init_747 rfl ?_
  refine ft_iconst (v := 3) dX11_init_748 rfl ?_
  refine ft_newI (nb := 8) (zb := 228) (N := 3) ac_I (by decide) rfl (by decide) rfl (by decide) dX11_init_749 ?_
  show fc_T _ _ _ _ _ _ (.ref 122 :: _) (fc_SH.take 123) _ _ _
  refine ft_putRF fl_X11_327 rfl (fun q h => by cases h; exact ⟨rfl, rfl⟩) rfl rfl (by decide) (by decide) dX11_init_751 ?_
  refine ft_aload_n dX11_init_754 rfl ?_
  refine ft_iconst (v := 4) dX11_init_755 rfl ?_
  refine ft_newI (nb := 7) (zb := 224) (N := 4) ac_I (by decide) rfl (by decide) rfl (by decide) dX11_init_756 ?_
  show fc_T _ _ _ _ _ _ (.ref 123 :: _) (fc_SH.take 124) _ _ _
  refine ft_putRF fl_X11_330 rfl (fun q h => by cases h; exact ⟨rfl, rfl⟩) rfl rfl (by decide) (by decide) dX11_init_758 ?_
  refine ft_aload_n dX11_init_761 rfl ?_
  refine ft_iconst (v := 4) dX11_init_762 rfl ?_
  refine ft_newI (nb := 6) (zb := 220) (N := 4) ac_I (by decide) rfl (by decide) rfl (by decide) dX11_init_763 ?_
  show fc_T _ _ _ _ _ _ (.ref 124 :: _) (fc_SH.take 125) _ _ _
  refine ft_putRF fl_X11_333 rfl (fun q h => by cases h; exact ⟨rfl, rfl⟩) rfl rfl (by decide) (by decide) dX11_init_765 ?_
  refine ft_aload_n dX11_init_768 rfl ?_
  refine ft_bipush (v := 6) dX11_init_769 rfl ?_
  refine ft_newI (nb := 5) (zb := 214) (N := 6) ac_I (by decide) rfl (by decide) rfl (by decide) dX11_init_771 ?_
  show fc_T _ _ _ _ _ _ (.ref 125 :: _) (fc_SH.take 126) _ _ _
  refine ft_putRF fl_X11_336 rfl (fun q h => by cases h; exact ⟨rfl, rfl⟩) rfl rfl (by decide) (by decide) dX11_init_773 ?_
  refine ft_aload_n dX11_init_776 rfl ?_
  refine ft_bipush (v := 6) dX11_init_777 rfl ?_
  refine ft_newI (nb := 4) (zb := 208) (N := 6) ac_I (by decide) rfl (by decide) rfl (by decide) dX11_init_779 ?_
  show fc_T _ _ _ _ _ _ (.ref 126 :: _) (fc_SH.take 127) _ _ _
  refine ft_dup dX11_init_781 rfl ?_
  refine ft_iconst (v := 0) dX11_init_782 rfl ?_
  refine ft_iconst (v := (-1)) dX11_init_783 rfl ?_
  refine ft_iast (N := 6) rfl (vp_in_iff.mpr (by decide)) (y := (-1)) rfl dX11_init_784 ?_
  refine ft_dup dX11_init_785 rfl ?_
  refine ft_iconst (v := 1) dX11_init_786 rfl ?_
  refine ft_iconst (v := (-1)) dX11_init_787 rfl ?_
  refine ft_iast (N := 6) rfl (vp_in_iff.mpr (by decide)) (y := (-1)) rfl dX11_init_788 ?_
  refine ft_dup dX11_init_789 rfl ?_
  refine ft_iconst (v := 2) dX11_init_790 rfl ?_
  refine ft_iconst (v := (-1)) dX11_init_791 rfl ?_
  refine ft_iast (N := 6) rfl (vp_in_iff.mpr (by decide)) (y := (-1)) rfl dX11_init_792 ?_
  refine ft_dup dX11_init_793 rfl ?_
  refine ft_iconst (v := 3) dX11_init_794 rfl ?_
  refine ft_iconst (v := (-1)) dX11_init_795 rfl ?_
  refine ft_iast (N := 6) rfl (vp_in_iff.mpr (by decide)) (y := (-1)) rfl dX11_init_796 ?_
  refine ft_dup dX11_init_797 rfl ?_
  refine ft_iconst (v := 4) dX11_init_798 rfl ?_
  refine ft_iconst (v := (-1)) dX11_init_799 rfl ?_
  refine ft_iast (N := 6) rfl (vp_in_iff.mpr (by decide)) (y := (-1)) rfl dX11_init_800 ?_
  refine ft_dup dX11_init_801 rfl ?_
  refine ft_iconst (v := 5) dX11_init_802 rfl ?_
  refine ft_iconst (v := (-1)) dX11_init_803 rfl ?_
  refine ft_iast (N := 6) rfl (vp_in_iff.mpr (by decide)) (y := (-1)) rfl dX11_init_804 ?_
  refine ft_putRF fl_X11_339 rfl (fun q h => by cases h; exact ⟨rfl, rfl⟩) rfl rfl (by decide) (by decide) dX11_init_805 ?_
  refine ft_aload_n dX11_init_808 rfl ?_
  refine ft_iconst (v := 4) dX11_init_809 rfl ?_
  refine ft_newI (nb := 3) (zb := 204) (N := 4) ac_I (by decide) rfl (by decide) rfl (by decide) dX11_init_810 ?_
  show fc_T _ _ _ _ _ _ (.ref 127 :: _) (fc_SH.take 128) _ _ _
  refine ft_dup dX11_init_812 rfl ?_
  refine ft_iconst (v := 0) dX11_init_813 rfl ?_
  refine ft_iconst (v := (-1)) dX11_init_814 rfl ?_
  refine ft_iast (N := 4) rfl (vp_in_iff.mpr (by decide)) (y := (-1)) rfl dX11_init_815 ?_
  refine ft_dup dX11_init_816 rfl ?_
  refine ft_iconst (v := 1) dX11_init_817 rfl ?_
  refine ft_iconst (v := (-1)) dX11_init_818 rfl ?_
  refine ft_iast (N := 4) rfl (vp_in_iff.mpr (by decide)) (y := (-1)) rfl dX11_init_819 ?_
  refine ft_dup dX11_init_820 rfl ?_
  refine ft_iconst (v := 2) dX11_init_821 rfl ?_
  refine ft_iconst (v := (-1)) dX11_init_822 rfl ?_
  refine ft_iast (N := 4) rfl (vp_in_iff.mpr (by decide)) (y := (-1)) rfl dX11_init_823 ?_
  refine ft_dup dX11_init_824 rfl ?_
  refine ft_iconst (v := 3) dX11_init_825 rfl ?_
  refine ft_iconst (v := (-1)) dX11_init_826 rfl ?_
  refine ft_iast (N := 4) rfl (vp_in_iff.mpr (by decide)) (y := (-1)) rfl dX11_init_827 ?_
  refine ft_putRF fl_X11_342 rfl (fun q h => by cases h; exact ⟨rfl, rfl⟩) rfl rfl (by decide) (by decide) dX11_init_828 ?_
  refine ft_aload_n dX11_init_831 rfl ?_
  refine ft_iconst (v := 4) dX11_init_832 rfl ?_
  refine ft_newI (nb := 2) (zb := 200) (N := 4) ac_I (by decide) rfl (by decide) rfl (by decide) dX11_init_833 ?_
  show fc_T _ _ _ _ _ _ (.ref 128 :: _) (fc_SH.take 129) _ _ _
  refine ft_putRF fl_X11_345 rfl (fun q h => by cases h; exact ⟨rfl, rfl⟩) rfl rfl (by decide) (by decide) dX11_init_835 ?_
  refine ft_aload_n dX11_init_838 rfl ?_
  refine ft_sipush (v := 160) dX11_init_839 rfl ?_
  refine ft_newI (nb := 1) (zb := 40) (N := 160) ac_I (by decide) rfl (by decide) rfl (by decide) dX11_init_842 ?_
  show fc_T _ _ _ _ _ _ (.ref 129 :: _) (fc_SH.take 130) _ _ _
  refine ft_putRF fl_X11_348 rfl (fun q h => by cases h; exact ⟨rfl, rfl⟩) rfl rfl (by decide) (by decide) dX11_init_844 ?_
  refine ft_aload_n dX11_init_847 rfl ?_
  refine ft_bipush (v := 40) dX11_init_848 rfl ?_
  refine ft_newI (nb := 0) (zb := 0) (N := 40) ac_I (by decide) rfl (by decide) rfl (by decide) dX11_init_850 ?_
  show fc_T _ _ _ _ _ _ (.ref 130 :: _) (fc_SH.take 131) _ _ _
  refine ft_putRF fl_X11_351 rfl (fun q h => by cases h; exact ⟨rfl, rfl⟩) rfl rfl (by decide) (by decide) dX11_init_852 ?_
  refine ft_aload_n dX11_init_855 rfl ?_
  refine ft_getR (v := 109) fl_X11_216 rfl rfl (by decide) rfl dX11_init_856 ?_
  refine ft_iconst (v := 0) dX11_init_859 rfl ?_
  refine ft_bipush (v := (-21)) dX11_init_860 rfl ?_
  refine ft_iast (N := 1920) rfl (vp_in_iff.mpr (by decide)) (y := (-21)) rfl dX11_init_862 ?_
  refine ft_aload_n dX11_init_863 rfl ?_
  refine ft_getR (v := 109) fl_X11_216 rfl rfl (by decide) rfl dX11_init_864 ?_
  refine ft_iconst (v := 1) dX11_init_867 rfl ?_
  refine ft_iconst (v := 0) dX11_init_868 rfl ?_
  refine ft_iast (N := 1920) rfl (vp_in_iff.mpr (by decide)) (y := 0) rfl dX11_init_869 ?_
  refine ft_aload_n dX11_init_870 rfl ?_
  refine ft_getR (v := 109) fl_X11_216 rfl rfl (by decide) rfl dX11_init_871 ?_
  refine ft_iconst (v := 2) dX11_init_874 rfl ?_
  refine ft_bipush (v := (-11)) dX11_init_875 rfl ?_
  refine ft_iast (N := 1920) rfl (vp_in_iff.mpr (by decide)) (y := (-11)) rfl dX11_init_877 ?_
  refine ft_aload_n dX11_init_878 rfl ?_
  refine ft_getR (v := 109) fl_X11_216 rfl rfl (by decide) rfl dX11_init_879 ?_
  refine ft_iconst (v := 3) dX11_init_882 rfl ?_
  refine ft_bipush (v := 8) dX11_init_883 rfl ?_
  refine ft_iast (N := 1920) rfl (vp_in_iff.mpr (by decide)) (y := 8) rfl dX11_init_885 ?_
  refine ft_aload_n dX11_init_886 rfl ?_
  refine ft_getR (v := 109) fl_X11_216 rfl rfl (by decide) rfl dX11_init_887 ?_
  refine ft_iconst (v := 4) dX11_init_890 rfl ?_
  refine ft_bipush (v := 6) dX11_init_891 rfl ?_
  refine ft_iast (N := 1920) rfl (vp_in_iff.mpr (by decide)) (y := 6) rfl dX11_init_893 ?_
  refine ft_aload_n dX11_init_894 rfl ?_
  refine ft_getR (v := 110) fl_X11_264 rfl rfl (by decide) rfl dX11_init_895 ?_
  refine ft_iconst (v := 0) dX11_init_898 rfl ?_
  refine ft_iconst (v := 5) dX11_init_899 rfl ?_
  refine ft_iast (N := 12) rfl (vp_in_iff.mpr (by decide)) (y := 5) rfl dX11_init_900 ?_
  refine ft_aload_n dX11_init_901 rfl ?_
  refine ft_getR (v := 109) fl_X11_216 rfl rfl (by decide) rfl dX11_init_902 ?_
  refine ft_sipush (v := 160) dX11_init_905 rfl ?_
  refine ft_bipush (v := (-61)) dX11_init_908 rfl ?_
  refine ft_iast (N := 1920) rfl (vp_in_iff.mpr (by decide)) (y := (-61)) rfl dX11_init_910 ?_
  refine ft_aload_n dX11_init_911 rfl ?_
  refine ft_getR (v := 109) fl_X11_216 rfl rfl (by decide) rfl dX11_init_912 ?_
  refine ft_sipush (v := 161) dX11_init_915 rfl ?_
  refine ft_iconst (v := 2) dX11_init_918 rfl ?_
  refine ft_iast (N := 1920) rfl (vp_in_iff.mpr (by decide)) (y := 2) rfl dX11_init_919 ?_
  refine ft_aload_n dX11_init_920 rfl ?_
  refine ft_getR (v := 109) fl_X11_216 rfl rfl (by decide) rfl dX11_init_921 ?_
  refine ft_sipush (v := 162) dX11_init_924 rfl ?_
  refine ft_bipush (v := 9) dX11_init_927 rfl ?_
  refine ft_iast (N := 1920) rfl (vp_in_iff.mpr (by decide)) (y := 9) rfl dX11_init_929 ?_
  refine ft_aload_n dX11_init_930 rfl ?_
  refine ft_getR (v := 110) fl_X11_264 rfl rfl (by decide) rfl dX11_init_931 ?_
  refine ft_iconst (v := 1) dX11_init_934 rfl ?_
  refine ft_iconst (v := 3) dX11_init_935 rfl ?_
  refine ft_iast (N := 12) rfl (vp_in_iff.mpr (by decide)) (y := 3) rfl dX11_init_936 ?_
  refine ft_aload_n dX11_init_937 rfl ?_
  refine ft_iconst (v := 1) dX11_init_938 rfl ?_
  refine ft_putI fl_X11_280 rfl (fun q h => by cases h; rfl) rfl (by decide) dX11_init_939 ?_
  exact ft_vret dX11_init_942 rfl ⟨rfl, rfl, rfl, rfl⟩
