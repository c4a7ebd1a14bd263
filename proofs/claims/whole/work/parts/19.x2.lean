def f_X10_isOutside (x0 : Int32) (x1 : Int32) (x2 : Int32) : Option Int32 :=
if x0.toInt < x1.toInt then (
some 1)
else (
if x2.toInt < x0.toInt then (
some 1)
else (
some 0))
set_option maxHeartbeats 4000000 in
set_option maxRecDepth 100000 in
theorem t_X10_isOutside {d : Nat} {sh : fc_Sh} {P : fc_P} {r : Int32} {I : fc_I} {x0 : Int32} {x1 : Int32} {x2 : Int32} (hf : f_X10_isOutside  x0 x1 x2 = some r) : fc_Cp X10_isOutside d [.int x0, .int x1, .int x2] sh I P r := by
  unfold f_X10_isOutside at hf
  refine fc_Cp.of (ls := [some (.int x0), some (.int x1), some (.int x2)]) ⟨rfl, rfl⟩ (Nat.le_of_ble_eq_true rfl) rfl ?_
  refine ft_iload_n dX10_isOutside_0 rfl ?_
  refine ft_iload_n dX10_isOutside_1 rfl ?_
  refine fk_icmp_lt (tgt := 10) dX10_isOutside_2 (by decide) hf (fun hf => ?_) (fun hf => ?_)
  · refine ft_iconst (v := 1) dX10_isOutside_10 rfl ?_
    refine ft_goto (tgt := 15) dX10_isOutside_11 (by decide) ?_
    exact fk_retp hf dX10_isOutside_15 rfl rfl
  · refine ft_iload_n dX10_isOutside_5 rfl ?_
    refine ft_iload_n dX10_isOutside_6 rfl ?_
    refine fk_icmp_le (tgt := 14) dX10_isOutside_7 (by decide) hf (fun hf => ?_) (fun hf => ?_)
    · refine ft_iconst (v := 0) dX10_isOutside_14 rfl ?_
      exact fk_retp hf dX10_isOutside_15 rfl rfl
    · refine ft_iconst (v := 1) dX10_isOutside_10 rfl ?_
      refine ft_goto (tgt := 15) dX10_isOutside_11 (by decide) ?_
      exact fk_retp hf dX10_isOutside_15 rfl rfl
def f_X3_plan_13_B (x1 : Int32) (x2 : Int32) (k13 : Int32 → Int32 → fc_I → Option (Int32 × fc_I)) (x3 : Int32) (x4 : Int32) (I : fc_I) : Option (Int32 × fc_I) :=
if x4.toInt < x2.toInt then (
fq_l (((x1 >>> (((2 : Int32) * ((x2 - 1) - x4)) &&& 31)) &&& 3)) fun y31 =>
if y31.toInt < (3 : Int32).toInt then (
if (I 15 11).toInt < ((I 45 9) + (y31 * 4)).toInt then (
some ((-1), I))
else (
fq_g 4 x4 (
fq_g 6 (I 69 (cn x4)) (fq_l (fc_wI I 67 (cn (I 69 (cn x4))) (y31 * 4)) fun I78 =>
fq_l (x3 + 1) fun y79 =>
fq_l (x4 + 1) fun y82 =>
k13 y79 y82 I78))))
else (
fq_l (x4 + 1) fun y82 =>
k13 x3 y82 I))
else (
some (x3, I))
def f_X3_plan_13 (x1 : Int32) (x2 : Int32) (n : Nat) : Int32 → Int32 → fc_I → Option (Int32 × fc_I) := lpm2 (f_X3_plan_13_B x1 x2 ) n
def f_X3_plan (I : fc_I) (x1 : Int32) (x2 : Int32) : Option (Int32 × fc_I) :=
fq_u (f_J7_fill_53178 67 6 I (-1)) fun I5 =>
f_X3_plan_13 x1 x2 4000 0 0 I5
set_option maxHeartbeats 4000000 in
set_option maxRecDepth 100000 in
theorem t_X3_plan_13 {d : Nat} {v : Nat} {r : Int32} {J : fc_I} {x1 : Int32} {x2 : Int32} : ∀ (n : Nat) (x3 : Int32) (x4 : Int32) (I : fc_I) , f_X3_plan_13 x1 x2 n x3 x4 I = some (r, J) → fc_T X3_plan (d + 1) 0 0 13 [some (.ref 57), some (.int x1), some (.int x2), some (.int x3), some (.int x4), none] [] fc_SH I (fc_PT v) (fc_Qi fc_SH (fun r' I' P' => r' = r ∧ I' = J ∧ P' = (fc_PT v))) := by
  unfold f_X3_plan_13
  refine lpm2_T (fun k13 hk13 x3 x4 I hf => ?_)
  unfold f_X3_plan_13_B at hf
  refine ft_iload dX3_plan_13 rfl ?_
  refine ft_iload_n dX3_plan_15 rfl ?_
  refine fk_icmp_ge (tgt := 88) dX3_plan_16 (by decide) hf (fun hf => ?_) (fun hf => ?_)
  · refine ft_iload_n dX3_plan_88 rfl ?_
    exact fk_reti hf dX3_plan_89 rfl rfl
  · refine ft_iload_n dX3_plan_19 rfl ?_
    refine ft_iconst (v := 2) dX3_plan_20 rfl ?_
    refine ft_iload_n dX3_plan_21 rfl ?_
    refine ft_iconst (v := 1) dX3_plan_22 rfl ?_
    refine ft_isub dX3_plan_23 ?_
    refine ft_iload dX3_plan_24 rfl ?_
    refine ft_isub dX3_plan_26 ?_
    refine ft_imul dX3_plan_27 ?_
    refine ft_ishr dX3_plan_28 ?_
    refine ft_iconst (v := 3) dX3_plan_29 rfl ?_
    refine ft_iand dX3_plan_30 ?_
    refine ft_istore dX3_plan_31 (by decide) ?_
    refine ft_iload dX3_plan_33 rfl ?_
    refine ft_iconst (v := 3) dX3_plan_35 rfl ?_
    refine fk_icmp_ge (tgt := 82) dX3_plan_36 (by decide) hf (fun hf => ?_) (fun hf => ?_)
    · refine fk_iinc (c := 1) dX3_plan_82 rfl (by decide) rfl ?_
      refine ft_goto (tgt := 13) dX3_plan_85 (by decide) ?_
      exact ft_forget (by simp [fc_le, fc_st1, fc_st2, fc_kill]) (hk13 _ _ _ hf)
    · refine ft_aload_n dX3_plan_39 rfl ?_
      refine ft_getR fl_X3_36 rfl (sh_57) (by decide) pt_57_2 dX3_plan_40 ?_
      refine ft_getI fl_X3_62 rfl (sh_45) (by decide) dX3_plan_43 ?_
      refine ft_iload dX3_plan_46 rfl ?_
      refine ft_iconst (v := 4) dX3_plan_48 rfl ?_
      refine ft_imul dX3_plan_49 ?_
      refine ft_iadd dX3_plan_50 ?_
      refine ft_aload_n dX3_plan_51 rfl ?_
      refine ft_getR fl_X3_32 rfl (sh_57) (by decide) pt_57_1 dX3_plan_52 ?_
      refine ft_getI fl_X3_75 rfl (sh_15) (by decide) dX3_plan_55 ?_
      refine fk_icmp_le (tgt := 63) dX3_plan_58 (by decide) hf (fun hf => ?_) (fun hf => ?_)
      · refine ft_aload_n dX3_plan_63 rfl ?_
        refine ft_getR fl_X3_18 rfl (sh_57) (by decide) pt_57_5 dX3_plan_64 ?_
        refine ft_aload_n dX3_plan_67 rfl ?_
        refine ft_getR fl_X3_25 rfl (sh_57) (by decide) pt_57_7 dX3_plan_68 ?_
        refine ft_iload dX3_plan_71 rfl ?_
        refine fk_iald (sh_69) hf dX3_plan_73 (fun hf => ?_)
        refine ft_iload dX3_plan_74 rfl ?_
        refine ft_iconst (v := 4) dX3_plan_76 rfl ?_
        refine ft_imul dX3_plan_77 ?_
        refine fk_iast (sh_67) hf dX3_plan_78 (fun hf => ?_)
        refine fk_iinc (c := 1) dX3_plan_79 rfl (by decide) rfl ?_
        refine fk_iinc (c := 1) dX3_plan_82 rfl (by decide) rfl ?_
        refine ft_goto (tgt := 13) dX3_plan_85 (by decide) ?_
        exact ft_forget (by simp [fc_le, fc_st1, fc_st2, fc_kill]) (hk13 _ _ _ hf)
      · refine ft_iconst (v := (-1)) dX3_plan_61 rfl ?_
        exact fk_reti hf dX3_plan_62 rfl rfl
set_option maxHeartbeats 4000000 in
set_option maxRecDepth 100000 in
theorem t_X3_plan {d : Nat} {v : Nat} {r : Int32} {J : fc_I} {I : fc_I} {x1 : Int32} {x2 : Int32} (hf : f_X3_plan I x1 x2 = some (r, J)) : fc_Ci X3_plan (d + 1) [.ref 57, .int x1, .int x2] fc_SH I (fc_PT v) (fun r' I' P' => r' = r ∧ I' = J ∧ P' = (fc_PT v)) := by
  unfold f_X3_plan at hf
  refine fc_Ci.of (ls := [some (.ref 57), some (.int x1), some (.int x2), none, none, none]) ⟨rfl, rfl⟩ (Nat.le_of_ble_eq_true rfl) rfl ?_
  refine ft_aload_n dX3_plan_0 rfl ?_
  refine ft_getR fl_X3_18 rfl (sh_57) (by decide) pt_57_5 dX3_plan_1 ?_
  refine ft_iconst (v := (-1)) dX3_plan_4 rfl ?_
  obtain ⟨I5, hc5, hf⟩ := fq_us hf
  refine ft_S2v cf_X3_43 (t_J7_fill_53178 (sh_67) (by decide) hc5) (Nat.le_of_ble_eq_true rfl) dX3_plan_5 (fun J P' q => ?_)
  obtain ⟨rfl, rfl⟩ := q
  refine ft_iconst (v := 0) dX3_plan_8 rfl ?_
  refine ft_istore_n dX3_plan_9 (by decide) ?_
  refine ft_iconst (v := 0) dX3_plan_10 rfl ?_
  refine ft_istore dX3_plan_11 (by decide) ?_
  exact ft_forget (by simp [fc_le, fc_st1, fc_st2, fc_kill]) (t_X3_plan_13   _ _ _ _ hf)
def f_X2_become (I : fc_I) : Option fc_I :=
fq_c 6 6 0 0 6 (fq_l (fc_cpI I 46 59 (cn (0 : Int32)) (cn (0 : Int32)) (cn (6 : Int32))) fun I12 =>
fq_c 6 6 0 0 6 (fq_l (fc_cpI I12 47 60 (cn (0 : Int32)) (cn (0 : Int32)) (cn (6 : Int32))) fun I27 =>
fq_c 6 6 0 0 6 (fq_l (fc_cpI I27 48 61 (cn (0 : Int32)) (cn (0 : Int32)) (cn (6 : Int32))) fun I42 =>
fq_c 6 6 0 0 6 (fq_l (fc_cpI I42 49 62 (cn (0 : Int32)) (cn (0 : Int32)) (cn (6 : Int32))) fun I57 =>
fq_c 3 3 0 0 3 (fq_l (fc_cpI I57 50 63 (cn (0 : Int32)) (cn (0 : Int32)) (cn (3 : Int32))) fun I71 =>
fq_c 3 3 0 0 3 (fq_l (fc_cpI I71 51 64 (cn (0 : Int32)) (cn (0 : Int32)) (cn (3 : Int32))) fun I85 =>
fq_c 4 4 0 0 4 (fq_l (fc_cpI I85 52 65 (cn (0 : Int32)) (cn (0 : Int32)) (cn (4 : Int32))) fun I99 =>
fq_c 4 4 0 0 4 (fq_l (fc_cpI I99 53 66 (cn (0 : Int32)) (cn (0 : Int32)) (cn (4 : Int32))) fun I113 =>
fq_l (fc_wI I113 58 8 (I113 45 8)) fun I121 =>
fq_l (fc_wI I121 58 9 (I121 45 9)) fun I129 =>
some I129))))))))
set_option maxHeartbeats 4000000 in
set_option maxRecDepth 100000 in
theorem t_X2_become {d : Nat} {v : Nat} {J : fc_I} {I : fc_I} (hf : f_X2_become I = some J) : fc_Cv X2_become (d + 1) [.ref 58, .ref 45] fc_SH I (fc_PT v) (fun I' P' => I' = J ∧ P' = (fc_PT v)) := by
  unfold f_X2_become at hf
  refine fc_Cv.of (ls := [some (.ref 58), some (.ref 45)]) ⟨rfl, rfl⟩ (Nat.le_of_ble_eq_true rfl) rfl ?_
  refine ft_aload_n dX2_become_0 rfl ?_
  refine ft_getR fl_X2_9 rfl (sh_45) (by decide) pt_45_0 dX2_become_1 ?_
  refine ft_iconst (v := 0) dX2_become_4 rfl ?_
  refine ft_aload_n dX2_become_5 rfl ?_
  refine ft_getR fl_X2_9 rfl (sh_58) (by decide) pt_58_0 dX2_become_6 ?_
  refine ft_iconst (v := 0) dX2_become_9 rfl ?_
  refine ft_bipush (v := 6) dX2_become_10 rfl ?_
  refine fk_copy cf_X2_42 (sh_46) (sh_59) hf (Nat.le_of_ble_eq_true rfl) dX2_become_12 (fun hf => ?_)
  refine ft_aload_n dX2_become_15 rfl ?_
  refine ft_getR fl_X2_15 rfl (sh_45) (by decide) pt_45_1 dX2_become_16 ?_
  refine ft_iconst (v := 0) dX2_become_19 rfl ?_
  refine ft_aload_n dX2_become_20 rfl ?_
  refine ft_getR fl_X2_15 rfl (sh_58) (by decide) pt_58_1 dX2_become_21 ?_
  refine ft_iconst (v := 0) dX2_become_24 rfl ?_
  refine ft_bipush (v := 6) dX2_become_25 rfl ?_
  refine fk_copy cf_X2_42 (sh_47) (sh_60) hf (Nat.le_of_ble_eq_true rfl) dX2_become_27 (fun hf => ?_)
  refine ft_aload_n dX2_become_30 rfl ?_
  refine ft_getR fl_X2_18 rfl (sh_45) (by decide) pt_45_2 dX2_become_31 ?_
  refine ft_iconst (v := 0) dX2_become_34 rfl ?_
  refine ft_aload_n dX2_become_35 rfl ?_
  refine ft_getR fl_X2_18 rfl (sh_58) (by decide) pt_58_2 dX2_become_36 ?_
  refine ft_iconst (v := 0) dX2_become_39 rfl ?_
  refine ft_bipush (v := 6) dX2_become_40 rfl ?_
  refine fk_copy cf_X2_42 (sh_48) (sh_61) hf (Nat.le_of_ble_eq_true rfl) dX2_become_42 (fun hf => ?_)
  refine ft_aload_n dX2_become_45 rfl ?_
  refine ft_getR fl_X2_21 rfl (sh_45) (by decide) pt_45_3 dX2_become_46 ?_
  refine ft_iconst (v := 0) dX2_become_49 rfl ?_
  refine ft_aload_n dX2_become_50 rfl ?_
  refine ft_getR fl_X2_21 rfl (sh_58) (by decide) pt_58_3 dX2_become_51 ?_
  refine ft_iconst (v := 0) dX2_become_54 rfl ?_
  refine ft_bipush (v := 6) dX2_become_55 rfl ?_
  refine fk_copy cf_X2_42 (sh_49) (sh_62) hf (Nat.le_of_ble_eq_true rfl) dX2_become_57 (fun hf => ?_)
  refine ft_aload_n dX2_become_60 rfl ?_
  refine ft_getR fl_X2_24 rfl (sh_45) (by decide) pt_45_4 dX2_become_61 ?_
  refine ft_iconst (v := 0) dX2_become_64 rfl ?_
  refine ft_aload_n dX2_become_65 rfl ?_
  refine ft_getR fl_X2_24 rfl (sh_58) (by decide) pt_58_4 dX2_become_66 ?_
  refine ft_iconst (v := 0) dX2_become_69 rfl ?_
  refine ft_iconst (v := 3) dX2_become_70 rfl ?_
  refine fk_copy cf_X2_42 (sh_50) (sh_63) hf (Nat.le_of_ble_eq_true rfl) dX2_become_71 (fun hf => ?_)
  refine ft_aload_n dX2_become_74 rfl ?_
  refine ft_getR fl_X2_27 rfl (sh_45) (by decide) pt_45_5 dX2_become_75 ?_
  refine ft_iconst (v := 0) dX2_become_78 rfl ?_
  refine ft_aload_n dX2_become_79 rfl ?_
  refine ft_getR fl_X2_27 rfl (sh_58) (by decide) pt_58_5 dX2_become_80 ?_
  refine ft_iconst (v := 0) dX2_become_83 rfl ?_
  refine ft_iconst (v := 3) dX2_become_84 rfl ?_
  refine fk_copy cf_X2_42 (sh_51) (sh_64) hf (Nat.le_of_ble_eq_true rfl) dX2_become_85 (fun hf => ?_)
  refine ft_aload_n dX2_become_88 rfl ?_
  refine ft_getR fl_X2_30 rfl (sh_45) (by decide) pt_45_6 dX2_become_89 ?_
  refine ft_iconst (v := 0) dX2_become_92 rfl ?_
  refine ft_aload_n dX2_become_93 rfl ?_
  refine ft_getR fl_X2_30 rfl (sh_58) (by decide) pt_58_6 dX2_become_94 ?_
  refine ft_iconst (v := 0) dX2_become_97 rfl ?_
  refine ft_iconst (v := 4) dX2_become_98 rfl ?_
  refine fk_copy cf_X2_42 (sh_52) (sh_65) hf (Nat.le_of_ble_eq_true rfl) dX2_become_99 (fun hf => ?_)
  refine ft_aload_n dX2_become_102 rfl ?_
  refine ft_getR fl_X2_33 rfl (sh_45) (by decide) pt_45_7 dX2_become_103 ?_
  refine ft_iconst (v := 0) dX2_become_106 rfl ?_
  refine ft_aload_n dX2_become_107 rfl ?_
  refine ft_getR fl_X2_33 rfl (sh_58) (by decide) pt_58_7 dX2_become_108 ?_
  refine ft_iconst (v := 0) dX2_become_111 rfl ?_
  refine ft_iconst (v := 4) dX2_become_112 rfl ?_
  refine fk_copy cf_X2_42 (sh_53) (sh_66) hf (Nat.le_of_ble_eq_true rfl) dX2_become_113 (fun hf => ?_)
  refine ft_aload_n dX2_become_116 rfl ?_
  refine ft_aload_n dX2_become_117 rfl ?_
  refine ft_getI fl_X2_48 rfl (sh_45) (by decide) dX2_become_118 ?_
  refine ft_putI fl_X2_48 rfl (fun q h => by cases h; rfl) (sh_58) (by decide) dX2_become_121 ?_
  refine ft_aload_n dX2_become_124 rfl ?_
  refine ft_aload_n dX2_become_125 rfl ?_
  refine ft_getI fl_X2_52 rfl (sh_45) (by decide) dX2_become_126 ?_
  refine ft_putI fl_X2_52 rfl (fun q h => by cases h; rfl) (sh_58) (by decide) dX2_become_129 ?_
  exact fk_retv hf dX2_become_132 rfl
def f_X4_isWet (I : fc_I) (x1 : Int32) (x2 : Int32) (x3 : Int32) : Option Int32 :=
fq_g 3 x2 (
fq_g 61 x3 (
fq_g 6 x1 (
if (I 2 (cn x1)).toInt < (I (18 + cn x2) (cn x3)).toInt then (
some 1)
else (
some 0))))
set_option maxHeartbeats 4000000 in
set_option maxRecDepth 100000 in
theorem t_X4_isWet {d : Nat} {v : Nat} {r : Int32} {I : fc_I} {x1 : Int32} {x2 : Int32} {x3 : Int32} (hf : f_X4_isWet I x1 x2 x3 = some r) : fc_Cp X4_isWet d [.ref 54, .int x1, .int x2, .int x3] fc_SH I (fc_PT v) r := by
  unfold f_X4_isWet at hf
  refine fc_Cp.of (ls := [some (.ref 54), some (.int x1), some (.int x2), some (.int x3)]) ⟨rfl, rfl⟩ (Nat.le_of_ble_eq_true rfl) rfl ?_
  refine ft_aload_n dX4_isWet_0 rfl ?_
  refine ft_getR fl_X4_30 rfl (sh_54) (by decide) pt_54_3 dX4_isWet_1 ?_
  refine ft_getR fl_X4_38 rfl (sh_15) (by decide) pt_15_1 dX4_isWet_4 ?_
  refine ft_iload_n dX4_isWet_7 rfl ?_
  refine fk_aald (sh_17) hf (fun b => pa_17 b) dX4_isWet_8 (fun hb8 hf => ?_)
  refine ft_iload_n dX4_isWet_9 rfl ?_
  refine fk_iald (sa_17 hb8) hf dX4_isWet_10 (fun hf => ?_)
  refine ft_aload_n dX4_isWet_11 rfl ?_
  refine ft_getR fl_X4_18 rfl (sh_54) (by decide) pt_54_0 dX4_isWet_12 ?_
  refine ft_getR fl_X4_44 rfl (sh_1) (by decide) pt_1_0 dX4_isWet_15 ?_
  refine ft_iload_n dX4_isWet_18 rfl ?_
  refine fk_iald (sh_2) hf dX4_isWet_19 (fun hf => ?_)
  refine fk_icmp_le (tgt := 27) dX4_isWet_20 (by decide) hf (fun hf => ?_) (fun hf => ?_)
  · refine ft_iconst (v := 0) dX4_isWet_27 rfl ?_
    exact fk_retp hf dX4_isWet_28 rfl rfl
  · refine ft_iconst (v := 1) dX4_isWet_23 rfl ?_
    refine ft_goto (tgt := 28) dX4_isWet_24 (by decide) ?_
    exact fk_retp hf dX4_isWet_28 rfl rfl
def f_X3_settled_49_B (I : fc_I) (x1 : Int32) (x2 : Int32) (x3 : Int32) (k10 : Int32 → Int32 → Option Int32) (k49 : Int32 → Option Int32) (x4 : Int32) : Option Int32 :=
if x2.toInt < x4.toInt then (
fq_v (f_X4_isWet I x3 x1 (x4 - 1)) fun r65 =>
if r65.toInt = 0 then (
fq_l ((imax x2 x4)) fun y83 =>
fq_l (x3 + 1) fun y84 =>
k10 y83 y84)
else (
fq_l (x4 + (-1)) fun y71 =>
k49 y71))
else (
fq_l ((imax x2 x4)) fun y83 =>
fq_l (x3 + 1) fun y84 =>
k10 y83 y84)
def f_X3_settled_49 (I : fc_I) (x1 : Int32) (x2 : Int32) (x3 : Int32) (k10 : Int32 → Int32 → Option Int32) (n : Nat) : Int32 → Option Int32 := lpp1 (f_X3_settled_49_B I x1 x2 x3 k10 ) n
def f_X3_settled_10_B (I : fc_I) (x1 : Int32) (k10 : Int32 → Int32 → Option Int32) (x2 : Int32) (x3 : Int32) : Option Int32 :=
if x3.toInt < (I 1 2).toInt then (
fq_v (f_X4_isWet I x3 x1 (I 15 11)) fun r34 =>
if r34.toInt = 0 then (
fq_l (x3 + 1) fun y84 =>
k10 x2 y84)
else (
fq_l ((I 15 11)) fun y47 =>
f_X3_settled_49 I x1 x2 x3 k10 4000 y47))
else (
some x2)
def f_X3_settled_10 (I : fc_I) (x1 : Int32) (n : Nat) : Int32 → Int32 → Option Int32 := lpp2 (f_X3_settled_10_B I x1 ) n
def f_X3_settled (I : fc_I) (x1 : Int32) : Option Int32 :=
fq_l ((I 45 9)) fun y7 =>
f_X3_settled_10 I x1 4000 y7 0
set_option maxHeartbeats 4000000 in
set_option maxRecDepth 100000 in
theorem t_X3_settled_49 {d : Nat} {v : Nat} {r : Int32} {x1 : Int32} {x2 : Int32} {x3 : Int32} {k10 : Int32 → Int32 → Option Int32} {I : fc_I} (hk10 : ∀ (x2 : Int32) (x3 : Int32), k10 x2 x3 = some r → fc_T X3_settled (d + 1) 0 0 10 [some (.ref 57), some (.int x1), some (.int x2), some (.int x3), none] [] fc_SH I (fc_PT v) (fc_Qi fc_SH (fun r' I' P' => r' = r ∧ I' = I ∧ P' = (fc_PT v)))) : ∀ (n : Nat) (x4 : Int32) , f_X3_settled_49 I x1 x2 x3 k10 n x4 = some r → fc_T X3_settled (d + 1) 0 0 49 [some (.ref 57), some (.int x1), some (.int x2), some (.int x3), some (.int x4)] [] fc_SH I (fc_PT v) (fc_Qi fc_SH (fun r' I' P' => r' = r ∧ I' = I ∧ P' = (fc_PT v))) := by
  unfold f_X3_settled_49
  refine lpp1_T (fun k49 hk49 x4 hf => ?_)
  unfold f_X3_settled_49_B at hf
  refine ft_iload dX3_settled_49 rfl ?_
  refine ft_iload_n dX3_settled_51 rfl ?_
  refine fk_icmp_le (tgt := 77) dX3_settled_52 (by decide) hf (fun hf => ?_) (fun hf => ?_)
  · refine ft_iload_n dX3_settled_77 rfl ?_
    refine ft_iload dX3_settled_78 rfl ?_
    refine ft_mmax cf_X3_88 (Nat.le_of_ble_eq_true rfl) dX3_settled_80 ?_
    refine ft_istore_n dX3_settled_83 (by decide) ?_
    refine fk_iinc (c := 1) dX3_settled_84 rfl (by decide) rfl ?_
    refine ft_goto (tgt := 10) dX3_settled_87 (by decide) ?_
    exact ft_forget (by simp [fc_le, fc_st1, fc_st2, fc_kill]) (hk10 _ _ hf)
  · refine ft_aload_n dX3_settled_55 rfl ?_
    refine ft_getR fl_X3_39 rfl (sh_57) (by decide) pt_57_3 dX3_settled_56 ?_
    refine ft_iload_n dX3_settled_59 rfl ?_
    refine ft_iload_n dX3_settled_60 rfl ?_
    refine ft_iload dX3_settled_61 rfl ?_
    refine ft_iconst (v := 1) dX3_settled_63 rfl ?_
    refine ft_isub dX3_settled_64 ?_
    obtain ⟨r65, hc65, hf⟩ := fq_vs hf
    refine ft_V3p cf_X3_84 (sh_54) (t_X4_isWet hc65) (Nat.le_of_ble_eq_true rfl) dX3_settled_65 ?_
    refine fk_if_eq (tgt := 77) dX3_settled_68 (by decide) hf (fun hf => ?_) (fun hf => ?_)
    · refine ft_iload_n dX3_settled_77 rfl ?_
      refine ft_iload dX3_settled_78 rfl ?_
      refine ft_mmax cf_X3_88 (Nat.le_of_ble_eq_true rfl) dX3_settled_80 ?_
      refine ft_istore_n dX3_settled_83 (by decide) ?_
      refine fk_iinc (c := 1) dX3_settled_84 rfl (by decide) rfl ?_
      refine ft_goto (tgt := 10) dX3_settled_87 (by decide) ?_
      exact ft_forget (by simp [fc_le, fc_st1, fc_st2, fc_kill]) (hk10 _ _ hf)
    · refine fk_iinc (c := (-1)) dX3_settled_71 rfl (by decide) rfl ?_
      refine ft_goto (tgt := 49) dX3_settled_74 (by decide) ?_
      exact ft_forget (by simp [fc_le, fc_st1, fc_st2, fc_kill]) (hk49 _ hf)
set_option maxHeartbeats 4000000 in
set_option maxRecDepth 100000 in
theorem t_X3_settled_10 {d : Nat} {v : Nat} {r : Int32} {x1 : Int32} {I : fc_I} : ∀ (n : Nat) (x2 : Int32) (x3 : Int32) , f_X3_settled_10 I x1 n x2 x3 = some r → fc_T X3_settled (d + 1) 0 0 10 [some (.ref 57), some (.int x1), some (.int x2), some (.int x3), none] [] fc_SH I (fc_PT v) (fc_Qi fc_SH (fun r' I' P' => r' = r ∧ I' = I ∧ P' = (fc_PT v))) := by
  unfold f_X3_settled_10
  refine lpp2_T (fun k10 hk10 x2 x3 hf => ?_)
  unfold f_X3_settled_10_B at hf
  refine ft_iload_n dX3_settled_10 rfl ?_
  refine ft_aload_n dX3_settled_11 rfl ?_
  refine ft_getR fl_X3_28 rfl (sh_57) (by decide) pt_57_0 dX3_settled_12 ?_
  refine ft_getI fl_X3_53 rfl (sh_1) (by decide) dX3_settled_15 ?_
  refine fk_icmp_ge (tgt := 90) dX3_settled_18 (by decide) hf (fun hf => ?_) (fun hf => ?_)
  · refine ft_iload_n dX3_settled_90 rfl ?_
    exact fk_retp hf dX3_settled_91 rfl rfl
  · refine ft_aload_n dX3_settled_21 rfl ?_
    refine ft_getR fl_X3_39 rfl (sh_57) (by decide) pt_57_3 dX3_settled_22 ?_
    refine ft_iload_n dX3_settled_25 rfl ?_
    refine ft_iload_n dX3_settled_26 rfl ?_
    refine ft_aload_n dX3_settled_27 rfl ?_
    refine ft_getR fl_X3_32 rfl (sh_57) (by decide) pt_57_1 dX3_settled_28 ?_
    refine ft_getI fl_X3_75 rfl (sh_15) (by decide) dX3_settled_31 ?_
    obtain ⟨r34, hc34, hf⟩ := fq_vs hf
    refine ft_V3p cf_X3_84 (sh_54) (t_X4_isWet hc34) (Nat.le_of_ble_eq_true rfl) dX3_settled_34 ?_
    refine fk_if_eq (tgt := 84) dX3_settled_37 (by decide) hf (fun hf => ?_) (fun hf => ?_)
    · refine fk_iinc (c := 1) dX3_settled_84 rfl (by decide) rfl ?_
      refine ft_goto (tgt := 10) dX3_settled_87 (by decide) ?_
      exact ft_forget (by simp [fc_le, fc_st1, fc_st2, fc_kill]) (hk10 _ _ hf)
    · refine ft_aload_n dX3_settled_40 rfl ?_
      refine ft_getR fl_X3_32 rfl (sh_57) (by decide) pt_57_1 dX3_settled_41 ?_
      refine ft_getI fl_X3_75 rfl (sh_15) (by decide) dX3_settled_44 ?_
      refine ft_istore dX3_settled_47 (by decide) ?_
      exact ft_forget (by simp [fc_le, fc_st1, fc_st2, fc_kill]) (t_X3_settled_49  hk10 _ _ hf)
set_option maxHeartbeats 4000000 in
set_option maxRecDepth 100000 in
theorem t_X3_settled {d : Nat} {v : Nat} {r : Int32} {I : fc_I} {x1 : Int32} (hf : f_X3_settled I x1 = some r) : fc_Cp X3_settled (d + 1) [.ref 57, .int x1] fc_SH I (fc_PT v) r := by
  unfold f_X3_settled at hf
  refine fc_Cp.of (ls := [some (.ref 57), some (.int x1), none, none, none]) ⟨rfl, rfl⟩ (Nat.le_of_ble_eq_true rfl) rfl ?_
  refine ft_aload_n dX3_settled_0 rfl ?_
  refine ft_getR fl_X3_36 rfl (sh_57) (by decide) pt_57_2 dX3_settled_1 ?_
  refine ft_getI fl_X3_62 rfl (sh_45) (by decide) dX3_settled_4 ?_
  refine ft_istore_n dX3_settled_7 (by decide) ?_
  refine ft_iconst (v := 0) dX3_settled_8 rfl ?_
  refine ft_istore_n dX3_settled_9 (by decide) ?_
  exact ft_forget (by simp [fc_le, fc_st1, fc_st2, fc_kill]) (t_X3_settled_10   _ _ _ hf)
def f_X2_isCalled (f : Nat) (I : fc_I) (x1 : Int32) : Option Int32 :=
fq_g 6 x1 (
if (I (f + 4) (cn x1)).toInt = ((-1) : Int32).toInt then (
some 0)
else (
fq_g 6 x1 (
if (I f 9).toInt < (I (f + 4) (cn x1)).toInt then (
some 0)
else (
some 1))))
set_option maxHeartbeats 4000000 in
set_option maxRecDepth 100000 in
theorem t_X2_isCalled {d : Nat} {v : Nat} {f : Nat} {r : Int32} {I : fc_I} {x1 : Int32} (hF : f = 45 ∨ f = 58) (hf : f_X2_isCalled f I x1 = some r) : fc_Cp X2_isCalled d [.ref f, .int x1] fc_SH I (fc_PT v) r := by
  unfold f_X2_isCalled at hf
  refine fc_Cp.of (ls := [some (.ref f), some (.int x1)]) ⟨rfl, rfl⟩ (Nat.le_of_ble_eq_true rfl) rfl ?_
  refine ft_aload_n dX2_isCalled_0 rfl ?_
  refine ft_getR fl_X2_21 rfl ((shf_0 hF)) (by decide) (ptf_3 hF) dX2_isCalled_1 ?_
  refine ft_iload_n dX2_isCalled_4 rfl ?_
  refine fk_iald ((shf_4 hF)) hf dX2_isCalled_5 (fun hf => ?_)
  refine ft_iconst (v := (-1)) dX2_isCalled_6 rfl ?_
  refine fk_icmp_eq (tgt := 27) dX2_isCalled_7 (by decide) hf (fun hf => ?_) (fun hf => ?_)
  · refine ft_iconst (v := 0) dX2_isCalled_27 rfl ?_
    exact fk_retp hf dX2_isCalled_28 rfl rfl
  · refine ft_aload_n dX2_isCalled_10 rfl ?_
    refine ft_getR fl_X2_21 rfl ((shf_0 hF)) (by decide) (ptf_3 hF) dX2_isCalled_11 ?_
    refine ft_iload_n dX2_isCalled_14 rfl ?_
    refine fk_iald ((shf_4 hF)) hf dX2_isCalled_15 (fun hf => ?_)
    refine ft_aload_n dX2_isCalled_16 rfl ?_
    refine ft_getI fl_X2_52 rfl ((shf_0 hF)) (by decide) dX2_isCalled_17 ?_
    refine fk_icmp_gt (tgt := 27) dX2_isCalled_20 (by decide) hf (fun hf => ?_) (fun hf => ?_)
    · refine ft_iconst (v := 0) dX2_isCalled_27 rfl ?_
      exact fk_retp hf dX2_isCalled_28 rfl rfl
    · refine ft_iconst (v := 1) dX2_isCalled_23 rfl ?_
      refine ft_goto (tgt := 28) dX2_isCalled_24 (by decide) ?_
      exact fk_retp hf dX2_isCalled_28 rfl rfl
def f_X4_gather_28 (f : Nat) (x2 : Int32) (x3 : Int32) (s1 : Int32) (s2 : Int32) (I : fc_I) : Option fc_I :=
fq_g 6 s1 (fq_l (fc_wI I 55 (cn s1) s2) fun I28 =>
fq_g 6 x2 (
fq_g 6 1 (fq_l (fc_wI I28 55 (cn 1) (I28 2 (cn x2))) fun I43 =>
fq_g 3 x3 (
fq_g 61 (I43 f 9) (
fq_g 6 2 (fq_l (fc_wI I43 55 (cn 2) (I43 (22 + cn x3) (cn (I43 f 9)))) fun I63 =>
fq_g 6 x2 (
fq_g 6 3 (fq_l (fc_wI I63 55 (cn 3) (I63 (f + 1) (cn x2))) fun I75 =>
fq_g 6 x2 (
fq_g 6 4 (fq_l (fc_wI I75 55 (cn 4) (I75 (f + 2) (cn x2))) fun I87 =>
fq_g 6 5 (fq_l (fc_wI I87 55 (cn 5) x2) fun I94 =>
some I94)))))))))))
def f_X4_gather (f : Nat) (I : fc_I) (x2 : Int32) (x3 : Int32) : Option fc_I :=
fq_v (f_X2_isCalled f I x2) fun r7 =>
if r7.toInt = 0 then (
f_X4_gather_28 f  x2 x3 0 0 I)
else (
fq_g 6 x2 (
f_X4_gather_28 f  x2 x3 0 ((I f 9) - (I (f + 4) (cn x2))) I))
set_option maxHeartbeats 4000000 in
set_option maxRecDepth 100000 in
theorem t_X4_gather_28 {d : Nat} {v : Nat} {f : Nat} {J : fc_I} (hF : f = 45 ∨ f = 58) : ∀ (x2 : Int32) (x3 : Int32) (s1 : Int32) (s2 : Int32) (I : fc_I) , f_X4_gather_28 f  x2 x3 s1 s2 I = some J → fc_T X4_gather (d + 1) 0 0 28 [some (.ref 54), some (.ref f), some (.int x2), some (.int x3)] [.int s2, .int s1, .ref 55] fc_SH I (fc_PT v) (fc_Qv fc_SH (fun I' P' => I' = J ∧ P' = (fc_PT v))) := by
  intro x2 x3 s1 s2 I hf
  unfold f_X4_gather_28 at hf
  refine fk_iast (sh_55) hf dX4_gather_28 (fun hf => ?_)
  refine ft_aload_n dX4_gather_29 rfl ?_
  refine ft_getR fl_X4_9 rfl (sh_54) (by decide) pt_54_5 dX4_gather_30 ?_
  refine ft_iconst (v := 1) dX4_gather_33 rfl ?_
  refine ft_aload_n dX4_gather_34 rfl ?_
  refine ft_getR fl_X4_18 rfl (sh_54) (by decide) pt_54_0 dX4_gather_35 ?_
  refine ft_getR fl_X4_44 rfl (sh_1) (by decide) pt_1_0 dX4_gather_38 ?_
  refine ft_iload_n dX4_gather_41 rfl ?_
  refine fk_iald (sh_2) hf dX4_gather_42 (fun hf => ?_)
  refine fk_iast (sh_55) hf dX4_gather_43 (fun hf => ?_)
  refine ft_aload_n dX4_gather_44 rfl ?_
  refine ft_getR fl_X4_9 rfl (sh_54) (by decide) pt_54_5 dX4_gather_45 ?_
  refine ft_iconst (v := 2) dX4_gather_48 rfl ?_
  refine ft_aload_n dX4_gather_49 rfl ?_
  refine ft_getR fl_X4_30 rfl (sh_54) (by decide) pt_54_3 dX4_gather_50 ?_
  refine ft_getR fl_X4_61 rfl (sh_15) (by decide) pt_15_2 dX4_gather_53 ?_
  refine ft_iload_n dX4_gather_56 rfl ?_
  refine fk_aald (sh_21) hf (fun b => pa_21 b) dX4_gather_57 (fun hb57 hf => ?_)
  refine ft_aload_n dX4_gather_58 rfl ?_
  refine ft_getI fl_X4_87 rfl ((shf_0 hF)) (by decide) dX4_gather_59 ?_
  refine fk_iald (sa_21 hb57) hf dX4_gather_62 (fun hf => ?_)
  refine fk_iast (sh_55) hf dX4_gather_63 (fun hf => ?_)
  refine ft_aload_n dX4_gather_64 rfl ?_
  refine ft_getR fl_X4_9 rfl (sh_54) (by decide) pt_54_5 dX4_gather_65 ?_
  refine ft_iconst (v := 3) dX4_gather_68 rfl ?_
  refine ft_aload_n dX4_gather_69 rfl ?_
  refine ft_getR fl_X4_72 rfl ((shf_0 hF)) (by decide) (ptf_0 hF) dX4_gather_70 ?_
  refine ft_iload_n dX4_gather_73 rfl ?_
  refine fk_iald ((shf_1 hF)) hf dX4_gather_74 (fun hf => ?_)
  refine fk_iast (sh_55) hf dX4_gather_75 (fun hf => ?_)
  refine ft_aload_n dX4_gather_76 rfl ?_
  refine ft_getR fl_X4_9 rfl (sh_54) (by decide) pt_54_5 dX4_gather_77 ?_
  refine ft_iconst (v := 4) dX4_gather_80 rfl ?_
  refine ft_aload_n dX4_gather_81 rfl ?_
  refine ft_getR fl_X4_77 rfl ((shf_0 hF)) (by decide) (ptf_1 hF) dX4_gather_82 ?_
  refine ft_iload_n dX4_gather_85 rfl ?_
  refine fk_iald ((shf_2 hF)) hf dX4_gather_86 (fun hf => ?_)
  refine fk_iast (sh_55) hf dX4_gather_87 (fun hf => ?_)
  refine ft_aload_n dX4_gather_88 rfl ?_
  refine ft_getR fl_X4_9 rfl (sh_54) (by decide) pt_54_5 dX4_gather_89 ?_
  refine ft_iconst (v := 5) dX4_gather_92 rfl ?_
  refine ft_iload_n dX4_gather_93 rfl ?_
  refine fk_iast (sh_55) hf dX4_gather_94 (fun hf => ?_)
  exact fk_retv hf dX4_gather_95 rfl
set_option maxHeartbeats 4000000 in
set_option maxRecDepth 100000 in
theorem t_X4_gather {d : Nat} {v : Nat} {f : Nat} {J : fc_I} {I : fc_I} {x2 : Int32} {x3 : Int32} (hF : f = 45 ∨ f = 58) (hf : f_X4_gather f I x2 x3 = some J) : fc_Cv X4_gather (d + 1) [.ref 54, .ref f, .int x2, .int x3] fc_SH I (fc_PT v) (fun I' P' => I' = J ∧ P' = (fc_PT v)) := by
  unfold f_X4_gather at hf
  refine fc_Cv.of (ls := [some (.ref 54), some (.ref f), some (.int x2), some (.int x3)]) ⟨rfl, rfl⟩ (Nat.le_of_ble_eq_true rfl) rfl ?_
  refine ft_aload_n dX4_gather_0 rfl ?_
  refine ft_getR fl_X4_9 rfl (sh_54) (by decide) pt_54_5 dX4_gather_1 ?_
  refine ft_iconst (v := 0) dX4_gather_4 rfl ?_
  refine ft_aload_n dX4_gather_5 rfl ?_
  refine ft_iload_n dX4_gather_6 rfl ?_
  obtain ⟨r7, hc7, hf⟩ := fq_vs hf
  refine ft_V1p cf_X4_83 ((shf_0 hF)) (t_X2_isCalled hF hc7) (Nat.le_of_ble_eq_true rfl) dX4_gather_7 ?_
  refine fk_if_eq (tgt := 27) dX4_gather_10 (by decide) hf (fun hf => ?_) (fun hf => ?_)
  · refine ft_iconst (v := 0) dX4_gather_27 rfl ?_
    exact ft_forget (by simp [fc_le, fc_st1, fc_st2, fc_kill]) (t_X4_gather_28 hF   _ _ _ _ _ hf)
  · refine ft_aload_n dX4_gather_13 rfl ?_
    refine ft_getI fl_X4_87 rfl ((shf_0 hF)) (by decide) dX4_gather_14 ?_
    refine ft_aload_n dX4_gather_17 rfl ?_
    refine ft_getR fl_X4_90 rfl ((shf_0 hF)) (by decide) (ptf_3 hF) dX4_gather_18 ?_
    refine ft_iload_n dX4_gather_21 rfl ?_
    refine fk_iald ((shf_4 hF)) hf dX4_gather_22 (fun hf => ?_)
    refine ft_isub dX4_gather_23 ?_
    refine ft_goto (tgt := 28) dX4_gather_24 (by decide) ?_
    exact ft_forget (by simp [fc_le, fc_st1, fc_st2, fc_kill]) (t_X4_gather_28 hF   _ _ _ _ _ hf)
def f_X4_board_2_B (f : Nat) (x2 : Int32) (k2 : Int32 → fc_I → Option fc_I) (x3 : Int32) (I : fc_I) : Option fc_I :=
if x3.toInt < (I 10 4).toInt then (
fq_g 4 x3 (
fq_l ((I 11 (cn x3))) fun y22 =>
fq_g 4 x3 (
fq_l ((I 12 (cn x3))) fun y33 =>
fq_g 4 x3 (
fq_g 6 y22 (
fq_g 3 y33 (
fq_l ((imin (I 13 (cn x3)) (imin (I (f + 3) (cn y22)) (I (f + 5) (cn y33))))) fun y64 =>
if y64.toInt = 0 then (
fq_l (x3 + 1) fun y173 =>
k2 y173 I)
else (
fq_g 4 x3 (
if (I (f + 8) (cn x3)).toInt = ((-1) : Int32).toInt then (
fq_v (f_X4_isWet I y22 x2 (I f 9)) fun r89 =>
if r89.toInt = 0 then (
fq_u (f_X4_gather f I y22 x2) fun I103 =>
fq_b (f_X0_worth I103 1) fun r115 I115 =>
if r115.toInt = 0 then (
fq_g 6 y22 (
fq_g 6 y22 (fq_l (fc_wI I115 (f + 3) (cn y22) ((I115 (f + 3) (cn y22)) - y64)) fun I132 =>
fq_g 3 y33 (
fq_g 3 y33 (fq_l (fc_wI I132 (f + 5) (cn y33) ((I132 (f + 5) (cn y33)) - y64)) fun I144 =>
fq_g 4 x3 (fq_l (fc_wI I144 (f + 7) (cn x3) y64) fun I152 =>
fq_g 4 x3 (
fq_g 4 x3 (fq_l (fc_wI I152 (f + 8) (cn x3) ((I152 f 9) + (I152 14 (cn x3)))) fun I172 =>
fq_l (x3 + 1) fun y173 =>
k2 y173 I172))))))))
else (
fq_l (x3 + 1) fun y173 =>
k2 y173 I115))
else (
fq_l (x3 + 1) fun y173 =>
k2 y173 I))
else (
fq_l (x3 + 1) fun y173 =>
k2 y173 I)))))))))
else (
some I)
def f_X4_board_2 (f : Nat) (x2 : Int32) (n : Nat) : Int32 → fc_I → Option fc_I := lpm1 (f_X4_board_2_B f x2 ) n
def f_X4_board (f : Nat) (I : fc_I) (x2 : Int32) : Option fc_I :=
f_X4_board_2 f x2 4000 0 I
set_option maxHeartbeats 4000000 in
set_option maxRecDepth 100000 in
theorem t_X4_board_2 {d : Nat} {v : Nat} {f : Nat} {J : fc_I} {x2 : Int32} (hv : fc_v v) (hF : f = 45 ∨ f = 58) : ∀ (n : Nat) (x3 : Int32) (I : fc_I) , f_X4_board_2 f x2 n x3 I = some J → fc_T X4_board (d + 2) 0 0 2 [some (.ref 54), some (.ref f), some (.int x2), some (.int x3), none, none, none] [] fc_SH I (fc_PT v) (fc_Qv fc_SH (fun I' P' => I' = J ∧ P' = (fc_PT v))) := by
  unfold f_X4_board_2
  refine lpm1_T (fun k2 hk2 x3 I hf => ?_)
  unfold f_X4_board_2_B at hf
  refine ft_iload_n dX4_board_2 rfl ?_
  refine ft_aload_n dX4_board_3 rfl ?_
  refine ft_getR fl_X4_26 rfl (sh_54) (by decide) pt_54_2 dX4_board_4 ?_
  refine ft_getI fl_X4_150 rfl (sh_10) (by decide) dX4_board_7 ?_
  refine fk_icmp_ge (tgt := 179) dX4_board_10 (by decide) hf (fun hf => ?_) (fun hf => ?_)
  · exact fk_retv hf dX4_board_179 rfl
  · refine ft_aload_n dX4_board_13 rfl ?_
    refine ft_getR fl_X4_26 rfl (sh_54) (by decide) pt_54_2 dX4_board_14 ?_
    refine ft_getR fl_X4_153 rfl (sh_10) (by decide) pt_10_0 dX4_board_17 ?_
    refine ft_iload_n dX4_board_20 rfl ?_
    refine fk_iald (sh_11) hf dX4_board_21 (fun hf => ?_)
    refine ft_istore dX4_board_22 (by decide) ?_
    refine ft_aload_n dX4_board_24 rfl ?_
    refine ft_getR fl_X4_26 rfl (sh_54) (by decide) pt_54_2 dX4_board_25 ?_
    refine ft_getR fl_X4_156 rfl (sh_10) (by decide) pt_10_1 dX4_board_28 ?_
    refine ft_iload_n dX4_board_31 rfl ?_
    refine fk_iald (sh_12) hf dX4_board_32 (fun hf => ?_)
    refine ft_istore dX4_board_33 (by decide) ?_
    refine ft_aload_n dX4_board_35 rfl ?_
    refine ft_getR fl_X4_26 rfl (sh_54) (by decide) pt_54_2 dX4_board_36 ?_
    refine ft_getR fl_X4_159 rfl (sh_10) (by decide) pt_10_2 dX4_board_39 ?_
    refine ft_iload_n dX4_board_42 rfl ?_
    refine fk_iald (sh_13) hf dX4_board_43 (fun hf => ?_)
    refine ft_aload_n dX4_board_44 rfl ?_
    refine ft_getR fl_X4_80 rfl ((shf_0 hF)) (by decide) (ptf_2 hF) dX4_board_45 ?_
    refine ft_iload dX4_board_48 rfl ?_
    refine fk_iald ((shf_3 hF)) hf dX4_board_50 (fun hf => ?_)
    refine ft_aload_n dX4_board_51 rfl ?_
    refine ft_getR fl_X4_141 rfl ((shf_0 hF)) (by decide) (ptf_4 hF) dX4_board_52 ?_
    refine ft_iload dX4_board_55 rfl ?_
    refine fk_iald ((shf_5 hF)) hf dX4_board_57 (fun hf => ?_)
    refine ft_mmin cf_X4_120 (Nat.le_of_ble_eq_true rfl) dX4_board_58 ?_
    refine ft_mmin cf_X4_120 (Nat.le_of_ble_eq_true rfl) dX4_board_61 ?_
    refine ft_istore dX4_board_64 (by decide) ?_
    refine ft_iload dX4_board_66 rfl ?_
    refine fk_if_eq (tgt := 173) dX4_board_68 (by decide) hf (fun hf => ?_) (fun hf => ?_)
    · refine fk_iinc (c := 1) dX4_board_173 rfl (by decide) rfl ?_
      refine ft_goto (tgt := 2) dX4_board_176 (by decide) ?_
      exact ft_forget (by simp [fc_le, fc_st1, fc_st2, fc_kill]) (hk2 _ _ hf)
    · refine ft_aload_n dX4_board_71 rfl ?_
      refine ft_getR fl_X4_162 rfl ((shf_0 hF)) (by decide) (ptf_7 hF) dX4_board_72 ?_
      refine ft_iload_n dX4_board_75 rfl ?_
      refine fk_iald ((shf_8 hF)) hf dX4_board_76 (fun hf => ?_)
      refine ft_iconst (v := (-1)) dX4_board_77 rfl ?_
      refine fk_icmp_ne (tgt := 173) dX4_board_78 (by decide) hf (fun hf => ?_) (fun hf => ?_)
      · refine fk_iinc (c := 1) dX4_board_173 rfl (by decide) rfl ?_
        refine ft_goto (tgt := 2) dX4_board_176 (by decide) ?_
        exact ft_forget (by simp [fc_le, fc_st1, fc_st2, fc_kill]) (hk2 _ _ hf)
      · refine ft_aload_n dX4_board_81 rfl ?_
        refine ft_iload dX4_board_82 rfl ?_
        refine ft_iload_n dX4_board_84 rfl ?_
        refine ft_aload_n dX4_board_85 rfl ?_
        refine ft_getI fl_X4_87 rfl ((shf_0 hF)) (by decide) dX4_board_86 ?_
        obtain ⟨r89, hc89, hf⟩ := fq_vs hf
        refine ft_V3p cf_X4_57 (sh_54) (t_X4_isWet hc89) (Nat.le_of_ble_eq_true rfl) dX4_board_89 ?_
        refine fk_if_eq (tgt := 98) dX4_board_92 (by decide) hf (fun hf => ?_) (fun hf => ?_)
        · refine ft_aload_n dX4_board_98 rfl ?_
          refine ft_aload_n dX4_board_99 rfl ?_
          refine ft_iload dX4_board_100 rfl ?_
          refine ft_iload_n dX4_board_102 rfl ?_
          obtain ⟨I103, hc103, hf⟩ := fq_us hf
          refine ft_V3v cf_X4_110 (sh_54) (t_X4_gather hF hc103) (Nat.le_of_ble_eq_true rfl) dX4_board_103 (fun J P' q => ?_)
          obtain ⟨rfl, rfl⟩ := q
          refine ft_aload_n dX4_board_106 rfl ?_
          refine ft_getR fl_X4_34 rfl (sh_54) (by decide) pt_54_4 dX4_board_107 ?_
          refine ft_iconst (v := 1) dX4_board_110 rfl ?_
          refine ft_aload_n dX4_board_111 rfl ?_
          refine ft_getR fl_X4_9 rfl (sh_54) (by decide) pt_54_5 dX4_board_112 ?_
          obtain ⟨r115, I115, hc115, hf⟩ := fq_bs hf
          refine ft_V2i cf_X4_114 (sh_31) (t_X0_worth hv hc115) (Nat.le_of_ble_eq_true rfl) dX4_board_115 (fun r' J P' q => ?_)
          obtain ⟨rfl, rfl, rfl⟩ := q
          refine fk_if_ne (tgt := 173) dX4_board_118 (by decide) hf (fun hf => ?_) (fun hf => ?_)
          · refine fk_iinc (c := 1) dX4_board_173 rfl (by decide) rfl ?_
            refine ft_goto (tgt := 2) dX4_board_176 (by decide) ?_
            exact ft_forget (by simp [fc_le, fc_st1, fc_st2, fc_kill]) (hk2 _ _ hf)
          · refine ft_aload_n dX4_board_121 rfl ?_
            refine ft_getR fl_X4_80 rfl ((shf_0 hF)) (by decide) (ptf_2 hF) dX4_board_122 ?_
            refine ft_iload dX4_board_125 rfl ?_
            refine ft_dup2 dX4_board_127 rfl rfl ?_
            refine fk_iald ((shf_3 hF)) hf dX4_board_128 (fun hf => ?_)
            refine ft_iload dX4_board_129 rfl ?_
            refine ft_isub dX4_board_131 ?_
            refine fk_iast ((shf_3 hF)) hf dX4_board_132 (fun hf => ?_)
            refine ft_aload_n dX4_board_133 rfl ?_
            refine ft_getR fl_X4_141 rfl ((shf_0 hF)) (by decide) (ptf_4 hF) dX4_board_134 ?_
            refine ft_iload dX4_board_137 rfl ?_
            refine ft_dup2 dX4_board_139 rfl rfl ?_
            refine fk_iald ((shf_5 hF)) hf dX4_board_140 (fun hf => ?_)
            refine ft_iload dX4_board_141 rfl ?_
            refine ft_isub dX4_board_143 ?_
            refine fk_iast ((shf_5 hF)) hf dX4_board_144 (fun hf => ?_)
            refine ft_aload_n dX4_board_145 rfl ?_
            refine ft_getR fl_X4_165 rfl ((shf_0 hF)) (by decide) (ptf_6 hF) dX4_board_146 ?_
            refine ft_iload_n dX4_board_149 rfl ?_
            refine ft_iload dX4_board_150 rfl ?_
            refine fk_iast ((shf_7 hF)) hf dX4_board_152 (fun hf => ?_)
            refine ft_aload_n dX4_board_153 rfl ?_
            refine ft_getR fl_X4_162 rfl ((shf_0 hF)) (by decide) (ptf_7 hF) dX4_board_154 ?_
            refine ft_iload_n dX4_board_157 rfl ?_
            refine ft_aload_n dX4_board_158 rfl ?_
            refine ft_getI fl_X4_87 rfl ((shf_0 hF)) (by decide) dX4_board_159 ?_
            refine ft_aload_n dX4_board_162 rfl ?_
            refine ft_getR fl_X4_26 rfl (sh_54) (by decide) pt_54_2 dX4_board_163 ?_
            refine ft_getR fl_X4_168 rfl (sh_10) (by decide) pt_10_3 dX4_board_166 ?_
            refine ft_iload_n dX4_board_169 rfl ?_
            refine fk_iald (sh_14) hf dX4_board_170 (fun hf => ?_)
            refine ft_iadd dX4_board_171 ?_
            refine fk_iast ((shf_8 hF)) hf dX4_board_172 (fun hf => ?_)
            refine fk_iinc (c := 1) dX4_board_173 rfl (by decide) rfl ?_
            refine ft_goto (tgt := 2) dX4_board_176 (by decide) ?_
            exact ft_forget (by simp [fc_le, fc_st1, fc_st2, fc_kill]) (hk2 _ _ hf)
        · refine ft_goto (tgt := 173) dX4_board_95 (by decide) ?_
          refine fk_iinc (c := 1) dX4_board_173 rfl (by decide) rfl ?_
          refine ft_goto (tgt := 2) dX4_board_176 (by decide) ?_
          exact ft_forget (by simp [fc_le, fc_st1, fc_st2, fc_kill]) (hk2 _ _ hf)
set_option maxHeartbeats 4000000 in
set_option maxRecDepth 100000 in
theorem t_X4_board {d : Nat} {v : Nat} {f : Nat} {J : fc_I} {I : fc_I} {x2 : Int32} (hv : fc_v v) (hF : f = 45 ∨ f = 58) (hf : f_X4_board f I x2 = some J) : fc_Cv X4_board (d + 2) [.ref 54, .ref f, .int x2] fc_SH I (fc_PT v) (fun I' P' => I' = J ∧ P' = (fc_PT v)) := by
  unfold f_X4_board at hf
  refine fc_Cv.of (ls := [some (.ref 54), some (.ref f), some (.int x2), none, none, none, none]) ⟨rfl, rfl⟩ (Nat.le_of_ble_eq_true rfl) rfl ?_
  refine ft_iconst (v := 0) dX4_board_0 rfl ?_
  refine ft_istore_n dX4_board_1 (by decide) ?_
  exact ft_forget (by simp [fc_le, fc_st1, fc_st2, fc_kill]) (t_X4_board_2 hv hF  _ _ _ hf)
def f_X6_canTake_54 (I : fc_I) (x1 : Int32) (x3 : Int32) (x4 : Int32) : Option Int32 :=
fq_g 14 x1 (
fq_l ((I 8 (cn x1))) fun y60 =>
fq_g 14 x1 (
if (I 5 (cn x1)).toInt = 1 then (
if x4.toInt = 0 then (
some y60)
else (
some (y60 * 2)))
else if (I 5 (cn x1)).toInt = 2 then (
if (40 : Int32).toInt < x3.toInt then (
some 0)
else (
some y60))
else if (I 5 (cn x1)).toInt = 3 then (
if x4.toInt = 0 then (
some y60)
else (
some (y60 * 2)))
else if (I 5 (cn x1)).toInt = 4 then (
if (40 : Int32).toInt < x3.toInt then (
some 0)
else (
if (20 : Int32).toInt < x3.toInt then (
some (y60 / 2))
else (
some y60)))
else if (I 5 (cn x1)).toInt = 5 then (
some (y60 / 3))
else (
some y60)))
def f_X6_canTake_32 (I : fc_I) (x1 : Int32) (x2 : Int32) (x3 : Int32) (x4 : Int32) (s0 : Int32) : Option Int32 :=
if x4.toInt = 0 then (
f_X6_canTake_54 I  x1 x3 x4)
else (
fq_g 14 x1 (
if x2.toInt < ((I 9 (cn x1)) + s0).toInt then (
some 0)
else (
f_X6_canTake_54 I  x1 x3 x4)))
def f_X6_canTake_15 (I : fc_I) (x1 : Int32) (x2 : Int32) (x3 : Int32) (s0 : Int32) : Option Int32 :=
fq_g 14 x1 (
if (I 5 (cn x1)).toInt = (3 : Int32).toInt then (
f_X6_canTake_32 I  x1 x2 x3 s0 2)
else (
f_X6_canTake_32 I  x1 x2 x3 s0 1))
def f_X6_canTake (I : fc_I) (x1 : Int32) (x2 : Int32) (x3 : Int32) : Option Int32 :=
fq_g 14 x1 (
if (I 9 (cn x1)).toInt = ((-1) : Int32).toInt then (
f_X6_canTake_15 I  x1 x2 x3 0)
else (
f_X6_canTake_15 I  x1 x2 x3 1))
set_option maxHeartbeats 4000000 in
set_option maxRecDepth 100000 in
theorem t_X6_canTake_54 {d : Nat} {v : Nat} {r : Int32} {I : fc_I} : ∀ (x1 : Int32) (x3 : Int32) (x4 : Int32) , f_X6_canTake_54 I  x1 x3 x4 = some r → fc_T X6_canTake d 0 0 54 [some (.ref 4), some (.int x1), none, some (.int x3), some (.int x4), none, none] [] fc_SH I (fc_PT v) (fc_Qi fc_SH (fun r' I' P' => r' = r ∧ I' = I ∧ P' = (fc_PT v))) := by
  intro x1 x3 x4 hf
  unfold f_X6_canTake_54 at hf
  refine ft_aload_n dX6_canTake_54 rfl ?_
  refine ft_getR fl_X6_21 rfl (sh_4) (by decide) pt_4_3 dX6_canTake_55 ?_
  refine ft_iload_n dX6_canTake_58 rfl ?_
  refine fk_iald (sh_8) hf dX6_canTake_59 (fun hf => ?_)
  refine ft_istore dX6_canTake_60 (by decide) ?_
  refine ft_aload_n dX6_canTake_62 rfl ?_
  refine ft_getR fl_X6_9 rfl (sh_4) (by decide) pt_4_0 dX6_canTake_63 ?_
  refine ft_iload_n dX6_canTake_66 rfl ?_
  refine fk_iald (sh_5) hf dX6_canTake_67 (fun hf => ?_)
  rcases fq_is hf with ⟨e_68_0, hf⟩ | ⟨e_68_0, hf⟩
  · refine ft_tsIn (tgt := 104) dX6_canTake_68 (by rw [e_68_0]; decide) (by rw [e_68_0]; decide) (by rw [e_68_0]; rfl) (by decide) ?_
    refine ft_iload dX6_canTake_104 rfl ?_
    refine fk_if_eq (tgt := 116) dX6_canTake_106 (by decide) hf (fun hf => ?_) (fun hf => ?_)
    · refine ft_iload dX6_canTake_116 rfl ?_
      exact fk_retp hf dX6_canTake_118 rfl rfl
    · refine ft_iload dX6_canTake_109 rfl ?_
      refine ft_iconst (v := 2) dX6_canTake_111 rfl ?_
      refine ft_imul dX6_canTake_112 ?_
      refine ft_goto (tgt := 118) dX6_canTake_113 (by decide) ?_
      exact fk_retp hf dX6_canTake_118 rfl rfl
  rcases fq_is hf with ⟨e_68_1, hf⟩ | ⟨e_68_1, hf⟩
  · refine ft_tsIn (tgt := 119) dX6_canTake_68 (by rw [e_68_1]; decide) (by rw [e_68_1]; decide) (by rw [e_68_1]; rfl) (by decide) ?_
    refine ft_iload_n dX6_canTake_119 rfl ?_
    refine ft_bipush (v := 40) dX6_canTake_120 rfl ?_
    refine fk_icmp_le (tgt := 129) dX6_canTake_122 (by decide) hf (fun hf => ?_) (fun hf => ?_)
    · refine ft_iload dX6_canTake_129 rfl ?_
      exact fk_retp hf dX6_canTake_131 rfl rfl
    · refine ft_iconst (v := 0) dX6_canTake_125 rfl ?_
      refine ft_goto (tgt := 131) dX6_canTake_126 (by decide) ?_
      exact fk_retp hf dX6_canTake_131 rfl rfl
  rcases fq_is hf with ⟨e_68_2, hf⟩ | ⟨e_68_2, hf⟩
  · refine ft_tsIn (tgt := 104) dX6_canTake_68 (by rw [e_68_2]; decide) (by rw [e_68_2]; decide) (by rw [e_68_2]; rfl) (by decide) ?_
    refine ft_iload dX6_canTake_104 rfl ?_
    refine fk_if_eq (tgt := 116) dX6_canTake_106 (by decide) hf (fun hf => ?_) (fun hf => ?_)
    · refine ft_iload dX6_canTake_116 rfl ?_
      exact fk_retp hf dX6_canTake_118 rfl rfl
    · refine ft_iload dX6_canTake_109 rfl ?_
      refine ft_iconst (v := 2) dX6_canTake_111 rfl ?_
      refine ft_imul dX6_canTake_112 ?_
      refine ft_goto (tgt := 118) dX6_canTake_113 (by decide) ?_
      exact fk_retp hf dX6_canTake_118 rfl rfl
  rcases fq_is hf with ⟨e_68_3, hf⟩ | ⟨e_68_3, hf⟩
  · refine ft_tsIn (tgt := 132) dX6_canTake_68 (by rw [e_68_3]; decide) (by rw [e_68_3]; decide) (by rw [e_68_3]; rfl) (by decide) ?_
    refine ft_iload_n dX6_canTake_132 rfl ?_
    refine ft_bipush (v := 40) dX6_canTake_133 rfl ?_
    refine fk_icmp_le (tgt := 142) dX6_canTake_135 (by decide) hf (fun hf => ?_) (fun hf => ?_)
    · refine ft_iload_n dX6_canTake_142 rfl ?_
      refine ft_bipush (v := 20) dX6_canTake_143 rfl ?_
      refine fk_icmp_le (tgt := 155) dX6_canTake_145 (by decide) hf (fun hf => ?_) (fun hf => ?_)
      · refine ft_iload dX6_canTake_155 rfl ?_
        exact fk_retp hf dX6_canTake_157 rfl rfl
      · refine ft_iload dX6_canTake_148 rfl ?_
        refine ft_iconst (v := 2) dX6_canTake_150 rfl ?_
        refine ft_idiv dX6_canTake_151 (by decide) ?_
        refine ft_goto (tgt := 157) dX6_canTake_152 (by decide) ?_
        exact fk_retp hf dX6_canTake_157 rfl rfl
    · refine ft_iconst (v := 0) dX6_canTake_138 rfl ?_
      refine ft_goto (tgt := 157) dX6_canTake_139 (by decide) ?_
      exact fk_retp hf dX6_canTake_157 rfl rfl
  rcases fq_is hf with ⟨e_68_4, hf⟩ | ⟨e_68_4, hf⟩
  · refine ft_tsIn (tgt := 158) dX6_canTake_68 (by rw [e_68_4]; decide) (by rw [e_68_4]; decide) (by rw [e_68_4]; rfl) (by decide) ?_
    refine ft_iload dX6_canTake_158 rfl ?_
    refine ft_iconst (v := 3) dX6_canTake_160 rfl ?_
    refine ft_idiv dX6_canTake_161 (by decide) ?_
    exact fk_retp hf dX6_canTake_162 rfl rfl
  refine ft_tsOut (tgt := 163) dX6_canTake_68 (by omega) (by decide) ?_
  refine ft_iload dX6_canTake_163 rfl ?_
  exact fk_retp hf dX6_canTake_165 rfl rfl
set_option maxHeartbeats 4000000 in
set_option maxRecDepth 100000 in
theorem t_X6_canTake_32 {d : Nat} {v : Nat} {r : Int32} {I : fc_I} : ∀ (x1 : Int32) (x2 : Int32) (x3 : Int32) (x4 : Int32) (s0 : Int32) , f_X6_canTake_32 I  x1 x2 x3 x4 s0 = some r → fc_T X6_canTake d 0 0 32 [some (.ref 4), some (.int x1), some (.int x2), some (.int x3), some (.int x4), none, none] [.int s0] fc_SH I (fc_PT v) (fc_Qi fc_SH (fun r' I' P' => r' = r ∧ I' = I ∧ P' = (fc_PT v))) := by
  intro x1 x2 x3 x4 s0 hf
  unfold f_X6_canTake_32 at hf
  refine ft_istore dX6_canTake_32 (by decide) ?_
  refine ft_iload dX6_canTake_34 rfl ?_
  refine fk_if_eq (tgt := 54) dX6_canTake_36 (by decide) hf (fun hf => ?_) (fun hf => ?_)
  · exact ft_forget (by simp [fc_le, fc_st1, fc_st2, fc_kill]) (t_X6_canTake_54    _ _ _ hf)
  · refine ft_iload_n dX6_canTake_39 rfl ?_
    refine ft_aload_n dX6_canTake_40 rfl ?_
    refine ft_getR fl_X6_24 rfl (sh_4) (by decide) pt_4_4 dX6_canTake_41 ?_
    refine ft_iload_n dX6_canTake_44 rfl ?_
    refine fk_iald (sh_9) hf dX6_canTake_45 (fun hf => ?_)
    refine ft_iload dX6_canTake_46 rfl ?_
    refine ft_iadd dX6_canTake_48 ?_
    refine fk_icmp_ge (tgt := 54) dX6_canTake_49 (by decide) hf (fun hf => ?_) (fun hf => ?_)
    · exact ft_forget (by simp [fc_le, fc_st1, fc_st2, fc_kill]) (t_X6_canTake_54    _ _ _ hf)
    · refine ft_iconst (v := 0) dX6_canTake_52 rfl ?_
      exact fk_retp hf dX6_canTake_53 rfl rfl
set_option maxHeartbeats 4000000 in
set_option maxRecDepth 100000 in
theorem t_X6_canTake_15 {d : Nat} {v : Nat} {r : Int32} {I : fc_I} : ∀ (x1 : Int32) (x2 : Int32) (x3 : Int32) (s0 : Int32) , f_X6_canTake_15 I  x1 x2 x3 s0 = some r → fc_T X6_canTake d 0 0 15 [some (.ref 4), some (.int x1), some (.int x2), some (.int x3), none, none, none] [.int s0] fc_SH I (fc_PT v) (fc_Qi fc_SH (fun r' I' P' => r' = r ∧ I' = I ∧ P' = (fc_PT v))) := by
  intro x1 x2 x3 s0 hf
  unfold f_X6_canTake_15 at hf
  refine ft_istore dX6_canTake_15 (by decide) ?_
  refine ft_aload_n dX6_canTake_17 rfl ?_
  refine ft_getR fl_X6_9 rfl (sh_4) (by decide) pt_4_0 dX6_canTake_18 ?_
  refine ft_iload_n dX6_canTake_21 rfl ?_
  refine fk_iald (sh_5) hf dX6_canTake_22 (fun hf => ?_)
  refine ft_iconst (v := 3) dX6_canTake_23 rfl ?_
  refine fk_icmp_ne (tgt := 31) dX6_canTake_24 (by decide) hf (fun hf => ?_) (fun hf => ?_)
  · refine ft_iconst (v := 1) dX6_canTake_31 rfl ?_
    exact ft_forget (by simp [fc_le, fc_st1, fc_st2, fc_kill]) (t_X6_canTake_32    _ _ _ _ _ hf)
  · refine ft_iconst (v := 2) dX6_canTake_27 rfl ?_
    refine ft_goto (tgt := 32) dX6_canTake_28 (by decide) ?_
    exact ft_forget (by simp [fc_le, fc_st1, fc_st2, fc_kill]) (t_X6_canTake_32    _ _ _ _ _ hf)
set_option maxHeartbeats 4000000 in
set_option maxRecDepth 100000 in
theorem t_X6_canTake {d : Nat} {v : Nat} {r : Int32} {I : fc_I} {x1 : Int32} {x2 : Int32} {x3 : Int32} (hf : f_X6_canTake I x1 x2 x3 = some r) : fc_Cp X6_canTake d [.ref 4, .int x1, .int x2, .int x3] fc_SH I (fc_PT v) r := by
  unfold f_X6_canTake at hf
  refine fc_Cp.of (ls := [some (.ref 4), some (.int x1), some (.int x2), some (.int x3), none, none, none]) ⟨rfl, rfl⟩ (Nat.le_of_ble_eq_true rfl) rfl ?_
  refine ft_aload_n dX6_canTake_0 rfl ?_
  refine ft_getR fl_X6_24 rfl (sh_4) (by decide) pt_4_4 dX6_canTake_1 ?_
  refine ft_iload_n dX6_canTake_4 rfl ?_
  refine fk_iald (sh_9) hf dX6_canTake_5 (fun hf => ?_)
  refine ft_iconst (v := (-1)) dX6_canTake_6 rfl ?_
  refine fk_icmp_eq (tgt := 14) dX6_canTake_7 (by decide) hf (fun hf => ?_) (fun hf => ?_)
  · refine ft_iconst (v := 0) dX6_canTake_14 rfl ?_
    exact ft_forget (by simp [fc_le, fc_st1, fc_st2, fc_kill]) (t_X6_canTake_15    _ _ _ _ hf)
  · refine ft_iconst (v := 1) dX6_canTake_10 rfl ?_
    refine ft_goto (tgt := 15) dX6_canTake_11 (by decide) ?_
    exact ft_forget (by simp [fc_le, fc_st1, fc_st2, fc_kill]) (t_X6_canTake_15    _ _ _ _ hf)
def f_X4_openFlow (I : fc_I) (x1 : Int32) (x2 : Int32) (x3 : Int32) : Option Int32 :=
fq_g 14 x1 (
fq_l ((I 7 (cn x1))) fun y9 =>
fq_g 14 x1 (
fq_v (f_X4_isWet I (I 6 (cn x1)) x2 x3) fun r23 =>
if r23.toInt = 0 then (
if y9.toInt < (6 : Int32).toInt then (
fq_v (f_X4_isWet I y9 x2 x3) fun r41 =>
if r41.toInt = 0 then (
fq_g 3 x2 (
fq_g 61 x3 (
fq_v (f_X6_canTake I x1 x3 (I (22 + cn x2) (cn x3))) fun r66 =>
some r66)))
else (
some 0))
else (
fq_g 3 x2 (
fq_g 61 x3 (
fq_v (f_X6_canTake I x1 x3 (I (22 + cn x2) (cn x3))) fun r66 =>
some r66))))
else (
some 0)))
set_option maxHeartbeats 4000000 in
set_option maxRecDepth 100000 in
theorem t_X4_openFlow {d : Nat} {v : Nat} {r : Int32} {I : fc_I} {x1 : Int32} {x2 : Int32} {x3 : Int32} (hf : f_X4_openFlow I x1 x2 x3 = some r) : fc_Cp X4_openFlow (d + 1) [.ref 54, .int x1, .int x2, .int x3] fc_SH I (fc_PT v) r := by
  unfold f_X4_openFlow at hf
  refine fc_Cp.of (ls := [some (.ref 54), some (.int x1), some (.int x2), some (.int x3), none]) ⟨rfl, rfl⟩ (Nat.le_of_ble_eq_true rfl) rfl ?_
  refine ft_aload_n dX4_openFlow_0 rfl ?_
  refine ft_getR fl_X4_22 rfl (sh_54) (by decide) pt_54_1 dX4_openFlow_1 ?_
  refine ft_getR fl_X4_49 rfl (sh_4) (by decide) pt_4_2 dX4_openFlow_4 ?_
  refine ft_iload_n dX4_openFlow_7 rfl ?_
  refine fk_iald (sh_7) hf dX4_openFlow_8 (fun hf => ?_)
  refine ft_istore dX4_openFlow_9 (by decide) ?_
  refine ft_aload_n dX4_openFlow_11 rfl ?_
  refine ft_aload_n dX4_openFlow_12 rfl ?_
  refine ft_getR fl_X4_22 rfl (sh_54) (by decide) pt_54_1 dX4_openFlow_13 ?_
  refine ft_getR fl_X4_54 rfl (sh_4) (by decide) pt_4_1 dX4_openFlow_16 ?_
  refine ft_iload_n dX4_openFlow_19 rfl ?_
  refine fk_iald (sh_6) hf dX4_openFlow_20 (fun hf => ?_)
  refine ft_iload_n dX4_openFlow_21 rfl ?_
  refine ft_iload_n dX4_openFlow_22 rfl ?_
  obtain ⟨r23, hc23, hf⟩ := fq_vs hf
  refine ft_V3p cf_X4_57 (sh_54) (t_X4_isWet hc23) (Nat.le_of_ble_eq_true rfl) dX4_openFlow_23 ?_
  refine fk_if_ne (tgt := 47) dX4_openFlow_26 (by decide) hf (fun hf => ?_) (fun hf => ?_)
  · refine ft_iconst (v := 0) dX4_openFlow_47 rfl ?_
    exact fk_retp hf dX4_openFlow_48 rfl rfl
  · refine ft_iload dX4_openFlow_29 rfl ?_
    refine ft_bipush (v := 6) dX4_openFlow_31 rfl ?_
    refine fk_icmp_ge (tgt := 49) dX4_openFlow_33 (by decide) hf (fun hf => ?_) (fun hf => ?_)
    · refine ft_aload_n dX4_openFlow_49 rfl ?_
      refine ft_getR fl_X4_22 rfl (sh_54) (by decide) pt_54_1 dX4_openFlow_50 ?_
      refine ft_iload_n dX4_openFlow_53 rfl ?_
      refine ft_iload_n dX4_openFlow_54 rfl ?_
      refine ft_aload_n dX4_openFlow_55 rfl ?_
      refine ft_getR fl_X4_30 rfl (sh_54) (by decide) pt_54_3 dX4_openFlow_56 ?_
      refine ft_getR fl_X4_61 rfl (sh_15) (by decide) pt_15_2 dX4_openFlow_59 ?_
      refine ft_iload_n dX4_openFlow_62 rfl ?_
      refine fk_aald (sh_21) hf (fun b => pa_21 b) dX4_openFlow_63 (fun hb63 hf => ?_)
      refine ft_iload_n dX4_openFlow_64 rfl ?_
      refine fk_iald (sa_21 hb63) hf dX4_openFlow_65 (fun hf => ?_)
      obtain ⟨r66, hc66, hf⟩ := fq_vs hf
      refine ft_V3p cf_X4_64 (sh_4) (t_X6_canTake hc66) (Nat.le_of_ble_eq_true rfl) dX4_openFlow_66 ?_
      exact fk_retp hf dX4_openFlow_69 rfl rfl
    · refine ft_aload_n dX4_openFlow_36 rfl ?_
      refine ft_iload dX4_openFlow_37 rfl ?_
      refine ft_iload_n dX4_openFlow_39 rfl ?_
      refine ft_iload_n dX4_openFlow_40 rfl ?_
      obtain ⟨r41, hc41, hf⟩ := fq_vs hf
      refine ft_V3p cf_X4_57 (sh_54) (t_X4_isWet hc41) (Nat.le_of_ble_eq_true rfl) dX4_openFlow_41 ?_
      refine fk_if_eq (tgt := 49) dX4_openFlow_44 (by decide) hf (fun hf => ?_) (fun hf => ?_)
      · refine ft_aload_n dX4_openFlow_49 rfl ?_
        refine ft_getR fl_X4_22 rfl (sh_54) (by decide) pt_54_1 dX4_openFlow_50 ?_
        refine ft_iload_n dX4_openFlow_53 rfl ?_
        refine ft_iload_n dX4_openFlow_54 rfl ?_
        refine ft_aload_n dX4_openFlow_55 rfl ?_
        refine ft_getR fl_X4_30 rfl (sh_54) (by decide) pt_54_3 dX4_openFlow_56 ?_
        refine ft_getR fl_X4_61 rfl (sh_15) (by decide) pt_15_2 dX4_openFlow_59 ?_
        refine ft_iload_n dX4_openFlow_62 rfl ?_
        refine fk_aald (sh_21) hf (fun b => pa_21 b) dX4_openFlow_63 (fun hb63 hf => ?_)
        refine ft_iload_n dX4_openFlow_64 rfl ?_
        refine fk_iald (sa_21 hb63) hf dX4_openFlow_65 (fun hf => ?_)
        obtain ⟨r66, hc66, hf⟩ := fq_vs hf
        refine ft_V3p cf_X4_64 (sh_4) (t_X6_canTake hc66) (Nat.le_of_ble_eq_true rfl) dX4_openFlow_66 ?_
        exact fk_retp hf dX4_openFlow_69 rfl rfl
      · refine ft_iconst (v := 0) dX4_openFlow_47 rfl ?_
        exact fk_retp hf dX4_openFlow_48 rfl rfl
def f_X4_chooseMoving_62 (f : Nat) (x2 : Int32) (k2 : Int32 → fc_I → Option fc_I) (x3 : Int32) (s0 : Int32) (I : fc_I) : Option fc_I :=
fq_g 14 x3 (
fq_l (((I 7 (cn x3)) - 10)) fun y76 =>
fq_v (f_X10_isOutside y76 0 2) fun r82 =>
if r82.toInt = 0 then (
fq_g 3 y76 (
fq_l ((imin s0 (I (f + 5) (cn y76)))) fun y100 =>
fq_g 3 y76 (
fq_g 3 y76 (fq_l (fc_wI I (f + 5) (cn y76) ((I (f + 5) (cn y76)) - y100)) fun I113 =>
fq_g 14 x3 (fq_l (fc_wI I113 56 (cn x3) y100) fun I121 =>
fq_l (x3 + 1) fun y122 =>
k2 y122 I121)))))
else (
fq_g 14 x3 (fq_l (fc_wI I 56 (cn x3) s0) fun I121 =>
fq_l (x3 + 1) fun y122 =>
k2 y122 I121)))
def f_X4_chooseMoving_2_B (f : Nat) (x2 : Int32) (k2 : Int32 → fc_I → Option fc_I) (x3 : Int32) (I : fc_I) : Option fc_I :=
if x3.toInt < (I 4 5).toInt then (
fq_g 14 x3 (
fq_l ((I 6 (cn x3))) fun y22 =>
fq_g 6 y22 (
if (I 3 (cn y22)).toInt = x3.toInt then (
fq_g 6 y22 (
fq_v (f_X4_openFlow I x3 x2 (I f 9)) fun r52 =>
f_X4_chooseMoving_62 f x2 k2 x3 (imin (I (f + 2) (cn y22)) r52) I))
else (
f_X4_chooseMoving_62 f x2 k2 x3 0 I))))
else (
some I)
def f_X4_chooseMoving_2 (f : Nat) (x2 : Int32) (n : Nat) : Int32 → fc_I → Option fc_I := lpm1 (f_X4_chooseMoving_2_B f x2 ) n
def f_X4_chooseMoving (f : Nat) (I : fc_I) (x2 : Int32) : Option fc_I :=
f_X4_chooseMoving_2 f x2 4000 0 I
set_option maxHeartbeats 4000000 in
set_option maxRecDepth 100000 in
theorem t_X4_chooseMoving_62 {d : Nat} {v : Nat} {f : Nat} {J : fc_I} {x2 : Int32} {k2 : Int32 → fc_I → Option fc_I} (hF : f = 45 ∨ f = 58) (hk2 : ∀ (x3 : Int32) (I : fc_I), k2 x3 I = some J → fc_T X4_chooseMoving (d + 2) 0 0 2 [some (.ref 54), some (.ref f), some (.int x2), some (.int x3), none, none, none] [] fc_SH I (fc_PT v) (fc_Qv fc_SH (fun I' P' => I' = J ∧ P' = (fc_PT v)))) : ∀ (x3 : Int32) (s0 : Int32) (I : fc_I) , f_X4_chooseMoving_62 f x2 k2  x3 s0 I = some J → fc_T X4_chooseMoving (d + 2) 0 0 62 [some (.ref 54), some (.ref f), some (.int x2), some (.int x3), none, none, none] [.int s0] fc_SH I (fc_PT v) (fc_Qv fc_SH (fun I' P' => I' = J ∧ P' = (fc_PT v))) := by
  intro x3 s0 I hf
  unfold f_X4_chooseMoving_62 at hf
  refine ft_istore dX4_chooseMoving_62 (by decide) ?_
  refine ft_aload_n dX4_chooseMoving_64 rfl ?_
  refine ft_getR fl_X4_22 rfl (sh_54) (by decide) pt_54_1 dX4_chooseMoving_65 ?_
  refine ft_getR fl_X4_49 rfl (sh_4) (by decide) pt_4_2 dX4_chooseMoving_68 ?_
  refine ft_iload_n dX4_chooseMoving_71 rfl ?_
  refine fk_iald (sh_7) hf dX4_chooseMoving_72 (fun hf => ?_)
  refine ft_bipush (v := 10) dX4_chooseMoving_73 rfl ?_
  refine ft_isub dX4_chooseMoving_75 ?_
  refine ft_istore dX4_chooseMoving_76 (by decide) ?_
  refine ft_iload dX4_chooseMoving_78 rfl ?_
  refine ft_iconst (v := 0) dX4_chooseMoving_80 rfl ?_
  refine ft_iconst (v := 2) dX4_chooseMoving_81 rfl ?_
  obtain ⟨r82, hc82, hf⟩ := fq_vs hf
  refine ft_SN3p cf_X4_138 (t_X10_isOutside hc82) (Nat.le_of_ble_eq_true rfl) dX4_chooseMoving_82 ?_
  refine fk_if_ne (tgt := 114) dX4_chooseMoving_85 (by decide) hf (fun hf => ?_) (fun hf => ?_)
  · refine ft_aload_n dX4_chooseMoving_114 rfl ?_
    refine ft_getR fl_X4_15 rfl (sh_54) (by decide) pt_54_6 dX4_chooseMoving_115 ?_
    refine ft_iload_n dX4_chooseMoving_118 rfl ?_
    refine ft_iload dX4_chooseMoving_119 rfl ?_
    refine fk_iast (sh_56) hf dX4_chooseMoving_121 (fun hf => ?_)
    refine fk_iinc (c := 1) dX4_chooseMoving_122 rfl (by decide) rfl ?_
    refine ft_goto (tgt := 2) dX4_chooseMoving_125 (by decide) ?_
    exact ft_forget (by simp [fc_le, fc_st1, fc_st2, fc_kill]) (hk2 _ _ hf)
  · refine ft_iload dX4_chooseMoving_88 rfl ?_
    refine ft_aload_n dX4_chooseMoving_90 rfl ?_
    refine ft_getR fl_X4_141 rfl ((shf_0 hF)) (by decide) (ptf_4 hF) dX4_chooseMoving_91 ?_
    refine ft_iload dX4_chooseMoving_94 rfl ?_
    refine fk_iald ((shf_5 hF)) hf dX4_chooseMoving_96 (fun hf => ?_)
    refine ft_mmin cf_X4_120 (Nat.le_of_ble_eq_true rfl) dX4_chooseMoving_97 ?_
    refine ft_istore dX4_chooseMoving_100 (by decide) ?_
    refine ft_aload_n dX4_chooseMoving_102 rfl ?_
    refine ft_getR fl_X4_141 rfl ((shf_0 hF)) (by decide) (ptf_4 hF) dX4_chooseMoving_103 ?_
    refine ft_iload dX4_chooseMoving_106 rfl ?_
    refine ft_dup2 dX4_chooseMoving_108 rfl rfl ?_
    refine fk_iald ((shf_5 hF)) hf dX4_chooseMoving_109 (fun hf => ?_)
    refine ft_iload dX4_chooseMoving_110 rfl ?_
    refine ft_isub dX4_chooseMoving_112 ?_
    refine fk_iast ((shf_5 hF)) hf dX4_chooseMoving_113 (fun hf => ?_)
    refine ft_aload_n dX4_chooseMoving_114 rfl ?_
    refine ft_getR fl_X4_15 rfl (sh_54) (by decide) pt_54_6 dX4_chooseMoving_115 ?_
    refine ft_iload_n dX4_chooseMoving_118 rfl ?_
    refine ft_iload dX4_chooseMoving_119 rfl ?_
    refine fk_iast (sh_56) hf dX4_chooseMoving_121 (fun hf => ?_)
    refine fk_iinc (c := 1) dX4_chooseMoving_122 rfl (by decide) rfl ?_
    refine ft_goto (tgt := 2) dX4_chooseMoving_125 (by decide) ?_
    exact ft_forget (by simp [fc_le, fc_st1, fc_st2, fc_kill]) (hk2 _ _ hf)
set_option maxHeartbeats 4000000 in
set_option maxRecDepth 100000 in
theorem t_X4_chooseMoving_2 {d : Nat} {v : Nat} {f : Nat} {J : fc_I} {x2 : Int32} (hF : f = 45 ∨ f = 58) : ∀ (n : Nat) (x3 : Int32) (I : fc_I) , f_X4_chooseMoving_2 f x2 n x3 I = some J → fc_T X4_chooseMoving (d + 2) 0 0 2 [some (.ref 54), some (.ref f), some (.int x2), some (.int x3), none, none, none] [] fc_SH I (fc_PT v) (fc_Qv fc_SH (fun I' P' => I' = J ∧ P' = (fc_PT v))) := by
  unfold f_X4_chooseMoving_2
  refine lpm1_T (fun k2 hk2 x3 I hf => ?_)
  unfold f_X4_chooseMoving_2_B at hf
  refine ft_iload_n dX4_chooseMoving_2 rfl ?_
  refine ft_aload_n dX4_chooseMoving_3 rfl ?_
  refine ft_getR fl_X4_22 rfl (sh_54) (by decide) pt_54_1 dX4_chooseMoving_4 ?_
  refine ft_getI fl_X4_129 rfl (sh_4) (by decide) dX4_chooseMoving_7 ?_
  refine fk_icmp_ge (tgt := 128) dX4_chooseMoving_10 (by decide) hf (fun hf => ?_) (fun hf => ?_)
  · exact fk_retv hf dX4_chooseMoving_128 rfl
  · refine ft_aload_n dX4_chooseMoving_13 rfl ?_
    refine ft_getR fl_X4_22 rfl (sh_54) (by decide) pt_54_1 dX4_chooseMoving_14 ?_
    refine ft_getR fl_X4_54 rfl (sh_4) (by decide) pt_4_1 dX4_chooseMoving_17 ?_
    refine ft_iload_n dX4_chooseMoving_20 rfl ?_
    refine fk_iald (sh_6) hf dX4_chooseMoving_21 (fun hf => ?_)
    refine ft_istore dX4_chooseMoving_22 (by decide) ?_
    refine ft_aload_n dX4_chooseMoving_24 rfl ?_
    refine ft_getR fl_X4_18 rfl (sh_54) (by decide) pt_54_0 dX4_chooseMoving_25 ?_
    refine ft_getR fl_X4_132 rfl (sh_1) (by decide) pt_1_1 dX4_chooseMoving_28 ?_
    refine ft_iload dX4_chooseMoving_31 rfl ?_
    refine fk_iald (sh_3) hf dX4_chooseMoving_33 (fun hf => ?_)
    refine ft_iload_n dX4_chooseMoving_34 rfl ?_
    refine fk_icmp_ne (tgt := 61) dX4_chooseMoving_35 (by decide) hf (fun hf => ?_) (fun hf => ?_)
    · refine ft_iconst (v := 0) dX4_chooseMoving_61 rfl ?_
      exact ft_forget (by simp [fc_le, fc_st1, fc_st2, fc_kill]) (t_X4_chooseMoving_62 hF hk2  _ _ _ hf)
    · refine ft_aload_n dX4_chooseMoving_38 rfl ?_
      refine ft_getR fl_X4_77 rfl ((shf_0 hF)) (by decide) (ptf_1 hF) dX4_chooseMoving_39 ?_
      refine ft_iload dX4_chooseMoving_42 rfl ?_
      refine fk_iald ((shf_2 hF)) hf dX4_chooseMoving_44 (fun hf => ?_)
      refine ft_aload_n dX4_chooseMoving_45 rfl ?_
      refine ft_iload_n dX4_chooseMoving_46 rfl ?_
      refine ft_iload_n dX4_chooseMoving_47 rfl ?_
      refine ft_aload_n dX4_chooseMoving_48 rfl ?_
      refine ft_getI fl_X4_87 rfl ((shf_0 hF)) (by decide) dX4_chooseMoving_49 ?_
      obtain ⟨r52, hc52, hf⟩ := fq_vs hf
      refine ft_V3p cf_X4_135 (sh_54) (t_X4_openFlow hc52) (Nat.le_of_ble_eq_true rfl) dX4_chooseMoving_52 ?_
      refine ft_mmin cf_X4_120 (Nat.le_of_ble_eq_true rfl) dX4_chooseMoving_55 ?_
      refine ft_goto (tgt := 62) dX4_chooseMoving_58 (by decide) ?_
      exact ft_forget (by simp [fc_le, fc_st1, fc_st2, fc_kill]) (t_X4_chooseMoving_62 hF hk2  _ _ _ hf)
set_option maxHeartbeats 4000000 in
set_option maxRecDepth 100000 in
theorem t_X4_chooseMoving {d : Nat} {v : Nat} {f : Nat} {J : fc_I} {I : fc_I} {x2 : Int32} (hF : f = 45 ∨ f = 58) (hf : f_X4_chooseMoving f I x2 = some J) : fc_Cv X4_chooseMoving (d + 2) [.ref 54, .ref f, .int x2] fc_SH I (fc_PT v) (fun I' P' => I' = J ∧ P' = (fc_PT v)) := by
  unfold f_X4_chooseMoving at hf
  refine fc_Cv.of (ls := [some (.ref 54), some (.ref f), some (.int x2), none, none, none, none]) ⟨rfl, rfl⟩ (Nat.le_of_ble_eq_true rfl) rfl ?_
  refine ft_iconst (v := 0) dX4_chooseMoving_0 rfl ?_
  refine ft_istore_n dX4_chooseMoving_1 (by decide) ?_
  exact ft_forget (by simp [fc_le, fc_st1, fc_st2, fc_kill]) (t_X4_chooseMoving_2 hF  _ _ _ hf)
def f_X4_freeBuses_2_B (f : Nat) (k2 : Int32 → fc_I → Option fc_I) (x2 : Int32) (I : fc_I) : Option fc_I :=
if x2.toInt < (I 10 4).toInt then (
fq_g 4 x2 (
if (I (f + 8) (cn x2)).toInt = (I f 9).toInt then (
fq_g 4 x2 (
fq_g 3 (I 12 (cn x2)) (
fq_g 4 x2 (
fq_g 3 (I 12 (cn x2)) (fq_l (fc_wI I (f + 6) (cn (I 12 (cn x2))) ((I (f + 6) (cn (I 12 (cn x2)))) + (I (f + 7) (cn x2)))) fun I48 =>
fq_g 4 x2 (fq_l (fc_wI I48 (f + 7) (cn x2) 0) fun I55 =>
fq_g 4 x2 (fq_l (fc_wI I55 (f + 8) (cn x2) (-1)) fun I62 =>
fq_l (x2 + 1) fun y63 =>
k2 y63 I62)))))))
else (
fq_l (x2 + 1) fun y63 =>
k2 y63 I)))
else (
some I)
def f_X4_freeBuses_2 (f : Nat) (n : Nat) : Int32 → fc_I → Option fc_I := lpm1 (f_X4_freeBuses_2_B f ) n
def f_X4_freeBuses (f : Nat) (I : fc_I) : Option fc_I :=
f_X4_freeBuses_2 f  4000 0 I
set_option maxHeartbeats 4000000 in
set_option maxRecDepth 100000 in
theorem t_X4_freeBuses_2 {d : Nat} {v : Nat} {f : Nat} {J : fc_I} (hF : f = 45 ∨ f = 58) : ∀ (n : Nat) (x2 : Int32) (I : fc_I) , f_X4_freeBuses_2 f n x2 I = some J → fc_T X4_freeBuses d 0 0 2 [some (.ref 54), some (.ref f), some (.int x2)] [] fc_SH I (fc_PT v) (fc_Qv fc_SH (fun I' P' => I' = J ∧ P' = (fc_PT v))) := by
  unfold f_X4_freeBuses_2
  refine lpm1_T (fun k2 hk2 x2 I hf => ?_)
  unfold f_X4_freeBuses_2_B at hf
  refine ft_iload_n dX4_freeBuses_2 rfl ?_
  refine ft_aload_n dX4_freeBuses_3 rfl ?_
  refine ft_getR fl_X4_26 rfl (sh_54) (by decide) pt_54_2 dX4_freeBuses_4 ?_
  refine ft_getI fl_X4_150 rfl (sh_10) (by decide) dX4_freeBuses_7 ?_
  refine fk_icmp_ge (tgt := 69) dX4_freeBuses_10 (by decide) hf (fun hf => ?_) (fun hf => ?_)
  · exact fk_retv hf dX4_freeBuses_69 rfl
  · refine ft_aload_n dX4_freeBuses_13 rfl ?_
    refine ft_getR fl_X4_162 rfl ((shf_0 hF)) (by decide) (ptf_7 hF) dX4_freeBuses_14 ?_
    refine ft_iload_n dX4_freeBuses_17 rfl ?_
    refine fk_iald ((shf_8 hF)) hf dX4_freeBuses_18 (fun hf => ?_)
    refine ft_aload_n dX4_freeBuses_19 rfl ?_
    refine ft_getI fl_X4_87 rfl ((shf_0 hF)) (by decide) dX4_freeBuses_20 ?_
    refine fk_icmp_ne (tgt := 63) dX4_freeBuses_23 (by decide) hf (fun hf => ?_) (fun hf => ?_)
    · refine fk_iinc (c := 1) dX4_freeBuses_63 rfl (by decide) rfl ?_
      refine ft_goto (tgt := 2) dX4_freeBuses_66 (by decide) ?_
      exact ft_forget (by simp [fc_le, fc_st1, fc_st2, fc_kill]) (hk2 _ _ hf)
    · refine ft_aload_n dX4_freeBuses_26 rfl ?_
      refine ft_getR fl_X4_144 rfl ((shf_0 hF)) (by decide) (ptf_5 hF) dX4_freeBuses_27 ?_
      refine ft_aload_n dX4_freeBuses_30 rfl ?_
      refine ft_getR fl_X4_26 rfl (sh_54) (by decide) pt_54_2 dX4_freeBuses_31 ?_
      refine ft_getR fl_X4_156 rfl (sh_10) (by decide) pt_10_1 dX4_freeBuses_34 ?_
      refine ft_iload_n dX4_freeBuses_37 rfl ?_
      refine fk_iald (sh_12) hf dX4_freeBuses_38 (fun hf => ?_)
      refine ft_dup2 dX4_freeBuses_39 rfl rfl ?_
      refine fk_iald ((shf_6 hF)) hf dX4_freeBuses_40 (fun hf => ?_)
      refine ft_aload_n dX4_freeBuses_41 rfl ?_
      refine ft_getR fl_X4_165 rfl ((shf_0 hF)) (by decide) (ptf_6 hF) dX4_freeBuses_42 ?_
      refine ft_iload_n dX4_freeBuses_45 rfl ?_
      refine fk_iald ((shf_7 hF)) hf dX4_freeBuses_46 (fun hf => ?_)
      refine ft_iadd dX4_freeBuses_47 ?_
      refine fk_iast ((shf_6 hF)) hf dX4_freeBuses_48 (fun hf => ?_)
      refine ft_aload_n dX4_freeBuses_49 rfl ?_
      refine ft_getR fl_X4_165 rfl ((shf_0 hF)) (by decide) (ptf_6 hF) dX4_freeBuses_50 ?_
      refine ft_iload_n dX4_freeBuses_53 rfl ?_
      refine ft_iconst (v := 0) dX4_freeBuses_54 rfl ?_
      refine fk_iast ((shf_7 hF)) hf dX4_freeBuses_55 (fun hf => ?_)
      refine ft_aload_n dX4_freeBuses_56 rfl ?_
      refine ft_getR fl_X4_162 rfl ((shf_0 hF)) (by decide) (ptf_7 hF) dX4_freeBuses_57 ?_
      refine ft_iload_n dX4_freeBuses_60 rfl ?_
      refine ft_iconst (v := (-1)) dX4_freeBuses_61 rfl ?_
      refine fk_iast ((shf_8 hF)) hf dX4_freeBuses_62 (fun hf => ?_)
      refine fk_iinc (c := 1) dX4_freeBuses_63 rfl (by decide) rfl ?_
      refine ft_goto (tgt := 2) dX4_freeBuses_66 (by decide) ?_
      exact ft_forget (by simp [fc_le, fc_st1, fc_st2, fc_kill]) (hk2 _ _ hf)
set_option maxHeartbeats 4000000 in
set_option maxRecDepth 100000 in
theorem t_X4_freeBuses {d : Nat} {v : Nat} {f : Nat} {J : fc_I} {I : fc_I} (hF : f = 45 ∨ f = 58) (hf : f_X4_freeBuses f I = some J) : fc_Cv X4_freeBuses d [.ref 54, .ref f] fc_SH I (fc_PT v) (fun I' P' => I' = J ∧ P' = (fc_PT v)) := by
  unfold f_X4_freeBuses at hf
  refine fc_Cv.of (ls := [some (.ref 54), some (.ref f), none]) ⟨rfl, rfl⟩ (Nat.le_of_ble_eq_true rfl) rfl ?_
  refine ft_iconst (v := 0) dX4_freeBuses_0 rfl ?_
  refine ft_istore_n dX4_freeBuses_1 (by decide) ?_
  exact ft_forget (by simp [fc_le, fc_st1, fc_st2, fc_kill]) (t_X4_freeBuses_2 hF  _ _ _ hf)
def f_X4_move_2_B (f : Nat) (k2 : Int32 → fc_I → Option fc_I) (x2 : Int32) (I : fc_I) : Option fc_I :=
if x2.toInt < (I 4 5).toInt then (
fq_g 14 x2 (
fq_l ((I 56 (cn x2))) fun y19 =>
fq_g 14 x2 (
fq_l ((I 7 (cn x2))) fun y29 =>
fq_g 14 x2 (
fq_g 6 (I 6 (cn x2)) (
fq_g 6 (I 6 (cn x2)) (fq_l (fc_wI I (f + 2) (cn (I 6 (cn x2))) ((I (f + 2) (cn (I 6 (cn x2)))) - y19)) fun I48 =>
if y29.toInt < (6 : Int32).toInt then (
fq_g 6 y29 (
fq_g 6 y29 (fq_l (fc_wI I48 (f + 2) (cn y29) ((I48 (f + 2) (cn y29)) + y19)) fun I66 =>
fq_l (x2 + 1) fun y104 =>
k2 y104 I66)))
else (
if y29.toInt < (20 : Int32).toInt then (
fq_g 3 (y29 - 10) (
fq_g 3 (y29 - 10) (fq_l (fc_wI I48 (f + 6) (cn (y29 - 10)) ((I48 (f + 6) (cn (y29 - 10))) + y19)) fun I90 =>
fq_l (x2 + 1) fun y104 =>
k2 y104 I90)))
else (
fq_l (fc_wI I48 f 8 ((I48 f 8) + y19)) fun I101 =>
fq_l (x2 + 1) fun y104 =>
k2 y104 I101))))))))
else (
some I)
def f_X4_move_2 (f : Nat) (n : Nat) : Int32 → fc_I → Option fc_I := lpm1 (f_X4_move_2_B f ) n
def f_X4_move (f : Nat) (I : fc_I) : Option fc_I :=
f_X4_move_2 f  4000 0 I
set_option maxHeartbeats 4000000 in
set_option maxRecDepth 100000 in
theorem t_X4_move_2 {d : Nat} {v : Nat} {f : Nat} {J : fc_I} (hF : f = 45 ∨ f = 58) : ∀ (n : Nat) (x2 : Int32) (I : fc_I) , f_X4_move_2 f n x2 I = some J → fc_T X4_move d 0 0 2 [some (.ref 54), some (.ref f), some (.int x2), none, none] [] fc_SH I (fc_PT v) (fc_Qv fc_SH (fun I' P' => I' = J ∧ P' = (fc_PT v))) := by
  unfold f_X4_move_2
  refine lpm1_T (fun k2 hk2 x2 I hf => ?_)
  unfold f_X4_move_2_B at hf
  refine ft_iload_n dX4_move_2 rfl ?_
  refine ft_aload_n dX4_move_3 rfl ?_
  refine ft_getR fl_X4_22 rfl (sh_54) (by decide) pt_54_1 dX4_move_4 ?_
  refine ft_getI fl_X4_129 rfl (sh_4) (by decide) dX4_move_7 ?_
  refine fk_icmp_ge (tgt := 110) dX4_move_10 (by decide) hf (fun hf => ?_) (fun hf => ?_)
  · exact fk_retv hf dX4_move_110 rfl
  · refine ft_aload_n dX4_move_13 rfl ?_
    refine ft_getR fl_X4_15 rfl (sh_54) (by decide) pt_54_6 dX4_move_14 ?_
    refine ft_iload_n dX4_move_17 rfl ?_
    refine fk_iald (sh_56) hf dX4_move_18 (fun hf => ?_)
    refine ft_istore_n dX4_move_19 (by decide) ?_
    refine ft_aload_n dX4_move_20 rfl ?_
    refine ft_getR fl_X4_22 rfl (sh_54) (by decide) pt_54_1 dX4_move_21 ?_
    refine ft_getR fl_X4_49 rfl (sh_4) (by decide) pt_4_2 dX4_move_24 ?_
    refine ft_iload_n dX4_move_27 rfl ?_
    refine fk_iald (sh_7) hf dX4_move_28 (fun hf => ?_)
    refine ft_istore dX4_move_29 (by decide) ?_
    refine ft_aload_n dX4_move_31 rfl ?_
    refine ft_getR fl_X4_77 rfl ((shf_0 hF)) (by decide) (ptf_1 hF) dX4_move_32 ?_
    refine ft_aload_n dX4_move_35 rfl ?_
    refine ft_getR fl_X4_22 rfl (sh_54) (by decide) pt_54_1 dX4_move_36 ?_
    refine ft_getR fl_X4_54 rfl (sh_4) (by decide) pt_4_1 dX4_move_39 ?_
    refine ft_iload_n dX4_move_42 rfl ?_
    refine fk_iald (sh_6) hf dX4_move_43 (fun hf => ?_)
    refine ft_dup2 dX4_move_44 rfl rfl ?_
    refine fk_iald ((shf_2 hF)) hf dX4_move_45 (fun hf => ?_)
    refine ft_iload_n dX4_move_46 rfl ?_
    refine ft_isub dX4_move_47 ?_
    refine fk_iast ((shf_2 hF)) hf dX4_move_48 (fun hf => ?_)
    refine ft_iload dX4_move_49 rfl ?_
    refine ft_bipush (v := 6) dX4_move_51 rfl ?_
    refine fk_icmp_ge (tgt := 70) dX4_move_53 (by decide) hf (fun hf => ?_) (fun hf => ?_)
    · refine ft_iload dX4_move_70 rfl ?_
      refine ft_bipush (v := 20) dX4_move_72 rfl ?_
      refine fk_icmp_ge (tgt := 94) dX4_move_74 (by decide) hf (fun hf => ?_) (fun hf => ?_)
      · refine ft_aload_n dX4_move_94 rfl ?_
        refine ft_dup dX4_move_95 rfl ?_
        refine ft_getI fl_X4_147 rfl ((shf_0 hF)) (by decide) dX4_move_96 ?_
        refine ft_iload_n dX4_move_99 rfl ?_
        refine ft_iadd dX4_move_100 ?_
        refine ft_putI fl_X4_147 rfl (fun q h => by cases h; rfl) ((shf_0 hF)) (by decide) dX4_move_101 ?_
        refine fk_iinc (c := 1) dX4_move_104 rfl (by decide) rfl ?_
        refine ft_goto (tgt := 2) dX4_move_107 (by decide) ?_
        exact ft_forget (by simp [fc_le, fc_st1, fc_st2, fc_kill]) (hk2 _ _ hf)
      · refine ft_aload_n dX4_move_77 rfl ?_
        refine ft_getR fl_X4_144 rfl ((shf_0 hF)) (by decide) (ptf_5 hF) dX4_move_78 ?_
        refine ft_iload dX4_move_81 rfl ?_
        refine ft_bipush (v := 10) dX4_move_83 rfl ?_
        refine ft_isub dX4_move_85 ?_
        refine ft_dup2 dX4_move_86 rfl rfl ?_
        refine fk_iald ((shf_6 hF)) hf dX4_move_87 (fun hf => ?_)
        refine ft_iload_n dX4_move_88 rfl ?_
        refine ft_iadd dX4_move_89 ?_
        refine fk_iast ((shf_6 hF)) hf dX4_move_90 (fun hf => ?_)
        refine ft_goto (tgt := 104) dX4_move_91 (by decide) ?_
        refine fk_iinc (c := 1) dX4_move_104 rfl (by decide) rfl ?_
        refine ft_goto (tgt := 2) dX4_move_107 (by decide) ?_
        exact ft_forget (by simp [fc_le, fc_st1, fc_st2, fc_kill]) (hk2 _ _ hf)
    · refine ft_aload_n dX4_move_56 rfl ?_
      refine ft_getR fl_X4_77 rfl ((shf_0 hF)) (by decide) (ptf_1 hF) dX4_move_57 ?_
      refine ft_iload dX4_move_60 rfl ?_
      refine ft_dup2 dX4_move_62 rfl rfl ?_
      refine fk_iald ((shf_2 hF)) hf dX4_move_63 (fun hf => ?_)
      refine ft_iload_n dX4_move_64 rfl ?_
      refine ft_iadd dX4_move_65 ?_
      refine fk_iast ((shf_2 hF)) hf dX4_move_66 (fun hf => ?_)
      refine ft_goto (tgt := 104) dX4_move_67 (by decide) ?_
      refine fk_iinc (c := 1) dX4_move_104 rfl (by decide) rfl ?_
      refine ft_goto (tgt := 2) dX4_move_107 (by decide) ?_
      exact ft_forget (by simp [fc_le, fc_st1, fc_st2, fc_kill]) (hk2 _ _ hf)
set_option maxHeartbeats 4000000 in
set_option maxRecDepth 100000 in
theorem t_X4_move {d : Nat} {v : Nat} {f : Nat} {J : fc_I} {I : fc_I} (hF : f = 45 ∨ f = 58) (hf : f_X4_move f I = some J) : fc_Cv X4_move d [.ref 54, .ref f] fc_SH I (fc_PT v) (fun I' P' => I' = J ∧ P' = (fc_PT v)) := by
  unfold f_X4_move at hf
  refine fc_Cv.of (ls := [some (.ref 54), some (.ref f), none, none, none]) ⟨rfl, rfl⟩ (Nat.le_of_ble_eq_true rfl) rfl ?_
  refine ft_iconst (v := 0) dX4_move_0 rfl ?_
  refine ft_istore_n dX4_move_1 (by decide) ?_
  exact ft_forget (by simp [fc_le, fc_st1, fc_st2, fc_kill]) (t_X4_move_2 hF  _ _ _ hf)
def f_X4_setOut_2_B (f : Nat) (x2 : Int32) (k2 : Int32 → fc_I → Option fc_I) (x3 : Int32) (I : fc_I) : Option fc_I :=
if x3.toInt < (I 1 2).toInt then (
fq_g 6 x3 (
if (I (f + 1) (cn x3)).toInt = 0 then (
fq_l (x3 + 1) fun y127 =>
k2 y127 I)
else (
fq_v (f_X2_isCalled f I x3) fun r24 =>
if r24.toInt = 0 then (
fq_l (x3 + 1) fun y127 =>
k2 y127 I)
else (
fq_v (f_X4_isWet I x3 x2 (I f 9)) fun r37 =>
if r37.toInt = 0 then (
fq_u (f_X4_gather f I x3 x2) fun I50 =>
fq_b (f_X0_worth I50 1) fun r62 I62 =>
if r62.toInt = 0 then (
fq_b (f_X0_worth I62 0) fun r80 I80 =>
fq_l ((imax 0 (imin 100 r80))) fun y89 =>
fq_g 6 x3 (
fq_l ((((I80 (f + 1) (cn x3)) * y89) / 100)) fun y103 =>
fq_g 6 x3 (
fq_g 6 x3 (fq_l (fc_wI I80 (f + 1) (cn x3) ((I80 (f + 1) (cn x3)) - y103)) fun I115 =>
fq_g 6 x3 (
fq_g 6 x3 (fq_l (fc_wI I115 (f + 2) (cn x3) ((I115 (f + 2) (cn x3)) + y103)) fun I126 =>
fq_l (x3 + 1) fun y127 =>
k2 y127 I126))))))
else (
fq_l (x3 + 1) fun y127 =>
k2 y127 I62))
else (
fq_l (x3 + 1) fun y127 =>
k2 y127 I)))))
else (
some I)
def f_X4_setOut_2 (f : Nat) (x2 : Int32) (n : Nat) : Int32 → fc_I → Option fc_I := lpm1 (f_X4_setOut_2_B f x2 ) n
def f_X4_setOut (f : Nat) (I : fc_I) (x2 : Int32) : Option fc_I :=
f_X4_setOut_2 f x2 4000 0 I
set_option maxHeartbeats 4000000 in
set_option maxRecDepth 100000 in
theorem t_X4_setOut_2 {d : Nat} {v : Nat} {f : Nat} {J : fc_I} {x2 : Int32} (hv : fc_v v) (hF : f = 45 ∨ f = 58) : ∀ (n : Nat) (x3 : Int32) (I : fc_I) , f_X4_setOut_2 f x2 n x3 I = some J → fc_T X4_setOut (d + 2) 0 0 2 [some (.ref 54), some (.ref f), some (.int x2), some (.int x3), none, none] [] fc_SH I (fc_PT v) (fc_Qv fc_SH (fun I' P' => I' = J ∧ P' = (fc_PT v))) := by
  unfold f_X4_setOut_2
  refine lpm1_T (fun k2 hk2 x3 I hf => ?_)
  unfold f_X4_setOut_2_B at hf
  refine ft_iload_n dX4_setOut_2 rfl ?_
  refine ft_aload_n dX4_setOut_3 rfl ?_
  refine ft_getR fl_X4_18 rfl (sh_54) (by decide) pt_54_0 dX4_setOut_4 ?_
  refine ft_getI fl_X4_68 rfl (sh_1) (by decide) dX4_setOut_7 ?_
  refine fk_icmp_ge (tgt := 133) dX4_setOut_10 (by decide) hf (fun hf => ?_) (fun hf => ?_)
  · exact fk_retv hf dX4_setOut_133 rfl
  · refine ft_aload_n dX4_setOut_13 rfl ?_
    refine ft_getR fl_X4_72 rfl ((shf_0 hF)) (by decide) (ptf_0 hF) dX4_setOut_14 ?_
    refine ft_iload_n dX4_setOut_17 rfl ?_
    refine fk_iald ((shf_1 hF)) hf dX4_setOut_18 (fun hf => ?_)
    refine fk_if_eq (tgt := 127) dX4_setOut_19 (by decide) hf (fun hf => ?_) (fun hf => ?_)
    · refine fk_iinc (c := 1) dX4_setOut_127 rfl (by decide) rfl ?_
      refine ft_goto (tgt := 2) dX4_setOut_130 (by decide) ?_
      exact ft_forget (by simp [fc_le, fc_st1, fc_st2, fc_kill]) (hk2 _ _ hf)
    · refine ft_aload_n dX4_setOut_22 rfl ?_
      refine ft_iload_n dX4_setOut_23 rfl ?_
      obtain ⟨r24, hc24, hf⟩ := fq_vs hf
      refine ft_V1p cf_X4_83 ((shf_0 hF)) (t_X2_isCalled hF hc24) (Nat.le_of_ble_eq_true rfl) dX4_setOut_24 ?_
      refine fk_if_eq (tgt := 127) dX4_setOut_27 (by decide) hf (fun hf => ?_) (fun hf => ?_)
      · refine fk_iinc (c := 1) dX4_setOut_127 rfl (by decide) rfl ?_
        refine ft_goto (tgt := 2) dX4_setOut_130 (by decide) ?_
        exact ft_forget (by simp [fc_le, fc_st1, fc_st2, fc_kill]) (hk2 _ _ hf)
      · refine ft_aload_n dX4_setOut_30 rfl ?_
        refine ft_iload_n dX4_setOut_31 rfl ?_
        refine ft_iload_n dX4_setOut_32 rfl ?_
        refine ft_aload_n dX4_setOut_33 rfl ?_
        refine ft_getI fl_X4_87 rfl ((shf_0 hF)) (by decide) dX4_setOut_34 ?_
        obtain ⟨r37, hc37, hf⟩ := fq_vs hf
        refine ft_V3p cf_X4_57 (sh_54) (t_X4_isWet hc37) (Nat.le_of_ble_eq_true rfl) dX4_setOut_37 ?_
        refine fk_if_eq (tgt := 46) dX4_setOut_40 (by decide) hf (fun hf => ?_) (fun hf => ?_)
        · refine ft_aload_n dX4_setOut_46 rfl ?_
          refine ft_aload_n dX4_setOut_47 rfl ?_
          refine ft_iload_n dX4_setOut_48 rfl ?_
          refine ft_iload_n dX4_setOut_49 rfl ?_
          obtain ⟨I50, hc50, hf⟩ := fq_us hf
          refine ft_V3v cf_X4_110 (sh_54) (t_X4_gather hF hc50) (Nat.le_of_ble_eq_true rfl) dX4_setOut_50 (fun J P' q => ?_)
          obtain ⟨rfl, rfl⟩ := q
          refine ft_aload_n dX4_setOut_53 rfl ?_
          refine ft_getR fl_X4_34 rfl (sh_54) (by decide) pt_54_4 dX4_setOut_54 ?_
          refine ft_iconst (v := 1) dX4_setOut_57 rfl ?_
          refine ft_aload_n dX4_setOut_58 rfl ?_
          refine ft_getR fl_X4_9 rfl (sh_54) (by decide) pt_54_5 dX4_setOut_59 ?_
          obtain ⟨r62, I62, hc62, hf⟩ := fq_bs hf
          refine ft_V2i cf_X4_114 (sh_31) (t_X0_worth hv hc62) (Nat.le_of_ble_eq_true rfl) dX4_setOut_62 (fun r' J P' q => ?_)
          obtain ⟨rfl, rfl, rfl⟩ := q
          refine fk_if_ne (tgt := 127) dX4_setOut_65 (by decide) hf (fun hf => ?_) (fun hf => ?_)
          · refine fk_iinc (c := 1) dX4_setOut_127 rfl (by decide) rfl ?_
            refine ft_goto (tgt := 2) dX4_setOut_130 (by decide) ?_
            exact ft_forget (by simp [fc_le, fc_st1, fc_st2, fc_kill]) (hk2 _ _ hf)
          · refine ft_iconst (v := 0) dX4_setOut_68 rfl ?_
            refine ft_bipush (v := 100) dX4_setOut_69 rfl ?_
            refine ft_aload_n dX4_setOut_71 rfl ?_
            refine ft_getR fl_X4_34 rfl (sh_54) (by decide) pt_54_4 dX4_setOut_72 ?_
            refine ft_iconst (v := 0) dX4_setOut_75 rfl ?_
            refine ft_aload_n dX4_setOut_76 rfl ?_
            refine ft_getR fl_X4_9 rfl (sh_54) (by decide) pt_54_5 dX4_setOut_77 ?_
            obtain ⟨r80, I80, hc80, hf⟩ := fq_bs hf
            refine ft_V2i cf_X4_114 (sh_31) (t_X0_worth hv hc80) (Nat.le_of_ble_eq_true rfl) dX4_setOut_80 (fun r' J P' q => ?_)
            obtain ⟨rfl, rfl, rfl⟩ := q
            refine ft_mmin cf_X4_120 (Nat.le_of_ble_eq_true rfl) dX4_setOut_83 ?_
            refine ft_mmax cf_X4_126 (Nat.le_of_ble_eq_true rfl) dX4_setOut_86 ?_
            refine ft_istore dX4_setOut_89 (by decide) ?_
            refine ft_aload_n dX4_setOut_91 rfl ?_
            refine ft_getR fl_X4_72 rfl ((shf_0 hF)) (by decide) (ptf_0 hF) dX4_setOut_92 ?_
            refine ft_iload_n dX4_setOut_95 rfl ?_
            refine fk_iald ((shf_1 hF)) hf dX4_setOut_96 (fun hf => ?_)
            refine ft_iload dX4_setOut_97 rfl ?_
            refine ft_imul dX4_setOut_99 ?_
            refine ft_bipush (v := 100) dX4_setOut_100 rfl ?_
            refine ft_idiv dX4_setOut_102 (by decide) ?_
            refine ft_istore dX4_setOut_103 (by decide) ?_
            refine ft_aload_n dX4_setOut_105 rfl ?_
            refine ft_getR fl_X4_72 rfl ((shf_0 hF)) (by decide) (ptf_0 hF) dX4_setOut_106 ?_
            refine ft_iload_n dX4_setOut_109 rfl ?_
            refine ft_dup2 dX4_setOut_110 rfl rfl ?_
            refine fk_iald ((shf_1 hF)) hf dX4_setOut_111 (fun hf => ?_)
            refine ft_iload dX4_setOut_112 rfl ?_
            refine ft_isub dX4_setOut_114 ?_
            refine fk_iast ((shf_1 hF)) hf dX4_setOut_115 (fun hf => ?_)
            refine ft_aload_n dX4_setOut_116 rfl ?_
            refine ft_getR fl_X4_77 rfl ((shf_0 hF)) (by decide) (ptf_1 hF) dX4_setOut_117 ?_
            refine ft_iload_n dX4_setOut_120 rfl ?_
            refine ft_dup2 dX4_setOut_121 rfl rfl ?_
            refine fk_iald ((shf_2 hF)) hf dX4_setOut_122 (fun hf => ?_)
            refine ft_iload dX4_setOut_123 rfl ?_
            refine ft_iadd dX4_setOut_125 ?_
            refine fk_iast ((shf_2 hF)) hf dX4_setOut_126 (fun hf => ?_)
            refine fk_iinc (c := 1) dX4_setOut_127 rfl (by decide) rfl ?_
            refine ft_goto (tgt := 2) dX4_setOut_130 (by decide) ?_
            exact ft_forget (by simp [fc_le, fc_st1, fc_st2, fc_kill]) (hk2 _ _ hf)
        · refine ft_goto (tgt := 127) dX4_setOut_43 (by decide) ?_
          refine fk_iinc (c := 1) dX4_setOut_127 rfl (by decide) rfl ?_
          refine ft_goto (tgt := 2) dX4_setOut_130 (by decide) ?_
          exact ft_forget (by simp [fc_le, fc_st1, fc_st2, fc_kill]) (hk2 _ _ hf)
set_option maxHeartbeats 4000000 in
set_option maxRecDepth 100000 in
theorem t_X4_setOut {d : Nat} {v : Nat} {f : Nat} {J : fc_I} {I : fc_I} {x2 : Int32} (hv : fc_v v) (hF : f = 45 ∨ f = 58) (hf : f_X4_setOut f I x2 = some J) : fc_Cv X4_setOut (d + 2) [.ref 54, .ref f, .int x2] fc_SH I (fc_PT v) (fun I' P' => I' = J ∧ P' = (fc_PT v)) := by
  unfold f_X4_setOut at hf
  refine fc_Cv.of (ls := [some (.ref 54), some (.ref f), some (.int x2), none, none, none]) ⟨rfl, rfl⟩ (Nat.le_of_ble_eq_true rfl) rfl ?_
  refine ft_iconst (v := 0) dX4_setOut_0 rfl ?_
  refine ft_istore_n dX4_setOut_1 (by decide) ?_
  exact ft_forget (by simp [fc_le, fc_st1, fc_st2, fc_kill]) (t_X4_setOut_2 hv hF  _ _ _ hf)
def f_X4_goBy (f : Nat) (I : fc_I) (x2 : Int32) : Option fc_I :=
fq_u (f_X4_setOut f I x2) fun I3 =>
fq_u (f_X4_chooseMoving f I3 x2) fun I9 =>
fq_u (f_X4_move f I9) fun I14 =>
fq_u (f_X4_board f I14 x2) fun I20 =>
fq_l (fc_wI I20 f 9 ((I20 f 9) + 1)) fun I30 =>
fq_u (f_X4_freeBuses f I30) fun I35 =>
some I35
set_option maxHeartbeats 4000000 in
set_option maxRecDepth 100000 in
theorem t_X4_goBy {d : Nat} {v : Nat} {f : Nat} {J : fc_I} {I : fc_I} {x2 : Int32} (hv : fc_v v) (hF : f = 45 ∨ f = 58) (hf : f_X4_goBy f I x2 = some J) : fc_Cv X4_goBy (d + 3) [.ref 54, .ref f, .int x2] fc_SH I (fc_PT v) (fun I' P' => I' = J ∧ P' = (fc_PT v)) := by
  unfold f_X4_goBy at hf
  refine fc_Cv.of (ls := [some (.ref 54), some (.ref f), some (.int x2)]) ⟨rfl, rfl⟩ (Nat.le_of_ble_eq_true rfl) rfl ?_
  refine ft_aload_n dX4_goBy_0 rfl ?_
  refine ft_aload_n dX4_goBy_1 rfl ?_
  refine ft_iload_n dX4_goBy_2 rfl ?_
  obtain ⟨I3, hc3, hf⟩ := fq_us hf
  refine ft_V2v cf_X4_93 (sh_54) (t_X4_setOut hv hF hc3) (Nat.le_of_ble_eq_true rfl) dX4_goBy_3 (fun J P' q => ?_)
  obtain ⟨rfl, rfl⟩ := q
  refine ft_aload_n dX4_goBy_6 rfl ?_
  refine ft_aload_n dX4_goBy_7 rfl ?_
  refine ft_iload_n dX4_goBy_8 rfl ?_
  obtain ⟨I9, hc9, hf⟩ := fq_us hf
  refine ft_V2v cf_X4_97 (sh_54) (t_X4_chooseMoving hF hc9) (Nat.le_of_ble_eq_true rfl) dX4_goBy_9 (fun J P' q => ?_)
  obtain ⟨rfl, rfl⟩ := q
  refine ft_aload_n dX4_goBy_12 rfl ?_
  refine ft_aload_n dX4_goBy_13 rfl ?_
  obtain ⟨I14, hc14, hf⟩ := fq_us hf
  refine ft_V1v cf_X4_100 (sh_54) (t_X4_move hF hc14) (Nat.le_of_ble_eq_true rfl) dX4_goBy_14 (fun J P' q => ?_)
  obtain ⟨rfl, rfl⟩ := q
  refine ft_aload_n dX4_goBy_17 rfl ?_
  refine ft_aload_n dX4_goBy_18 rfl ?_
  refine ft_iload_n dX4_goBy_19 rfl ?_
  obtain ⟨I20, hc20, hf⟩ := fq_us hf
  refine ft_V2v cf_X4_104 (sh_54) (t_X4_board hv hF hc20) (Nat.le_of_ble_eq_true rfl) dX4_goBy_20 (fun J P' q => ?_)
  obtain ⟨rfl, rfl⟩ := q
  refine ft_aload_n dX4_goBy_23 rfl ?_
  refine ft_dup dX4_goBy_24 rfl ?_
  refine ft_getI fl_X4_87 rfl ((shf_0 hF)) (by decide) dX4_goBy_25 ?_
  refine ft_iconst (v := 1) dX4_goBy_28 rfl ?_
  refine ft_iadd dX4_goBy_29 ?_
  refine ft_putI fl_X4_87 rfl (fun q h => by cases h; rfl) ((shf_0 hF)) (by decide) dX4_goBy_30 ?_
  refine ft_aload_n dX4_goBy_33 rfl ?_
  refine ft_aload_n dX4_goBy_34 rfl ?_
  obtain ⟨I35, hc35, hf⟩ := fq_us hf
  refine ft_V1v cf_X4_107 (sh_54) (t_X4_freeBuses hF hc35) (Nat.le_of_ble_eq_true rfl) dX4_goBy_35 (fun J P' q => ?_)
  obtain ⟨rfl, rfl⟩ := q
  exact fk_retv hf dX4_goBy_38 rfl
def f_X4_standInWater_6_B (f : Nat) (I : fc_I) (x2 : Int32) (x3 : Int32) (k6 : Int32 → Int32 → Option Int32) (x4 : Int32) (x5 : Int32) : Option Int32 :=
if x5.toInt < (I 1 2).toInt then (
fq_v (f_X4_isWet I x5 x2 x3) fun r23 =>
if r23.toInt = 0 then (
fq_l (x5 + 1) fun y57 =>
k6 x4 y57)
else (
fq_g 6 x5 (
fq_g 6 x5 (
fq_g 6 x5 (
fq_l ((x4 + (((I (f + 1) (cn x5)) + (I (f + 2) (cn x5))) + (I (f + 3) (cn x5))))) fun y55 =>
fq_l (x5 + 1) fun y57 =>
k6 y55 y57)))))
else (
some x4)
def f_X4_standInWater_6 (f : Nat) (I : fc_I) (x2 : Int32) (x3 : Int32) (n : Nat) : Int32 → Int32 → Option Int32 := lpp2 (f_X4_standInWater_6_B f I x2 x3 ) n
def f_X4_standInWater (f : Nat) (I : fc_I) (x2 : Int32) (x3 : Int32) : Option Int32 :=
f_X4_standInWater_6 f I x2 x3 4000 0 0
set_option maxHeartbeats 4000000 in
set_option maxRecDepth 100000 in
theorem t_X4_standInWater_6 {d : Nat} {v : Nat} {f : Nat} {r : Int32} {x2 : Int32} {x3 : Int32} {I : fc_I} (hF : f = 45 ∨ f = 58) : ∀ (n : Nat) (x4 : Int32) (x5 : Int32) , f_X4_standInWater_6 f I x2 x3 n x4 x5 = some r → fc_T X4_standInWater (d + 1) 0 0 6 [some (.ref 54), some (.ref f), some (.int x2), some (.int x3), some (.int x4), some (.int x5)] [] fc_SH I (fc_PT v) (fc_Qi fc_SH (fun r' I' P' => r' = r ∧ I' = I ∧ P' = (fc_PT v))) := by
  unfold f_X4_standInWater_6
  refine lpp2_T (fun k6 hk6 x4 x5 hf => ?_)
  unfold f_X4_standInWater_6_B at hf
  refine ft_iload dX4_standInWater_6 rfl ?_
  refine ft_aload_n dX4_standInWater_8 rfl ?_
  refine ft_getR fl_X4_18 rfl (sh_54) (by decide) pt_54_0 dX4_standInWater_9 ?_
  refine ft_getI fl_X4_68 rfl (sh_1) (by decide) dX4_standInWater_12 ?_
  refine fk_icmp_ge (tgt := 63) dX4_standInWater_15 (by decide) hf (fun hf => ?_) (fun hf => ?_)
  · refine ft_iload dX4_standInWater_63 rfl ?_
    exact fk_retp hf dX4_standInWater_65 rfl rfl
  · refine ft_aload_n dX4_standInWater_18 rfl ?_
    refine ft_iload dX4_standInWater_19 rfl ?_
    refine ft_iload_n dX4_standInWater_21 rfl ?_
    refine ft_iload_n dX4_standInWater_22 rfl ?_
    obtain ⟨r23, hc23, hf⟩ := fq_vs hf
    refine ft_V3p cf_X4_57 (sh_54) (t_X4_isWet hc23) (Nat.le_of_ble_eq_true rfl) dX4_standInWater_23 ?_
    refine fk_if_eq (tgt := 57) dX4_standInWater_26 (by decide) hf (fun hf => ?_) (fun hf => ?_)
    · refine fk_iinc (c := 1) dX4_standInWater_57 rfl (by decide) rfl ?_
      refine ft_goto (tgt := 6) dX4_standInWater_60 (by decide) ?_
      exact ft_forget (by simp [fc_le, fc_st1, fc_st2, fc_kill]) (hk6 _ _ hf)
    · refine ft_iload dX4_standInWater_29 rfl ?_
      refine ft_aload_n dX4_standInWater_31 rfl ?_
      refine ft_getR fl_X4_72 rfl ((shf_0 hF)) (by decide) (ptf_0 hF) dX4_standInWater_32 ?_
      refine ft_iload dX4_standInWater_35 rfl ?_
      refine fk_iald ((shf_1 hF)) hf dX4_standInWater_37 (fun hf => ?_)
      refine ft_aload_n dX4_standInWater_38 rfl ?_
      refine ft_getR fl_X4_77 rfl ((shf_0 hF)) (by decide) (ptf_1 hF) dX4_standInWater_39 ?_
      refine ft_iload dX4_standInWater_42 rfl ?_
      refine fk_iald ((shf_2 hF)) hf dX4_standInWater_44 (fun hf => ?_)
      refine ft_iadd dX4_standInWater_45 ?_
      refine ft_aload_n dX4_standInWater_46 rfl ?_
      refine ft_getR fl_X4_80 rfl ((shf_0 hF)) (by decide) (ptf_2 hF) dX4_standInWater_47 ?_
      refine ft_iload dX4_standInWater_50 rfl ?_
      refine fk_iald ((shf_3 hF)) hf dX4_standInWater_52 (fun hf => ?_)
      refine ft_iadd dX4_standInWater_53 ?_
      refine ft_iadd dX4_standInWater_54 ?_
      refine ft_istore dX4_standInWater_55 (by decide) ?_
      refine fk_iinc (c := 1) dX4_standInWater_57 rfl (by decide) rfl ?_
      refine ft_goto (tgt := 6) dX4_standInWater_60 (by decide) ?_
      exact ft_forget (by simp [fc_le, fc_st1, fc_st2, fc_kill]) (hk6 _ _ hf)
set_option maxHeartbeats 4000000 in
set_option maxRecDepth 100000 in
theorem t_X4_standInWater {d : Nat} {v : Nat} {f : Nat} {r : Int32} {I : fc_I} {x2 : Int32} {x3 : Int32} (hF : f = 45 ∨ f = 58) (hf : f_X4_standInWater f I x2 x3 = some r) : fc_Cp X4_standInWater (d + 1) [.ref 54, .ref f, .int x2, .int x3] fc_SH I (fc_PT v) r := by
  unfold f_X4_standInWater at hf
  refine fc_Cp.of (ls := [some (.ref 54), some (.ref f), some (.int x2), some (.int x3), none, none]) ⟨rfl, rfl⟩ (Nat.le_of_ble_eq_true rfl) rfl ?_
  refine ft_iconst (v := 0) dX4_standInWater_0 rfl ?_
  refine ft_istore dX4_standInWater_1 (by decide) ?_
  refine ft_iconst (v := 0) dX4_standInWater_3 rfl ?_
  refine ft_istore dX4_standInWater_4 (by decide) ?_
  exact ft_forget (by simp [fc_le, fc_st1, fc_st2, fc_kill]) (t_X4_standInWater_6 hF  _ _ _ hf)
def f_X3_foreseen_90_B (x1 : Int32) (x2 : Int32) (k90 : Int32 → fc_I → Option (Int32 × fc_I)) (x3 : Int32) (I : fc_I) : Option (Int32 × fc_I) :=
if x3.toInt < x2.toInt then (
fq_u (f_X4_goBy 58 I x1) fun I104 =>
fq_l (x3 + 1) fun y107 =>
k90 y107 I104)
else (
fq_v (f_X4_standInWater 58 I x1 (I 15 11)) fun r129 =>
some (r129, I))
def f_X3_foreseen_90 (x1 : Int32) (x2 : Int32) (n : Nat) : Int32 → fc_I → Option (Int32 × fc_I) := lpm1 (f_X3_foreseen_90_B x1 x2 ) n
def f_X3_foreseen_13_B (x1 : Int32) (k13 : Int32 → fc_I → Option (Int32 × fc_I)) (x2 : Int32) (I : fc_I) : Option (Int32 × fc_I) :=
if x2.toInt < (I 1 2).toInt then (
fq_g 6 x2 (
if (I 49 (cn x2)).toInt = ((-1) : Int32).toInt then (
fq_g 6 x2 (
if (I 67 (cn x2)).toInt = ((-1) : Int32).toInt then (
fq_l (x2 + 1) fun y70 =>
k13 y70 I)
else (
fq_g 6 x2 (
fq_g 6 x2 (fq_l (fc_wI I 62 (cn x2) ((I 45 9) + (I 67 (cn x2)))) fun I69 =>
fq_l (x2 + 1) fun y70 =>
k13 y70 I69)))))
else (
fq_l (x2 + 1) fun y70 =>
k13 y70 I)))
else (
fq_v (f_X3_settled I x1) fun r78 =>
fq_l ((I 45 9)) fun y89 =>
f_X3_foreseen_90 x1 r78 4000 y89 I)
def f_X3_foreseen_13 (x1 : Int32) (n : Nat) : Int32 → fc_I → Option (Int32 × fc_I) := lpm1 (f_X3_foreseen_13_B x1 ) n
def f_X3_foreseen (I : fc_I) (x1 : Int32) : Option (Int32 × fc_I) :=
fq_u (f_X2_become I) fun I8 =>
f_X3_foreseen_13 x1 4000 0 I8
set_option maxHeartbeats 4000000 in
set_option maxRecDepth 100000 in
theorem t_X3_foreseen_90 {d : Nat} {v : Nat} {r : Int32} {J : fc_I} {x1 : Int32} {x2 : Int32} (hv : fc_v v) : ∀ (n : Nat) (x3 : Int32) (I : fc_I) , f_X3_foreseen_90 x1 x2 n x3 I = some (r, J) → fc_T X3_foreseen (d + 4) 0 0 90 [some (.ref 57), some (.int x1), some (.int x2), some (.int x3)] [] fc_SH I (fc_PT v) (fc_Qi fc_SH (fun r' I' P' => r' = r ∧ I' = J ∧ P' = (fc_PT v))) := by
  unfold f_X3_foreseen_90
  refine lpm1_T (fun k90 hk90 x3 I hf => ?_)
  unfold f_X3_foreseen_90_B at hf
  refine ft_iload_n dX3_foreseen_90 rfl ?_
  refine ft_iload_n dX3_foreseen_91 rfl ?_
  refine fk_icmp_ge (tgt := 113) dX3_foreseen_92 (by decide) hf (fun hf => ?_) (fun hf => ?_)
  · refine ft_aload_n dX3_foreseen_113 rfl ?_
    refine ft_getR fl_X3_39 rfl (sh_57) (by decide) pt_57_3 dX3_foreseen_114 ?_
    refine ft_aload_n dX3_foreseen_117 rfl ?_
    refine ft_getR fl_X3_12 rfl (sh_57) (by decide) pt_57_4 dX3_foreseen_118 ?_
    refine ft_iload_n dX3_foreseen_121 rfl ?_
    refine ft_aload_n dX3_foreseen_122 rfl ?_
    refine ft_getR fl_X3_32 rfl (sh_57) (by decide) pt_57_1 dX3_foreseen_123 ?_
    refine ft_getI fl_X3_75 rfl (sh_15) (by decide) dX3_foreseen_126 ?_
    obtain ⟨r129, hc129, hf⟩ := fq_vs hf
    refine ft_V3p cf_X3_80 (sh_54) (t_X4_standInWater (Or.inr rfl) hc129) (Nat.le_of_ble_eq_true rfl) dX3_foreseen_129 ?_
    exact fk_reti hf dX3_foreseen_132 rfl rfl
  · refine ft_aload_n dX3_foreseen_95 rfl ?_
    refine ft_getR fl_X3_39 rfl (sh_57) (by decide) pt_57_3 dX3_foreseen_96 ?_
    refine ft_aload_n dX3_foreseen_99 rfl ?_
    refine ft_getR fl_X3_12 rfl (sh_57) (by decide) pt_57_4 dX3_foreseen_100 ?_
    refine ft_iload_n dX3_foreseen_103 rfl ?_
    obtain ⟨I104, hc104, hf⟩ := fq_us hf
    refine ft_V2v cf_X3_69 (sh_54) (t_X4_goBy hv (Or.inr rfl) hc104) (Nat.le_of_ble_eq_true rfl) dX3_foreseen_104 (fun J P' q => ?_)
    obtain ⟨rfl, rfl⟩ := q
    refine fk_iinc (c := 1) dX3_foreseen_107 rfl (by decide) rfl ?_
    refine ft_goto (tgt := 90) dX3_foreseen_110 (by decide) ?_
    exact ft_forget (by simp [fc_le, fc_st1, fc_st2, fc_kill]) (hk90 _ _ hf)
set_option maxHeartbeats 4000000 in
set_option maxRecDepth 100000 in
theorem t_X3_foreseen_13 {d : Nat} {v : Nat} {r : Int32} {J : fc_I} {x1 : Int32} (hv : fc_v v) : ∀ (n : Nat) (x2 : Int32) (I : fc_I) , f_X3_foreseen_13 x1 n x2 I = some (r, J) → fc_T X3_foreseen (d + 4) 0 0 13 [some (.ref 57), some (.int x1), some (.int x2), none] [] fc_SH I (fc_PT v) (fc_Qi fc_SH (fun r' I' P' => r' = r ∧ I' = J ∧ P' = (fc_PT v))) := by
  unfold f_X3_foreseen_13
  refine lpm1_T (fun k13 hk13 x2 I hf => ?_)
  unfold f_X3_foreseen_13_B at hf
  refine ft_iload_n dX3_foreseen_13 rfl ?_
  refine ft_aload_n dX3_foreseen_14 rfl ?_
  refine ft_getR fl_X3_28 rfl (sh_57) (by decide) pt_57_0 dX3_foreseen_15 ?_
  refine ft_getI fl_X3_53 rfl (sh_1) (by decide) dX3_foreseen_18 ?_
  refine fk_icmp_ge (tgt := 76) dX3_foreseen_21 (by decide) hf (fun hf => ?_) (fun hf => ?_)
  · refine ft_aload_n dX3_foreseen_76 rfl ?_
    refine ft_iload_n dX3_foreseen_77 rfl ?_
    obtain ⟨r78, hc78, hf⟩ := fq_vs hf
    refine ft_V1p cf_X3_65 (sh_57) (t_X3_settled hc78) (Nat.le_of_ble_eq_true rfl) dX3_foreseen_78 ?_
    refine ft_istore_n dX3_foreseen_81 (by decide) ?_
    refine ft_aload_n dX3_foreseen_82 rfl ?_
    refine ft_getR fl_X3_36 rfl (sh_57) (by decide) pt_57_2 dX3_foreseen_83 ?_
    refine ft_getI fl_X3_62 rfl (sh_45) (by decide) dX3_foreseen_86 ?_
    refine ft_istore_n dX3_foreseen_89 (by decide) ?_
    exact ft_forget (by simp [fc_le, fc_st1, fc_st2, fc_kill]) (t_X3_foreseen_90 hv  _ _ _ hf)
  · refine ft_aload_n dX3_foreseen_24 rfl ?_
    refine ft_getR fl_X3_36 rfl (sh_57) (by decide) pt_57_2 dX3_foreseen_25 ?_
    refine ft_getR fl_X3_59 rfl (sh_45) (by decide) pt_45_3 dX3_foreseen_28 ?_
    refine ft_iload_n dX3_foreseen_31 rfl ?_
    refine fk_iald (sh_49) hf dX3_foreseen_32 (fun hf => ?_)
    refine ft_iconst (v := (-1)) dX3_foreseen_33 rfl ?_
    refine fk_icmp_ne (tgt := 70) dX3_foreseen_34 (by decide) hf (fun hf => ?_) (fun hf => ?_)
    · refine fk_iinc (c := 1) dX3_foreseen_70 rfl (by decide) rfl ?_
      refine ft_goto (tgt := 13) dX3_foreseen_73 (by decide) ?_
      exact ft_forget (by simp [fc_le, fc_st1, fc_st2, fc_kill]) (hk13 _ _ hf)
    · refine ft_aload_n dX3_foreseen_37 rfl ?_
      refine ft_getR fl_X3_18 rfl (sh_57) (by decide) pt_57_5 dX3_foreseen_38 ?_
      refine ft_iload_n dX3_foreseen_41 rfl ?_
      refine fk_iald (sh_67) hf dX3_foreseen_42 (fun hf => ?_)
      refine ft_iconst (v := (-1)) dX3_foreseen_43 rfl ?_
      refine fk_icmp_eq (tgt := 70) dX3_foreseen_44 (by decide) hf (fun hf => ?_) (fun hf => ?_)
      · refine fk_iinc (c := 1) dX3_foreseen_70 rfl (by decide) rfl ?_
        refine ft_goto (tgt := 13) dX3_foreseen_73 (by decide) ?_
        exact ft_forget (by simp [fc_le, fc_st1, fc_st2, fc_kill]) (hk13 _ _ hf)
      · refine ft_aload_n dX3_foreseen_47 rfl ?_
        refine ft_getR fl_X3_12 rfl (sh_57) (by decide) pt_57_4 dX3_foreseen_48 ?_
        refine ft_getR fl_X3_59 rfl (sh_58) (by decide) pt_58_3 dX3_foreseen_51 ?_
        refine ft_iload_n dX3_foreseen_54 rfl ?_
        refine ft_aload_n dX3_foreseen_55 rfl ?_
        refine ft_getR fl_X3_36 rfl (sh_57) (by decide) pt_57_2 dX3_foreseen_56 ?_
        refine ft_getI fl_X3_62 rfl (sh_45) (by decide) dX3_foreseen_59 ?_
        refine ft_aload_n dX3_foreseen_62 rfl ?_
        refine ft_getR fl_X3_18 rfl (sh_57) (by decide) pt_57_5 dX3_foreseen_63 ?_
        refine ft_iload_n dX3_foreseen_66 rfl ?_
        refine fk_iald (sh_67) hf dX3_foreseen_67 (fun hf => ?_)
        refine ft_iadd dX3_foreseen_68 ?_
        refine fk_iast (sh_62) hf dX3_foreseen_69 (fun hf => ?_)
        refine fk_iinc (c := 1) dX3_foreseen_70 rfl (by decide) rfl ?_
        refine ft_goto (tgt := 13) dX3_foreseen_73 (by decide) ?_
        exact ft_forget (by simp [fc_le, fc_st1, fc_st2, fc_kill]) (hk13 _ _ hf)
set_option maxHeartbeats 4000000 in
set_option maxRecDepth 100000 in
theorem t_X3_foreseen {d : Nat} {v : Nat} {r : Int32} {J : fc_I} {I : fc_I} {x1 : Int32} (hv : fc_v v) (hf : f_X3_foreseen I x1 = some (r, J)) : fc_Ci X3_foreseen (d + 4) [.ref 57, .int x1] fc_SH I (fc_PT v) (fun r' I' P' => r' = r ∧ I' = J ∧ P' = (fc_PT v)) := by
  unfold f_X3_foreseen at hf
  refine fc_Ci.of (ls := [some (.ref 57), some (.int x1), none, none]) ⟨rfl, rfl⟩ (Nat.le_of_ble_eq_true rfl) rfl ?_
  refine ft_aload_n dX3_foreseen_0 rfl ?_
  refine ft_getR fl_X3_12 rfl (sh_57) (by decide) pt_57_4 dX3_foreseen_1 ?_
  refine ft_aload_n dX3_foreseen_4 rfl ?_
  refine ft_getR fl_X3_36 rfl (sh_57) (by decide) pt_57_2 dX3_foreseen_5 ?_
  obtain ⟨I8, hc8, hf⟩ := fq_us hf
  refine ft_V1v cf_X3_49 (sh_58) (t_X2_become hc8) (Nat.le_of_ble_eq_true rfl) dX3_foreseen_8 (fun J P' q => ?_)
  obtain ⟨rfl, rfl⟩ := q
  refine ft_iconst (v := 0) dX3_foreseen_11 rfl ?_
  refine ft_istore_n dX3_foreseen_12 (by decide) ?_
  exact ft_forget (by simp [fc_le, fc_st1, fc_st2, fc_kill]) (t_X3_foreseen_13 hv  _ _ _ hf)
def f_X3_worst_4_B (x1 : Int32) (k4 : Int32 → Int32 → fc_I → Option (Int32 × fc_I)) (x2 : Int32) (x3 : Int32) (I : fc_I) : Option (Int32 × fc_I) :=
if x3.toInt < (3 : Int32).toInt then (
if x2.toInt < x1.toInt then (
fq_g 3 x3 (
if (I 16 (cn x3)).toInt = 0 then (
fq_l (x3 + 1) fun y36 =>
k4 x2 y36 I)
else (
fq_b (f_X3_foreseen I x3) fun r29 I29 =>
fq_l ((imax x2 r29)) fun y35 =>
fq_l (x3 + 1) fun y36 =>
k4 y35 y36 I29)))
else (
some (x2, I)))
else (
some (x2, I))
def f_X3_worst_4 (x1 : Int32) (n : Nat) : Int32 → Int32 → fc_I → Option (Int32 × fc_I) := lpm2 (f_X3_worst_4_B x1 ) n
def f_X3_worst (I : fc_I) (x1 : Int32) : Option (Int32 × fc_I) :=
f_X3_worst_4 x1 4000 0 0 I
set_option maxHeartbeats 4000000 in
set_option maxRecDepth 100000 in
theorem t_X3_worst_4 {d : Nat} {v : Nat} {r : Int32} {J : fc_I} {x1 : Int32} (hv : fc_v v) : ∀ (n : Nat) (x2 : Int32) (x3 : Int32) (I : fc_I) , f_X3_worst_4 x1 n x2 x3 I = some (r, J) → fc_T X3_worst (d + 5) 0 0 4 [some (.ref 57), some (.int x1), some (.int x2), some (.int x3)] [] fc_SH I (fc_PT v) (fc_Qi fc_SH (fun r' I' P' => r' = r ∧ I' = J ∧ P' = (fc_PT v))) := by
  unfold f_X3_worst_4
  refine lpm2_T (fun k4 hk4 x2 x3 I hf => ?_)
  unfold f_X3_worst_4_B at hf
  refine ft_iload_n dX3_worst_4 rfl ?_
  refine ft_iconst (v := 3) dX3_worst_5 rfl ?_
  refine fk_icmp_ge (tgt := 42) dX3_worst_6 (by decide) hf (fun hf => ?_) (fun hf => ?_)
  · refine ft_iload_n dX3_worst_42 rfl ?_
    exact fk_reti hf dX3_worst_43 rfl rfl
  · refine ft_iload_n dX3_worst_9 rfl ?_
    refine ft_iload_n dX3_worst_10 rfl ?_
    refine fk_icmp_ge (tgt := 42) dX3_worst_11 (by decide) hf (fun hf => ?_) (fun hf => ?_)
    · refine ft_iload_n dX3_worst_42 rfl ?_
      exact fk_reti hf dX3_worst_43 rfl rfl
    · refine ft_aload_n dX3_worst_14 rfl ?_
      refine ft_getR fl_X3_32 rfl (sh_57) (by decide) pt_57_1 dX3_worst_15 ?_
      refine ft_getR fl_X3_107 rfl (sh_15) (by decide) pt_15_0 dX3_worst_18 ?_
      refine ft_iload_n dX3_worst_21 rfl ?_
      refine fk_zald (sh_16) hf dX3_worst_22 (fun hf => ?_)
      refine fk_if_eq (tgt := 36) dX3_worst_23 (by decide) hf (fun hf => ?_) (fun hf => ?_)
      · refine fk_iinc (c := 1) dX3_worst_36 rfl (by decide) rfl ?_
        refine ft_goto (tgt := 4) dX3_worst_39 (by decide) ?_
        exact ft_forget (by simp [fc_le, fc_st1, fc_st2, fc_kill]) (hk4 _ _ _ hf)
      · refine ft_iload_n dX3_worst_26 rfl ?_
        refine ft_aload_n dX3_worst_27 rfl ?_
        refine ft_iload_n dX3_worst_28 rfl ?_
        obtain ⟨r29, I29, hc29, hf⟩ := fq_bs hf
        refine ft_V1i cf_X3_111 (sh_57) (t_X3_foreseen hv hc29) (Nat.le_of_ble_eq_true rfl) dX3_worst_29 (fun r' J P' q => ?_)
        obtain ⟨rfl, rfl, rfl⟩ := q
        refine ft_mmax cf_X3_88 (Nat.le_of_ble_eq_true rfl) dX3_worst_32 ?_
        refine ft_istore_n dX3_worst_35 (by decide) ?_
        refine fk_iinc (c := 1) dX3_worst_36 rfl (by decide) rfl ?_
        refine ft_goto (tgt := 4) dX3_worst_39 (by decide) ?_
        exact ft_forget (by simp [fc_le, fc_st1, fc_st2, fc_kill]) (hk4 _ _ _ hf)
set_option maxHeartbeats 4000000 in
set_option maxRecDepth 100000 in
theorem t_X3_worst {d : Nat} {v : Nat} {r : Int32} {J : fc_I} {I : fc_I} {x1 : Int32} (hv : fc_v v) (hf : f_X3_worst I x1 = some (r, J)) : fc_Ci X3_worst (d + 5) [.ref 57, .int x1] fc_SH I (fc_PT v) (fun r' I' P' => r' = r ∧ I' = J ∧ P' = (fc_PT v)) := by
  unfold f_X3_worst at hf
  refine fc_Ci.of (ls := [some (.ref 57), some (.int x1), none, none]) ⟨rfl, rfl⟩ (Nat.le_of_ble_eq_true rfl) rfl ?_
  refine ft_iconst (v := 0) dX3_worst_0 rfl ?_
  refine ft_istore_n dX3_worst_1 (by decide) ?_
  refine ft_iconst (v := 0) dX3_worst_2 rfl ?_
  refine ft_istore_n dX3_worst_3 (by decide) ?_
  exact ft_forget (by simp [fc_le, fc_st1, fc_st2, fc_kill]) (t_X3_worst_4 hv  _ _ _ _ hf)
def f_X3_search_60_B (x2 : Int32) (x4 : Int32) (k51 : Int32 → Int32 → fc_I → Option (Int64 × fc_I)) (k60 : Int32 → Int32 → fc_I → Option (Int64 × fc_I)) (x3 : Int32) (x5 : Int32) (I : fc_I) : Option (Int64 × fc_I) :=
if x5.toInt < ((1 : Int32) <<< (((2 : Int32) * x2) &&& 31)).toInt then (
if 0 < x3.toInt then (
fq_b (f_X3_plan I x5 x2) fun r78 I78 =>
if r78.toInt = x4.toInt then (
fq_b (f_X3_worst I78 x3) fun r91 I91 =>
if r91.toInt < x3.toInt then (
fq_c 6 6 0 0 6 (fq_l (fc_cpI I91 67 68 (cn (0 : Int32)) (cn (0 : Int32)) (cn (6 : Int32))) fun I117 =>
fq_l (x5 + 1) fun y120 =>
k60 r91 y120 I117))
else (
fq_l (x5 + 1) fun y120 =>
k60 x3 y120 I91))
else (
fq_l (x5 + 1) fun y120 =>
k60 x3 y120 I78))
else (
fq_l (x4 + 1) fun y126 =>
k51 x3 y126 I))
else (
fq_l (x4 + 1) fun y126 =>
k51 x3 y126 I)
def f_X3_search_60 (x2 : Int32) (x4 : Int32) (k51 : Int32 → Int32 → fc_I → Option (Int64 × fc_I)) (n : Nat) : Int32 → Int32 → fc_I → Option (Int64 × fc_I) := lpm2 (f_X3_search_60_B x2 x4 k51 ) n
def f_X3_search_51_B (x2 : Int32) (k51 : Int32 → Int32 → fc_I → Option (Int64 × fc_I)) (x3 : Int32) (x4 : Int32) (I : fc_I) : Option (Int64 × fc_I) :=
if x2.toInt < x4.toInt then (
some ((Int32.toInt64 x3), I))
else (
f_X3_search_60 x2 x4 k51 4000 x3 0 I)
def f_X3_search_51 (x2 : Int32) (n : Nat) : Int32 → Int32 → fc_I → Option (Int64 × fc_I) := lpm2 (f_X3_search_51_B x2 ) n
def f_X3_search_4_B (x1 : Int32) (k4 : Int32 → Int32 → fc_I → Option (Int64 × fc_I)) (x2 : Int32) (x3 : Int32) (I : fc_I) : Option (Int64 × fc_I) :=
if x3.toInt < (I 1 2).toInt then (
if ((x1 >>> (x3 &&& 31)) &&& 1).toInt = (1 : Int32).toInt then (
if x2.toInt < (4 : Int32).toInt then (
fq_l (x2 + 1) fun y34 =>
fq_g 4 x2 (fq_l (fc_wI I 69 (cn x2) x3) fun I38 =>
fq_l (x3 + 1) fun y39 =>
k4 y34 y39 I38))
else (
fq_l (x3 + 1) fun y39 =>
k4 x2 y39 I))
else (
fq_l (x3 + 1) fun y39 =>
k4 x2 y39 I))
else (
f_X3_search_51 x2 4000 1000000 0 I)
def f_X3_search_4 (x1 : Int32) (n : Nat) : Int32 → Int32 → fc_I → Option (Int64 × fc_I) := lpm2 (f_X3_search_4_B x1 ) n
def f_X3_search (I : fc_I) (x1 : Int32) : Option (Int64 × fc_I) :=
f_X3_search_4 x1 4000 0 0 I
set_option maxHeartbeats 4000000 in
set_option maxRecDepth 100000 in
theorem t_X3_search_60 {d : Nat} {v : Nat} {r : Int64} {J : fc_I} {x2 : Int32} {x4 : Int32} {k51 : Int32 → Int32 → fc_I → Option (Int64 × fc_I)} (hv : fc_v v) (hk51 : ∀ (x3 : Int32) (x4 : Int32) (I : fc_I), k51 x3 x4 I = some (r, J) → fc_T X3_search (d + 6) 0 0 51 [some (.ref 57), none, some (.int x2), some (.int x3), some (.int x4), none, none] [] fc_SH I (fc_PT v) (fc_Ql fc_SH (fun r' I' P' => r' = r ∧ I' = J ∧ P' = (fc_PT v)))) : ∀ (n : Nat) (x3 : Int32) (x5 : Int32) (I : fc_I) , f_X3_search_60 x2 x4 k51 n x3 x5 I = some (r, J) → fc_T X3_search (d + 6) 0 0 60 [some (.ref 57), none, some (.int x2), some (.int x3), some (.int x4), some (.int x5), none] [] fc_SH I (fc_PT v) (fc_Ql fc_SH (fun r' I' P' => r' = r ∧ I' = J ∧ P' = (fc_PT v))) := by
  unfold f_X3_search_60
  refine lpm2_T (fun k60 hk60 x3 x5 I hf => ?_)
  unfold f_X3_search_60_B at hf
  refine ft_iload dX3_search_60 rfl ?_
  refine ft_iconst (v := 1) dX3_search_62 rfl ?_
  refine ft_iconst (v := 2) dX3_search_63 rfl ?_
  refine ft_iload_n dX3_search_64 rfl ?_
  refine ft_imul dX3_search_65 ?_
  refine ft_ishl dX3_search_66 ?_
  refine fk_icmp_ge (tgt := 126) dX3_search_67 (by decide) hf (fun hf => ?_) (fun hf => ?_)
  · refine fk_iinc (c := 1) dX3_search_126 rfl (by decide) rfl ?_
    refine ft_goto (tgt := 51) dX3_search_129 (by decide) ?_
    exact ft_forget (by simp [fc_le, fc_st1, fc_st2, fc_kill]) (hk51 _ _ _ hf)
  · refine ft_iload_n dX3_search_70 rfl ?_
    refine fk_if_le (tgt := 126) dX3_search_71 (by decide) hf (fun hf => ?_) (fun hf => ?_)
    · refine fk_iinc (c := 1) dX3_search_126 rfl (by decide) rfl ?_
      refine ft_goto (tgt := 51) dX3_search_129 (by decide) ?_
      exact ft_forget (by simp [fc_le, fc_st1, fc_st2, fc_kill]) (hk51 _ _ _ hf)
    · refine ft_aload_n dX3_search_74 rfl ?_
      refine ft_iload dX3_search_75 rfl ?_
      refine ft_iload_n dX3_search_77 rfl ?_
      obtain ⟨r78, I78, hc78, hf⟩ := fq_bs hf
      refine ft_V2i cf_X3_95 (sh_57) (t_X3_plan hc78) (Nat.le_of_ble_eq_true rfl) dX3_search_78 (fun r' J P' q => ?_)
      obtain ⟨rfl, rfl, rfl⟩ := q
      refine ft_iload dX3_search_81 rfl ?_
      refine fk_icmp_eq (tgt := 89) dX3_search_83 (by decide) hf (fun hf => ?_) (fun hf => ?_)
      · refine ft_aload_n dX3_search_89 rfl ?_
        refine ft_iload_n dX3_search_90 rfl ?_
        obtain ⟨r91, I91, hc91, hf⟩ := fq_bs hf
        refine ft_V1i cf_X3_98 (sh_57) (t_X3_worst hv hc91) (Nat.le_of_ble_eq_true rfl) dX3_search_91 (fun r' J P' q => ?_)
        obtain ⟨rfl, rfl, rfl⟩ := q
        refine ft_istore dX3_search_94 (by decide) ?_
        refine ft_iload dX3_search_96 rfl ?_
        refine ft_iload_n dX3_search_98 rfl ?_
        refine fk_icmp_ge (tgt := 120) dX3_search_99 (by decide) hf (fun hf => ?_) (fun hf => ?_)
        · refine fk_iinc (c := 1) dX3_search_120 rfl (by decide) rfl ?_
          refine ft_goto (tgt := 60) dX3_search_123 (by decide) ?_
          exact ft_forget (by simp [fc_le, fc_st1, fc_st2, fc_kill]) (hk60 _ _ _ hf)
        · refine ft_iload dX3_search_102 rfl ?_
          refine ft_istore_n dX3_search_104 (by decide) ?_
          refine ft_aload_n dX3_search_105 rfl ?_
          refine ft_getR fl_X3_18 rfl (sh_57) (by decide) pt_57_5 dX3_search_106 ?_
          refine ft_iconst (v := 0) dX3_search_109 rfl ?_
          refine ft_aload_n dX3_search_110 rfl ?_
          refine ft_getR fl_X3_22 rfl (sh_57) (by decide) pt_57_6 dX3_search_111 ?_
          refine ft_iconst (v := 0) dX3_search_114 rfl ?_
          refine ft_bipush (v := 6) dX3_search_115 rfl ?_
          refine fk_copy cf_X3_101 (sh_67) (sh_68) hf (Nat.le_of_ble_eq_true rfl) dX3_search_117 (fun hf => ?_)
          refine fk_iinc (c := 1) dX3_search_120 rfl (by decide) rfl ?_
          refine ft_goto (tgt := 60) dX3_search_123 (by decide) ?_
          exact ft_forget (by simp [fc_le, fc_st1, fc_st2, fc_kill]) (hk60 _ _ _ hf)
      · refine ft_goto (tgt := 120) dX3_search_86 (by decide) ?_
        refine fk_iinc (c := 1) dX3_search_120 rfl (by decide) rfl ?_
        refine ft_goto (tgt := 60) dX3_search_123 (by decide) ?_
        exact ft_forget (by simp [fc_le, fc_st1, fc_st2, fc_kill]) (hk60 _ _ _ hf)
set_option maxHeartbeats 4000000 in
set_option maxRecDepth 100000 in
theorem t_X3_search_51 {d : Nat} {v : Nat} {r : Int64} {J : fc_I} {x2 : Int32} (hv : fc_v v) : ∀ (n : Nat) (x3 : Int32) (x4 : Int32) (I : fc_I) , f_X3_search_51 x2 n x3 x4 I = some (r, J) → fc_T X3_search (d + 6) 0 0 51 [some (.ref 57), none, some (.int x2), some (.int x3), some (.int x4), none, none] [] fc_SH I (fc_PT v) (fc_Ql fc_SH (fun r' I' P' => r' = r ∧ I' = J ∧ P' = (fc_PT v))) := by
  unfold f_X3_search_51
  refine lpm2_T (fun k51 hk51 x3 x4 I hf => ?_)
  unfold f_X3_search_51_B at hf
  refine ft_iload dX3_search_51 rfl ?_
  refine ft_iload_n dX3_search_53 rfl ?_
  refine fk_icmp_gt (tgt := 132) dX3_search_54 (by decide) hf (fun hf => ?_) (fun hf => ?_)
  · refine ft_iload_n dX3_search_132 rfl ?_
    refine ft_i2l dX3_search_133 ?_
    exact fk_retl hf dX3_search_134 rfl
  · refine ft_iconst (v := 0) dX3_search_57 rfl ?_
    refine ft_istore dX3_search_58 (by decide) ?_
    exact ft_forget (by simp [fc_le, fc_st1, fc_st2, fc_kill]) (t_X3_search_60 hv hk51 _ _ _ _ hf)
set_option maxHeartbeats 4000000 in
set_option maxRecDepth 100000 in
theorem t_X3_search_4 {d : Nat} {v : Nat} {r : Int64} {J : fc_I} {x1 : Int32} (hv : fc_v v) : ∀ (n : Nat) (x2 : Int32) (x3 : Int32) (I : fc_I) , f_X3_search_4 x1 n x2 x3 I = some (r, J) → fc_T X3_search (d + 6) 0 0 4 [some (.ref 57), some (.int x1), some (.int x2), some (.int x3), none, none, none] [] fc_SH I (fc_PT v) (fc_Ql fc_SH (fun r' I' P' => r' = r ∧ I' = J ∧ P' = (fc_PT v))) := by
  unfold f_X3_search_4
  refine lpm2_T (fun k4 hk4 x2 x3 I hf => ?_)
  unfold f_X3_search_4_B at hf
  refine ft_iload_n dX3_search_4 rfl ?_
  refine ft_aload_n dX3_search_5 rfl ?_
  refine ft_getR fl_X3_28 rfl (sh_57) (by decide) pt_57_0 dX3_search_6 ?_
  refine ft_getI fl_X3_53 rfl (sh_1) (by decide) dX3_search_9 ?_
  refine fk_icmp_ge (tgt := 45) dX3_search_12 (by decide) hf (fun hf => ?_) (fun hf => ?_)
  · refine ft_ldc dX3_search_45 kc_X3_94 ?_
    refine ft_istore_n dX3_search_47 (by decide) ?_
    refine ft_iconst (v := 0) dX3_search_48 rfl ?_
    refine ft_istore dX3_search_49 (by decide) ?_
    exact ft_forget (by simp [fc_le, fc_st1, fc_st2, fc_kill]) (t_X3_search_51 hv  _ _ _ _ hf)
  · refine ft_iload_n dX3_search_15 rfl ?_
    refine ft_iload_n dX3_search_16 rfl ?_
    refine ft_ishr dX3_search_17 ?_
    refine ft_iconst (v := 1) dX3_search_18 rfl ?_
    refine ft_iand dX3_search_19 ?_
    refine ft_iconst (v := 1) dX3_search_20 rfl ?_
    refine fk_icmp_ne (tgt := 39) dX3_search_21 (by decide) hf (fun hf => ?_) (fun hf => ?_)
    · refine fk_iinc (c := 1) dX3_search_39 rfl (by decide) rfl ?_
      refine ft_goto (tgt := 4) dX3_search_42 (by decide) ?_
      exact ft_forget (by simp [fc_le, fc_st1, fc_st2, fc_kill]) (hk4 _ _ _ hf)
    · refine ft_iload_n dX3_search_24 rfl ?_
      refine ft_iconst (v := 4) dX3_search_25 rfl ?_
      refine fk_icmp_ge (tgt := 39) dX3_search_26 (by decide) hf (fun hf => ?_) (fun hf => ?_)
      · refine fk_iinc (c := 1) dX3_search_39 rfl (by decide) rfl ?_
        refine ft_goto (tgt := 4) dX3_search_42 (by decide) ?_
        exact ft_forget (by simp [fc_le, fc_st1, fc_st2, fc_kill]) (hk4 _ _ _ hf)
      · refine ft_aload_n dX3_search_29 rfl ?_
        refine ft_getR fl_X3_25 rfl (sh_57) (by decide) pt_57_7 dX3_search_30 ?_
        refine ft_iload_n dX3_search_33 rfl ?_
        refine fk_iinc (c := 1) dX3_search_34 rfl (by decide) rfl ?_
        refine ft_iload_n dX3_search_37 rfl ?_
        refine fk_iast (sh_69) hf dX3_search_38 (fun hf => ?_)
        refine fk_iinc (c := 1) dX3_search_39 rfl (by decide) rfl ?_
        refine ft_goto (tgt := 4) dX3_search_42 (by decide) ?_
        exact ft_forget (by simp [fc_le, fc_st1, fc_st2, fc_kill]) (hk4 _ _ _ hf)
set_option maxHeartbeats 4000000 in
set_option maxRecDepth 100000 in
theorem t_X3_search {d : Nat} {v : Nat} {r : Int64} {J : fc_I} {I : fc_I} {x1 : Int32} (hv : fc_v v) (hf : f_X3_search I x1 = some (r, J)) : fc_Cl X3_search (d + 6) [.ref 57, .int x1] fc_SH I (fc_PT v) (fun r' I' P' => r' = r ∧ I' = J ∧ P' = (fc_PT v)) := by
  unfold f_X3_search at hf
  refine fc_Cl.of (ls := [some (.ref 57), some (.int x1), none, none, none, none, none]) ⟨rfl, rfl⟩ (Nat.le_of_ble_eq_true rfl) rfl ?_
  refine ft_iconst (v := 0) dX3_search_0 rfl ?_
  refine ft_istore_n dX3_search_1 (by decide) ?_
  refine ft_iconst (v := 0) dX3_search_2 rfl ?_
  refine ft_istore_n dX3_search_3 (by decide) ?_
  exact ft_forget (by simp [fc_le, fc_st1, fc_st2, fc_kill]) (t_X3_search_4 hv  _ _ _ _ hf)
def f_X1_hire (I : fc_I) (x1 : Int32) (x2 : Int32) (x3 : Int32) (x4 : Int32) : Option (Int32 × fc_I) :=
fq_l (fc_wI I 10 4 ((I 10 4) + 1)) fun I8 =>
fq_l ((I 10 4)) fun y11 =>
fq_g 4 y11 (fq_l (fc_wI I8 11 (cn y11) x1) fun I20 =>
fq_g 4 y11 (fq_l (fc_wI I20 12 (cn y11) x2) fun I28 =>
fq_g 4 y11 (fq_l (fc_wI I28 13 (cn y11) x3) fun I36 =>
fq_g 4 y11 (fq_l (fc_wI I36 14 (cn y11) x4) fun I45 =>
some (y11, I45)))))
set_option maxHeartbeats 4000000 in
set_option maxRecDepth 100000 in
theorem t_X1_hire {d : Nat} {v : Nat} {r : Int32} {J : fc_I} {I : fc_I} {x1 : Int32} {x2 : Int32} {x3 : Int32} {x4 : Int32} (hf : f_X1_hire I x1 x2 x3 x4 = some (r, J)) : fc_Ci X1_hire d [.ref 10, .int x1, .int x2, .int x3, .int x4] fc_SH I (fc_PT v) (fun r' I' P' => r' = r ∧ I' = J ∧ P' = (fc_PT v)) := by
  unfold f_X1_hire at hf
  refine fc_Ci.of (ls := [some (.ref 10), some (.int x1), some (.int x2), some (.int x3), some (.int x4), none]) ⟨rfl, rfl⟩ (Nat.le_of_ble_eq_true rfl) rfl ?_
  refine ft_aload_n dX1_hire_0 rfl ?_
  refine ft_dup dX1_hire_1 rfl ?_
  refine ft_getI fl_X1_24 rfl (sh_10) (by decide) dX1_hire_2 ?_
  refine ft_dup_x1 dX1_hire_5 rfl rfl ?_
  refine ft_iconst (v := 1) dX1_hire_6 rfl ?_
  refine ft_iadd dX1_hire_7 ?_
  refine ft_putI fl_X1_24 rfl (fun q h => by cases h; rfl) (sh_10) (by decide) dX1_hire_8 ?_
  refine ft_istore dX1_hire_11 (by decide) ?_
  refine ft_aload_n dX1_hire_13 rfl ?_
  refine ft_getR fl_X1_9 rfl (sh_10) (by decide) pt_10_0 dX1_hire_14 ?_
  refine ft_iload dX1_hire_17 rfl ?_
  refine ft_iload_n dX1_hire_19 rfl ?_
  refine fk_iast (sh_11) hf dX1_hire_20 (fun hf => ?_)
  refine ft_aload_n dX1_hire_21 rfl ?_
  refine ft_getR fl_X1_15 rfl (sh_10) (by decide) pt_10_1 dX1_hire_22 ?_
  refine ft_iload dX1_hire_25 rfl ?_
  refine ft_iload_n dX1_hire_27 rfl ?_
  refine fk_iast (sh_12) hf dX1_hire_28 (fun hf => ?_)
  refine ft_aload_n dX1_hire_29 rfl ?_
  refine ft_getR fl_X1_18 rfl (sh_10) (by decide) pt_10_2 dX1_hire_30 ?_
  refine ft_iload dX1_hire_33 rfl ?_
  refine ft_iload_n dX1_hire_35 rfl ?_
  refine fk_iast (sh_13) hf dX1_hire_36 (fun hf => ?_)
  refine ft_aload_n dX1_hire_37 rfl ?_
  refine ft_getR fl_X1_21 rfl (sh_10) (by decide) pt_10_3 dX1_hire_38 ?_
  refine ft_iload dX1_hire_41 rfl ?_
  refine ft_iload dX1_hire_43 rfl ?_
  refine fk_iast (sh_14) hf dX1_hire_45 (fun hf => ?_)
  refine ft_iload dX1_hire_46 rfl ?_
  exact fk_reti hf dX1_hire_48 rfl rfl
def f_X7_write (I : fc_I) (x1 : Int32) (x2 : Int32) (x3 : Int32) : Option fc_I :=
fq_g 4 x1 (
fq_g 4 x1 (
if (I 76 (cn x1)).toInt = 0 then (
fq_g 40 x2 (fq_l (fc_wI I (72 + cn x1) (cn x2) (Int8.toInt32 (Int32.toInt8 x3))) fun I37 =>
some I37))
else (
fq_g 4 x1 (
if (I 76 (cn x1)).toInt = (1 : Int32).toInt then (
fq_g 40 x2 (fq_l (fc_wI I (72 + cn x1) (cn x2) (Int16.toInt32 (Int32.toInt16 x3))) fun I37 =>
some I37))
else (
fq_g 40 x2 (fq_l (fc_wI I (72 + cn x1) (cn x2) x3) fun I37 =>
some I37))))))
set_option maxHeartbeats 4000000 in
set_option maxRecDepth 100000 in
theorem t_X7_write {d : Nat} {v : Nat} {J : fc_I} {I : fc_I} {x1 : Int32} {x2 : Int32} {x3 : Int32} (hf : f_X7_write I x1 x2 x3 = some J) : fc_Cv X7_write d [.ref 70, .int x1, .int x2, .int x3] fc_SH I (fc_PT v) (fun I' P' => I' = J ∧ P' = (fc_PT v)) := by
  unfold f_X7_write at hf
  refine fc_Cv.of (ls := [some (.ref 70), some (.int x1), some (.int x2), some (.int x3)]) ⟨rfl, rfl⟩ (Nat.le_of_ble_eq_true rfl) rfl ?_
  refine ft_aload_n dX7_write_0 rfl ?_
  refine ft_getR fl_X7_11 rfl (sh_70) (by decide) pt_70_0 dX7_write_1 ?_
  refine ft_iload_n dX7_write_4 rfl ?_
  refine fk_aald (sh_71) hf (fun b => pa_71 b) dX7_write_5 (fun hb5 hf => ?_)
  refine ft_iload_n dX7_write_6 rfl ?_
  refine ft_aload_n dX7_write_7 rfl ?_
  refine ft_getR fl_X7_16 rfl (sh_70) (by decide) pt_70_1 dX7_write_8 ?_
  refine ft_iload_n dX7_write_11 rfl ?_
  refine fk_iald (sh_76) hf dX7_write_12 (fun hf => ?_)
  refine fk_if_ne (tgt := 21) dX7_write_13 (by decide) hf (fun hf => ?_) (fun hf => ?_)
  · refine ft_aload_n dX7_write_21 rfl ?_
    refine ft_getR fl_X7_16 rfl (sh_70) (by decide) pt_70_1 dX7_write_22 ?_
    refine ft_iload_n dX7_write_25 rfl ?_
    refine fk_iald (sh_76) hf dX7_write_26 (fun hf => ?_)
    refine ft_iconst (v := 1) dX7_write_27 rfl ?_
    refine fk_icmp_ne (tgt := 36) dX7_write_28 (by decide) hf (fun hf => ?_) (fun hf => ?_)
    · refine ft_iload_n dX7_write_36 rfl ?_
      refine fk_iast (sa_71 hb5) hf dX7_write_37 (fun hf => ?_)
      exact fk_retv hf dX7_write_38 rfl
    · refine ft_iload_n dX7_write_31 rfl ?_
      refine ft_i2s dX7_write_32 ?_
      refine ft_goto (tgt := 37) dX7_write_33 (by decide) ?_
      refine fk_iast (sa_71 hb5) hf dX7_write_37 (fun hf => ?_)
      exact fk_retv hf dX7_write_38 rfl
  · refine ft_iload_n dX7_write_16 rfl ?_
    refine ft_i2b dX7_write_17 ?_
    refine ft_goto (tgt := 37) dX7_write_18 (by decide) ?_
    refine fk_iast (sa_71 hb5) hf dX7_write_37 (fun hf => ?_)
    exact fk_retv hf dX7_write_38 rfl
def f_X7_holds (I : fc_I) (x1 : Int32) (x2 : Int32) (x3 : Int32) : Option Int32 :=
if x2.toInt < 0 then (
some 0)
else (
fq_g 4 x1 (
if ((I 77 (cn x1)) - x3).toInt < x2.toInt then (
some 0)
else (
some 1)))
set_option maxHeartbeats 4000000 in
set_option maxRecDepth 100000 in
theorem t_X7_holds {d : Nat} {v : Nat} {r : Int32} {I : fc_I} {x1 : Int32} {x2 : Int32} {x3 : Int32} (hf : f_X7_holds I x1 x2 x3 = some r) : fc_Cp X7_holds d [.ref 70, .int x1, .int x2, .int x3] fc_SH I (fc_PT v) r := by
  unfold f_X7_holds at hf
  refine fc_Cp.of (ls := [some (.ref 70), some (.int x1), some (.int x2), some (.int x3)]) ⟨rfl, rfl⟩ (Nat.le_of_ble_eq_true rfl) rfl ?_
  refine ft_iload_n dX7_holds_0 rfl ?_
  refine fk_if_lt (tgt := 20) dX7_holds_1 (by decide) hf (fun hf => ?_) (fun hf => ?_)
  · refine ft_iconst (v := 0) dX7_holds_20 rfl ?_
    exact fk_retp hf dX7_holds_21 rfl rfl
  · refine ft_iload_n dX7_holds_4 rfl ?_
    refine ft_aload_n dX7_holds_5 rfl ?_
    refine ft_getR fl_X7_20 rfl (sh_70) (by decide) pt_70_2 dX7_holds_6 ?_
    refine ft_iload_n dX7_holds_9 rfl ?_
    refine fk_iald (sh_77) hf dX7_holds_10 (fun hf => ?_)
    refine ft_iload_n dX7_holds_11 rfl ?_
    refine ft_isub dX7_holds_12 ?_
    refine fk_icmp_gt (tgt := 20) dX7_holds_13 (by decide) hf (fun hf => ?_) (fun hf => ?_)
    · refine ft_iconst (v := 0) dX7_holds_20 rfl ?_
      exact fk_retp hf dX7_holds_21 rfl rfl
    · refine ft_iconst (v := 1) dX7_holds_16 rfl ?_
      refine ft_goto (tgt := 21) dX7_holds_17 (by decide) ?_
      exact fk_retp hf dX7_holds_21 rfl rfl
def f_X10_isNoTrack (x0 : Int32) : Option Int32 :=
fq_v (f_X10_isOutside x0 0 2) fun r3 =>
fq_z r3 (some r3)
set_option maxHeartbeats 4000000 in
set_option maxRecDepth 100000 in
theorem t_X10_isNoTrack {d : Nat} {sh : fc_Sh} {P : fc_P} {r : Int32} {I : fc_I} {x0 : Int32} (hf : f_X10_isNoTrack  x0 = some r) : fc_Cp X10_isNoTrack (d + 1) [.int x0] sh I P r := by
  unfold f_X10_isNoTrack at hf
  refine fc_Cp.of (ls := [some (.int x0)]) ⟨rfl, rfl⟩ (Nat.le_of_ble_eq_true rfl) rfl ?_
  refine ft_iload_n dX10_isNoTrack_0 rfl ?_
  refine ft_iconst (v := 0) dX10_isNoTrack_1 rfl ?_
  refine ft_iconst (v := 2) dX10_isNoTrack_2 rfl ?_
  obtain ⟨r3, hc3, hf⟩ := fq_vs hf
  refine ft_S3p cf_X10_86 (t_X10_isOutside hc3) (Nat.le_of_ble_eq_true rfl) dX10_isNoTrack_3 ?_
  obtain ⟨hz, hf⟩ := fq_zs hf
  exact fk_retp hf dX10_isNoTrack_6 rfl (fq_nz hz)
def f_X8_teller_8_B (I : fc_I) (x1 : Int32) (x2 : Int32) (x3 : Int32) (k8 : Int32 → Option Int32) (x4 : Int32) : Option Int32 :=
if x4.toInt < 0 then (
some (-1))
else (
fq_g 40 x4 (
if (I 25 (cn x4)).toInt = x1.toInt then (
fq_g 40 x4 (
if x3.toInt < (I 30 (cn x4)).toInt then (
fq_l (x4 + (-1)) fun y60 =>
k8 y60)
else (
fq_g 40 x4 (
if x2.toInt < (I 26 (cn x4)).toInt then (
fq_l (x4 + (-1)) fun y60 =>
k8 y60)
else (
fq_g 40 x4 (
if x2.toInt < (I 27 (cn x4)).toInt then (
some x4)
else (
fq_l (x4 + (-1)) fun y60 =>
k8 y60)))))))
else (
fq_l (x4 + (-1)) fun y60 =>
k8 y60)))
def f_X8_teller_8 (I : fc_I) (x1 : Int32) (x2 : Int32) (x3 : Int32) (n : Nat) : Int32 → Option Int32 := lpp1 (f_X8_teller_8_B I x1 x2 x3 ) n
def f_X8_teller (I : fc_I) (x1 : Int32) (x2 : Int32) (x3 : Int32) : Option Int32 :=
fq_l (((I 15 9) - 1)) fun y6 =>
f_X8_teller_8 I x1 x2 x3 4000 y6
set_option maxHeartbeats 4000000 in
set_option maxRecDepth 100000 in
theorem t_X8_teller_8 {d : Nat} {v : Nat} {r : Int32} {x1 : Int32} {x2 : Int32} {x3 : Int32} {I : fc_I} : ∀ (n : Nat) (x4 : Int32) , f_X8_teller_8 I x1 x2 x3 n x4 = some r → fc_T X8_teller d 0 0 8 [some (.ref 15), some (.int x1), some (.int x2), some (.int x3), some (.int x4)] [] fc_SH I (fc_PT v) (fc_Qi fc_SH (fun r' I' P' => r' = r ∧ I' = I ∧ P' = (fc_PT v))) := by
  unfold f_X8_teller_8
  refine lpp1_T (fun k8 hk8 x4 hf => ?_)
  unfold f_X8_teller_8_B at hf
  refine ft_iload dX8_teller_8 rfl ?_
  refine fk_if_lt (tgt := 66) dX8_teller_10 (by decide) hf (fun hf => ?_) (fun hf => ?_)
  · refine ft_iconst (v := (-1)) dX8_teller_66 rfl ?_
    exact fk_retp hf dX8_teller_67 rfl rfl
  · refine ft_aload_n dX8_teller_13 rfl ?_
    refine ft_getR fl_X8_23 rfl (sh_15) (by decide) pt_15_3 dX8_teller_14 ?_
    refine ft_iload dX8_teller_17 rfl ?_
    refine fk_iald (sh_25) hf dX8_teller_19 (fun hf => ?_)
    refine ft_iload_n dX8_teller_20 rfl ?_
    refine fk_icmp_ne (tgt := 60) dX8_teller_21 (by decide) hf (fun hf => ?_) (fun hf => ?_)
    · refine fk_iinc (c := (-1)) dX8_teller_60 rfl (by decide) rfl ?_
      refine ft_goto (tgt := 8) dX8_teller_63 (by decide) ?_
      exact ft_forget (by simp [fc_le, fc_st1, fc_st2, fc_kill]) (hk8 _ hf)
    · refine ft_aload_n dX8_teller_24 rfl ?_
      refine ft_getR fl_X8_39 rfl (sh_15) (by decide) pt_15_8 dX8_teller_25 ?_
      refine ft_iload dX8_teller_28 rfl ?_
      refine fk_iald (sh_30) hf dX8_teller_30 (fun hf => ?_)
      refine ft_iload_n dX8_teller_31 rfl ?_
      refine fk_icmp_gt (tgt := 60) dX8_teller_32 (by decide) hf (fun hf => ?_) (fun hf => ?_)
      · refine fk_iinc (c := (-1)) dX8_teller_60 rfl (by decide) rfl ?_
        refine ft_goto (tgt := 8) dX8_teller_63 (by decide) ?_
        exact ft_forget (by simp [fc_le, fc_st1, fc_st2, fc_kill]) (hk8 _ hf)
      · refine ft_aload_n dX8_teller_35 rfl ?_
        refine ft_getR fl_X8_27 rfl (sh_15) (by decide) pt_15_4 dX8_teller_36 ?_
        refine ft_iload dX8_teller_39 rfl ?_
        refine fk_iald (sh_26) hf dX8_teller_41 (fun hf => ?_)
        refine ft_iload_n dX8_teller_42 rfl ?_
        refine fk_icmp_gt (tgt := 60) dX8_teller_43 (by decide) hf (fun hf => ?_) (fun hf => ?_)
        · refine fk_iinc (c := (-1)) dX8_teller_60 rfl (by decide) rfl ?_
          refine ft_goto (tgt := 8) dX8_teller_63 (by decide) ?_
          exact ft_forget (by simp [fc_le, fc_st1, fc_st2, fc_kill]) (hk8 _ hf)
        · refine ft_iload_n dX8_teller_46 rfl ?_
          refine ft_aload_n dX8_teller_47 rfl ?_
          refine ft_getR fl_X8_30 rfl (sh_15) (by decide) pt_15_5 dX8_teller_48 ?_
          refine ft_iload dX8_teller_51 rfl ?_
          refine fk_iald (sh_27) hf dX8_teller_53 (fun hf => ?_)
          refine fk_icmp_ge (tgt := 60) dX8_teller_54 (by decide) hf (fun hf => ?_) (fun hf => ?_)
          · refine fk_iinc (c := (-1)) dX8_teller_60 rfl (by decide) rfl ?_
            refine ft_goto (tgt := 8) dX8_teller_63 (by decide) ?_
            exact ft_forget (by simp [fc_le, fc_st1, fc_st2, fc_kill]) (hk8 _ hf)
          · refine ft_iload dX8_teller_57 rfl ?_
            exact fk_retp hf dX8_teller_59 rfl rfl
set_option maxHeartbeats 4000000 in
set_option maxRecDepth 100000 in
theorem t_X8_teller {d : Nat} {v : Nat} {r : Int32} {I : fc_I} {x1 : Int32} {x2 : Int32} {x3 : Int32} (hf : f_X8_teller I x1 x2 x3 = some r) : fc_Cp X8_teller d [.ref 15, .int x1, .int x2, .int x3] fc_SH I (fc_PT v) r := by
  unfold f_X8_teller at hf
  refine fc_Cp.of (ls := [some (.ref 15), some (.int x1), some (.int x2), some (.int x3), none]) ⟨rfl, rfl⟩ (Nat.le_of_ble_eq_true rfl) rfl ?_
  refine ft_aload_n dX8_teller_0 rfl ?_
  refine ft_getI fl_X8_54 rfl (sh_15) (by decide) dX8_teller_1 ?_
  refine ft_iconst (v := 1) dX8_teller_4 rfl ?_
  refine ft_isub dX8_teller_5 ?_
  refine ft_istore dX8_teller_6 (by decide) ?_
  exact ft_forget (by simp [fc_le, fc_st1, fc_st2, fc_kill]) (t_X8_teller_8   _ _ hf)
def f_X8_waterKnown (I : fc_I) (x1 : Int32) (x2 : Int32) (x3 : Int32) : Option Int32 :=
fq_v (f_X8_teller I x1 x2 x3) fun r4 =>
if r4.toInt = ((-1) : Int32).toInt then (
some 0)
else (
fq_g 40 r4 (
some (I 28 (cn r4))))
set_option maxHeartbeats 4000000 in
set_option maxRecDepth 100000 in
theorem t_X8_waterKnown {d : Nat} {v : Nat} {r : Int32} {I : fc_I} {x1 : Int32} {x2 : Int32} {x3 : Int32} (hf : f_X8_waterKnown I x1 x2 x3 = some r) : fc_Cp X8_waterKnown (d + 1) [.ref 15, .int x1, .int x2, .int x3] fc_SH I (fc_PT v) r := by
  unfold f_X8_waterKnown at hf
  refine fc_Cp.of (ls := [some (.ref 15), some (.int x1), some (.int x2), some (.int x3), none]) ⟨rfl, rfl⟩ (Nat.le_of_ble_eq_true rfl) rfl ?_
  refine ft_aload_n dX8_waterKnown_0 rfl ?_
  refine ft_iload_n dX8_waterKnown_1 rfl ?_
  refine ft_iload_n dX8_waterKnown_2 rfl ?_
  refine ft_iload_n dX8_waterKnown_3 rfl ?_
  obtain ⟨r4, hc4, hf⟩ := fq_vs hf
  refine ft_V3p cf_X8_57 (sh_15) (t_X8_teller hc4) (Nat.le_of_ble_eq_true rfl) dX8_waterKnown_4 ?_
  refine ft_istore dX8_waterKnown_7 (by decide) ?_
  refine ft_iload dX8_waterKnown_9 rfl ?_
  refine ft_iconst (v := (-1)) dX8_waterKnown_11 rfl ?_
  refine fk_icmp_ne (tgt := 19) dX8_waterKnown_12 (by decide) hf (fun hf => ?_) (fun hf => ?_)
  · refine ft_aload_n dX8_waterKnown_19 rfl ?_
    refine ft_getR fl_X8_33 rfl (sh_15) (by decide) pt_15_6 dX8_waterKnown_20 ?_
    refine ft_iload dX8_waterKnown_23 rfl ?_
    refine fk_iald (sh_28) hf dX8_waterKnown_25 (fun hf => ?_)
    exact fk_retp hf dX8_waterKnown_26 rfl rfl
  · refine ft_iconst (v := 0) dX8_waterKnown_15 rfl ?_
    refine ft_goto (tgt := 26) dX8_waterKnown_16 (by decide) ?_
    exact fk_retp hf dX8_waterKnown_26 rfl rfl
def f_X8_wasDanger_24_B (I : fc_I) (x1 : Int32) (x2 : Int32) (x3 : Int32) (x4 : Int32) (k15 : Int32 → Option Int32) (k24 : Int32 → Option Int32) (x5 : Int32) : Option Int32 :=
fq_g 3 x4 (
if (I 16 (cn x4)).toInt = 0 then (
fq_l (x4 + 1) fun y61 =>
k15 y61)
else (
if x3.toInt < x5.toInt then (
fq_l (x4 + 1) fun y61 =>
k15 y61)
else (
fq_v (f_X8_waterKnown I x4 x5 x2) fun r46 =>
if x1.toInt < r46.toInt then (
some 1)
else (
fq_l (x5 + 1) fun y55 =>
k24 y55))))
def f_X8_wasDanger_24 (I : fc_I) (x1 : Int32) (x2 : Int32) (x3 : Int32) (x4 : Int32) (k15 : Int32 → Option Int32) (n : Nat) : Int32 → Option Int32 := lpp1 (f_X8_wasDanger_24_B I x1 x2 x3 x4 k15 ) n
def f_X8_wasDanger_15_B (I : fc_I) (x1 : Int32) (x2 : Int32) (x3 : Int32) (k15 : Int32 → Option Int32) (x4 : Int32) : Option Int32 :=
if x4.toInt < (3 : Int32).toInt then (
f_X8_wasDanger_24 I x1 x2 x3 x4 k15 4000 x2)
else (
some 0)
def f_X8_wasDanger_15 (I : fc_I) (x1 : Int32) (x2 : Int32) (x3 : Int32) (n : Nat) : Int32 → Option Int32 := lpp1 (f_X8_wasDanger_15_B I x1 x2 x3 ) n
def f_X8_wasDanger (I : fc_I) (x1 : Int32) (x2 : Int32) : Option Int32 :=
fq_l ((imin (x2 + 12) (I 15 11))) fun y11 =>
f_X8_wasDanger_15 I x1 x2 y11 4000 0
set_option maxHeartbeats 4000000 in
set_option maxRecDepth 100000 in
theorem t_X8_wasDanger_24 {d : Nat} {v : Nat} {r : Int32} {x1 : Int32} {x2 : Int32} {x3 : Int32} {x4 : Int32} {k15 : Int32 → Option Int32} {I : fc_I} (hk15 : ∀ (x4 : Int32), k15 x4 = some r → fc_T X8_wasDanger (d + 2) 0 0 15 [some (.ref 15), some (.int x1), some (.int x2), some (.int x3), some (.int x4), none] [] fc_SH I (fc_PT v) (fc_Qi fc_SH (fun r' I' P' => r' = r ∧ I' = I ∧ P' = (fc_PT v)))) : ∀ (n : Nat) (x5 : Int32) , f_X8_wasDanger_24 I x1 x2 x3 x4 k15 n x5 = some r → fc_T X8_wasDanger (d + 2) 0 0 24 [some (.ref 15), some (.int x1), some (.int x2), some (.int x3), some (.int x4), some (.int x5)] [] fc_SH I (fc_PT v) (fc_Qi fc_SH (fun r' I' P' => r' = r ∧ I' = I ∧ P' = (fc_PT v))) := by
  unfold f_X8_wasDanger_24
  refine lpp1_T (fun k24 hk24 x5 hf => ?_)
  unfold f_X8_wasDanger_24_B at hf
  refine ft_aload_n dX8_wasDanger_24 rfl ?_
  refine ft_getR fl_X8_9 rfl (sh_15) (by decide) pt_15_0 dX8_wasDanger_25 ?_
  refine ft_iload dX8_wasDanger_28 rfl ?_
  refine fk_zald (sh_16) hf dX8_wasDanger_30 (fun hf => ?_)
  refine fk_if_eq (tgt := 61) dX8_wasDanger_31 (by decide) hf (fun hf => ?_) (fun hf => ?_)
  · refine fk_iinc (c := 1) dX8_wasDanger_61 rfl (by decide) rfl ?_
    refine ft_goto (tgt := 15) dX8_wasDanger_64 (by decide) ?_
    exact ft_forget (by simp [fc_le, fc_st1, fc_st2, fc_kill]) (hk15 _ hf)
  · refine ft_iload dX8_wasDanger_34 rfl ?_
    refine ft_iload_n dX8_wasDanger_36 rfl ?_
    refine fk_icmp_gt (tgt := 61) dX8_wasDanger_37 (by decide) hf (fun hf => ?_) (fun hf => ?_)
    · refine fk_iinc (c := 1) dX8_wasDanger_61 rfl (by decide) rfl ?_
      refine ft_goto (tgt := 15) dX8_wasDanger_64 (by decide) ?_
      exact ft_forget (by simp [fc_le, fc_st1, fc_st2, fc_kill]) (hk15 _ hf)
    · refine ft_aload_n dX8_wasDanger_40 rfl ?_
      refine ft_iload dX8_wasDanger_41 rfl ?_
      refine ft_iload dX8_wasDanger_43 rfl ?_
      refine ft_iload_n dX8_wasDanger_45 rfl ?_
      obtain ⟨r46, hc46, hf⟩ := fq_vs hf
      refine ft_V3p cf_X8_67 (sh_15) (t_X8_waterKnown hc46) (Nat.le_of_ble_eq_true rfl) dX8_wasDanger_46 ?_
      refine ft_iload_n dX8_wasDanger_49 rfl ?_
      refine fk_icmp_le (tgt := 55) dX8_wasDanger_50 (by decide) hf (fun hf => ?_) (fun hf => ?_)
      · refine fk_iinc (c := 1) dX8_wasDanger_55 rfl (by decide) rfl ?_
        refine ft_goto (tgt := 24) dX8_wasDanger_58 (by decide) ?_
        exact ft_forget (by simp [fc_le, fc_st1, fc_st2, fc_kill]) (hk24 _ hf)
      · refine ft_iconst (v := 1) dX8_wasDanger_53 rfl ?_
        exact fk_retp hf dX8_wasDanger_54 rfl rfl
set_option maxHeartbeats 4000000 in
set_option maxRecDepth 100000 in
theorem t_X8_wasDanger_15 {d : Nat} {v : Nat} {r : Int32} {x1 : Int32} {x2 : Int32} {x3 : Int32} {I : fc_I} : ∀ (n : Nat) (x4 : Int32) , f_X8_wasDanger_15 I x1 x2 x3 n x4 = some r → fc_T X8_wasDanger (d + 2) 0 0 15 [some (.ref 15), some (.int x1), some (.int x2), some (.int x3), some (.int x4), none] [] fc_SH I (fc_PT v) (fc_Qi fc_SH (fun r' I' P' => r' = r ∧ I' = I ∧ P' = (fc_PT v))) := by
  unfold f_X8_wasDanger_15
  refine lpp1_T (fun k15 hk15 x4 hf => ?_)
  unfold f_X8_wasDanger_15_B at hf
  refine ft_iload dX8_wasDanger_15 rfl ?_
  refine ft_iconst (v := 3) dX8_wasDanger_17 rfl ?_
  refine fk_icmp_ge (tgt := 67) dX8_wasDanger_18 (by decide) hf (fun hf => ?_) (fun hf => ?_)
  · refine ft_iconst (v := 0) dX8_wasDanger_67 rfl ?_
    exact fk_retp hf dX8_wasDanger_68 rfl rfl
  · refine ft_iload_n dX8_wasDanger_21 rfl ?_
    refine ft_istore dX8_wasDanger_22 (by decide) ?_
    exact ft_forget (by simp [fc_le, fc_st1, fc_st2, fc_kill]) (t_X8_wasDanger_24  hk15 _ _ hf)
set_option maxHeartbeats 4000000 in
set_option maxRecDepth 100000 in
theorem t_X8_wasDanger {d : Nat} {v : Nat} {r : Int32} {I : fc_I} {x1 : Int32} {x2 : Int32} (hf : f_X8_wasDanger I x1 x2 = some r) : fc_Cp X8_wasDanger (d + 2) [.ref 15, .int x1, .int x2] fc_SH I (fc_PT v) r := by
  unfold f_X8_wasDanger at hf
  refine fc_Cp.of (ls := [some (.ref 15), some (.int x1), some (.int x2), none, none, none]) ⟨rfl, rfl⟩ (Nat.le_of_ble_eq_true rfl) rfl ?_
  refine ft_iload_n dX8_wasDanger_0 rfl ?_
  refine ft_bipush (v := 12) dX8_wasDanger_1 rfl ?_
  refine ft_iadd dX8_wasDanger_3 ?_
  refine ft_aload_n dX8_wasDanger_4 rfl ?_
  refine ft_getI fl_X8_42 rfl (sh_15) (by decide) dX8_wasDanger_5 ?_
  refine ft_mmin cf_X8_61 (Nat.le_of_ble_eq_true rfl) dX8_wasDanger_8 ?_
  refine ft_istore_n dX8_wasDanger_11 (by decide) ?_
  refine ft_iconst (v := 0) dX8_wasDanger_12 rfl ?_
  refine ft_istore dX8_wasDanger_13 (by decide) ?_
  exact ft_forget (by simp [fc_le, fc_st1, fc_st2, fc_kill]) (t_X8_wasDanger_15   _ _ hf)
def f_X8_windKnown (I : fc_I) (x1 : Int32) (x2 : Int32) (x3 : Int32) : Option Int32 :=
fq_v (f_X8_teller I x1 x2 x3) fun r4 =>
if r4.toInt = ((-1) : Int32).toInt then (
some 0)
else (
fq_g 40 r4 (
some (I 29 (cn r4))))
set_option maxHeartbeats 4000000 in
set_option maxRecDepth 100000 in
theorem t_X8_windKnown {d : Nat} {v : Nat} {r : Int32} {I : fc_I} {x1 : Int32} {x2 : Int32} {x3 : Int32} (hf : f_X8_windKnown I x1 x2 x3 = some r) : fc_Cp X8_windKnown (d + 1) [.ref 15, .int x1, .int x2, .int x3] fc_SH I (fc_PT v) r := by
  unfold f_X8_windKnown at hf
  refine fc_Cp.of (ls := [some (.ref 15), some (.int x1), some (.int x2), some (.int x3), none]) ⟨rfl, rfl⟩ (Nat.le_of_ble_eq_true rfl) rfl ?_
  refine ft_aload_n dX8_windKnown_0 rfl ?_
  refine ft_iload_n dX8_windKnown_1 rfl ?_
  refine ft_iload_n dX8_windKnown_2 rfl ?_
  refine ft_iload_n dX8_windKnown_3 rfl ?_
  obtain ⟨r4, hc4, hf⟩ := fq_vs hf
  refine ft_V3p cf_X8_57 (sh_15) (t_X8_teller hc4) (Nat.le_of_ble_eq_true rfl) dX8_windKnown_4 ?_
  refine ft_istore dX8_windKnown_7 (by decide) ?_
  refine ft_iload dX8_windKnown_9 rfl ?_
  refine ft_iconst (v := (-1)) dX8_windKnown_11 rfl ?_
  refine fk_icmp_ne (tgt := 19) dX8_windKnown_12 (by decide) hf (fun hf => ?_) (fun hf => ?_)
  · refine ft_aload_n dX8_windKnown_19 rfl ?_
    refine ft_getR fl_X8_36 rfl (sh_15) (by decide) pt_15_7 dX8_windKnown_20 ?_
    refine ft_iload dX8_windKnown_23 rfl ?_
    refine fk_iald (sh_29) hf dX8_windKnown_25 (fun hf => ?_)
    exact fk_retp hf dX8_windKnown_26 rfl rfl
  · refine ft_iconst (v := 0) dX8_windKnown_15 rfl ?_
    refine ft_goto (tgt := 26) dX8_windKnown_16 (by decide) ?_
    exact fk_retp hf dX8_windKnown_26 rfl rfl
def f_X8_hear_133_B (x2 : Int32) (x4 : Int32) (x5 : Int32) (x6 : Int32) (k133 : Int32 → fc_I → Option (Int32 × fc_I)) (x7 : Int32) (I : fc_I) : Option (Int32 × fc_I) :=
if x7.toInt < x4.toInt then (
fq_g 3 x2 (
fq_g 61 x7 (fq_l (fc_wI I (18 + cn x2) (cn x7) x5) fun I150 =>
fq_g 3 x2 (
fq_g 61 x7 (fq_l (fc_wI I150 (22 + cn x2) (cn x7) x6) fun I161 =>
fq_l (x7 + 1) fun y162 =>
k133 y162 I161)))))
else (
fq_l (fc_wI I 15 9 ((I 15 9) + 1)) fun I176 =>
some ((I 15 9), I176))
def f_X8_hear_133 (x2 : Int32) (x4 : Int32) (x5 : Int32) (x6 : Int32) (n : Nat) : Int32 → fc_I → Option (Int32 × fc_I) := lpm1 (f_X8_hear_133_B x2 x4 x5 x6 ) n
def f_X8_hear (I : fc_I) (x1 : Int32) (x2 : Int32) (x3 : Int32) (x4 : Int32) (x5 : Int32) (x6 : Int32) : Option (Int32 × fc_I) :=
fq_v (f_X10_isNoTrack x2) fun r1 =>
if r1.toInt = 0 then (
fq_v (f_X10_isOutside x3 x1 60) fun r11 =>
if r11.toInt = 0 then (
fq_v (f_X10_isOutside x4 (x3 + 1) 61) fun r24 =>
if r24.toInt = 0 then (
fq_v (f_X10_isOutside x5 0 99) fun r35 =>
if r35.toInt = 0 then (
fq_v (f_X10_isOutside x6 0 99) fun r46 =>
if r46.toInt = 0 then (
if (I 15 9).toInt < (40 : Int32).toInt then (
fq_g 40 (I 15 9) (fq_l (fc_wI I 25 (cn (I 15 9)) x2) fun I76 =>
fq_g 40 (I76 15 9) (fq_l (fc_wI I76 26 (cn (I76 15 9)) x3) fun I86 =>
fq_g 40 (I86 15 9) (fq_l (fc_wI I86 27 (cn (I86 15 9)) x4) fun I97 =>
fq_g 40 (I97 15 9) (fq_l (fc_wI I97 28 (cn (I97 15 9)) x5) fun I108 =>
fq_g 40 (I108 15 9) (fq_l (fc_wI I108 29 (cn (I108 15 9)) x6) fun I119 =>
fq_g 40 (I119 15 9) (fq_l (fc_wI I119 30 (cn (I119 15 9)) x1) fun I129 =>
f_X8_hear_133 x2 x4 x5 x6 4000 x3 I129)))))))
else (
some ((-4), I)))
else (
some ((-2), I)))
else (
some ((-2), I)))
else (
some ((-2), I)))
else (
some ((-2), I)))
else (
some ((-2), I))
set_option maxHeartbeats 4000000 in
set_option maxRecDepth 100000 in
theorem t_X8_hear_133 {d : Nat} {v : Nat} {r : Int32} {J : fc_I} {x2 : Int32} {x4 : Int32} {x5 : Int32} {x6 : Int32} : ∀ (n : Nat) (x7 : Int32) (I : fc_I) , f_X8_hear_133 x2 x4 x5 x6 n x7 I = some (r, J) → fc_T X8_hear (d + 2) 0 0 133 [some (.ref 15), none, some (.int x2), none, some (.int x4), some (.int x5), some (.int x6), some (.int x7)] [] fc_SH I (fc_PT v) (fc_Qi fc_SH (fun r' I' P' => r' = r ∧ I' = J ∧ P' = (fc_PT v))) := by
  unfold f_X8_hear_133
  refine lpm1_T (fun k133 hk133 x7 I hf => ?_)
  unfold f_X8_hear_133_B at hf
  refine ft_iload dX8_hear_133 rfl ?_
  refine ft_iload dX8_hear_135 rfl ?_
  refine fk_icmp_ge (tgt := 168) dX8_hear_137 (by decide) hf (fun hf => ?_) (fun hf => ?_)
  · refine ft_aload_n dX8_hear_168 rfl ?_
    refine ft_dup dX8_hear_169 rfl ?_
    refine ft_getI fl_X8_54 rfl (sh_15) (by decide) dX8_hear_170 ?_
    refine ft_dup_x1 dX8_hear_173 rfl rfl ?_
    refine ft_iconst (v := 1) dX8_hear_174 rfl ?_
    refine ft_iadd dX8_hear_175 ?_
    refine ft_putI fl_X8_54 rfl (fun q h => by cases h; rfl) (sh_15) (by decide) dX8_hear_176 ?_
    exact fk_reti hf dX8_hear_179 rfl rfl
  · refine ft_aload_n dX8_hear_140 rfl ?_
    refine ft_getR fl_X8_17 rfl (sh_15) (by decide) pt_15_1 dX8_hear_141 ?_
    refine ft_iload_n dX8_hear_144 rfl ?_
    refine fk_aald (sh_17) hf (fun b => pa_17 b) dX8_hear_145 (fun hb145 hf => ?_)
    refine ft_iload dX8_hear_146 rfl ?_
    refine ft_iload dX8_hear_148 rfl ?_
    refine fk_iast (sa_17 hb145) hf dX8_hear_150 (fun hf => ?_)
    refine ft_aload_n dX8_hear_151 rfl ?_
    refine ft_getR fl_X8_20 rfl (sh_15) (by decide) pt_15_2 dX8_hear_152 ?_
    refine ft_iload_n dX8_hear_155 rfl ?_
    refine fk_aald (sh_21) hf (fun b => pa_21 b) dX8_hear_156 (fun hb156 hf => ?_)
    refine ft_iload dX8_hear_157 rfl ?_
    refine ft_iload dX8_hear_159 rfl ?_
    refine fk_iast (sa_21 hb156) hf dX8_hear_161 (fun hf => ?_)
    refine fk_iinc (c := 1) dX8_hear_162 rfl (by decide) rfl ?_
    refine ft_goto (tgt := 133) dX8_hear_165 (by decide) ?_
    exact ft_forget (by simp [fc_le, fc_st1, fc_st2, fc_kill]) (hk133 _ _ hf)
set_option maxHeartbeats 4000000 in
set_option maxRecDepth 100000 in
theorem t_X8_hear {d : Nat} {v : Nat} {r : Int32} {J : fc_I} {I : fc_I} {x1 : Int32} {x2 : Int32} {x3 : Int32} {x4 : Int32} {x5 : Int32} {x6 : Int32} (hf : f_X8_hear I x1 x2 x3 x4 x5 x6 = some (r, J)) : fc_Ci X8_hear (d + 2) [.ref 15, .int x1, .int x2, .int x3, .int x4, .int x5, .int x6] fc_SH I (fc_PT v) (fun r' I' P' => r' = r ∧ I' = J ∧ P' = (fc_PT v)) := by
  unfold f_X8_hear at hf
  refine fc_Ci.of (ls := [some (.ref 15), some (.int x1), some (.int x2), some (.int x3), some (.int x4), some (.int x5), some (.int x6), none]) ⟨rfl, rfl⟩ (Nat.le_of_ble_eq_true rfl) rfl ?_
  refine ft_iload_n dX8_hear_0 rfl ?_
  obtain ⟨r1, hc1, hf⟩ := fq_vs hf
  refine ft_SN1p cf_X8_46 (t_X10_isNoTrack hc1) (Nat.le_of_ble_eq_true rfl) dX8_hear_1 ?_
  refine fk_if_ne (tgt := 52) dX8_hear_4 (by decide) hf (fun hf => ?_) (fun hf => ?_)
  · refine ft_bipush (v := (-2)) dX8_hear_52 rfl ?_
    exact fk_reti hf dX8_hear_54 rfl rfl
  · refine ft_iload_n dX8_hear_7 rfl ?_
    refine ft_iload_n dX8_hear_8 rfl ?_
    refine ft_bipush (v := 60) dX8_hear_9 rfl ?_
    obtain ⟨r11, hc11, hf⟩ := fq_vs hf
    refine ft_SN3p cf_X8_50 (t_X10_isOutside hc11) (Nat.le_of_ble_eq_true rfl) dX8_hear_11 ?_
    refine fk_if_ne (tgt := 52) dX8_hear_14 (by decide) hf (fun hf => ?_) (fun hf => ?_)
    · refine ft_bipush (v := (-2)) dX8_hear_52 rfl ?_
      exact fk_reti hf dX8_hear_54 rfl rfl
    · refine ft_iload dX8_hear_17 rfl ?_
      refine ft_iload_n dX8_hear_19 rfl ?_
      refine ft_iconst (v := 1) dX8_hear_20 rfl ?_
      refine ft_iadd dX8_hear_21 ?_
      refine ft_bipush (v := 61) dX8_hear_22 rfl ?_
      obtain ⟨r24, hc24, hf⟩ := fq_vs hf
      refine ft_SN3p cf_X8_50 (t_X10_isOutside hc24) (Nat.le_of_ble_eq_true rfl) dX8_hear_24 ?_
      refine fk_if_ne (tgt := 52) dX8_hear_27 (by decide) hf (fun hf => ?_) (fun hf => ?_)
      · refine ft_bipush (v := (-2)) dX8_hear_52 rfl ?_
        exact fk_reti hf dX8_hear_54 rfl rfl
      · refine ft_iload dX8_hear_30 rfl ?_
        refine ft_iconst (v := 0) dX8_hear_32 rfl ?_
        refine ft_bipush (v := 99) dX8_hear_33 rfl ?_
        obtain ⟨r35, hc35, hf⟩ := fq_vs hf
        refine ft_SN3p cf_X8_50 (t_X10_isOutside hc35) (Nat.le_of_ble_eq_true rfl) dX8_hear_35 ?_
        refine fk_if_ne (tgt := 52) dX8_hear_38 (by decide) hf (fun hf => ?_) (fun hf => ?_)
        · refine ft_bipush (v := (-2)) dX8_hear_52 rfl ?_
          exact fk_reti hf dX8_hear_54 rfl rfl
        · refine ft_iload dX8_hear_41 rfl ?_
          refine ft_iconst (v := 0) dX8_hear_43 rfl ?_
          refine ft_bipush (v := 99) dX8_hear_44 rfl ?_
          obtain ⟨r46, hc46, hf⟩ := fq_vs hf
          refine ft_SN3p cf_X8_50 (t_X10_isOutside hc46) (Nat.le_of_ble_eq_true rfl) dX8_hear_46 ?_
          refine fk_if_eq (tgt := 55) dX8_hear_49 (by decide) hf (fun hf => ?_) (fun hf => ?_)
          · refine ft_aload_n dX8_hear_55 rfl ?_
            refine ft_getI fl_X8_54 rfl (sh_15) (by decide) dX8_hear_56 ?_
            refine ft_bipush (v := 40) dX8_hear_59 rfl ?_
            refine fk_icmp_lt (tgt := 67) dX8_hear_61 (by decide) hf (fun hf => ?_) (fun hf => ?_)
            · refine ft_aload_n dX8_hear_67 rfl ?_
              refine ft_getR fl_X8_23 rfl (sh_15) (by decide) pt_15_3 dX8_hear_68 ?_
              refine ft_aload_n dX8_hear_71 rfl ?_
              refine ft_getI fl_X8_54 rfl (sh_15) (by decide) dX8_hear_72 ?_
              refine ft_iload_n dX8_hear_75 rfl ?_
              refine fk_iast (sh_25) hf dX8_hear_76 (fun hf => ?_)
              refine ft_aload_n dX8_hear_77 rfl ?_
              refine ft_getR fl_X8_27 rfl (sh_15) (by decide) pt_15_4 dX8_hear_78 ?_
              refine ft_aload_n dX8_hear_81 rfl ?_
              refine ft_getI fl_X8_54 rfl (sh_15) (by decide) dX8_hear_82 ?_
              refine ft_iload_n dX8_hear_85 rfl ?_
              refine fk_iast (sh_26) hf dX8_hear_86 (fun hf => ?_)
              refine ft_aload_n dX8_hear_87 rfl ?_
              refine ft_getR fl_X8_30 rfl (sh_15) (by decide) pt_15_5 dX8_hear_88 ?_
              refine ft_aload_n dX8_hear_91 rfl ?_
              refine ft_getI fl_X8_54 rfl (sh_15) (by decide) dX8_hear_92 ?_
              refine ft_iload dX8_hear_95 rfl ?_
              refine fk_iast (sh_27) hf dX8_hear_97 (fun hf => ?_)
              refine ft_aload_n dX8_hear_98 rfl ?_
              refine ft_getR fl_X8_33 rfl (sh_15) (by decide) pt_15_6 dX8_hear_99 ?_
              refine ft_aload_n dX8_hear_102 rfl ?_
              refine ft_getI fl_X8_54 rfl (sh_15) (by decide) dX8_hear_103 ?_
              refine ft_iload dX8_hear_106 rfl ?_
              refine fk_iast (sh_28) hf dX8_hear_108 (fun hf => ?_)
              refine ft_aload_n dX8_hear_109 rfl ?_
              refine ft_getR fl_X8_36 rfl (sh_15) (by decide) pt_15_7 dX8_hear_110 ?_
              refine ft_aload_n dX8_hear_113 rfl ?_
              refine ft_getI fl_X8_54 rfl (sh_15) (by decide) dX8_hear_114 ?_
              refine ft_iload dX8_hear_117 rfl ?_
              refine fk_iast (sh_29) hf dX8_hear_119 (fun hf => ?_)
              refine ft_aload_n dX8_hear_120 rfl ?_
              refine ft_getR fl_X8_39 rfl (sh_15) (by decide) pt_15_8 dX8_hear_121 ?_
              refine ft_aload_n dX8_hear_124 rfl ?_
              refine ft_getI fl_X8_54 rfl (sh_15) (by decide) dX8_hear_125 ?_
              refine ft_iload_n dX8_hear_128 rfl ?_
              refine fk_iast (sh_30) hf dX8_hear_129 (fun hf => ?_)
              refine ft_iload_n dX8_hear_130 rfl ?_
              refine ft_istore dX8_hear_131 (by decide) ?_
              exact ft_forget (by simp [fc_le, fc_st1, fc_st2, fc_kill]) (t_X8_hear_133   _ _ _ hf)
            · refine ft_bipush (v := (-4)) dX8_hear_64 rfl ?_
              exact fk_reti hf dX8_hear_66 rfl rfl
          · refine ft_bipush (v := (-2)) dX8_hear_52 rfl ?_
            exact fk_reti hf dX8_hear_54 rfl rfl
def f_X6_build (I : fc_I) (x1 : Int32) (x2 : Int32) (x3 : Int32) (x4 : Int32) : Option (Int32 × fc_I) :=
fq_l (fc_wI I 4 5 ((I 4 5) + 1)) fun I8 =>
fq_l ((I 4 5)) fun y11 =>
fq_g 14 y11 (fq_l (fc_wI I8 5 (cn y11) x1) fun I20 =>
fq_g 14 y11 (fq_l (fc_wI I20 6 (cn y11) x2) fun I28 =>
fq_g 14 y11 (fq_l (fc_wI I28 7 (cn y11) x3) fun I36 =>
fq_g 14 y11 (fq_l (fc_wI I36 8 (cn y11) x4) fun I45 =>
fq_g 14 y11 (fq_l (fc_wI I45 9 (cn y11) (-1)) fun I53 =>
some (y11, I53))))))
set_option maxHeartbeats 4000000 in
set_option maxRecDepth 100000 in
theorem t_X6_build {d : Nat} {v : Nat} {r : Int32} {J : fc_I} {I : fc_I} {x1 : Int32} {x2 : Int32} {x3 : Int32} {x4 : Int32} (hf : f_X6_build I x1 x2 x3 x4 = some (r, J)) : fc_Ci X6_build d [.ref 4, .int x1, .int x2, .int x3, .int x4] fc_SH I (fc_PT v) (fun r' I' P' => r' = r ∧ I' = J ∧ P' = (fc_PT v)) := by
  unfold f_X6_build at hf
  refine fc_Ci.of (ls := [some (.ref 4), some (.int x1), some (.int x2), some (.int x3), some (.int x4), none]) ⟨rfl, rfl⟩ (Nat.le_of_ble_eq_true rfl) rfl ?_
  refine ft_aload_n dX6_build_0 rfl ?_
  refine ft_dup dX6_build_1 rfl ?_
  refine ft_getI fl_X6_27 rfl (sh_4) (by decide) dX6_build_2 ?_
  refine ft_dup_x1 dX6_build_5 rfl rfl ?_
  refine ft_iconst (v := 1) dX6_build_6 rfl ?_
  refine ft_iadd dX6_build_7 ?_
  refine ft_putI fl_X6_27 rfl (fun q h => by cases h; rfl) (sh_4) (by decide) dX6_build_8 ?_
  refine ft_istore dX6_build_11 (by decide) ?_
  refine ft_aload_n dX6_build_13 rfl ?_
  refine ft_getR fl_X6_9 rfl (sh_4) (by decide) pt_4_0 dX6_build_14 ?_
  refine ft_iload dX6_build_17 rfl ?_
  refine ft_iload_n dX6_build_19 rfl ?_
  refine fk_iast (sh_5) hf dX6_build_20 (fun hf => ?_)
  refine ft_aload_n dX6_build_21 rfl ?_
  refine ft_getR fl_X6_15 rfl (sh_4) (by decide) pt_4_1 dX6_build_22 ?_
  refine ft_iload dX6_build_25 rfl ?_
  refine ft_iload_n dX6_build_27 rfl ?_
  refine fk_iast (sh_6) hf dX6_build_28 (fun hf => ?_)
  refine ft_aload_n dX6_build_29 rfl ?_
  refine ft_getR fl_X6_18 rfl (sh_4) (by decide) pt_4_2 dX6_build_30 ?_
  refine ft_iload dX6_build_33 rfl ?_
  refine ft_iload_n dX6_build_35 rfl ?_
  refine fk_iast (sh_7) hf dX6_build_36 (fun hf => ?_)
  refine ft_aload_n dX6_build_37 rfl ?_
  refine ft_getR fl_X6_21 rfl (sh_4) (by decide) pt_4_3 dX6_build_38 ?_
  refine ft_iload dX6_build_41 rfl ?_
  refine ft_iload dX6_build_43 rfl ?_
  refine fk_iast (sh_8) hf dX6_build_45 (fun hf => ?_)
  refine ft_aload_n dX6_build_46 rfl ?_
  refine ft_getR fl_X6_24 rfl (sh_4) (by decide) pt_4_4 dX6_build_47 ?_
  refine ft_iload dX6_build_50 rfl ?_
  refine ft_iconst (v := (-1)) dX6_build_52 rfl ?_
  refine fk_iast (sh_9) hf dX6_build_53 (fun hf => ?_)
  refine ft_iload dX6_build_54 rfl ?_
  exact fk_reti hf dX6_build_56 rfl rfl
def f_X7_lay (I : fc_I) (x1 : Int32) (x2 : Int32) (x3 : Int32) : Option fc_I :=
fq_g 4 x1 (fq_l (fc_wI I 76 (cn x1) x2) fun I6 =>
fq_g 4 x1 (fq_l (fc_wI I6 77 (cn x1) x3) fun I13 =>
fq_g 4 x1 (
fq_u (f_J7_fill_53178 (72 + cn x1) 40 I13 0) fun I21 =>
some I21)))
set_option maxHeartbeats 4000000 in
set_option maxRecDepth 100000 in
theorem t_X7_lay {d : Nat} {v : Nat} {J : fc_I} {I : fc_I} {x1 : Int32} {x2 : Int32} {x3 : Int32} (hf : f_X7_lay I x1 x2 x3 = some J) : fc_Cv X7_lay (d + 1) [.ref 70, .int x1, .int x2, .int x3] fc_SH I (fc_PT v) (fun I' P' => I' = J ∧ P' = (fc_PT v)) := by
  unfold f_X7_lay at hf
  refine fc_Cv.of (ls := [some (.ref 70), some (.int x1), some (.int x2), some (.int x3)]) ⟨rfl, rfl⟩ (Nat.le_of_ble_eq_true rfl) rfl ?_
  refine ft_aload_n dX7_lay_0 rfl ?_
  refine ft_getR fl_X7_16 rfl (sh_70) (by decide) pt_70_1 dX7_lay_1 ?_
  refine ft_iload_n dX7_lay_4 rfl ?_
  refine ft_iload_n dX7_lay_5 rfl ?_
  refine fk_iast (sh_76) hf dX7_lay_6 (fun hf => ?_)
  refine ft_aload_n dX7_lay_7 rfl ?_
  refine ft_getR fl_X7_20 rfl (sh_70) (by decide) pt_70_2 dX7_lay_8 ?_
  refine ft_iload_n dX7_lay_11 rfl ?_
  refine ft_iload_n dX7_lay_12 rfl ?_
  refine fk_iast (sh_77) hf dX7_lay_13 (fun hf => ?_)
  refine ft_aload_n dX7_lay_14 rfl ?_
  refine ft_getR fl_X7_11 rfl (sh_70) (by decide) pt_70_0 dX7_lay_15 ?_
  refine ft_iload_n dX7_lay_18 rfl ?_
  refine fk_aald (sh_71) hf (fun b => pa_71 b) dX7_lay_19 (fun hb19 hf => ?_)
  refine ft_iconst (v := 0) dX7_lay_20 rfl ?_
  obtain ⟨I21, hc21, hf⟩ := fq_us hf
  refine ft_S2v cf_X7_23 (t_J7_fill_53178 (sa_71 hb19) (by decide) hc21) (Nat.le_of_ble_eq_true rfl) dX7_lay_21 (fun J P' q => ?_)
  obtain ⟨rfl, rfl⟩ := q
  exact fk_retv hf dX7_lay_24 rfl
def f_X6_isOfKind_10_B (I : fc_I) (x2 : Int32) (k10 : Int32 → Int32 → Option Int32) (x3 : Int32) (x4 : Int32) : Option Int32 :=
if x4.toInt < (6 : Int32).toInt then (
if x3.toInt = ((-1) : Int32).toInt then (
some 0)
else (
if x3.toInt = x2.toInt then (
some 1)
else (
fq_g 6 x3 (
fq_l ((fc_kab.getD (cn x3) 0)) fun y34 =>
fq_l (x4 + 1) fun y35 =>
k10 y34 y35))))
else (
some 0)
def f_X6_isOfKind_10 (I : fc_I) (x2 : Int32) (n : Nat) : Int32 → Int32 → Option Int32 := lpp2 (f_X6_isOfKind_10_B I x2 ) n
def f_X6_isOfKind (I : fc_I) (x1 : Int32) (x2 : Int32) : Option Int32 :=
fq_g 14 x1 (
fq_l ((I 5 (cn x1))) fun y6 =>
f_X6_isOfKind_10 I x2 4000 y6 0)
set_option maxHeartbeats 4000000 in
set_option maxRecDepth 100000 in
theorem t_X6_isOfKind_10 {d : Nat} {v : Nat} {r : Int32} {x2 : Int32} {I : fc_I} : ∀ (n : Nat) (x3 : Int32) (x4 : Int32) , f_X6_isOfKind_10 I x2 n x3 x4 = some r → fc_T X6_isOfKind d 0 0 10 [none, none, some (.int x2), some (.int x3), some (.int x4)] [] fc_SH I (fc_PT v) (fc_Qi fc_SH (fun r' I' P' => r' = r ∧ I' = I ∧ P' = (fc_PT v))) := by
  unfold f_X6_isOfKind_10
  refine lpp2_T (fun k10 hk10 x3 x4 hf => ?_)
  unfold f_X6_isOfKind_10_B at hf
  refine ft_iload dX6_isOfKind_10 rfl ?_
  refine ft_bipush (v := 6) dX6_isOfKind_12 rfl ?_
  refine fk_icmp_ge (tgt := 41) dX6_isOfKind_14 (by decide) hf (fun hf => ?_) (fun hf => ?_)
  · refine ft_iconst (v := 0) dX6_isOfKind_41 rfl ?_
    exact fk_retp hf dX6_isOfKind_42 rfl rfl
  · refine ft_iload_n dX6_isOfKind_17 rfl ?_
    refine ft_iconst (v := (-1)) dX6_isOfKind_18 rfl ?_
    refine fk_icmp_eq (tgt := 41) dX6_isOfKind_19 (by decide) hf (fun hf => ?_) (fun hf => ?_)
    · refine ft_iconst (v := 0) dX6_isOfKind_41 rfl ?_
      exact fk_retp hf dX6_isOfKind_42 rfl rfl
    · refine ft_iload_n dX6_isOfKind_22 rfl ?_
      refine ft_iload_n dX6_isOfKind_23 rfl ?_
      refine fk_icmp_ne (tgt := 29) dX6_isOfKind_24 (by decide) hf (fun hf => ?_) (fun hf => ?_)
      · refine ft_kab ⟨rfl, rfl⟩ dX6_isOfKind_29 ?_
        refine ft_iload_n dX6_isOfKind_32 rfl ?_
        refine fk_kabI hf dX6_isOfKind_33 (fun hf => ?_)
        refine ft_istore_n dX6_isOfKind_34 (by decide) ?_
        refine fk_iinc (c := 1) dX6_isOfKind_35 rfl (by decide) rfl ?_
        refine ft_goto (tgt := 10) dX6_isOfKind_38 (by decide) ?_
        exact ft_forget (by simp [fc_le, fc_st1, fc_st2, fc_kill]) (hk10 _ _ hf)
      · refine ft_iconst (v := 1) dX6_isOfKind_27 rfl ?_
        exact fk_retp hf dX6_isOfKind_28 rfl rfl
set_option maxHeartbeats 4000000 in
set_option maxRecDepth 100000 in
theorem t_X6_isOfKind {d : Nat} {v : Nat} {r : Int32} {I : fc_I} {x1 : Int32} {x2 : Int32} (hf : f_X6_isOfKind I x1 x2 = some r) : fc_Cp X6_isOfKind d [.ref 4, .int x1, .int x2] fc_SH I (fc_PT v) r := by
  unfold f_X6_isOfKind at hf
  refine fc_Cp.of (ls := [some (.ref 4), some (.int x1), some (.int x2), none, none]) ⟨rfl, rfl⟩ (Nat.le_of_ble_eq_true rfl) rfl ?_
  refine ft_aload_n dX6_isOfKind_0 rfl ?_
  refine ft_getR fl_X6_9 rfl (sh_4) (by decide) pt_4_0 dX6_isOfKind_1 ?_
  refine ft_iload_n dX6_isOfKind_4 rfl ?_
  refine fk_iald (sh_5) hf dX6_isOfKind_5 (fun hf => ?_)
  refine ft_istore_n dX6_isOfKind_6 (by decide) ?_
  refine ft_iconst (v := 0) dX6_isOfKind_7 rfl ?_
  refine ft_istore dX6_isOfKind_8 (by decide) ?_
  exact ft_forget (by simp [fc_le, fc_st1, fc_st2, fc_kill]) (t_X6_isOfKind_10   _ _ _ hf)
