set_option maxHeartbeats 4000000 in
set_option maxRecDepth 100000 in
theorem c_build {d : Nat} {v : Nat} {I : fc_I} (k a b l : Int32) (hb : 0 ≤ (I 4 5).toInt ∧ (I 4 5).toInt < 14) : fc_Ci X6_build d [.ref 4, .int k, .int a, .int b, .int l] fc_SH I (fc_PT v) (fun r I' P' => r = I 4 5 ∧ P' = fc_PT v ∧ I' = fc_wI (fc_wI (fc_wI (fc_wI (fc_wI (fc_wI I 4 5 (I 4 5 + 1)) 5 (cn (I 4 5)) k) 6 (cn (I 4 5)) a) 7 (cn (I 4 5)) b) 8 (cn (I 4 5)) l) 9 (cn (I 4 5)) (-1)) := by
  have km1 : (-1 : Int32).toInt = -1 := rfl
  have k1 : (1 : Int32).toInt = 1 := rfl
  refine fc_Ci.of ⟨rfl, rfl⟩ (Nat.le_of_ble_eq_true rfl) rfl ?_
  refine ft_aload_n dX6_build_0 rfl ?_
  refine ft_dup dX6_build_1 rfl ?_
  refine ft_getI fl_X6_27 rfl sh_4 (by decide) dX6_build_2 ?_
  refine ft_dup_x1 dX6_build_5 rfl rfl ?_
  refine ft_iconst (v := 1) dX6_build_6 rfl ?_
  refine ft_iadd dX6_build_7 ?_
  refine ft_putI fl_X6_27 rfl (fun q h => by cases h; rfl) sh_4 (by decide) dX6_build_8 ?_
  refine ft_istore dX6_build_11 (by decide) ?_
  refine ft_aload_n dX6_build_13 rfl ?_
  refine ft_getR fl_X6_9 rfl sh_4 (by decide) pt_4_0 dX6_build_14 ?_
  refine ft_iload dX6_build_17 rfl ?_
  refine ft_iload_n dX6_build_19 rfl ?_
  refine ft_iast sh_5 (by rw [vp_in_iff]; omega) rfl dX6_build_20 ?_
  refine ft_aload_n dX6_build_21 rfl ?_
  refine ft_getR fl_X6_15 rfl sh_4 (by decide) pt_4_1 dX6_build_22 ?_
  refine ft_iload dX6_build_25 rfl ?_
  refine ft_iload_n dX6_build_27 rfl ?_
  refine ft_iast sh_6 (by rw [vp_in_iff]; omega) rfl dX6_build_28 ?_
  refine ft_aload_n dX6_build_29 rfl ?_
  refine ft_getR fl_X6_18 rfl sh_4 (by decide) pt_4_2 dX6_build_30 ?_
  refine ft_iload dX6_build_33 rfl ?_
  refine ft_iload_n dX6_build_35 rfl ?_
  refine ft_iast sh_7 (by rw [vp_in_iff]; omega) rfl dX6_build_36 ?_
  refine ft_aload_n dX6_build_37 rfl ?_
  refine ft_getR fl_X6_21 rfl sh_4 (by decide) pt_4_3 dX6_build_38 ?_
  refine ft_iload dX6_build_41 rfl ?_
  refine ft_iload dX6_build_43 rfl ?_
  refine ft_iast sh_8 (by rw [vp_in_iff]; omega) rfl dX6_build_45 ?_
  refine ft_aload_n dX6_build_46 rfl ?_
  refine ft_getR fl_X6_24 rfl sh_4 (by decide) pt_4_4 dX6_build_47 ?_
  refine ft_iload dX6_build_50 rfl ?_
  refine ft_iconst (v := (-1)) dX6_build_52 rfl ?_
  refine ft_iast sh_9 (by rw [vp_in_iff]; omega) rfl dX6_build_53 ?_
  refine ft_iload dX6_build_54 rfl ?_
  exact ft_reti dX6_build_56 rfl rfl ⟨rfl, rfl, rfl⟩
set_option maxHeartbeats 4000000 in
set_option maxRecDepth 100000 in
theorem c_hire {d : Nat} {v : Nat} {I : fc_I} (k a b l : Int32) (hb : 0 ≤ (I 10 4).toInt ∧ (I 10 4).toInt < 4) : fc_Ci X1_hire d [.ref 10, .int k, .int a, .int b, .int l] fc_SH I (fc_PT v) (fun r I' P' => r = I 10 4 ∧ P' = fc_PT v ∧ I' = fc_wI (fc_wI (fc_wI (fc_wI (fc_wI I 10 4 (I 10 4 + 1)) 11 (cn (I 10 4)) k) 12 (cn (I 10 4)) a) 13 (cn (I 10 4)) b) 14 (cn (I 10 4)) l) := by
  have k1 : (1 : Int32).toInt = 1 := rfl
  refine fc_Ci.of ⟨rfl, rfl⟩ (Nat.le_of_ble_eq_true rfl) rfl ?_
  refine ft_aload_n dX1_hire_0 rfl ?_
  refine ft_dup dX1_hire_1 rfl ?_
  refine ft_getI fl_X1_24 rfl sh_10 (by decide) dX1_hire_2 ?_
  refine ft_dup_x1 dX1_hire_5 rfl rfl ?_
  refine ft_iconst (v := 1) dX1_hire_6 rfl ?_
  refine ft_iadd dX1_hire_7 ?_
  refine ft_putI fl_X1_24 rfl (fun q h => by cases h; rfl) sh_10 (by decide) dX1_hire_8 ?_
  refine ft_istore dX1_hire_11 (by decide) ?_
  refine ft_aload_n dX1_hire_13 rfl ?_
  refine ft_getR fl_X1_9 rfl sh_10 (by decide) pt_10_0 dX1_hire_14 ?_
  refine ft_iload dX1_hire_17 rfl ?_
  refine ft_iload_n dX1_hire_19 rfl ?_
  refine ft_iast sh_11 (by rw [vp_in_iff]; omega) rfl dX1_hire_20 ?_
  refine ft_aload_n dX1_hire_21 rfl ?_
  refine ft_getR fl_X1_15 rfl sh_10 (by decide) pt_10_1 dX1_hire_22 ?_
  refine ft_iload dX1_hire_25 rfl ?_
  refine ft_iload_n dX1_hire_27 rfl ?_
  refine ft_iast sh_12 (by rw [vp_in_iff]; omega) rfl dX1_hire_28 ?_
  refine ft_aload_n dX1_hire_29 rfl ?_
  refine ft_getR fl_X1_18 rfl sh_10 (by decide) pt_10_2 dX1_hire_30 ?_
  refine ft_iload dX1_hire_33 rfl ?_
  refine ft_iload_n dX1_hire_35 rfl ?_
  refine ft_iast sh_13 (by rw [vp_in_iff]; omega) rfl dX1_hire_36 ?_
  refine ft_aload_n dX1_hire_37 rfl ?_
  refine ft_getR fl_X1_21 rfl sh_10 (by decide) pt_10_3 dX1_hire_38 ?_
  refine ft_iload dX1_hire_41 rfl ?_
  refine ft_iload dX1_hire_43 rfl ?_
  refine ft_iast sh_14 (by rw [vp_in_iff]; omega) rfl dX1_hire_45 ?_
  refine ft_iload dX1_hire_46 rfl ?_
  exact ft_reti dX1_hire_48 rfl rfl ⟨rfl, rfl, rfl⟩
def op_road (A : fc_I) (k a b l : Int32) : Int32 × fc_I := if (k.toInt < 0 ∨ 5 < k.toInt) ∨ (a.toInt < 0 ∨ (A 0 2).toInt ≤ a.toInt) ∨ ((b.toInt < 0 ∨ (A 0 2).toInt ≤ b.toInt) ∧ (b.toInt < 10 ∨ 10 + (A 0 3).toInt ≤ b.toInt) ∧ ¬ b.toInt = 20) ∨ b.toInt = a.toInt ∨ (l.toInt < 1 ∨ 9999 < l.toInt) then (-2, A) else if 14 ≤ (A 0 4).toInt then (-4, A) else (A 0 4, fc_wI (fc_wI (fc_wI (fc_wI (fc_wI (fc_wI A 0 4 (A 0 4 + 1)) 9 (cn (A 0 4)) k) 10 (cn (A 0 4)) a) 11 (cn (A 0 4)) b) 12 (cn (A 0 4)) l) 13 (cn (A 0 4)) (-1))
def op_bus (A : fc_I) (z s k t : Int32) : Int32 × fc_I := if (z.toInt < 0 ∨ (A 0 2).toInt ≤ z.toInt) ∨ (s.toInt < 0 ∨ (A 0 3).toInt ≤ s.toInt) ∨ (k.toInt < 1 ∨ 99 < k.toInt) ∨ (t.toInt < 1 ∨ 9 < t.toInt) then (-2, A) else if 4 ≤ (A 0 5).toInt then (-4, A) else (A 0 5, fc_wI (fc_wI (fc_wI (fc_wI (fc_wI A 0 5 (A 0 5 + 1)) 14 (cn (A 0 5)) z) 15 (cn (A 0 5)) s) 16 (cn (A 0 5)) k) 17 (cn (A 0 5)) t)
def op_use (A : fc_I) (r : Int32) : Int32 × fc_I := if r.toInt < 0 ∨ (A 0 4).toInt ≤ r.toInt then (-2, A) else (A 6 (cn (A 10 (cn r))), fc_wI A 6 (cn (A 10 (cn r))) r)
def op_turn (A : fc_I) (r : Int32) : Int32 × fc_I := if r.toInt < 0 ∨ (A 0 4).toInt ≤ r.toInt then (-2, A) else if ¬ (A 13 (cn r)).toInt = -1 then (-3, A) else (A 0 0, fc_wI A 13 (cn r) (A 0 0))
def op_call (A : fc_I) (z : Int32) : Int32 × fc_I := if z.toInt < 0 ∨ (A 0 2).toInt ≤ z.toInt then (-2, A) else if ¬ (A 5 (cn z)).toInt = -1 ∨ (A 0 1).toInt ≤ (A 0 0).toInt then (-3, A) else (A 0 0, fc_wI A 5 (cn z) (A 0 0))
def op_bestCall (A : fc_I) (z : Int32) : Int32 × fc_I := (if z.toInt < 0 ∨ (A 0 2).toInt ≤ z.toInt then -1 else A 27 (cn z), A)
def op_shelterTold (A : fc_I) (s w : Int32) : Int32 × fc_I := (if s.toInt < 0 ∨ (A 0 3).toInt ≤ s.toInt then -2 else if w.toInt = 0 then A 7 (cn s) else if w.toInt = 1 then A 8 (cn s) else -2, A)
def op_busTold (A : fc_I) (b w : Int32) : Int32 × fc_I := (if b.toInt < 0 ∨ (A 0 5).toInt ≤ b.toInt then -2 else if w.toInt = 0 then (if (A 18 (cn b)).toInt = -1 then 1 else 0) else if w.toInt = 1 then A 19 (cn b) else if w.toInt = 2 then A 18 (cn b) else -2, A)
def op_likely (A : fc_I) (t i : Int32) : Int32 × fc_I := if (t.toInt < 0 ∨ 2 < t.toInt) ∨ (i.toInt < 0 ∨ 1 < i.toInt) then (-2, A) else (A 20 (cn t), fc_wI A 20 (cn t) i)

set_option maxHeartbeats 4000000 in
set_option maxRecDepth 100000 in
theorem x_road {d : Nat} {v : Nat} {I : fc_I} (k a b l : Int32) (hw : Wf0 (aX 45 I)) : fc_Ci X10_road (d + 3) [.ref 0, .int k, .int a, .int b, .int l] fc_SH I (fc_PT v) (xQ v I (op_road (aX 45 I) k a b l)) := by
  have km4 : (-4 : Int32).toInt = -4 := rfl
  have km2 : (-2 : Int32).toInt = -2 := rfl
  have k0 : (0 : Int32).toInt = 0 := rfl
  have k1 : (1 : Int32).toInt = 1 := rfl
  have k5 : (5 : Int32).toInt = 5 := rfl
  have k14 : (14 : Int32).toInt = 14 := rfl
  have k9999 : (9999 : Int32).toInt = 9999 := rfl
  have hw0 : (0 ≤ (I 45 9).toInt ∧ (I 45 9).toInt ≤ (I 15 11).toInt ∧ 1 ≤ (I 15 11).toInt ∧ (I 15 11).toInt ≤ 60) ∧ (0 ≤ (I 1 2).toInt ∧ (I 1 2).toInt ≤ 6) ∧ (0 ≤ (I 1 3).toInt ∧ (I 1 3).toInt ≤ 3) ∧ (0 ≤ (I 4 5).toInt ∧ (I 4 5).toInt ≤ 14) ∧ (0 ≤ (I 10 4).toInt ∧ (I 10 4).toInt ≤ 4) ∧ (0 ≤ (I 15 10).toInt ∧ (I 15 10).toInt ≤ 2) ∧ (0 ≤ (I 15 9).toInt ∧ (I 15 9).toInt ≤ 40) ∧ (0 ≤ (I 31 6).toInt ∧ (I 31 6).toInt ≤ 160) ∧ (1 ≤ (I 31 7).toInt ∧ (I 31 7).toInt ≤ 6) ∧ (0 ≤ (I 31 8).toInt ∧ (I 31 8).toInt < (I 31 7).toInt) := hw
  obtain ⟨⟨w1, w2, w3, w4⟩, ⟨w5, w6⟩, ⟨w7, w8⟩, ⟨w9, w10⟩, ⟨w11, w12⟩, ⟨w13, w14⟩, ⟨w15, w16⟩, ⟨w17, w18⟩, ⟨w19, w20⟩, ⟨w21, w22⟩⟩ := hw0
  refine fc_Ci.of ⟨rfl, rfl⟩ (Nat.le_of_ble_eq_true rfl) rfl ?_
  refine ft_iload_n dX10_road_0 rfl ?_
  refine ft_iconst (v := 0) dX10_road_1 rfl ?_
  refine ft_iconst (v := 5) dX10_road_2 rfl ?_
  refine ft_S3p cf_X10_86 (c_isOutside _ _ _) (Nat.le_of_ble_eq_true rfl) dX10_road_3 ?_
  refine ft_bnz (tgt := 42) dX10_road_6 (by decide) (fun h_6 => ?_) (fun h_6 => ?_)
  · refine ft_bipush (v := (-2)) dX10_road_42 rfl ?_
    exact ft_reti dX10_road_44 rfl rfl (by
    refine ⟨rfl, ?_, ?_, (by intro c hc; first | rfl | (repeat rw [fc_wI_ne (by omega)]))⟩
    all_goals unfold op_road
    all_goals simp only [ax0_0, ax0_1, ax0_2, ax0_3, ax0_4, ax0_5, ax0_6, ax0_7, ax0_8, ax0_9, ax0_10, ax0_11, ax_1, ax_2, ax_3, ax_4, ax_5, ax_6, ax_7, ax_8, ax_9, ax_10, ax_11, ax_12, ax_13, ax_14, ax_15, ax_16, ax_17, ax_18, ax_19, ax_20, ax_21, ax_22, ax_23, ax_24, ax_25, ax_26, ax_27, ax_28]
    all_goals repeat' split
    all_goals first | (exfalso; omega) | rfl | (simp only [bw_2, bw_3, bw_5, bw_6, bw_7, bw_8, bw_9, bw_11, bw_12, bw_13, bw_14, bw_16, bw_25, bw_26, bw_27, bw_28, bw_29, bw_30, bw_68, bw_46, bw_47, bw_48, bw_49, bw_50, bw_51, bw_52, bw_53, bw0_0, bw0_1, bw0_2, bw0_3, bw0_4, bw0_5, bw0_6, bw0_7, bw0_10, bw0_11, bs_42, bs_43, bs_44, bs_54, bs_55, bs_56, bs_57, bs_67, bs_69]; done) | (simp only [bw_2, bw_3, bw_5, bw_6, bw_7, bw_8, bw_9, bw_11, bw_12, bw_13, bw_14, bw_16, bw_25, bw_26, bw_27, bw_28, bw_29, bw_30, bw_68, bw_46, bw_47, bw_48, bw_49, bw_50, bw_51, bw_52, bw_53, bw0_0, bw0_1, bw0_2, bw0_3, bw0_4, bw0_5, bw0_6, bw0_7, bw0_10, bw0_11, bs_42, bs_43, bs_44, bs_54, bs_55, bs_56, bs_57, bs_67, bs_69]; rfl))
  · refine ft_aload_n dX10_road_9 rfl ?_
    refine ft_iload_n dX10_road_10 rfl ?_
    refine ft_V1p cf_X10_114 sh_0 (c_isNoZone _ hw) (Nat.le_of_ble_eq_true rfl) dX10_road_11 ?_
    refine ft_bnz (tgt := 42) dX10_road_14 (by decide) (fun h_14 => ?_) (fun h_14 => ?_)
    · refine ft_bipush (v := (-2)) dX10_road_42 rfl ?_
      exact ft_reti dX10_road_44 rfl rfl (by
    refine ⟨rfl, ?_, ?_, (by intro c hc; first | rfl | (repeat rw [fc_wI_ne (by omega)]))⟩
    all_goals unfold op_road
    all_goals simp only [ax0_0, ax0_1, ax0_2, ax0_3, ax0_4, ax0_5, ax0_6, ax0_7, ax0_8, ax0_9, ax0_10, ax0_11, ax_1, ax_2, ax_3, ax_4, ax_5, ax_6, ax_7, ax_8, ax_9, ax_10, ax_11, ax_12, ax_13, ax_14, ax_15, ax_16, ax_17, ax_18, ax_19, ax_20, ax_21, ax_22, ax_23, ax_24, ax_25, ax_26, ax_27, ax_28]
    all_goals repeat' split
    all_goals first | (exfalso; omega) | rfl | (simp only [bw_2, bw_3, bw_5, bw_6, bw_7, bw_8, bw_9, bw_11, bw_12, bw_13, bw_14, bw_16, bw_25, bw_26, bw_27, bw_28, bw_29, bw_30, bw_68, bw_46, bw_47, bw_48, bw_49, bw_50, bw_51, bw_52, bw_53, bw0_0, bw0_1, bw0_2, bw0_3, bw0_4, bw0_5, bw0_6, bw0_7, bw0_10, bw0_11, bs_42, bs_43, bs_44, bs_54, bs_55, bs_56, bs_57, bs_67, bs_69]; done) | (simp only [bw_2, bw_3, bw_5, bw_6, bw_7, bw_8, bw_9, bw_11, bw_12, bw_13, bw_14, bw_16, bw_25, bw_26, bw_27, bw_28, bw_29, bw_30, bw_68, bw_46, bw_47, bw_48, bw_49, bw_50, bw_51, bw_52, bw_53, bw0_0, bw0_1, bw0_2, bw0_3, bw0_4, bw0_5, bw0_6, bw0_7, bw0_10, bw0_11, bs_42, bs_43, bs_44, bs_54, bs_55, bs_56, bs_57, bs_67, bs_69]; rfl))
    · refine ft_aload_n dX10_road_17 rfl ?_
      refine ft_iload_n dX10_road_18 rfl ?_
      refine ft_V1p cf_X10_118 sh_0 (c_isNoGoal _ hw) (Nat.le_of_ble_eq_true rfl) dX10_road_19 ?_
      refine ft_bnz (tgt := 42) dX10_road_22 (by decide) (fun h_22 => ?_) (fun h_22 => ?_)
      · refine ft_bipush (v := (-2)) dX10_road_42 rfl ?_
        exact ft_reti dX10_road_44 rfl rfl (by
    refine ⟨rfl, ?_, ?_, (by intro c hc; first | rfl | (repeat rw [fc_wI_ne (by omega)]))⟩
    all_goals unfold op_road
    all_goals simp only [ax0_0, ax0_1, ax0_2, ax0_3, ax0_4, ax0_5, ax0_6, ax0_7, ax0_8, ax0_9, ax0_10, ax0_11, ax_1, ax_2, ax_3, ax_4, ax_5, ax_6, ax_7, ax_8, ax_9, ax_10, ax_11, ax_12, ax_13, ax_14, ax_15, ax_16, ax_17, ax_18, ax_19, ax_20, ax_21, ax_22, ax_23, ax_24, ax_25, ax_26, ax_27, ax_28]
    all_goals repeat' split
    all_goals first | (exfalso; omega) | rfl | (simp only [bw_2, bw_3, bw_5, bw_6, bw_7, bw_8, bw_9, bw_11, bw_12, bw_13, bw_14, bw_16, bw_25, bw_26, bw_27, bw_28, bw_29, bw_30, bw_68, bw_46, bw_47, bw_48, bw_49, bw_50, bw_51, bw_52, bw_53, bw0_0, bw0_1, bw0_2, bw0_3, bw0_4, bw0_5, bw0_6, bw0_7, bw0_10, bw0_11, bs_42, bs_43, bs_44, bs_54, bs_55, bs_56, bs_57, bs_67, bs_69]; done) | (simp only [bw_2, bw_3, bw_5, bw_6, bw_7, bw_8, bw_9, bw_11, bw_12, bw_13, bw_14, bw_16, bw_25, bw_26, bw_27, bw_28, bw_29, bw_30, bw_68, bw_46, bw_47, bw_48, bw_49, bw_50, bw_51, bw_52, bw_53, bw0_0, bw0_1, bw0_2, bw0_3, bw0_4, bw0_5, bw0_6, bw0_7, bw0_10, bw0_11, bs_42, bs_43, bs_44, bs_54, bs_55, bs_56, bs_57, bs_67, bs_69]; rfl))
      · refine ft_iload_n dX10_road_25 rfl ?_
        refine ft_iload_n dX10_road_26 rfl ?_
        refine fj_icmp_eq (tgt := 42) dX10_road_27 (by decide) (fun h_27 => ?_) (fun h_27 => ?_)
        · refine ft_bipush (v := (-2)) dX10_road_42 rfl ?_
          exact ft_reti dX10_road_44 rfl rfl (by
    refine ⟨rfl, ?_, ?_, (by intro c hc; first | rfl | (repeat rw [fc_wI_ne (by omega)]))⟩
    all_goals unfold op_road
    all_goals simp only [ax0_0, ax0_1, ax0_2, ax0_3, ax0_4, ax0_5, ax0_6, ax0_7, ax0_8, ax0_9, ax0_10, ax0_11, ax_1, ax_2, ax_3, ax_4, ax_5, ax_6, ax_7, ax_8, ax_9, ax_10, ax_11, ax_12, ax_13, ax_14, ax_15, ax_16, ax_17, ax_18, ax_19, ax_20, ax_21, ax_22, ax_23, ax_24, ax_25, ax_26, ax_27, ax_28]
    all_goals repeat' split
    all_goals first | (exfalso; omega) | rfl | (simp only [bw_2, bw_3, bw_5, bw_6, bw_7, bw_8, bw_9, bw_11, bw_12, bw_13, bw_14, bw_16, bw_25, bw_26, bw_27, bw_28, bw_29, bw_30, bw_68, bw_46, bw_47, bw_48, bw_49, bw_50, bw_51, bw_52, bw_53, bw0_0, bw0_1, bw0_2, bw0_3, bw0_4, bw0_5, bw0_6, bw0_7, bw0_10, bw0_11, bs_42, bs_43, bs_44, bs_54, bs_55, bs_56, bs_57, bs_67, bs_69]; done) | (simp only [bw_2, bw_3, bw_5, bw_6, bw_7, bw_8, bw_9, bw_11, bw_12, bw_13, bw_14, bw_16, bw_25, bw_26, bw_27, bw_28, bw_29, bw_30, bw_68, bw_46, bw_47, bw_48, bw_49, bw_50, bw_51, bw_52, bw_53, bw0_0, bw0_1, bw0_2, bw0_3, bw0_4, bw0_5, bw0_6, bw0_7, bw0_10, bw0_11, bs_42, bs_43, bs_44, bs_54, bs_55, bs_56, bs_57, bs_67, bs_69]; rfl))
        · refine ft_iload dX10_road_30 rfl ?_
          refine ft_iconst (v := 1) dX10_road_32 rfl ?_
          refine ft_sipush (v := 9999) dX10_road_33 rfl ?_
          refine ft_S3p cf_X10_86 (c_isOutside _ _ _) (Nat.le_of_ble_eq_true rfl) dX10_road_36 ?_
          refine ft_bz (tgt := 45) dX10_road_39 (by decide) (fun h_39 => ?_) (fun h_39 => ?_)
          · refine ft_aload_n dX10_road_45 rfl ?_
            refine ft_getR fl_X10_19 rfl sh_0 (by decide) pt_0_1 dX10_road_46 ?_
            refine ft_getI fl_X10_121 rfl sh_4 (by decide) dX10_road_49 ?_
            refine ft_bipush (v := 14) dX10_road_52 rfl ?_
            refine fj_icmp_lt (tgt := 60) dX10_road_54 (by decide) (fun h_54 => ?_) (fun h_54 => ?_)
            · refine ft_aload_n dX10_road_60 rfl ?_
              refine ft_getR fl_X10_19 rfl sh_0 (by decide) pt_0_1 dX10_road_61 ?_
              refine ft_iload_n dX10_road_64 rfl ?_
              refine ft_iload_n dX10_road_65 rfl ?_
              refine ft_iload_n dX10_road_66 rfl ?_
              refine ft_iload dX10_road_67 rfl ?_
              refine ft_V4i cf_X10_124 sh_4 (c_build _ _ _ _ ⟨by omega, by omega⟩) (Nat.le_of_ble_eq_true rfl) dX10_road_69 (fun r_69 I_69 P_69 q_69 => ?_)
              obtain ⟨rfl, rfl, rfl⟩ := q_69
              exact ft_reti dX10_road_72 rfl rfl (by
    refine ⟨rfl, ?_, ?_, (by intro c hc; first | rfl | (repeat rw [fc_wI_ne (by omega)]))⟩
    all_goals unfold op_road
    all_goals simp only [ax0_0, ax0_1, ax0_2, ax0_3, ax0_4, ax0_5, ax0_6, ax0_7, ax0_8, ax0_9, ax0_10, ax0_11, ax_1, ax_2, ax_3, ax_4, ax_5, ax_6, ax_7, ax_8, ax_9, ax_10, ax_11, ax_12, ax_13, ax_14, ax_15, ax_16, ax_17, ax_18, ax_19, ax_20, ax_21, ax_22, ax_23, ax_24, ax_25, ax_26, ax_27, ax_28]
    all_goals repeat' split
    all_goals first | (exfalso; omega) | rfl | (simp only [bw_2, bw_3, bw_5, bw_6, bw_7, bw_8, bw_9, bw_11, bw_12, bw_13, bw_14, bw_16, bw_25, bw_26, bw_27, bw_28, bw_29, bw_30, bw_68, bw_46, bw_47, bw_48, bw_49, bw_50, bw_51, bw_52, bw_53, bw0_0, bw0_1, bw0_2, bw0_3, bw0_4, bw0_5, bw0_6, bw0_7, bw0_10, bw0_11, bs_42, bs_43, bs_44, bs_54, bs_55, bs_56, bs_57, bs_67, bs_69]; done) | (simp only [bw_2, bw_3, bw_5, bw_6, bw_7, bw_8, bw_9, bw_11, bw_12, bw_13, bw_14, bw_16, bw_25, bw_26, bw_27, bw_28, bw_29, bw_30, bw_68, bw_46, bw_47, bw_48, bw_49, bw_50, bw_51, bw_52, bw_53, bw0_0, bw0_1, bw0_2, bw0_3, bw0_4, bw0_5, bw0_6, bw0_7, bw0_10, bw0_11, bs_42, bs_43, bs_44, bs_54, bs_55, bs_56, bs_57, bs_67, bs_69]; rfl))
            · refine ft_bipush (v := (-4)) dX10_road_57 rfl ?_
              exact ft_reti dX10_road_59 rfl rfl (by
    refine ⟨rfl, ?_, ?_, (by intro c hc; first | rfl | (repeat rw [fc_wI_ne (by omega)]))⟩
    all_goals unfold op_road
    all_goals simp only [ax0_0, ax0_1, ax0_2, ax0_3, ax0_4, ax0_5, ax0_6, ax0_7, ax0_8, ax0_9, ax0_10, ax0_11, ax_1, ax_2, ax_3, ax_4, ax_5, ax_6, ax_7, ax_8, ax_9, ax_10, ax_11, ax_12, ax_13, ax_14, ax_15, ax_16, ax_17, ax_18, ax_19, ax_20, ax_21, ax_22, ax_23, ax_24, ax_25, ax_26, ax_27, ax_28]
    all_goals repeat' split
    all_goals first | (exfalso; omega) | rfl | (simp only [bw_2, bw_3, bw_5, bw_6, bw_7, bw_8, bw_9, bw_11, bw_12, bw_13, bw_14, bw_16, bw_25, bw_26, bw_27, bw_28, bw_29, bw_30, bw_68, bw_46, bw_47, bw_48, bw_49, bw_50, bw_51, bw_52, bw_53, bw0_0, bw0_1, bw0_2, bw0_3, bw0_4, bw0_5, bw0_6, bw0_7, bw0_10, bw0_11, bs_42, bs_43, bs_44, bs_54, bs_55, bs_56, bs_57, bs_67, bs_69]; done) | (simp only [bw_2, bw_3, bw_5, bw_6, bw_7, bw_8, bw_9, bw_11, bw_12, bw_13, bw_14, bw_16, bw_25, bw_26, bw_27, bw_28, bw_29, bw_30, bw_68, bw_46, bw_47, bw_48, bw_49, bw_50, bw_51, bw_52, bw_53, bw0_0, bw0_1, bw0_2, bw0_3, bw0_4, bw0_5, bw0_6, bw0_7, bw0_10, bw0_11, bs_42, bs_43, bs_44, bs_54, bs_55, bs_56, bs_57, bs_67, bs_69]; rfl))
          · refine ft_bipush (v := (-2)) dX10_road_42 rfl ?_
            exact ft_reti dX10_road_44 rfl rfl (by
    refine ⟨rfl, ?_, ?_, (by intro c hc; first | rfl | (repeat rw [fc_wI_ne (by omega)]))⟩
    all_goals unfold op_road
    all_goals simp only [ax0_0, ax0_1, ax0_2, ax0_3, ax0_4, ax0_5, ax0_6, ax0_7, ax0_8, ax0_9, ax0_10, ax0_11, ax_1, ax_2, ax_3, ax_4, ax_5, ax_6, ax_7, ax_8, ax_9, ax_10, ax_11, ax_12, ax_13, ax_14, ax_15, ax_16, ax_17, ax_18, ax_19, ax_20, ax_21, ax_22, ax_23, ax_24, ax_25, ax_26, ax_27, ax_28]
    all_goals repeat' split
    all_goals first | (exfalso; omega) | rfl | (simp only [bw_2, bw_3, bw_5, bw_6, bw_7, bw_8, bw_9, bw_11, bw_12, bw_13, bw_14, bw_16, bw_25, bw_26, bw_27, bw_28, bw_29, bw_30, bw_68, bw_46, bw_47, bw_48, bw_49, bw_50, bw_51, bw_52, bw_53, bw0_0, bw0_1, bw0_2, bw0_3, bw0_4, bw0_5, bw0_6, bw0_7, bw0_10, bw0_11, bs_42, bs_43, bs_44, bs_54, bs_55, bs_56, bs_57, bs_67, bs_69]; done) | (simp only [bw_2, bw_3, bw_5, bw_6, bw_7, bw_8, bw_9, bw_11, bw_12, bw_13, bw_14, bw_16, bw_25, bw_26, bw_27, bw_28, bw_29, bw_30, bw_68, bw_46, bw_47, bw_48, bw_49, bw_50, bw_51, bw_52, bw_53, bw0_0, bw0_1, bw0_2, bw0_3, bw0_4, bw0_5, bw0_6, bw0_7, bw0_10, bw0_11, bs_42, bs_43, bs_44, bs_54, bs_55, bs_56, bs_57, bs_67, bs_69]; rfl))
set_option maxHeartbeats 4000000 in
set_option maxRecDepth 100000 in
theorem x_bus {d : Nat} {v : Nat} {I : fc_I} (z s k t : Int32) (hw : Wf0 (aX 45 I)) : fc_Ci X10_bus (d + 2) [.ref 0, .int z, .int s, .int k, .int t] fc_SH I (fc_PT v) (xQ v I (op_bus (aX 45 I) z s k t)) := by
  have km4 : (-4 : Int32).toInt = -4 := rfl
  have km2 : (-2 : Int32).toInt = -2 := rfl
  have k1 : (1 : Int32).toInt = 1 := rfl
  have k4 : (4 : Int32).toInt = 4 := rfl
  have k9 : (9 : Int32).toInt = 9 := rfl
  have k99 : (99 : Int32).toInt = 99 := rfl
  have hw0 : (0 ≤ (I 45 9).toInt ∧ (I 45 9).toInt ≤ (I 15 11).toInt ∧ 1 ≤ (I 15 11).toInt ∧ (I 15 11).toInt ≤ 60) ∧ (0 ≤ (I 1 2).toInt ∧ (I 1 2).toInt ≤ 6) ∧ (0 ≤ (I 1 3).toInt ∧ (I 1 3).toInt ≤ 3) ∧ (0 ≤ (I 4 5).toInt ∧ (I 4 5).toInt ≤ 14) ∧ (0 ≤ (I 10 4).toInt ∧ (I 10 4).toInt ≤ 4) ∧ (0 ≤ (I 15 10).toInt ∧ (I 15 10).toInt ≤ 2) ∧ (0 ≤ (I 15 9).toInt ∧ (I 15 9).toInt ≤ 40) ∧ (0 ≤ (I 31 6).toInt ∧ (I 31 6).toInt ≤ 160) ∧ (1 ≤ (I 31 7).toInt ∧ (I 31 7).toInt ≤ 6) ∧ (0 ≤ (I 31 8).toInt ∧ (I 31 8).toInt < (I 31 7).toInt) := hw
  obtain ⟨⟨w1, w2, w3, w4⟩, ⟨w5, w6⟩, ⟨w7, w8⟩, ⟨w9, w10⟩, ⟨w11, w12⟩, ⟨w13, w14⟩, ⟨w15, w16⟩, ⟨w17, w18⟩, ⟨w19, w20⟩, ⟨w21, w22⟩⟩ := hw0
  refine fc_Ci.of ⟨rfl, rfl⟩ (Nat.le_of_ble_eq_true rfl) rfl ?_
  refine ft_aload_n dX10_bus_0 rfl ?_
  refine ft_iload_n dX10_bus_1 rfl ?_
  refine ft_V1p cf_X10_114 sh_0 (c_isNoZone _ hw) (Nat.le_of_ble_eq_true rfl) dX10_bus_2 ?_
  refine ft_bnz (tgt := 37) dX10_bus_5 (by decide) (fun h_5 => ?_) (fun h_5 => ?_)
  · refine ft_bipush (v := (-2)) dX10_bus_37 rfl ?_
    exact ft_reti dX10_bus_39 rfl rfl (by
    refine ⟨rfl, ?_, ?_, (by intro c hc; first | rfl | (repeat rw [fc_wI_ne (by omega)]))⟩
    all_goals unfold op_bus
    all_goals simp only [ax0_0, ax0_1, ax0_2, ax0_3, ax0_4, ax0_5, ax0_6, ax0_7, ax0_8, ax0_9, ax0_10, ax0_11, ax_1, ax_2, ax_3, ax_4, ax_5, ax_6, ax_7, ax_8, ax_9, ax_10, ax_11, ax_12, ax_13, ax_14, ax_15, ax_16, ax_17, ax_18, ax_19, ax_20, ax_21, ax_22, ax_23, ax_24, ax_25, ax_26, ax_27, ax_28]
    all_goals repeat' split
    all_goals first | (exfalso; omega) | rfl | (simp only [bw_2, bw_3, bw_5, bw_6, bw_7, bw_8, bw_9, bw_11, bw_12, bw_13, bw_14, bw_16, bw_25, bw_26, bw_27, bw_28, bw_29, bw_30, bw_68, bw_46, bw_47, bw_48, bw_49, bw_50, bw_51, bw_52, bw_53, bw0_0, bw0_1, bw0_2, bw0_3, bw0_4, bw0_5, bw0_6, bw0_7, bw0_10, bw0_11, bs_42, bs_43, bs_44, bs_54, bs_55, bs_56, bs_57, bs_67, bs_69]; done) | (simp only [bw_2, bw_3, bw_5, bw_6, bw_7, bw_8, bw_9, bw_11, bw_12, bw_13, bw_14, bw_16, bw_25, bw_26, bw_27, bw_28, bw_29, bw_30, bw_68, bw_46, bw_47, bw_48, bw_49, bw_50, bw_51, bw_52, bw_53, bw0_0, bw0_1, bw0_2, bw0_3, bw0_4, bw0_5, bw0_6, bw0_7, bw0_10, bw0_11, bs_42, bs_43, bs_44, bs_54, bs_55, bs_56, bs_57, bs_67, bs_69]; rfl))
  · refine ft_aload_n dX10_bus_8 rfl ?_
    refine ft_iload_n dX10_bus_9 rfl ?_
    refine ft_V1p cf_X10_140 sh_0 (c_isNoShelter _ hw) (Nat.le_of_ble_eq_true rfl) dX10_bus_10 ?_
    refine ft_bnz (tgt := 37) dX10_bus_13 (by decide) (fun h_13 => ?_) (fun h_13 => ?_)
    · refine ft_bipush (v := (-2)) dX10_bus_37 rfl ?_
      exact ft_reti dX10_bus_39 rfl rfl (by
    refine ⟨rfl, ?_, ?_, (by intro c hc; first | rfl | (repeat rw [fc_wI_ne (by omega)]))⟩
    all_goals unfold op_bus
    all_goals simp only [ax0_0, ax0_1, ax0_2, ax0_3, ax0_4, ax0_5, ax0_6, ax0_7, ax0_8, ax0_9, ax0_10, ax0_11, ax_1, ax_2, ax_3, ax_4, ax_5, ax_6, ax_7, ax_8, ax_9, ax_10, ax_11, ax_12, ax_13, ax_14, ax_15, ax_16, ax_17, ax_18, ax_19, ax_20, ax_21, ax_22, ax_23, ax_24, ax_25, ax_26, ax_27, ax_28]
    all_goals repeat' split
    all_goals first | (exfalso; omega) | rfl | (simp only [bw_2, bw_3, bw_5, bw_6, bw_7, bw_8, bw_9, bw_11, bw_12, bw_13, bw_14, bw_16, bw_25, bw_26, bw_27, bw_28, bw_29, bw_30, bw_68, bw_46, bw_47, bw_48, bw_49, bw_50, bw_51, bw_52, bw_53, bw0_0, bw0_1, bw0_2, bw0_3, bw0_4, bw0_5, bw0_6, bw0_7, bw0_10, bw0_11, bs_42, bs_43, bs_44, bs_54, bs_55, bs_56, bs_57, bs_67, bs_69]; done) | (simp only [bw_2, bw_3, bw_5, bw_6, bw_7, bw_8, bw_9, bw_11, bw_12, bw_13, bw_14, bw_16, bw_25, bw_26, bw_27, bw_28, bw_29, bw_30, bw_68, bw_46, bw_47, bw_48, bw_49, bw_50, bw_51, bw_52, bw_53, bw0_0, bw0_1, bw0_2, bw0_3, bw0_4, bw0_5, bw0_6, bw0_7, bw0_10, bw0_11, bs_42, bs_43, bs_44, bs_54, bs_55, bs_56, bs_57, bs_67, bs_69]; rfl))
    · refine ft_iload_n dX10_bus_16 rfl ?_
      refine ft_iconst (v := 1) dX10_bus_17 rfl ?_
      refine ft_bipush (v := 99) dX10_bus_18 rfl ?_
      refine ft_S3p cf_X10_86 (c_isOutside _ _ _) (Nat.le_of_ble_eq_true rfl) dX10_bus_20 ?_
      refine ft_bnz (tgt := 37) dX10_bus_23 (by decide) (fun h_23 => ?_) (fun h_23 => ?_)
      · refine ft_bipush (v := (-2)) dX10_bus_37 rfl ?_
        exact ft_reti dX10_bus_39 rfl rfl (by
    refine ⟨rfl, ?_, ?_, (by intro c hc; first | rfl | (repeat rw [fc_wI_ne (by omega)]))⟩
    all_goals unfold op_bus
    all_goals simp only [ax0_0, ax0_1, ax0_2, ax0_3, ax0_4, ax0_5, ax0_6, ax0_7, ax0_8, ax0_9, ax0_10, ax0_11, ax_1, ax_2, ax_3, ax_4, ax_5, ax_6, ax_7, ax_8, ax_9, ax_10, ax_11, ax_12, ax_13, ax_14, ax_15, ax_16, ax_17, ax_18, ax_19, ax_20, ax_21, ax_22, ax_23, ax_24, ax_25, ax_26, ax_27, ax_28]
    all_goals repeat' split
    all_goals first | (exfalso; omega) | rfl | (simp only [bw_2, bw_3, bw_5, bw_6, bw_7, bw_8, bw_9, bw_11, bw_12, bw_13, bw_14, bw_16, bw_25, bw_26, bw_27, bw_28, bw_29, bw_30, bw_68, bw_46, bw_47, bw_48, bw_49, bw_50, bw_51, bw_52, bw_53, bw0_0, bw0_1, bw0_2, bw0_3, bw0_4, bw0_5, bw0_6, bw0_7, bw0_10, bw0_11, bs_42, bs_43, bs_44, bs_54, bs_55, bs_56, bs_57, bs_67, bs_69]; done) | (simp only [bw_2, bw_3, bw_5, bw_6, bw_7, bw_8, bw_9, bw_11, bw_12, bw_13, bw_14, bw_16, bw_25, bw_26, bw_27, bw_28, bw_29, bw_30, bw_68, bw_46, bw_47, bw_48, bw_49, bw_50, bw_51, bw_52, bw_53, bw0_0, bw0_1, bw0_2, bw0_3, bw0_4, bw0_5, bw0_6, bw0_7, bw0_10, bw0_11, bs_42, bs_43, bs_44, bs_54, bs_55, bs_56, bs_57, bs_67, bs_69]; rfl))
      · refine ft_iload dX10_bus_26 rfl ?_
        refine ft_iconst (v := 1) dX10_bus_28 rfl ?_
        refine ft_bipush (v := 9) dX10_bus_29 rfl ?_
        refine ft_S3p cf_X10_86 (c_isOutside _ _ _) (Nat.le_of_ble_eq_true rfl) dX10_bus_31 ?_
        refine ft_bz (tgt := 40) dX10_bus_34 (by decide) (fun h_34 => ?_) (fun h_34 => ?_)
        · refine ft_aload_n dX10_bus_40 rfl ?_
          refine ft_getR fl_X10_26 rfl sh_0 (by decide) pt_0_2 dX10_bus_41 ?_
          refine ft_getI fl_X10_143 rfl sh_10 (by decide) dX10_bus_44 ?_
          refine ft_iconst (v := 4) dX10_bus_47 rfl ?_
          refine fj_icmp_lt (tgt := 54) dX10_bus_48 (by decide) (fun h_48 => ?_) (fun h_48 => ?_)
          · refine ft_aload_n dX10_bus_54 rfl ?_
            refine ft_getR fl_X10_26 rfl sh_0 (by decide) pt_0_2 dX10_bus_55 ?_
            refine ft_iload_n dX10_bus_58 rfl ?_
            refine ft_iload_n dX10_bus_59 rfl ?_
            refine ft_iload_n dX10_bus_60 rfl ?_
            refine ft_iload dX10_bus_61 rfl ?_
            refine ft_V4i cf_X10_144 sh_10 (c_hire _ _ _ _ ⟨by omega, by omega⟩) (Nat.le_of_ble_eq_true rfl) dX10_bus_63 (fun r_63 I_63 P_63 q_63 => ?_)
            obtain ⟨rfl, rfl, rfl⟩ := q_63
            exact ft_reti dX10_bus_66 rfl rfl (by
    refine ⟨rfl, ?_, ?_, (by intro c hc; first | rfl | (repeat rw [fc_wI_ne (by omega)]))⟩
    all_goals unfold op_bus
    all_goals simp only [ax0_0, ax0_1, ax0_2, ax0_3, ax0_4, ax0_5, ax0_6, ax0_7, ax0_8, ax0_9, ax0_10, ax0_11, ax_1, ax_2, ax_3, ax_4, ax_5, ax_6, ax_7, ax_8, ax_9, ax_10, ax_11, ax_12, ax_13, ax_14, ax_15, ax_16, ax_17, ax_18, ax_19, ax_20, ax_21, ax_22, ax_23, ax_24, ax_25, ax_26, ax_27, ax_28]
    all_goals repeat' split
    all_goals first | (exfalso; omega) | rfl | (simp only [bw_2, bw_3, bw_5, bw_6, bw_7, bw_8, bw_9, bw_11, bw_12, bw_13, bw_14, bw_16, bw_25, bw_26, bw_27, bw_28, bw_29, bw_30, bw_68, bw_46, bw_47, bw_48, bw_49, bw_50, bw_51, bw_52, bw_53, bw0_0, bw0_1, bw0_2, bw0_3, bw0_4, bw0_5, bw0_6, bw0_7, bw0_10, bw0_11, bs_42, bs_43, bs_44, bs_54, bs_55, bs_56, bs_57, bs_67, bs_69]; done) | (simp only [bw_2, bw_3, bw_5, bw_6, bw_7, bw_8, bw_9, bw_11, bw_12, bw_13, bw_14, bw_16, bw_25, bw_26, bw_27, bw_28, bw_29, bw_30, bw_68, bw_46, bw_47, bw_48, bw_49, bw_50, bw_51, bw_52, bw_53, bw0_0, bw0_1, bw0_2, bw0_3, bw0_4, bw0_5, bw0_6, bw0_7, bw0_10, bw0_11, bs_42, bs_43, bs_44, bs_54, bs_55, bs_56, bs_57, bs_67, bs_69]; rfl))
          · refine ft_bipush (v := (-4)) dX10_bus_51 rfl ?_
            exact ft_reti dX10_bus_53 rfl rfl (by
    refine ⟨rfl, ?_, ?_, (by intro c hc; first | rfl | (repeat rw [fc_wI_ne (by omega)]))⟩
    all_goals unfold op_bus
    all_goals simp only [ax0_0, ax0_1, ax0_2, ax0_3, ax0_4, ax0_5, ax0_6, ax0_7, ax0_8, ax0_9, ax0_10, ax0_11, ax_1, ax_2, ax_3, ax_4, ax_5, ax_6, ax_7, ax_8, ax_9, ax_10, ax_11, ax_12, ax_13, ax_14, ax_15, ax_16, ax_17, ax_18, ax_19, ax_20, ax_21, ax_22, ax_23, ax_24, ax_25, ax_26, ax_27, ax_28]
    all_goals repeat' split
    all_goals first | (exfalso; omega) | rfl | (simp only [bw_2, bw_3, bw_5, bw_6, bw_7, bw_8, bw_9, bw_11, bw_12, bw_13, bw_14, bw_16, bw_25, bw_26, bw_27, bw_28, bw_29, bw_30, bw_68, bw_46, bw_47, bw_48, bw_49, bw_50, bw_51, bw_52, bw_53, bw0_0, bw0_1, bw0_2, bw0_3, bw0_4, bw0_5, bw0_6, bw0_7, bw0_10, bw0_11, bs_42, bs_43, bs_44, bs_54, bs_55, bs_56, bs_57, bs_67, bs_69]; done) | (simp only [bw_2, bw_3, bw_5, bw_6, bw_7, bw_8, bw_9, bw_11, bw_12, bw_13, bw_14, bw_16, bw_25, bw_26, bw_27, bw_28, bw_29, bw_30, bw_68, bw_46, bw_47, bw_48, bw_49, bw_50, bw_51, bw_52, bw_53, bw0_0, bw0_1, bw0_2, bw0_3, bw0_4, bw0_5, bw0_6, bw0_7, bw0_10, bw0_11, bs_42, bs_43, bs_44, bs_54, bs_55, bs_56, bs_57, bs_67, bs_69]; rfl))
        · refine ft_bipush (v := (-2)) dX10_bus_37 rfl ?_
          exact ft_reti dX10_bus_39 rfl rfl (by
    refine ⟨rfl, ?_, ?_, (by intro c hc; first | rfl | (repeat rw [fc_wI_ne (by omega)]))⟩
    all_goals unfold op_bus
    all_goals simp only [ax0_0, ax0_1, ax0_2, ax0_3, ax0_4, ax0_5, ax0_6, ax0_7, ax0_8, ax0_9, ax0_10, ax0_11, ax_1, ax_2, ax_3, ax_4, ax_5, ax_6, ax_7, ax_8, ax_9, ax_10, ax_11, ax_12, ax_13, ax_14, ax_15, ax_16, ax_17, ax_18, ax_19, ax_20, ax_21, ax_22, ax_23, ax_24, ax_25, ax_26, ax_27, ax_28]
    all_goals repeat' split
    all_goals first | (exfalso; omega) | rfl | (simp only [bw_2, bw_3, bw_5, bw_6, bw_7, bw_8, bw_9, bw_11, bw_12, bw_13, bw_14, bw_16, bw_25, bw_26, bw_27, bw_28, bw_29, bw_30, bw_68, bw_46, bw_47, bw_48, bw_49, bw_50, bw_51, bw_52, bw_53, bw0_0, bw0_1, bw0_2, bw0_3, bw0_4, bw0_5, bw0_6, bw0_7, bw0_10, bw0_11, bs_42, bs_43, bs_44, bs_54, bs_55, bs_56, bs_57, bs_67, bs_69]; done) | (simp only [bw_2, bw_3, bw_5, bw_6, bw_7, bw_8, bw_9, bw_11, bw_12, bw_13, bw_14, bw_16, bw_25, bw_26, bw_27, bw_28, bw_29, bw_30, bw_68, bw_46, bw_47, bw_48, bw_49, bw_50, bw_51, bw_52, bw_53, bw0_0, bw0_1, bw0_2, bw0_3, bw0_4, bw0_5, bw0_6, bw0_7, bw0_10, bw0_11, bs_42, bs_43, bs_44, bs_54, bs_55, bs_56, bs_57, bs_67, bs_69]; rfl))
set_option maxHeartbeats 4000000 in
set_option maxRecDepth 100000 in
theorem x_use {d : Nat} {v : Nat} {I : fc_I} (r : Int32) (hw : Wf0 (aX 45 I)) (hR : WfR (aX 45 I)) : fc_Ci X10_use (d + 2) [.ref 0, .int r] fc_SH I (fc_PT v) (xQ v I (op_use (aX 45 I) r)) := by
  have km2 : (-2 : Int32).toInt = -2 := rfl
  have hw0 : (0 ≤ (I 45 9).toInt ∧ (I 45 9).toInt ≤ (I 15 11).toInt ∧ 1 ≤ (I 15 11).toInt ∧ (I 15 11).toInt ≤ 60) ∧ (0 ≤ (I 1 2).toInt ∧ (I 1 2).toInt ≤ 6) ∧ (0 ≤ (I 1 3).toInt ∧ (I 1 3).toInt ≤ 3) ∧ (0 ≤ (I 4 5).toInt ∧ (I 4 5).toInt ≤ 14) ∧ (0 ≤ (I 10 4).toInt ∧ (I 10 4).toInt ≤ 4) ∧ (0 ≤ (I 15 10).toInt ∧ (I 15 10).toInt ≤ 2) ∧ (0 ≤ (I 15 9).toInt ∧ (I 15 9).toInt ≤ 40) ∧ (0 ≤ (I 31 6).toInt ∧ (I 31 6).toInt ≤ 160) ∧ (1 ≤ (I 31 7).toInt ∧ (I 31 7).toInt ≤ 6) ∧ (0 ≤ (I 31 8).toInt ∧ (I 31 8).toInt < (I 31 7).toInt) := hw
  obtain ⟨⟨w1, w2, w3, w4⟩, ⟨w5, w6⟩, ⟨w7, w8⟩, ⟨w9, w10⟩, ⟨w11, w12⟩, ⟨w13, w14⟩, ⟨w15, w16⟩, ⟨w17, w18⟩, ⟨w19, w20⟩, ⟨w21, w22⟩⟩ := hw0
  have hR0 : ∀ r : Nat, (r : Int) < (I 4 5).toInt → (0 ≤ (I 5 r).toInt ∧ (I 5 r).toInt ≤ 5) ∧ (0 ≤ (I 6 r).toInt ∧ (I 6 r).toInt < (I 1 2).toInt) ∧ (0 ≤ (I 7 r).toInt ∧ ((I 7 r).toInt < 6 ∨ 10 ≤ (I 7 r).toInt ∧ (I 7 r).toInt < 13 ∨ (I 7 r).toInt = 20)) ∧ (1 ≤ (I 8 r).toInt ∧ (I 8 r).toInt ≤ 9999) ∧ (-1 ≤ (I 9 r).toInt ∧ (I 9 r).toInt ≤ (I 45 9).toInt) := hR
  refine fc_Ci.of ⟨rfl, rfl⟩ (Nat.le_of_ble_eq_true rfl) rfl ?_
  refine ft_aload_n dX10_use_0 rfl ?_
  refine ft_iload_n dX10_use_1 rfl ?_
  refine ft_V1p cf_X10_128 sh_0 (c_isNoRoad _ hw) (Nat.le_of_ble_eq_true rfl) dX10_use_2 ?_
  refine ft_bz (tgt := 11) dX10_use_5 (by decide) (fun h_5 => ?_) (fun h_5 => ?_)
  · have cr := cn_int (x := r) (by omega)
    obtain ⟨⟨v1, v2⟩, ⟨v3, v4⟩, ⟨v5, v6⟩, ⟨v7, v8⟩, ⟨v9, v10⟩⟩ := hR0 (cn r) (by omega)
    refine ft_aload_n dX10_use_11 rfl ?_
    refine ft_getR fl_X10_19 rfl sh_0 (by decide) pt_0_1 dX10_use_12 ?_
    refine ft_getR fl_X10_131 rfl sh_4 (by decide) pt_4_1 dX10_use_15 ?_
    refine ft_iload_n dX10_use_18 rfl ?_
    refine ft_iald sh_6 (by rw [vp_in_iff]; omega) dX10_use_19 ?_
    refine ft_istore_n dX10_use_20 (by decide) ?_
    refine ft_aload_n dX10_use_21 rfl ?_
    refine ft_getR fl_X10_10 rfl sh_0 (by decide) pt_0_0 dX10_use_22 ?_
    refine ft_getR fl_X10_134 rfl sh_1 (by decide) pt_1_1 dX10_use_25 ?_
    refine ft_iload_n dX10_use_28 rfl ?_
    refine ft_iald sh_3 (by rw [vp_in_iff]; omega) dX10_use_29 ?_
    refine ft_istore_n dX10_use_30 (by decide) ?_
    refine ft_aload_n dX10_use_31 rfl ?_
    refine ft_getR fl_X10_10 rfl sh_0 (by decide) pt_0_0 dX10_use_32 ?_
    refine ft_getR fl_X10_134 rfl sh_1 (by decide) pt_1_1 dX10_use_35 ?_
    refine ft_iload_n dX10_use_38 rfl ?_
    refine ft_iload_n dX10_use_39 rfl ?_
    refine ft_iast sh_3 (by rw [vp_in_iff]; omega) rfl dX10_use_40 ?_
    refine ft_iload_n dX10_use_41 rfl ?_
    exact ft_reti dX10_use_42 rfl rfl (by
    refine ⟨rfl, ?_, ?_, (by intro c hc; first | rfl | (repeat rw [fc_wI_ne (by omega)]))⟩
    all_goals unfold op_use
    all_goals simp only [ax0_0, ax0_1, ax0_2, ax0_3, ax0_4, ax0_5, ax0_6, ax0_7, ax0_8, ax0_9, ax0_10, ax0_11, ax_1, ax_2, ax_3, ax_4, ax_5, ax_6, ax_7, ax_8, ax_9, ax_10, ax_11, ax_12, ax_13, ax_14, ax_15, ax_16, ax_17, ax_18, ax_19, ax_20, ax_21, ax_22, ax_23, ax_24, ax_25, ax_26, ax_27, ax_28]
    all_goals repeat' split
    all_goals first | (exfalso; omega) | rfl | (simp only [bw_2, bw_3, bw_5, bw_6, bw_7, bw_8, bw_9, bw_11, bw_12, bw_13, bw_14, bw_16, bw_25, bw_26, bw_27, bw_28, bw_29, bw_30, bw_68, bw_46, bw_47, bw_48, bw_49, bw_50, bw_51, bw_52, bw_53, bw0_0, bw0_1, bw0_2, bw0_3, bw0_4, bw0_5, bw0_6, bw0_7, bw0_10, bw0_11, bs_42, bs_43, bs_44, bs_54, bs_55, bs_56, bs_57, bs_67, bs_69]; done) | (simp only [bw_2, bw_3, bw_5, bw_6, bw_7, bw_8, bw_9, bw_11, bw_12, bw_13, bw_14, bw_16, bw_25, bw_26, bw_27, bw_28, bw_29, bw_30, bw_68, bw_46, bw_47, bw_48, bw_49, bw_50, bw_51, bw_52, bw_53, bw0_0, bw0_1, bw0_2, bw0_3, bw0_4, bw0_5, bw0_6, bw0_7, bw0_10, bw0_11, bs_42, bs_43, bs_44, bs_54, bs_55, bs_56, bs_57, bs_67, bs_69]; rfl))
  · refine ft_bipush (v := (-2)) dX10_use_8 rfl ?_
    exact ft_reti dX10_use_10 rfl rfl (by
    refine ⟨rfl, ?_, ?_, (by intro c hc; first | rfl | (repeat rw [fc_wI_ne (by omega)]))⟩
    all_goals unfold op_use
    all_goals simp only [ax0_0, ax0_1, ax0_2, ax0_3, ax0_4, ax0_5, ax0_6, ax0_7, ax0_8, ax0_9, ax0_10, ax0_11, ax_1, ax_2, ax_3, ax_4, ax_5, ax_6, ax_7, ax_8, ax_9, ax_10, ax_11, ax_12, ax_13, ax_14, ax_15, ax_16, ax_17, ax_18, ax_19, ax_20, ax_21, ax_22, ax_23, ax_24, ax_25, ax_26, ax_27, ax_28]
    all_goals repeat' split
    all_goals first | (exfalso; omega) | rfl | (simp only [bw_2, bw_3, bw_5, bw_6, bw_7, bw_8, bw_9, bw_11, bw_12, bw_13, bw_14, bw_16, bw_25, bw_26, bw_27, bw_28, bw_29, bw_30, bw_68, bw_46, bw_47, bw_48, bw_49, bw_50, bw_51, bw_52, bw_53, bw0_0, bw0_1, bw0_2, bw0_3, bw0_4, bw0_5, bw0_6, bw0_7, bw0_10, bw0_11, bs_42, bs_43, bs_44, bs_54, bs_55, bs_56, bs_57, bs_67, bs_69]; done) | (simp only [bw_2, bw_3, bw_5, bw_6, bw_7, bw_8, bw_9, bw_11, bw_12, bw_13, bw_14, bw_16, bw_25, bw_26, bw_27, bw_28, bw_29, bw_30, bw_68, bw_46, bw_47, bw_48, bw_49, bw_50, bw_51, bw_52, bw_53, bw0_0, bw0_1, bw0_2, bw0_3, bw0_4, bw0_5, bw0_6, bw0_7, bw0_10, bw0_11, bs_42, bs_43, bs_44, bs_54, bs_55, bs_56, bs_57, bs_67, bs_69]; rfl))
set_option maxHeartbeats 4000000 in
set_option maxRecDepth 100000 in
theorem x_turn {d : Nat} {v : Nat} {I : fc_I} (r : Int32) (hw : Wf0 (aX 45 I)) (hR : WfR (aX 45 I)) : fc_Ci X10_turn (d + 2) [.ref 0, .int r] fc_SH I (fc_PT v) (xQ v I (op_turn (aX 45 I) r)) := by
  have km3 : (-3 : Int32).toInt = -3 := rfl
  have km2 : (-2 : Int32).toInt = -2 := rfl
  have km1 : (-1 : Int32).toInt = -1 := rfl
  have hw0 : (0 ≤ (I 45 9).toInt ∧ (I 45 9).toInt ≤ (I 15 11).toInt ∧ 1 ≤ (I 15 11).toInt ∧ (I 15 11).toInt ≤ 60) ∧ (0 ≤ (I 1 2).toInt ∧ (I 1 2).toInt ≤ 6) ∧ (0 ≤ (I 1 3).toInt ∧ (I 1 3).toInt ≤ 3) ∧ (0 ≤ (I 4 5).toInt ∧ (I 4 5).toInt ≤ 14) ∧ (0 ≤ (I 10 4).toInt ∧ (I 10 4).toInt ≤ 4) ∧ (0 ≤ (I 15 10).toInt ∧ (I 15 10).toInt ≤ 2) ∧ (0 ≤ (I 15 9).toInt ∧ (I 15 9).toInt ≤ 40) ∧ (0 ≤ (I 31 6).toInt ∧ (I 31 6).toInt ≤ 160) ∧ (1 ≤ (I 31 7).toInt ∧ (I 31 7).toInt ≤ 6) ∧ (0 ≤ (I 31 8).toInt ∧ (I 31 8).toInt < (I 31 7).toInt) := hw
  obtain ⟨⟨w1, w2, w3, w4⟩, ⟨w5, w6⟩, ⟨w7, w8⟩, ⟨w9, w10⟩, ⟨w11, w12⟩, ⟨w13, w14⟩, ⟨w15, w16⟩, ⟨w17, w18⟩, ⟨w19, w20⟩, ⟨w21, w22⟩⟩ := hw0
  have hR0 : ∀ r : Nat, (r : Int) < (I 4 5).toInt → (0 ≤ (I 5 r).toInt ∧ (I 5 r).toInt ≤ 5) ∧ (0 ≤ (I 6 r).toInt ∧ (I 6 r).toInt < (I 1 2).toInt) ∧ (0 ≤ (I 7 r).toInt ∧ ((I 7 r).toInt < 6 ∨ 10 ≤ (I 7 r).toInt ∧ (I 7 r).toInt < 13 ∨ (I 7 r).toInt = 20)) ∧ (1 ≤ (I 8 r).toInt ∧ (I 8 r).toInt ≤ 9999) ∧ (-1 ≤ (I 9 r).toInt ∧ (I 9 r).toInt ≤ (I 45 9).toInt) := hR
  refine fc_Ci.of ⟨rfl, rfl⟩ (Nat.le_of_ble_eq_true rfl) rfl ?_
  refine ft_aload_n dX10_turn_0 rfl ?_
  refine ft_iload_n dX10_turn_1 rfl ?_
  refine ft_V1p cf_X10_128 sh_0 (c_isNoRoad _ hw) (Nat.le_of_ble_eq_true rfl) dX10_turn_2 ?_
  refine ft_bz (tgt := 11) dX10_turn_5 (by decide) (fun h_5 => ?_) (fun h_5 => ?_)
  · have cr := cn_int (x := r) (by omega)
    obtain ⟨⟨v1, v2⟩, ⟨v3, v4⟩, ⟨v5, v6⟩, ⟨v7, v8⟩, ⟨v9, v10⟩⟩ := hR0 (cn r) (by omega)
    refine ft_aload_n dX10_turn_11 rfl ?_
    refine ft_getR fl_X10_19 rfl sh_0 (by decide) pt_0_1 dX10_turn_12 ?_
    refine ft_getR fl_X10_137 rfl sh_4 (by decide) pt_4_4 dX10_turn_15 ?_
    refine ft_iload_n dX10_turn_18 rfl ?_
    refine ft_iald sh_9 (by rw [vp_in_iff]; omega) dX10_turn_19 ?_
    refine ft_iconst (v := (-1)) dX10_turn_20 rfl ?_
    refine fj_icmp_eq (tgt := 27) dX10_turn_21 (by decide) (fun h_21 => ?_) (fun h_21 => ?_)
    · refine ft_aload_n dX10_turn_27 rfl ?_
      refine ft_getR fl_X10_19 rfl sh_0 (by decide) pt_0_1 dX10_turn_28 ?_
      refine ft_getR fl_X10_137 rfl sh_4 (by decide) pt_4_4 dX10_turn_31 ?_
      refine ft_iload_n dX10_turn_34 rfl ?_
      refine ft_aload_n dX10_turn_35 rfl ?_
      refine ft_getR fl_X10_57 rfl sh_0 (by decide) pt_0_5 dX10_turn_36 ?_
      refine ft_getI fl_X10_91 rfl sh_45 (by decide) dX10_turn_39 ?_
      refine ft_iast sh_9 (by rw [vp_in_iff]; omega) rfl dX10_turn_42 ?_
      refine ft_aload_n dX10_turn_43 rfl ?_
      refine ft_getR fl_X10_57 rfl sh_0 (by decide) pt_0_5 dX10_turn_44 ?_
      refine ft_getI fl_X10_91 rfl sh_45 (by decide) dX10_turn_47 ?_
      exact ft_reti dX10_turn_50 rfl rfl (by
    refine ⟨rfl, ?_, ?_, (by intro c hc; first | rfl | (repeat rw [fc_wI_ne (by omega)]))⟩
    all_goals unfold op_turn
    all_goals simp only [ax0_0, ax0_1, ax0_2, ax0_3, ax0_4, ax0_5, ax0_6, ax0_7, ax0_8, ax0_9, ax0_10, ax0_11, ax_1, ax_2, ax_3, ax_4, ax_5, ax_6, ax_7, ax_8, ax_9, ax_10, ax_11, ax_12, ax_13, ax_14, ax_15, ax_16, ax_17, ax_18, ax_19, ax_20, ax_21, ax_22, ax_23, ax_24, ax_25, ax_26, ax_27, ax_28]
    all_goals repeat' split
    all_goals first | (exfalso; omega) | rfl | (simp only [bw_2, bw_3, bw_5, bw_6, bw_7, bw_8, bw_9, bw_11, bw_12, bw_13, bw_14, bw_16, bw_25, bw_26, bw_27, bw_28, bw_29, bw_30, bw_68, bw_46, bw_47, bw_48, bw_49, bw_50, bw_51, bw_52, bw_53, bw0_0, bw0_1, bw0_2, bw0_3, bw0_4, bw0_5, bw0_6, bw0_7, bw0_10, bw0_11, bs_42, bs_43, bs_44, bs_54, bs_55, bs_56, bs_57, bs_67, bs_69]; done) | (simp only [bw_2, bw_3, bw_5, bw_6, bw_7, bw_8, bw_9, bw_11, bw_12, bw_13, bw_14, bw_16, bw_25, bw_26, bw_27, bw_28, bw_29, bw_30, bw_68, bw_46, bw_47, bw_48, bw_49, bw_50, bw_51, bw_52, bw_53, bw0_0, bw0_1, bw0_2, bw0_3, bw0_4, bw0_5, bw0_6, bw0_7, bw0_10, bw0_11, bs_42, bs_43, bs_44, bs_54, bs_55, bs_56, bs_57, bs_67, bs_69]; rfl))
    · refine ft_bipush (v := (-3)) dX10_turn_24 rfl ?_
      exact ft_reti dX10_turn_26 rfl rfl (by
    refine ⟨rfl, ?_, ?_, (by intro c hc; first | rfl | (repeat rw [fc_wI_ne (by omega)]))⟩
    all_goals unfold op_turn
    all_goals simp only [ax0_0, ax0_1, ax0_2, ax0_3, ax0_4, ax0_5, ax0_6, ax0_7, ax0_8, ax0_9, ax0_10, ax0_11, ax_1, ax_2, ax_3, ax_4, ax_5, ax_6, ax_7, ax_8, ax_9, ax_10, ax_11, ax_12, ax_13, ax_14, ax_15, ax_16, ax_17, ax_18, ax_19, ax_20, ax_21, ax_22, ax_23, ax_24, ax_25, ax_26, ax_27, ax_28]
    all_goals repeat' split
    all_goals first | (exfalso; omega) | rfl | (simp only [bw_2, bw_3, bw_5, bw_6, bw_7, bw_8, bw_9, bw_11, bw_12, bw_13, bw_14, bw_16, bw_25, bw_26, bw_27, bw_28, bw_29, bw_30, bw_68, bw_46, bw_47, bw_48, bw_49, bw_50, bw_51, bw_52, bw_53, bw0_0, bw0_1, bw0_2, bw0_3, bw0_4, bw0_5, bw0_6, bw0_7, bw0_10, bw0_11, bs_42, bs_43, bs_44, bs_54, bs_55, bs_56, bs_57, bs_67, bs_69]; done) | (simp only [bw_2, bw_3, bw_5, bw_6, bw_7, bw_8, bw_9, bw_11, bw_12, bw_13, bw_14, bw_16, bw_25, bw_26, bw_27, bw_28, bw_29, bw_30, bw_68, bw_46, bw_47, bw_48, bw_49, bw_50, bw_51, bw_52, bw_53, bw0_0, bw0_1, bw0_2, bw0_3, bw0_4, bw0_5, bw0_6, bw0_7, bw0_10, bw0_11, bs_42, bs_43, bs_44, bs_54, bs_55, bs_56, bs_57, bs_67, bs_69]; rfl))
  · refine ft_bipush (v := (-2)) dX10_turn_8 rfl ?_
    exact ft_reti dX10_turn_10 rfl rfl (by
    refine ⟨rfl, ?_, ?_, (by intro c hc; first | rfl | (repeat rw [fc_wI_ne (by omega)]))⟩
    all_goals unfold op_turn
    all_goals simp only [ax0_0, ax0_1, ax0_2, ax0_3, ax0_4, ax0_5, ax0_6, ax0_7, ax0_8, ax0_9, ax0_10, ax0_11, ax_1, ax_2, ax_3, ax_4, ax_5, ax_6, ax_7, ax_8, ax_9, ax_10, ax_11, ax_12, ax_13, ax_14, ax_15, ax_16, ax_17, ax_18, ax_19, ax_20, ax_21, ax_22, ax_23, ax_24, ax_25, ax_26, ax_27, ax_28]
    all_goals repeat' split
    all_goals first | (exfalso; omega) | rfl | (simp only [bw_2, bw_3, bw_5, bw_6, bw_7, bw_8, bw_9, bw_11, bw_12, bw_13, bw_14, bw_16, bw_25, bw_26, bw_27, bw_28, bw_29, bw_30, bw_68, bw_46, bw_47, bw_48, bw_49, bw_50, bw_51, bw_52, bw_53, bw0_0, bw0_1, bw0_2, bw0_3, bw0_4, bw0_5, bw0_6, bw0_7, bw0_10, bw0_11, bs_42, bs_43, bs_44, bs_54, bs_55, bs_56, bs_57, bs_67, bs_69]; done) | (simp only [bw_2, bw_3, bw_5, bw_6, bw_7, bw_8, bw_9, bw_11, bw_12, bw_13, bw_14, bw_16, bw_25, bw_26, bw_27, bw_28, bw_29, bw_30, bw_68, bw_46, bw_47, bw_48, bw_49, bw_50, bw_51, bw_52, bw_53, bw0_0, bw0_1, bw0_2, bw0_3, bw0_4, bw0_5, bw0_6, bw0_7, bw0_10, bw0_11, bs_42, bs_43, bs_44, bs_54, bs_55, bs_56, bs_57, bs_67, bs_69]; rfl))
set_option maxHeartbeats 4000000 in
set_option maxRecDepth 100000 in
theorem x_call {d : Nat} {v : Nat} {I : fc_I} (z : Int32) (hw : Wf0 (aX 45 I)) : fc_Ci X10_call (d + 2) [.ref 0, .int z] fc_SH I (fc_PT v) (xQ v I (op_call (aX 45 I) z)) := by
  have km3 : (-3 : Int32).toInt = -3 := rfl
  have km2 : (-2 : Int32).toInt = -2 := rfl
  have km1 : (-1 : Int32).toInt = -1 := rfl
  have hw0 : (0 ≤ (I 45 9).toInt ∧ (I 45 9).toInt ≤ (I 15 11).toInt ∧ 1 ≤ (I 15 11).toInt ∧ (I 15 11).toInt ≤ 60) ∧ (0 ≤ (I 1 2).toInt ∧ (I 1 2).toInt ≤ 6) ∧ (0 ≤ (I 1 3).toInt ∧ (I 1 3).toInt ≤ 3) ∧ (0 ≤ (I 4 5).toInt ∧ (I 4 5).toInt ≤ 14) ∧ (0 ≤ (I 10 4).toInt ∧ (I 10 4).toInt ≤ 4) ∧ (0 ≤ (I 15 10).toInt ∧ (I 15 10).toInt ≤ 2) ∧ (0 ≤ (I 15 9).toInt ∧ (I 15 9).toInt ≤ 40) ∧ (0 ≤ (I 31 6).toInt ∧ (I 31 6).toInt ≤ 160) ∧ (1 ≤ (I 31 7).toInt ∧ (I 31 7).toInt ≤ 6) ∧ (0 ≤ (I 31 8).toInt ∧ (I 31 8).toInt < (I 31 7).toInt) := hw
  obtain ⟨⟨w1, w2, w3, w4⟩, ⟨w5, w6⟩, ⟨w7, w8⟩, ⟨w9, w10⟩, ⟨w11, w12⟩, ⟨w13, w14⟩, ⟨w15, w16⟩, ⟨w17, w18⟩, ⟨w19, w20⟩, ⟨w21, w22⟩⟩ := hw0
  refine fc_Ci.of ⟨rfl, rfl⟩ (Nat.le_of_ble_eq_true rfl) rfl ?_
  refine ft_aload_n dX10_call_0 rfl ?_
  refine ft_iload_n dX10_call_1 rfl ?_
  refine ft_V1p cf_X10_114 sh_0 (c_isNoZone _ hw) (Nat.le_of_ble_eq_true rfl) dX10_call_2 ?_
  refine ft_bz (tgt := 11) dX10_call_5 (by decide) (fun h_5 => ?_) (fun h_5 => ?_)
  · refine ft_aload_n dX10_call_11 rfl ?_
    refine ft_getR fl_X10_57 rfl sh_0 (by decide) pt_0_5 dX10_call_12 ?_
    refine ft_getR fl_X10_150 rfl sh_45 (by decide) pt_45_3 dX10_call_15 ?_
    refine ft_iload_n dX10_call_18 rfl ?_
    refine ft_iald sh_49 (by rw [vp_in_iff]; omega) dX10_call_19 ?_
    refine ft_iconst (v := (-1)) dX10_call_20 rfl ?_
    refine fj_icmp_ne (tgt := 41) dX10_call_21 (by decide) (fun h_21 => ?_) (fun h_21 => ?_)
    · refine ft_bipush (v := (-3)) dX10_call_41 rfl ?_
      exact ft_reti dX10_call_43 rfl rfl (by
    refine ⟨rfl, ?_, ?_, (by intro c hc; first | rfl | (repeat rw [fc_wI_ne (by omega)]))⟩
    all_goals unfold op_call
    all_goals simp only [ax0_0, ax0_1, ax0_2, ax0_3, ax0_4, ax0_5, ax0_6, ax0_7, ax0_8, ax0_9, ax0_10, ax0_11, ax_1, ax_2, ax_3, ax_4, ax_5, ax_6, ax_7, ax_8, ax_9, ax_10, ax_11, ax_12, ax_13, ax_14, ax_15, ax_16, ax_17, ax_18, ax_19, ax_20, ax_21, ax_22, ax_23, ax_24, ax_25, ax_26, ax_27, ax_28]
    all_goals repeat' split
    all_goals first | (exfalso; omega) | rfl | (simp only [bw_2, bw_3, bw_5, bw_6, bw_7, bw_8, bw_9, bw_11, bw_12, bw_13, bw_14, bw_16, bw_25, bw_26, bw_27, bw_28, bw_29, bw_30, bw_68, bw_46, bw_47, bw_48, bw_49, bw_50, bw_51, bw_52, bw_53, bw0_0, bw0_1, bw0_2, bw0_3, bw0_4, bw0_5, bw0_6, bw0_7, bw0_10, bw0_11, bs_42, bs_43, bs_44, bs_54, bs_55, bs_56, bs_57, bs_67, bs_69]; done) | (simp only [bw_2, bw_3, bw_5, bw_6, bw_7, bw_8, bw_9, bw_11, bw_12, bw_13, bw_14, bw_16, bw_25, bw_26, bw_27, bw_28, bw_29, bw_30, bw_68, bw_46, bw_47, bw_48, bw_49, bw_50, bw_51, bw_52, bw_53, bw0_0, bw0_1, bw0_2, bw0_3, bw0_4, bw0_5, bw0_6, bw0_7, bw0_10, bw0_11, bs_42, bs_43, bs_44, bs_54, bs_55, bs_56, bs_57, bs_67, bs_69]; rfl))
    · refine ft_aload_n dX10_call_24 rfl ?_
      refine ft_getR fl_X10_57 rfl sh_0 (by decide) pt_0_5 dX10_call_25 ?_
      refine ft_getI fl_X10_91 rfl sh_45 (by decide) dX10_call_28 ?_
      refine ft_aload_n dX10_call_31 rfl ?_
      refine ft_getR fl_X10_33 rfl sh_0 (by decide) pt_0_3 dX10_call_32 ?_
      refine ft_getI fl_X10_181 rfl sh_15 (by decide) dX10_call_35 ?_
      refine fj_icmp_lt (tgt := 44) dX10_call_38 (by decide) (fun h_38 => ?_) (fun h_38 => ?_)
      · refine ft_aload_n dX10_call_44 rfl ?_
        refine ft_getR fl_X10_57 rfl sh_0 (by decide) pt_0_5 dX10_call_45 ?_
        refine ft_getR fl_X10_150 rfl sh_45 (by decide) pt_45_3 dX10_call_48 ?_
        refine ft_iload_n dX10_call_51 rfl ?_
        refine ft_aload_n dX10_call_52 rfl ?_
        refine ft_getR fl_X10_57 rfl sh_0 (by decide) pt_0_5 dX10_call_53 ?_
        refine ft_getI fl_X10_91 rfl sh_45 (by decide) dX10_call_56 ?_
        refine ft_iast sh_49 (by rw [vp_in_iff]; omega) rfl dX10_call_59 ?_
        refine ft_aload_n dX10_call_60 rfl ?_
        refine ft_getR fl_X10_57 rfl sh_0 (by decide) pt_0_5 dX10_call_61 ?_
        refine ft_getI fl_X10_91 rfl sh_45 (by decide) dX10_call_64 ?_
        exact ft_reti dX10_call_67 rfl rfl (by
    refine ⟨rfl, ?_, ?_, (by intro c hc; first | rfl | (repeat rw [fc_wI_ne (by omega)]))⟩
    all_goals unfold op_call
    all_goals simp only [ax0_0, ax0_1, ax0_2, ax0_3, ax0_4, ax0_5, ax0_6, ax0_7, ax0_8, ax0_9, ax0_10, ax0_11, ax_1, ax_2, ax_3, ax_4, ax_5, ax_6, ax_7, ax_8, ax_9, ax_10, ax_11, ax_12, ax_13, ax_14, ax_15, ax_16, ax_17, ax_18, ax_19, ax_20, ax_21, ax_22, ax_23, ax_24, ax_25, ax_26, ax_27, ax_28]
    all_goals repeat' split
    all_goals first | (exfalso; omega) | rfl | (simp only [bw_2, bw_3, bw_5, bw_6, bw_7, bw_8, bw_9, bw_11, bw_12, bw_13, bw_14, bw_16, bw_25, bw_26, bw_27, bw_28, bw_29, bw_30, bw_68, bw_46, bw_47, bw_48, bw_49, bw_50, bw_51, bw_52, bw_53, bw0_0, bw0_1, bw0_2, bw0_3, bw0_4, bw0_5, bw0_6, bw0_7, bw0_10, bw0_11, bs_42, bs_43, bs_44, bs_54, bs_55, bs_56, bs_57, bs_67, bs_69]; done) | (simp only [bw_2, bw_3, bw_5, bw_6, bw_7, bw_8, bw_9, bw_11, bw_12, bw_13, bw_14, bw_16, bw_25, bw_26, bw_27, bw_28, bw_29, bw_30, bw_68, bw_46, bw_47, bw_48, bw_49, bw_50, bw_51, bw_52, bw_53, bw0_0, bw0_1, bw0_2, bw0_3, bw0_4, bw0_5, bw0_6, bw0_7, bw0_10, bw0_11, bs_42, bs_43, bs_44, bs_54, bs_55, bs_56, bs_57, bs_67, bs_69]; rfl))
      · refine ft_bipush (v := (-3)) dX10_call_41 rfl ?_
        exact ft_reti dX10_call_43 rfl rfl (by
    refine ⟨rfl, ?_, ?_, (by intro c hc; first | rfl | (repeat rw [fc_wI_ne (by omega)]))⟩
    all_goals unfold op_call
    all_goals simp only [ax0_0, ax0_1, ax0_2, ax0_3, ax0_4, ax0_5, ax0_6, ax0_7, ax0_8, ax0_9, ax0_10, ax0_11, ax_1, ax_2, ax_3, ax_4, ax_5, ax_6, ax_7, ax_8, ax_9, ax_10, ax_11, ax_12, ax_13, ax_14, ax_15, ax_16, ax_17, ax_18, ax_19, ax_20, ax_21, ax_22, ax_23, ax_24, ax_25, ax_26, ax_27, ax_28]
    all_goals repeat' split
    all_goals first | (exfalso; omega) | rfl | (simp only [bw_2, bw_3, bw_5, bw_6, bw_7, bw_8, bw_9, bw_11, bw_12, bw_13, bw_14, bw_16, bw_25, bw_26, bw_27, bw_28, bw_29, bw_30, bw_68, bw_46, bw_47, bw_48, bw_49, bw_50, bw_51, bw_52, bw_53, bw0_0, bw0_1, bw0_2, bw0_3, bw0_4, bw0_5, bw0_6, bw0_7, bw0_10, bw0_11, bs_42, bs_43, bs_44, bs_54, bs_55, bs_56, bs_57, bs_67, bs_69]; done) | (simp only [bw_2, bw_3, bw_5, bw_6, bw_7, bw_8, bw_9, bw_11, bw_12, bw_13, bw_14, bw_16, bw_25, bw_26, bw_27, bw_28, bw_29, bw_30, bw_68, bw_46, bw_47, bw_48, bw_49, bw_50, bw_51, bw_52, bw_53, bw0_0, bw0_1, bw0_2, bw0_3, bw0_4, bw0_5, bw0_6, bw0_7, bw0_10, bw0_11, bs_42, bs_43, bs_44, bs_54, bs_55, bs_56, bs_57, bs_67, bs_69]; rfl))
  · refine ft_bipush (v := (-2)) dX10_call_8 rfl ?_
    exact ft_reti dX10_call_10 rfl rfl (by
    refine ⟨rfl, ?_, ?_, (by intro c hc; first | rfl | (repeat rw [fc_wI_ne (by omega)]))⟩
    all_goals unfold op_call
    all_goals simp only [ax0_0, ax0_1, ax0_2, ax0_3, ax0_4, ax0_5, ax0_6, ax0_7, ax0_8, ax0_9, ax0_10, ax0_11, ax_1, ax_2, ax_3, ax_4, ax_5, ax_6, ax_7, ax_8, ax_9, ax_10, ax_11, ax_12, ax_13, ax_14, ax_15, ax_16, ax_17, ax_18, ax_19, ax_20, ax_21, ax_22, ax_23, ax_24, ax_25, ax_26, ax_27, ax_28]
    all_goals repeat' split
    all_goals first | (exfalso; omega) | rfl | (simp only [bw_2, bw_3, bw_5, bw_6, bw_7, bw_8, bw_9, bw_11, bw_12, bw_13, bw_14, bw_16, bw_25, bw_26, bw_27, bw_28, bw_29, bw_30, bw_68, bw_46, bw_47, bw_48, bw_49, bw_50, bw_51, bw_52, bw_53, bw0_0, bw0_1, bw0_2, bw0_3, bw0_4, bw0_5, bw0_6, bw0_7, bw0_10, bw0_11, bs_42, bs_43, bs_44, bs_54, bs_55, bs_56, bs_57, bs_67, bs_69]; done) | (simp only [bw_2, bw_3, bw_5, bw_6, bw_7, bw_8, bw_9, bw_11, bw_12, bw_13, bw_14, bw_16, bw_25, bw_26, bw_27, bw_28, bw_29, bw_30, bw_68, bw_46, bw_47, bw_48, bw_49, bw_50, bw_51, bw_52, bw_53, bw0_0, bw0_1, bw0_2, bw0_3, bw0_4, bw0_5, bw0_6, bw0_7, bw0_10, bw0_11, bs_42, bs_43, bs_44, bs_54, bs_55, bs_56, bs_57, bs_67, bs_69]; rfl))
set_option maxHeartbeats 4000000 in
set_option maxRecDepth 100000 in
theorem x_bestCall {d : Nat} {v : Nat} {I : fc_I} (z : Int32) (hw : Wf0 (aX 45 I)) : fc_Ci X10_bestCall (d + 2) [.ref 0, .int z] fc_SH I (fc_PT v) (xQ v I (op_bestCall (aX 45 I) z)) := by
  have km1 : (-1 : Int32).toInt = -1 := rfl
  have hw0 : (0 ≤ (I 45 9).toInt ∧ (I 45 9).toInt ≤ (I 15 11).toInt ∧ 1 ≤ (I 15 11).toInt ∧ (I 15 11).toInt ≤ 60) ∧ (0 ≤ (I 1 2).toInt ∧ (I 1 2).toInt ≤ 6) ∧ (0 ≤ (I 1 3).toInt ∧ (I 1 3).toInt ≤ 3) ∧ (0 ≤ (I 4 5).toInt ∧ (I 4 5).toInt ≤ 14) ∧ (0 ≤ (I 10 4).toInt ∧ (I 10 4).toInt ≤ 4) ∧ (0 ≤ (I 15 10).toInt ∧ (I 15 10).toInt ≤ 2) ∧ (0 ≤ (I 15 9).toInt ∧ (I 15 9).toInt ≤ 40) ∧ (0 ≤ (I 31 6).toInt ∧ (I 31 6).toInt ≤ 160) ∧ (1 ≤ (I 31 7).toInt ∧ (I 31 7).toInt ≤ 6) ∧ (0 ≤ (I 31 8).toInt ∧ (I 31 8).toInt < (I 31 7).toInt) := hw
  obtain ⟨⟨w1, w2, w3, w4⟩, ⟨w5, w6⟩, ⟨w7, w8⟩, ⟨w9, w10⟩, ⟨w11, w12⟩, ⟨w13, w14⟩, ⟨w15, w16⟩, ⟨w17, w18⟩, ⟨w19, w20⟩, ⟨w21, w22⟩⟩ := hw0
  refine fc_Ci.of ⟨rfl, rfl⟩ (Nat.le_of_ble_eq_true rfl) rfl ?_
  refine ft_aload_n dX10_bestCall_0 rfl ?_
  refine ft_iload_n dX10_bestCall_1 rfl ?_
  refine ft_V1p cf_X10_114 sh_0 (c_isNoZone _ hw) (Nat.le_of_ble_eq_true rfl) dX10_bestCall_2 ?_
  refine ft_bz (tgt := 12) dX10_bestCall_5 (by decide) (fun h_5 => ?_) (fun h_5 => ?_)
  · refine ft_aload_n dX10_bestCall_12 rfl ?_
    refine ft_getR fl_X10_75 rfl sh_0 (by decide) pt_0_7 dX10_bestCall_13 ?_
    refine ft_getR fl_X10_252 rfl sh_57 (by decide) pt_57_6 dX10_bestCall_16 ?_
    refine ft_iload_n dX10_bestCall_19 rfl ?_
    refine ft_iald sh_68 (by rw [vp_in_iff]; omega) dX10_bestCall_20 ?_
    exact ft_reti dX10_bestCall_21 rfl rfl (by
    refine ⟨rfl, ?_, ?_, (by intro c hc; first | rfl | (repeat rw [fc_wI_ne (by omega)]))⟩
    all_goals unfold op_bestCall
    all_goals simp only [ax0_0, ax0_1, ax0_2, ax0_3, ax0_4, ax0_5, ax0_6, ax0_7, ax0_8, ax0_9, ax0_10, ax0_11, ax_1, ax_2, ax_3, ax_4, ax_5, ax_6, ax_7, ax_8, ax_9, ax_10, ax_11, ax_12, ax_13, ax_14, ax_15, ax_16, ax_17, ax_18, ax_19, ax_20, ax_21, ax_22, ax_23, ax_24, ax_25, ax_26, ax_27, ax_28]
    all_goals repeat' split
    all_goals first | (exfalso; omega) | rfl | (simp only [bw_2, bw_3, bw_5, bw_6, bw_7, bw_8, bw_9, bw_11, bw_12, bw_13, bw_14, bw_16, bw_25, bw_26, bw_27, bw_28, bw_29, bw_30, bw_68, bw_46, bw_47, bw_48, bw_49, bw_50, bw_51, bw_52, bw_53, bw0_0, bw0_1, bw0_2, bw0_3, bw0_4, bw0_5, bw0_6, bw0_7, bw0_10, bw0_11, bs_42, bs_43, bs_44, bs_54, bs_55, bs_56, bs_57, bs_67, bs_69]; done) | (simp only [bw_2, bw_3, bw_5, bw_6, bw_7, bw_8, bw_9, bw_11, bw_12, bw_13, bw_14, bw_16, bw_25, bw_26, bw_27, bw_28, bw_29, bw_30, bw_68, bw_46, bw_47, bw_48, bw_49, bw_50, bw_51, bw_52, bw_53, bw0_0, bw0_1, bw0_2, bw0_3, bw0_4, bw0_5, bw0_6, bw0_7, bw0_10, bw0_11, bs_42, bs_43, bs_44, bs_54, bs_55, bs_56, bs_57, bs_67, bs_69]; rfl))
  · refine ft_iconst (v := (-1)) dX10_bestCall_8 rfl ?_
    refine ft_goto (tgt := 21) dX10_bestCall_9 (by decide) ?_
    exact ft_reti dX10_bestCall_21 rfl rfl (by
    refine ⟨rfl, ?_, ?_, (by intro c hc; first | rfl | (repeat rw [fc_wI_ne (by omega)]))⟩
    all_goals unfold op_bestCall
    all_goals simp only [ax0_0, ax0_1, ax0_2, ax0_3, ax0_4, ax0_5, ax0_6, ax0_7, ax0_8, ax0_9, ax0_10, ax0_11, ax_1, ax_2, ax_3, ax_4, ax_5, ax_6, ax_7, ax_8, ax_9, ax_10, ax_11, ax_12, ax_13, ax_14, ax_15, ax_16, ax_17, ax_18, ax_19, ax_20, ax_21, ax_22, ax_23, ax_24, ax_25, ax_26, ax_27, ax_28]
    all_goals repeat' split
    all_goals first | (exfalso; omega) | rfl | (simp only [bw_2, bw_3, bw_5, bw_6, bw_7, bw_8, bw_9, bw_11, bw_12, bw_13, bw_14, bw_16, bw_25, bw_26, bw_27, bw_28, bw_29, bw_30, bw_68, bw_46, bw_47, bw_48, bw_49, bw_50, bw_51, bw_52, bw_53, bw0_0, bw0_1, bw0_2, bw0_3, bw0_4, bw0_5, bw0_6, bw0_7, bw0_10, bw0_11, bs_42, bs_43, bs_44, bs_54, bs_55, bs_56, bs_57, bs_67, bs_69]; done) | (simp only [bw_2, bw_3, bw_5, bw_6, bw_7, bw_8, bw_9, bw_11, bw_12, bw_13, bw_14, bw_16, bw_25, bw_26, bw_27, bw_28, bw_29, bw_30, bw_68, bw_46, bw_47, bw_48, bw_49, bw_50, bw_51, bw_52, bw_53, bw0_0, bw0_1, bw0_2, bw0_3, bw0_4, bw0_5, bw0_6, bw0_7, bw0_10, bw0_11, bs_42, bs_43, bs_44, bs_54, bs_55, bs_56, bs_57, bs_67, bs_69]; rfl))
set_option maxHeartbeats 4000000 in
set_option maxRecDepth 100000 in
theorem x_shelterTold {d : Nat} {v : Nat} {I : fc_I} (s w : Int32) (hw : Wf0 (aX 45 I)) : fc_Ci X10_shelterTold (d + 2) [.ref 0, .int s, .int w] fc_SH I (fc_PT v) (xQ v I (op_shelterTold (aX 45 I) s w)) := by
  have km2 : (-2 : Int32).toInt = -2 := rfl
  have hw0 : (0 ≤ (I 45 9).toInt ∧ (I 45 9).toInt ≤ (I 15 11).toInt ∧ 1 ≤ (I 15 11).toInt ∧ (I 15 11).toInt ≤ 60) ∧ (0 ≤ (I 1 2).toInt ∧ (I 1 2).toInt ≤ 6) ∧ (0 ≤ (I 1 3).toInt ∧ (I 1 3).toInt ≤ 3) ∧ (0 ≤ (I 4 5).toInt ∧ (I 4 5).toInt ≤ 14) ∧ (0 ≤ (I 10 4).toInt ∧ (I 10 4).toInt ≤ 4) ∧ (0 ≤ (I 15 10).toInt ∧ (I 15 10).toInt ≤ 2) ∧ (0 ≤ (I 15 9).toInt ∧ (I 15 9).toInt ≤ 40) ∧ (0 ≤ (I 31 6).toInt ∧ (I 31 6).toInt ≤ 160) ∧ (1 ≤ (I 31 7).toInt ∧ (I 31 7).toInt ≤ 6) ∧ (0 ≤ (I 31 8).toInt ∧ (I 31 8).toInt < (I 31 7).toInt) := hw
  obtain ⟨⟨w1, w2, w3, w4⟩, ⟨w5, w6⟩, ⟨w7, w8⟩, ⟨w9, w10⟩, ⟨w11, w12⟩, ⟨w13, w14⟩, ⟨w15, w16⟩, ⟨w17, w18⟩, ⟨w19, w20⟩, ⟨w21, w22⟩⟩ := hw0
  refine fc_Ci.of ⟨rfl, rfl⟩ (Nat.le_of_ble_eq_true rfl) rfl ?_
  refine ft_aload_n dX10_shelterTold_0 rfl ?_
  refine ft_iload_n dX10_shelterTold_1 rfl ?_
  refine ft_V1p cf_X10_140 sh_0 (c_isNoShelter _ hw) (Nat.le_of_ble_eq_true rfl) dX10_shelterTold_2 ?_
  refine ft_bz (tgt := 11) dX10_shelterTold_5 (by decide) (fun h_5 => ?_) (fun h_5 => ?_)
  · refine ft_iload_n dX10_shelterTold_11 rfl ?_
    rcases (show (¬ w.toInt = 0 ∧ ¬ w.toInt = 1) ∨ w.toInt = 0 ∨ w.toInt = 1 by omega) with hs_12 | e_12 | e_12
    · refine ft_lookup (tgt := 60) dX10_shelterTold_12 (by decide) (by simp [Op.lookupswitch.offset, hs_12]) (by decide) ?_
      refine ft_bipush (v := (-2)) dX10_shelterTold_60 rfl ?_
      exact ft_reti dX10_shelterTold_62 rfl rfl (by
    refine ⟨rfl, ?_, ?_, (by intro c hc; first | rfl | (repeat rw [fc_wI_ne (by omega)]))⟩
    all_goals unfold op_shelterTold
    all_goals simp only [ax0_0, ax0_1, ax0_2, ax0_3, ax0_4, ax0_5, ax0_6, ax0_7, ax0_8, ax0_9, ax0_10, ax0_11, ax_1, ax_2, ax_3, ax_4, ax_5, ax_6, ax_7, ax_8, ax_9, ax_10, ax_11, ax_12, ax_13, ax_14, ax_15, ax_16, ax_17, ax_18, ax_19, ax_20, ax_21, ax_22, ax_23, ax_24, ax_25, ax_26, ax_27, ax_28]
    all_goals repeat' split
    all_goals first | (exfalso; omega) | rfl | (simp only [bw_2, bw_3, bw_5, bw_6, bw_7, bw_8, bw_9, bw_11, bw_12, bw_13, bw_14, bw_16, bw_25, bw_26, bw_27, bw_28, bw_29, bw_30, bw_68, bw_46, bw_47, bw_48, bw_49, bw_50, bw_51, bw_52, bw_53, bw0_0, bw0_1, bw0_2, bw0_3, bw0_4, bw0_5, bw0_6, bw0_7, bw0_10, bw0_11, bs_42, bs_43, bs_44, bs_54, bs_55, bs_56, bs_57, bs_67, bs_69]; done) | (simp only [bw_2, bw_3, bw_5, bw_6, bw_7, bw_8, bw_9, bw_11, bw_12, bw_13, bw_14, bw_16, bw_25, bw_26, bw_27, bw_28, bw_29, bw_30, bw_68, bw_46, bw_47, bw_48, bw_49, bw_50, bw_51, bw_52, bw_53, bw0_0, bw0_1, bw0_2, bw0_3, bw0_4, bw0_5, bw0_6, bw0_7, bw0_10, bw0_11, bs_42, bs_43, bs_44, bs_54, bs_55, bs_56, bs_57, bs_67, bs_69]; rfl))
    · refine ft_lookup (tgt := 40) dX10_shelterTold_12 (by decide) (by rw [e_12]; rfl) (by decide) ?_
      refine ft_aload_n dX10_shelterTold_40 rfl ?_
      refine ft_getR fl_X10_57 rfl sh_0 (by decide) pt_0_5 dX10_shelterTold_41 ?_
      refine ft_getR fl_X10_111 rfl sh_45 (by decide) pt_45_4 dX10_shelterTold_44 ?_
      refine ft_iload_n dX10_shelterTold_47 rfl ?_
      refine ft_iald sh_50 (by rw [vp_in_iff]; omega) dX10_shelterTold_48 ?_
      exact ft_reti dX10_shelterTold_49 rfl rfl (by
    refine ⟨rfl, ?_, ?_, (by intro c hc; first | rfl | (repeat rw [fc_wI_ne (by omega)]))⟩
    all_goals unfold op_shelterTold
    all_goals simp only [ax0_0, ax0_1, ax0_2, ax0_3, ax0_4, ax0_5, ax0_6, ax0_7, ax0_8, ax0_9, ax0_10, ax0_11, ax_1, ax_2, ax_3, ax_4, ax_5, ax_6, ax_7, ax_8, ax_9, ax_10, ax_11, ax_12, ax_13, ax_14, ax_15, ax_16, ax_17, ax_18, ax_19, ax_20, ax_21, ax_22, ax_23, ax_24, ax_25, ax_26, ax_27, ax_28]
    all_goals repeat' split
    all_goals first | (exfalso; omega) | rfl | (simp only [bw_2, bw_3, bw_5, bw_6, bw_7, bw_8, bw_9, bw_11, bw_12, bw_13, bw_14, bw_16, bw_25, bw_26, bw_27, bw_28, bw_29, bw_30, bw_68, bw_46, bw_47, bw_48, bw_49, bw_50, bw_51, bw_52, bw_53, bw0_0, bw0_1, bw0_2, bw0_3, bw0_4, bw0_5, bw0_6, bw0_7, bw0_10, bw0_11, bs_42, bs_43, bs_44, bs_54, bs_55, bs_56, bs_57, bs_67, bs_69]; done) | (simp only [bw_2, bw_3, bw_5, bw_6, bw_7, bw_8, bw_9, bw_11, bw_12, bw_13, bw_14, bw_16, bw_25, bw_26, bw_27, bw_28, bw_29, bw_30, bw_68, bw_46, bw_47, bw_48, bw_49, bw_50, bw_51, bw_52, bw_53, bw0_0, bw0_1, bw0_2, bw0_3, bw0_4, bw0_5, bw0_6, bw0_7, bw0_10, bw0_11, bs_42, bs_43, bs_44, bs_54, bs_55, bs_56, bs_57, bs_67, bs_69]; rfl))
    · refine ft_lookup (tgt := 50) dX10_shelterTold_12 (by decide) (by rw [e_12]; rfl) (by decide) ?_
      refine ft_aload_n dX10_shelterTold_50 rfl ?_
      refine ft_getR fl_X10_57 rfl sh_0 (by decide) pt_0_5 dX10_shelterTold_51 ?_
      refine ft_getR fl_X10_159 rfl sh_45 (by decide) pt_45_5 dX10_shelterTold_54 ?_
      refine ft_iload_n dX10_shelterTold_57 rfl ?_
      refine ft_iald sh_51 (by rw [vp_in_iff]; omega) dX10_shelterTold_58 ?_
      exact ft_reti dX10_shelterTold_59 rfl rfl (by
    refine ⟨rfl, ?_, ?_, (by intro c hc; first | rfl | (repeat rw [fc_wI_ne (by omega)]))⟩
    all_goals unfold op_shelterTold
    all_goals simp only [ax0_0, ax0_1, ax0_2, ax0_3, ax0_4, ax0_5, ax0_6, ax0_7, ax0_8, ax0_9, ax0_10, ax0_11, ax_1, ax_2, ax_3, ax_4, ax_5, ax_6, ax_7, ax_8, ax_9, ax_10, ax_11, ax_12, ax_13, ax_14, ax_15, ax_16, ax_17, ax_18, ax_19, ax_20, ax_21, ax_22, ax_23, ax_24, ax_25, ax_26, ax_27, ax_28]
    all_goals repeat' split
    all_goals first | (exfalso; omega) | rfl | (simp only [bw_2, bw_3, bw_5, bw_6, bw_7, bw_8, bw_9, bw_11, bw_12, bw_13, bw_14, bw_16, bw_25, bw_26, bw_27, bw_28, bw_29, bw_30, bw_68, bw_46, bw_47, bw_48, bw_49, bw_50, bw_51, bw_52, bw_53, bw0_0, bw0_1, bw0_2, bw0_3, bw0_4, bw0_5, bw0_6, bw0_7, bw0_10, bw0_11, bs_42, bs_43, bs_44, bs_54, bs_55, bs_56, bs_57, bs_67, bs_69]; done) | (simp only [bw_2, bw_3, bw_5, bw_6, bw_7, bw_8, bw_9, bw_11, bw_12, bw_13, bw_14, bw_16, bw_25, bw_26, bw_27, bw_28, bw_29, bw_30, bw_68, bw_46, bw_47, bw_48, bw_49, bw_50, bw_51, bw_52, bw_53, bw0_0, bw0_1, bw0_2, bw0_3, bw0_4, bw0_5, bw0_6, bw0_7, bw0_10, bw0_11, bs_42, bs_43, bs_44, bs_54, bs_55, bs_56, bs_57, bs_67, bs_69]; rfl))
  · refine ft_bipush (v := (-2)) dX10_shelterTold_8 rfl ?_
    exact ft_reti dX10_shelterTold_10 rfl rfl (by
    refine ⟨rfl, ?_, ?_, (by intro c hc; first | rfl | (repeat rw [fc_wI_ne (by omega)]))⟩
    all_goals unfold op_shelterTold
    all_goals simp only [ax0_0, ax0_1, ax0_2, ax0_3, ax0_4, ax0_5, ax0_6, ax0_7, ax0_8, ax0_9, ax0_10, ax0_11, ax_1, ax_2, ax_3, ax_4, ax_5, ax_6, ax_7, ax_8, ax_9, ax_10, ax_11, ax_12, ax_13, ax_14, ax_15, ax_16, ax_17, ax_18, ax_19, ax_20, ax_21, ax_22, ax_23, ax_24, ax_25, ax_26, ax_27, ax_28]
    all_goals repeat' split
    all_goals first | (exfalso; omega) | rfl | (simp only [bw_2, bw_3, bw_5, bw_6, bw_7, bw_8, bw_9, bw_11, bw_12, bw_13, bw_14, bw_16, bw_25, bw_26, bw_27, bw_28, bw_29, bw_30, bw_68, bw_46, bw_47, bw_48, bw_49, bw_50, bw_51, bw_52, bw_53, bw0_0, bw0_1, bw0_2, bw0_3, bw0_4, bw0_5, bw0_6, bw0_7, bw0_10, bw0_11, bs_42, bs_43, bs_44, bs_54, bs_55, bs_56, bs_57, bs_67, bs_69]; done) | (simp only [bw_2, bw_3, bw_5, bw_6, bw_7, bw_8, bw_9, bw_11, bw_12, bw_13, bw_14, bw_16, bw_25, bw_26, bw_27, bw_28, bw_29, bw_30, bw_68, bw_46, bw_47, bw_48, bw_49, bw_50, bw_51, bw_52, bw_53, bw0_0, bw0_1, bw0_2, bw0_3, bw0_4, bw0_5, bw0_6, bw0_7, bw0_10, bw0_11, bs_42, bs_43, bs_44, bs_54, bs_55, bs_56, bs_57, bs_67, bs_69]; rfl))
set_option maxHeartbeats 4000000 in
set_option maxRecDepth 100000 in
theorem x_busTold {d : Nat} {v : Nat} {I : fc_I} (b w : Int32) (hw : Wf0 (aX 45 I)) : fc_Ci X10_busTold (d + 2) [.ref 0, .int b, .int w] fc_SH I (fc_PT v) (xQ v I (op_busTold (aX 45 I) b w)) := by
  have km2 : (-2 : Int32).toInt = -2 := rfl
  have km1 : (-1 : Int32).toInt = -1 := rfl
  have k0 : (0 : Int32).toInt = 0 := rfl
  have k1 : (1 : Int32).toInt = 1 := rfl
  have hw0 : (0 ≤ (I 45 9).toInt ∧ (I 45 9).toInt ≤ (I 15 11).toInt ∧ 1 ≤ (I 15 11).toInt ∧ (I 15 11).toInt ≤ 60) ∧ (0 ≤ (I 1 2).toInt ∧ (I 1 2).toInt ≤ 6) ∧ (0 ≤ (I 1 3).toInt ∧ (I 1 3).toInt ≤ 3) ∧ (0 ≤ (I 4 5).toInt ∧ (I 4 5).toInt ≤ 14) ∧ (0 ≤ (I 10 4).toInt ∧ (I 10 4).toInt ≤ 4) ∧ (0 ≤ (I 15 10).toInt ∧ (I 15 10).toInt ≤ 2) ∧ (0 ≤ (I 15 9).toInt ∧ (I 15 9).toInt ≤ 40) ∧ (0 ≤ (I 31 6).toInt ∧ (I 31 6).toInt ≤ 160) ∧ (1 ≤ (I 31 7).toInt ∧ (I 31 7).toInt ≤ 6) ∧ (0 ≤ (I 31 8).toInt ∧ (I 31 8).toInt < (I 31 7).toInt) := hw
  obtain ⟨⟨w1, w2, w3, w4⟩, ⟨w5, w6⟩, ⟨w7, w8⟩, ⟨w9, w10⟩, ⟨w11, w12⟩, ⟨w13, w14⟩, ⟨w15, w16⟩, ⟨w17, w18⟩, ⟨w19, w20⟩, ⟨w21, w22⟩⟩ := hw0
  have e5 : (I 10 4 - 1).toInt = (I 10 4).toInt - 1 := i_sub (by omega) (by omega)
  refine fc_Ci.of ⟨rfl, rfl⟩ (Nat.le_of_ble_eq_true rfl) rfl ?_
  refine ft_iload_n dX10_busTold_0 rfl ?_
  refine ft_iconst (v := 0) dX10_busTold_1 rfl ?_
  refine ft_aload_n dX10_busTold_2 rfl ?_
  refine ft_getR fl_X10_26 rfl sh_0 (by decide) pt_0_2 dX10_busTold_3 ?_
  refine ft_getI fl_X10_143 rfl sh_10 (by decide) dX10_busTold_6 ?_
  refine ft_iconst (v := 1) dX10_busTold_9 rfl ?_
  refine ft_isub dX10_busTold_10 ?_
  refine ft_S3p cf_X10_86 (c_isOutside _ _ _) (Nat.le_of_ble_eq_true rfl) dX10_busTold_11 ?_
  refine ft_bz (tgt := 20) dX10_busTold_14 (by decide) (fun h_14 => ?_) (fun h_14 => ?_)
  · refine ft_iload_n dX10_busTold_20 rfl ?_
    rcases (show (w.toInt < 0 ∨ 2 < w.toInt) ∨ w.toInt = 0 ∨ w.toInt = 1 ∨ w.toInt = 2 by omega) with hs_21 | e_21 | e_21 | e_21
    · refine ft_tsOut (tgt := 87) dX10_busTold_21 hs_21 (by decide) ?_
      refine ft_bipush (v := (-2)) dX10_busTold_87 rfl ?_
      exact ft_reti dX10_busTold_89 rfl rfl (by
    refine ⟨rfl, ?_, ?_, (by intro c hc; first | rfl | (repeat rw [fc_wI_ne (by omega)]))⟩
    all_goals unfold op_busTold
    all_goals simp only [ax0_0, ax0_1, ax0_2, ax0_3, ax0_4, ax0_5, ax0_6, ax0_7, ax0_8, ax0_9, ax0_10, ax0_11, ax_1, ax_2, ax_3, ax_4, ax_5, ax_6, ax_7, ax_8, ax_9, ax_10, ax_11, ax_12, ax_13, ax_14, ax_15, ax_16, ax_17, ax_18, ax_19, ax_20, ax_21, ax_22, ax_23, ax_24, ax_25, ax_26, ax_27, ax_28]
    all_goals repeat' split
    all_goals first | (exfalso; omega) | rfl | (simp only [bw_2, bw_3, bw_5, bw_6, bw_7, bw_8, bw_9, bw_11, bw_12, bw_13, bw_14, bw_16, bw_25, bw_26, bw_27, bw_28, bw_29, bw_30, bw_68, bw_46, bw_47, bw_48, bw_49, bw_50, bw_51, bw_52, bw_53, bw0_0, bw0_1, bw0_2, bw0_3, bw0_4, bw0_5, bw0_6, bw0_7, bw0_10, bw0_11, bs_42, bs_43, bs_44, bs_54, bs_55, bs_56, bs_57, bs_67, bs_69]; done) | (simp only [bw_2, bw_3, bw_5, bw_6, bw_7, bw_8, bw_9, bw_11, bw_12, bw_13, bw_14, bw_16, bw_25, bw_26, bw_27, bw_28, bw_29, bw_30, bw_68, bw_46, bw_47, bw_48, bw_49, bw_50, bw_51, bw_52, bw_53, bw0_0, bw0_1, bw0_2, bw0_3, bw0_4, bw0_5, bw0_6, bw0_7, bw0_10, bw0_11, bs_42, bs_43, bs_44, bs_54, bs_55, bs_56, bs_57, bs_67, bs_69]; rfl))
    · refine ft_tsIn (tgt := 48) dX10_busTold_21 (by omega) (by omega) (by rw [e_21]; rfl) (by decide) ?_
      refine ft_aload_n dX10_busTold_48 rfl ?_
      refine ft_getR fl_X10_57 rfl sh_0 (by decide) pt_0_5 dX10_busTold_49 ?_
      refine ft_getR fl_X10_175 rfl sh_45 (by decide) pt_45_7 dX10_busTold_52 ?_
      refine ft_iload_n dX10_busTold_55 rfl ?_
      refine ft_iald sh_53 (by rw [vp_in_iff]; omega) dX10_busTold_56 ?_
      refine ft_iconst (v := (-1)) dX10_busTold_57 rfl ?_
      refine fj_icmp_ne (tgt := 65) dX10_busTold_58 (by decide) (fun h_58 => ?_) (fun h_58 => ?_)
      · refine ft_iconst (v := 0) dX10_busTold_65 rfl ?_
        exact ft_reti dX10_busTold_66 rfl rfl (by
    refine ⟨rfl, ?_, ?_, (by intro c hc; first | rfl | (repeat rw [fc_wI_ne (by omega)]))⟩
    all_goals unfold op_busTold
    all_goals simp only [ax0_0, ax0_1, ax0_2, ax0_3, ax0_4, ax0_5, ax0_6, ax0_7, ax0_8, ax0_9, ax0_10, ax0_11, ax_1, ax_2, ax_3, ax_4, ax_5, ax_6, ax_7, ax_8, ax_9, ax_10, ax_11, ax_12, ax_13, ax_14, ax_15, ax_16, ax_17, ax_18, ax_19, ax_20, ax_21, ax_22, ax_23, ax_24, ax_25, ax_26, ax_27, ax_28]
    all_goals repeat' split
    all_goals first | (exfalso; omega) | rfl | (simp only [bw_2, bw_3, bw_5, bw_6, bw_7, bw_8, bw_9, bw_11, bw_12, bw_13, bw_14, bw_16, bw_25, bw_26, bw_27, bw_28, bw_29, bw_30, bw_68, bw_46, bw_47, bw_48, bw_49, bw_50, bw_51, bw_52, bw_53, bw0_0, bw0_1, bw0_2, bw0_3, bw0_4, bw0_5, bw0_6, bw0_7, bw0_10, bw0_11, bs_42, bs_43, bs_44, bs_54, bs_55, bs_56, bs_57, bs_67, bs_69]; done) | (simp only [bw_2, bw_3, bw_5, bw_6, bw_7, bw_8, bw_9, bw_11, bw_12, bw_13, bw_14, bw_16, bw_25, bw_26, bw_27, bw_28, bw_29, bw_30, bw_68, bw_46, bw_47, bw_48, bw_49, bw_50, bw_51, bw_52, bw_53, bw0_0, bw0_1, bw0_2, bw0_3, bw0_4, bw0_5, bw0_6, bw0_7, bw0_10, bw0_11, bs_42, bs_43, bs_44, bs_54, bs_55, bs_56, bs_57, bs_67, bs_69]; rfl))
      · refine ft_iconst (v := 1) dX10_busTold_61 rfl ?_
        refine ft_goto (tgt := 66) dX10_busTold_62 (by decide) ?_
        exact ft_reti dX10_busTold_66 rfl rfl (by
    refine ⟨rfl, ?_, ?_, (by intro c hc; first | rfl | (repeat rw [fc_wI_ne (by omega)]))⟩
    all_goals unfold op_busTold
    all_goals simp only [ax0_0, ax0_1, ax0_2, ax0_3, ax0_4, ax0_5, ax0_6, ax0_7, ax0_8, ax0_9, ax0_10, ax0_11, ax_1, ax_2, ax_3, ax_4, ax_5, ax_6, ax_7, ax_8, ax_9, ax_10, ax_11, ax_12, ax_13, ax_14, ax_15, ax_16, ax_17, ax_18, ax_19, ax_20, ax_21, ax_22, ax_23, ax_24, ax_25, ax_26, ax_27, ax_28]
    all_goals repeat' split
    all_goals first | (exfalso; omega) | rfl | (simp only [bw_2, bw_3, bw_5, bw_6, bw_7, bw_8, bw_9, bw_11, bw_12, bw_13, bw_14, bw_16, bw_25, bw_26, bw_27, bw_28, bw_29, bw_30, bw_68, bw_46, bw_47, bw_48, bw_49, bw_50, bw_51, bw_52, bw_53, bw0_0, bw0_1, bw0_2, bw0_3, bw0_4, bw0_5, bw0_6, bw0_7, bw0_10, bw0_11, bs_42, bs_43, bs_44, bs_54, bs_55, bs_56, bs_57, bs_67, bs_69]; done) | (simp only [bw_2, bw_3, bw_5, bw_6, bw_7, bw_8, bw_9, bw_11, bw_12, bw_13, bw_14, bw_16, bw_25, bw_26, bw_27, bw_28, bw_29, bw_30, bw_68, bw_46, bw_47, bw_48, bw_49, bw_50, bw_51, bw_52, bw_53, bw0_0, bw0_1, bw0_2, bw0_3, bw0_4, bw0_5, bw0_6, bw0_7, bw0_10, bw0_11, bs_42, bs_43, bs_44, bs_54, bs_55, bs_56, bs_57, bs_67, bs_69]; rfl))
    · refine ft_tsIn (tgt := 67) dX10_busTold_21 (by omega) (by omega) (by rw [e_21]; rfl) (by decide) ?_
      refine ft_aload_n dX10_busTold_67 rfl ?_
      refine ft_getR fl_X10_57 rfl sh_0 (by decide) pt_0_5 dX10_busTold_68 ?_
      refine ft_getR fl_X10_178 rfl sh_45 (by decide) pt_45_6 dX10_busTold_71 ?_
      refine ft_iload_n dX10_busTold_74 rfl ?_
      refine ft_iald sh_52 (by rw [vp_in_iff]; omega) dX10_busTold_75 ?_
      exact ft_reti dX10_busTold_76 rfl rfl (by
    refine ⟨rfl, ?_, ?_, (by intro c hc; first | rfl | (repeat rw [fc_wI_ne (by omega)]))⟩
    all_goals unfold op_busTold
    all_goals simp only [ax0_0, ax0_1, ax0_2, ax0_3, ax0_4, ax0_5, ax0_6, ax0_7, ax0_8, ax0_9, ax0_10, ax0_11, ax_1, ax_2, ax_3, ax_4, ax_5, ax_6, ax_7, ax_8, ax_9, ax_10, ax_11, ax_12, ax_13, ax_14, ax_15, ax_16, ax_17, ax_18, ax_19, ax_20, ax_21, ax_22, ax_23, ax_24, ax_25, ax_26, ax_27, ax_28]
    all_goals repeat' split
    all_goals first | (exfalso; omega) | rfl | (simp only [bw_2, bw_3, bw_5, bw_6, bw_7, bw_8, bw_9, bw_11, bw_12, bw_13, bw_14, bw_16, bw_25, bw_26, bw_27, bw_28, bw_29, bw_30, bw_68, bw_46, bw_47, bw_48, bw_49, bw_50, bw_51, bw_52, bw_53, bw0_0, bw0_1, bw0_2, bw0_3, bw0_4, bw0_5, bw0_6, bw0_7, bw0_10, bw0_11, bs_42, bs_43, bs_44, bs_54, bs_55, bs_56, bs_57, bs_67, bs_69]; done) | (simp only [bw_2, bw_3, bw_5, bw_6, bw_7, bw_8, bw_9, bw_11, bw_12, bw_13, bw_14, bw_16, bw_25, bw_26, bw_27, bw_28, bw_29, bw_30, bw_68, bw_46, bw_47, bw_48, bw_49, bw_50, bw_51, bw_52, bw_53, bw0_0, bw0_1, bw0_2, bw0_3, bw0_4, bw0_5, bw0_6, bw0_7, bw0_10, bw0_11, bs_42, bs_43, bs_44, bs_54, bs_55, bs_56, bs_57, bs_67, bs_69]; rfl))
    · refine ft_tsIn (tgt := 77) dX10_busTold_21 (by omega) (by omega) (by rw [e_21]; rfl) (by decide) ?_
      refine ft_aload_n dX10_busTold_77 rfl ?_
      refine ft_getR fl_X10_57 rfl sh_0 (by decide) pt_0_5 dX10_busTold_78 ?_
      refine ft_getR fl_X10_175 rfl sh_45 (by decide) pt_45_7 dX10_busTold_81 ?_
      refine ft_iload_n dX10_busTold_84 rfl ?_
      refine ft_iald sh_53 (by rw [vp_in_iff]; omega) dX10_busTold_85 ?_
      exact ft_reti dX10_busTold_86 rfl rfl (by
    refine ⟨rfl, ?_, ?_, (by intro c hc; first | rfl | (repeat rw [fc_wI_ne (by omega)]))⟩
    all_goals unfold op_busTold
    all_goals simp only [ax0_0, ax0_1, ax0_2, ax0_3, ax0_4, ax0_5, ax0_6, ax0_7, ax0_8, ax0_9, ax0_10, ax0_11, ax_1, ax_2, ax_3, ax_4, ax_5, ax_6, ax_7, ax_8, ax_9, ax_10, ax_11, ax_12, ax_13, ax_14, ax_15, ax_16, ax_17, ax_18, ax_19, ax_20, ax_21, ax_22, ax_23, ax_24, ax_25, ax_26, ax_27, ax_28]
    all_goals repeat' split
    all_goals first | (exfalso; omega) | rfl | (simp only [bw_2, bw_3, bw_5, bw_6, bw_7, bw_8, bw_9, bw_11, bw_12, bw_13, bw_14, bw_16, bw_25, bw_26, bw_27, bw_28, bw_29, bw_30, bw_68, bw_46, bw_47, bw_48, bw_49, bw_50, bw_51, bw_52, bw_53, bw0_0, bw0_1, bw0_2, bw0_3, bw0_4, bw0_5, bw0_6, bw0_7, bw0_10, bw0_11, bs_42, bs_43, bs_44, bs_54, bs_55, bs_56, bs_57, bs_67, bs_69]; done) | (simp only [bw_2, bw_3, bw_5, bw_6, bw_7, bw_8, bw_9, bw_11, bw_12, bw_13, bw_14, bw_16, bw_25, bw_26, bw_27, bw_28, bw_29, bw_30, bw_68, bw_46, bw_47, bw_48, bw_49, bw_50, bw_51, bw_52, bw_53, bw0_0, bw0_1, bw0_2, bw0_3, bw0_4, bw0_5, bw0_6, bw0_7, bw0_10, bw0_11, bs_42, bs_43, bs_44, bs_54, bs_55, bs_56, bs_57, bs_67, bs_69]; rfl))
  · refine ft_bipush (v := (-2)) dX10_busTold_17 rfl ?_
    exact ft_reti dX10_busTold_19 rfl rfl (by
    refine ⟨rfl, ?_, ?_, (by intro c hc; first | rfl | (repeat rw [fc_wI_ne (by omega)]))⟩
    all_goals unfold op_busTold
    all_goals simp only [ax0_0, ax0_1, ax0_2, ax0_3, ax0_4, ax0_5, ax0_6, ax0_7, ax0_8, ax0_9, ax0_10, ax0_11, ax_1, ax_2, ax_3, ax_4, ax_5, ax_6, ax_7, ax_8, ax_9, ax_10, ax_11, ax_12, ax_13, ax_14, ax_15, ax_16, ax_17, ax_18, ax_19, ax_20, ax_21, ax_22, ax_23, ax_24, ax_25, ax_26, ax_27, ax_28]
    all_goals repeat' split
    all_goals first | (exfalso; omega) | rfl | (simp only [bw_2, bw_3, bw_5, bw_6, bw_7, bw_8, bw_9, bw_11, bw_12, bw_13, bw_14, bw_16, bw_25, bw_26, bw_27, bw_28, bw_29, bw_30, bw_68, bw_46, bw_47, bw_48, bw_49, bw_50, bw_51, bw_52, bw_53, bw0_0, bw0_1, bw0_2, bw0_3, bw0_4, bw0_5, bw0_6, bw0_7, bw0_10, bw0_11, bs_42, bs_43, bs_44, bs_54, bs_55, bs_56, bs_57, bs_67, bs_69]; done) | (simp only [bw_2, bw_3, bw_5, bw_6, bw_7, bw_8, bw_9, bw_11, bw_12, bw_13, bw_14, bw_16, bw_25, bw_26, bw_27, bw_28, bw_29, bw_30, bw_68, bw_46, bw_47, bw_48, bw_49, bw_50, bw_51, bw_52, bw_53, bw0_0, bw0_1, bw0_2, bw0_3, bw0_4, bw0_5, bw0_6, bw0_7, bw0_10, bw0_11, bs_42, bs_43, bs_44, bs_54, bs_55, bs_56, bs_57, bs_67, bs_69]; rfl))
set_option maxHeartbeats 4000000 in
set_option maxRecDepth 100000 in
theorem x_force {d : Nat} {v : Nat} {I : fc_I} (t : Int32) (hw : Wf0 (aX 45 I)) : fc_Ci X10_force (d + 2) [.ref 0, .int t] fc_SH I (fc_PT v) (xQ v I (op_force (aX 45 I) t)) := by
  have km2 : (-2 : Int32).toInt = -2 := rfl
  have k0 : (0 : Int32).toInt = 0 := rfl
  have k1 : (1 : Int32).toInt = 1 := rfl
  have hw0 : (0 ≤ (I 45 9).toInt ∧ (I 45 9).toInt ≤ (I 15 11).toInt ∧ 1 ≤ (I 15 11).toInt ∧ (I 15 11).toInt ≤ 60) ∧ (0 ≤ (I 1 2).toInt ∧ (I 1 2).toInt ≤ 6) ∧ (0 ≤ (I 1 3).toInt ∧ (I 1 3).toInt ≤ 3) ∧ (0 ≤ (I 4 5).toInt ∧ (I 4 5).toInt ≤ 14) ∧ (0 ≤ (I 10 4).toInt ∧ (I 10 4).toInt ≤ 4) ∧ (0 ≤ (I 15 10).toInt ∧ (I 15 10).toInt ≤ 2) ∧ (0 ≤ (I 15 9).toInt ∧ (I 15 9).toInt ≤ 40) ∧ (0 ≤ (I 31 6).toInt ∧ (I 31 6).toInt ≤ 160) ∧ (1 ≤ (I 31 7).toInt ∧ (I 31 7).toInt ≤ 6) ∧ (0 ≤ (I 31 8).toInt ∧ (I 31 8).toInt < (I 31 7).toInt) := hw
  obtain ⟨⟨w1, w2, w3, w4⟩, ⟨w5, w6⟩, ⟨w7, w8⟩, ⟨w9, w10⟩, ⟨w11, w12⟩, ⟨w13, w14⟩, ⟨w15, w16⟩, ⟨w17, w18⟩, ⟨w19, w20⟩, ⟨w21, w22⟩⟩ := hw0
  have e5 : (I 31 7 - 1).toInt = (I 31 7).toInt - 1 := i_sub (by omega) (by omega)
  refine fc_Ci.of ⟨rfl, rfl⟩ (Nat.le_of_ble_eq_true rfl) rfl ?_
  refine ft_iload_n dX10_force_0 rfl ?_
  refine ft_iconst (v := 0) dX10_force_1 rfl ?_
  refine ft_aload_n dX10_force_2 rfl ?_
  refine ft_getR fl_X10_40 rfl sh_0 (by decide) pt_0_4 dX10_force_3 ?_
  refine ft_getI fl_X10_205 rfl sh_31 (by decide) dX10_force_6 ?_
  refine ft_iconst (v := 1) dX10_force_9 rfl ?_
  refine ft_isub dX10_force_10 ?_
  refine ft_S3p cf_X10_86 (c_isOutside _ _ _) (Nat.le_of_ble_eq_true rfl) dX10_force_11 ?_
  refine ft_bz (tgt := 20) dX10_force_14 (by decide) (fun h_14 => ?_) (fun h_14 => ?_)
  · refine ft_aload_n dX10_force_20 rfl ?_
    refine ft_getR fl_X10_40 rfl sh_0 (by decide) pt_0_4 dX10_force_21 ?_
    refine ft_getI fl_X10_206 rfl sh_31 (by decide) dX10_force_24 ?_
    refine ft_istore_n dX10_force_27 (by decide) ?_
    refine ft_aload_n dX10_force_28 rfl ?_
    refine ft_getR fl_X10_40 rfl sh_0 (by decide) pt_0_4 dX10_force_29 ?_
    refine ft_iload_n dX10_force_32 rfl ?_
    refine ft_putI fl_X10_206 rfl (fun q h => by cases h; rfl) sh_31 (by decide) dX10_force_33 ?_
    refine ft_iload_n dX10_force_36 rfl ?_
    exact ft_reti dX10_force_37 rfl rfl (by
    refine ⟨rfl, ?_, ?_, (by intro c hc; first | rfl | (repeat rw [fc_wI_ne (by omega)]))⟩
    all_goals unfold op_force
    all_goals simp only [ax0_0, ax0_1, ax0_2, ax0_3, ax0_4, ax0_5, ax0_6, ax0_7, ax0_8, ax0_9, ax0_10, ax0_11, ax_1, ax_2, ax_3, ax_4, ax_5, ax_6, ax_7, ax_8, ax_9, ax_10, ax_11, ax_12, ax_13, ax_14, ax_15, ax_16, ax_17, ax_18, ax_19, ax_20, ax_21, ax_22, ax_23, ax_24, ax_25, ax_26, ax_27, ax_28]
    all_goals repeat' split
    all_goals first | (exfalso; omega) | rfl | (simp only [bw_2, bw_3, bw_5, bw_6, bw_7, bw_8, bw_9, bw_11, bw_12, bw_13, bw_14, bw_16, bw_25, bw_26, bw_27, bw_28, bw_29, bw_30, bw_68, bw_46, bw_47, bw_48, bw_49, bw_50, bw_51, bw_52, bw_53, bw0_0, bw0_1, bw0_2, bw0_3, bw0_4, bw0_5, bw0_6, bw0_7, bw0_10, bw0_11, bs_42, bs_43, bs_44, bs_54, bs_55, bs_56, bs_57, bs_67, bs_69]; done) | (simp only [bw_2, bw_3, bw_5, bw_6, bw_7, bw_8, bw_9, bw_11, bw_12, bw_13, bw_14, bw_16, bw_25, bw_26, bw_27, bw_28, bw_29, bw_30, bw_68, bw_46, bw_47, bw_48, bw_49, bw_50, bw_51, bw_52, bw_53, bw0_0, bw0_1, bw0_2, bw0_3, bw0_4, bw0_5, bw0_6, bw0_7, bw0_10, bw0_11, bs_42, bs_43, bs_44, bs_54, bs_55, bs_56, bs_57, bs_67, bs_69]; rfl))
  · refine ft_bipush (v := (-2)) dX10_force_17 rfl ?_
    exact ft_reti dX10_force_19 rfl rfl (by
    refine ⟨rfl, ?_, ?_, (by intro c hc; first | rfl | (repeat rw [fc_wI_ne (by omega)]))⟩
    all_goals unfold op_force
    all_goals simp only [ax0_0, ax0_1, ax0_2, ax0_3, ax0_4, ax0_5, ax0_6, ax0_7, ax0_8, ax0_9, ax0_10, ax0_11, ax_1, ax_2, ax_3, ax_4, ax_5, ax_6, ax_7, ax_8, ax_9, ax_10, ax_11, ax_12, ax_13, ax_14, ax_15, ax_16, ax_17, ax_18, ax_19, ax_20, ax_21, ax_22, ax_23, ax_24, ax_25, ax_26, ax_27, ax_28]
    all_goals repeat' split
    all_goals first | (exfalso; omega) | rfl | (simp only [bw_2, bw_3, bw_5, bw_6, bw_7, bw_8, bw_9, bw_11, bw_12, bw_13, bw_14, bw_16, bw_25, bw_26, bw_27, bw_28, bw_29, bw_30, bw_68, bw_46, bw_47, bw_48, bw_49, bw_50, bw_51, bw_52, bw_53, bw0_0, bw0_1, bw0_2, bw0_3, bw0_4, bw0_5, bw0_6, bw0_7, bw0_10, bw0_11, bs_42, bs_43, bs_44, bs_54, bs_55, bs_56, bs_57, bs_67, bs_69]; done) | (simp only [bw_2, bw_3, bw_5, bw_6, bw_7, bw_8, bw_9, bw_11, bw_12, bw_13, bw_14, bw_16, bw_25, bw_26, bw_27, bw_28, bw_29, bw_30, bw_68, bw_46, bw_47, bw_48, bw_49, bw_50, bw_51, bw_52, bw_53, bw0_0, bw0_1, bw0_2, bw0_3, bw0_4, bw0_5, bw0_6, bw0_7, bw0_10, bw0_11, bs_42, bs_43, bs_44, bs_54, bs_55, bs_56, bs_57, bs_67, bs_69]; rfl))
set_option maxHeartbeats 4000000 in
set_option maxRecDepth 100000 in
theorem x_likely {d : Nat} {v : Nat} {I : fc_I} (t i : Int32) (hw : Wf0 (aX 45 I)) (hL : WfL (aX 45 I)) : fc_Ci X10_likely (d + 2) [.ref 0, .int t, .int i] fc_SH I (fc_PT v) (xQ v I (op_likely (aX 45 I) t i)) := by
  have km2 : (-2 : Int32).toInt = -2 := rfl
  have k0 : (0 : Int32).toInt = 0 := rfl
  have k1 : (1 : Int32).toInt = 1 := rfl
  have hw0 : (0 ≤ (I 45 9).toInt ∧ (I 45 9).toInt ≤ (I 15 11).toInt ∧ 1 ≤ (I 15 11).toInt ∧ (I 15 11).toInt ≤ 60) ∧ (0 ≤ (I 1 2).toInt ∧ (I 1 2).toInt ≤ 6) ∧ (0 ≤ (I 1 3).toInt ∧ (I 1 3).toInt ≤ 3) ∧ (0 ≤ (I 4 5).toInt ∧ (I 4 5).toInt ≤ 14) ∧ (0 ≤ (I 10 4).toInt ∧ (I 10 4).toInt ≤ 4) ∧ (0 ≤ (I 15 10).toInt ∧ (I 15 10).toInt ≤ 2) ∧ (0 ≤ (I 15 9).toInt ∧ (I 15 9).toInt ≤ 40) ∧ (0 ≤ (I 31 6).toInt ∧ (I 31 6).toInt ≤ 160) ∧ (1 ≤ (I 31 7).toInt ∧ (I 31 7).toInt ≤ 6) ∧ (0 ≤ (I 31 8).toInt ∧ (I 31 8).toInt < (I 31 7).toInt) := hw
  obtain ⟨⟨w1, w2, w3, w4⟩, ⟨w5, w6⟩, ⟨w7, w8⟩, ⟨w9, w10⟩, ⟨w11, w12⟩, ⟨w13, w14⟩, ⟨w15, w16⟩, ⟨w17, w18⟩, ⟨w19, w20⟩, ⟨w21, w22⟩⟩ := hw0
  have hL0 : ∀ t : Nat, t < 3 → (I 16 t).toInt = 0 ∨ (I 16 t).toInt = 1 := hL
  refine fc_Ci.of ⟨rfl, rfl⟩ (Nat.le_of_ble_eq_true rfl) rfl ?_
  refine ft_iload_n dX10_likely_0 rfl ?_
  refine ft_S1p cf_X10_184 (c_isNoTrack _) (Nat.le_of_ble_eq_true rfl) dX10_likely_1 ?_
  refine ft_bnz (tgt := 16) dX10_likely_4 (by decide) (fun h_4 => ?_) (fun h_4 => ?_)
  · refine ft_bipush (v := (-2)) dX10_likely_16 rfl ?_
    exact ft_reti dX10_likely_18 rfl rfl (by
    have e1 : ∀ x : Int32, x.toInt = 1 → x = 1 := fun x h => Int32.toInt_inj.mp h
    have e0 : ∀ x : Int32, x.toInt = 0 → x = 0 := fun x h => Int32.toInt_inj.mp h
    refine ⟨rfl, ?_, ?_, (by intro c hc; first | rfl | (repeat rw [fc_wI_ne (by omega)]))⟩
    all_goals unfold op_likely
    all_goals simp only [ax0_0, ax0_1, ax0_2, ax0_3, ax0_4, ax0_5, ax0_6, ax0_7, ax0_8, ax0_9, ax0_10, ax0_11, ax_1, ax_2, ax_3, ax_4, ax_5, ax_6, ax_7, ax_8, ax_9, ax_10, ax_11, ax_12, ax_13, ax_14, ax_15, ax_16, ax_17, ax_18, ax_19, ax_20, ax_21, ax_22, ax_23, ax_24, ax_25, ax_26, ax_27, ax_28]
    all_goals repeat' split
    all_goals first | (exfalso; omega) | rfl | (simp only [bw_2, bw_3, bw_5, bw_6, bw_7, bw_8, bw_9, bw_11, bw_12, bw_13, bw_14, bw_16, bw_25, bw_26, bw_27, bw_28, bw_29, bw_30, bw_68, bw_46, bw_47, bw_48, bw_49, bw_50, bw_51, bw_52, bw_53, bw0_0, bw0_1, bw0_2, bw0_3, bw0_4, bw0_5, bw0_6, bw0_7, bw0_10, bw0_11, bs_42, bs_43, bs_44, bs_54, bs_55, bs_56, bs_57, bs_67, bs_69]; done) | exact (e1 _ (by omega)).symm | exact (e0 _ (by omega)).symm | (rw [e1 i (by omega)]; simp only [bw_2, bw_3, bw_5, bw_6, bw_7, bw_8, bw_9, bw_11, bw_12, bw_13, bw_14, bw_16, bw_25, bw_26, bw_27, bw_28, bw_29, bw_30, bw_68, bw_46, bw_47, bw_48, bw_49, bw_50, bw_51, bw_52, bw_53, bw0_0, bw0_1, bw0_2, bw0_3, bw0_4, bw0_5, bw0_6, bw0_7, bw0_10, bw0_11, bs_42, bs_43, bs_44, bs_54, bs_55, bs_56, bs_57, bs_67, bs_69]; done) | (rw [e0 i (by omega)]; simp only [bw_2, bw_3, bw_5, bw_6, bw_7, bw_8, bw_9, bw_11, bw_12, bw_13, bw_14, bw_16, bw_25, bw_26, bw_27, bw_28, bw_29, bw_30, bw_68, bw_46, bw_47, bw_48, bw_49, bw_50, bw_51, bw_52, bw_53, bw0_0, bw0_1, bw0_2, bw0_3, bw0_4, bw0_5, bw0_6, bw0_7, bw0_10, bw0_11, bs_42, bs_43, bs_44, bs_54, bs_55, bs_56, bs_57, bs_67, bs_69]; done))
  · refine ft_iload_n dX10_likely_7 rfl ?_
    refine ft_iconst (v := 0) dX10_likely_8 rfl ?_
    refine ft_iconst (v := 1) dX10_likely_9 rfl ?_
    refine ft_S3p cf_X10_86 (c_isOutside _ _ _) (Nat.le_of_ble_eq_true rfl) dX10_likely_10 ?_
    refine ft_bz (tgt := 19) dX10_likely_13 (by decide) (fun h_13 => ?_) (fun h_13 => ?_)
    · have cr := cn_int (x := t) (by omega)
      have f1 := hL0 (cn t) (by omega)
      refine ft_aload_n dX10_likely_19 rfl ?_
      refine ft_getR fl_X10_33 rfl sh_0 (by decide) pt_0_3 dX10_likely_20 ?_
      refine ft_getR fl_X10_187 rfl sh_15 (by decide) pt_15_0 dX10_likely_23 ?_
      refine ft_iload_n dX10_likely_26 rfl ?_
      refine ft_zald sh_16 (by rw [vp_in_iff]; omega) dX10_likely_27 ?_
      refine fj_if_eq (tgt := 35) dX10_likely_28 (by decide) (fun h_28 => ?_) (fun h_28 => ?_)
      · refine ft_iconst (v := 0) dX10_likely_35 rfl ?_
        refine ft_istore_n dX10_likely_36 (by decide) ?_
        refine ft_aload_n dX10_likely_37 rfl ?_
        refine ft_getR fl_X10_33 rfl sh_0 (by decide) pt_0_3 dX10_likely_38 ?_
        refine ft_getR fl_X10_187 rfl sh_15 (by decide) pt_15_0 dX10_likely_41 ?_
        refine ft_iload_n dX10_likely_44 rfl ?_
        refine ft_iload_n dX10_likely_45 rfl ?_
        refine ft_iconst (v := 1) dX10_likely_46 rfl ?_
        refine fj_icmp_ne (tgt := 54) dX10_likely_47 (by decide) (fun h_47 => ?_) (fun h_47 => ?_)
        · refine ft_iconst (v := 0) dX10_likely_54 rfl ?_
          refine ft_zast sh_16 (by rw [vp_in_iff]; omega) rfl dX10_likely_55 ?_
          refine ft_iload_n dX10_likely_56 rfl ?_
          exact ft_reti dX10_likely_57 rfl rfl (by
    have e1 : ∀ x : Int32, x.toInt = 1 → x = 1 := fun x h => Int32.toInt_inj.mp h
    have e0 : ∀ x : Int32, x.toInt = 0 → x = 0 := fun x h => Int32.toInt_inj.mp h
    refine ⟨rfl, ?_, ?_, (by intro c hc; first | rfl | (repeat rw [fc_wI_ne (by omega)]))⟩
    all_goals unfold op_likely
    all_goals simp only [ax0_0, ax0_1, ax0_2, ax0_3, ax0_4, ax0_5, ax0_6, ax0_7, ax0_8, ax0_9, ax0_10, ax0_11, ax_1, ax_2, ax_3, ax_4, ax_5, ax_6, ax_7, ax_8, ax_9, ax_10, ax_11, ax_12, ax_13, ax_14, ax_15, ax_16, ax_17, ax_18, ax_19, ax_20, ax_21, ax_22, ax_23, ax_24, ax_25, ax_26, ax_27, ax_28]
    all_goals repeat' split
    all_goals first | (exfalso; omega) | rfl | (simp only [bw_2, bw_3, bw_5, bw_6, bw_7, bw_8, bw_9, bw_11, bw_12, bw_13, bw_14, bw_16, bw_25, bw_26, bw_27, bw_28, bw_29, bw_30, bw_68, bw_46, bw_47, bw_48, bw_49, bw_50, bw_51, bw_52, bw_53, bw0_0, bw0_1, bw0_2, bw0_3, bw0_4, bw0_5, bw0_6, bw0_7, bw0_10, bw0_11, bs_42, bs_43, bs_44, bs_54, bs_55, bs_56, bs_57, bs_67, bs_69]; done) | exact (e1 _ (by omega)).symm | exact (e0 _ (by omega)).symm | (rw [e1 i (by omega)]; simp only [bw_2, bw_3, bw_5, bw_6, bw_7, bw_8, bw_9, bw_11, bw_12, bw_13, bw_14, bw_16, bw_25, bw_26, bw_27, bw_28, bw_29, bw_30, bw_68, bw_46, bw_47, bw_48, bw_49, bw_50, bw_51, bw_52, bw_53, bw0_0, bw0_1, bw0_2, bw0_3, bw0_4, bw0_5, bw0_6, bw0_7, bw0_10, bw0_11, bs_42, bs_43, bs_44, bs_54, bs_55, bs_56, bs_57, bs_67, bs_69]; done) | (rw [e0 i (by omega)]; simp only [bw_2, bw_3, bw_5, bw_6, bw_7, bw_8, bw_9, bw_11, bw_12, bw_13, bw_14, bw_16, bw_25, bw_26, bw_27, bw_28, bw_29, bw_30, bw_68, bw_46, bw_47, bw_48, bw_49, bw_50, bw_51, bw_52, bw_53, bw0_0, bw0_1, bw0_2, bw0_3, bw0_4, bw0_5, bw0_6, bw0_7, bw0_10, bw0_11, bs_42, bs_43, bs_44, bs_54, bs_55, bs_56, bs_57, bs_67, bs_69]; done))
        · refine ft_iconst (v := 1) dX10_likely_50 rfl ?_
          refine ft_goto (tgt := 55) dX10_likely_51 (by decide) ?_
          refine ft_zast sh_16 (by rw [vp_in_iff]; omega) rfl dX10_likely_55 ?_
          refine ft_iload_n dX10_likely_56 rfl ?_
          exact ft_reti dX10_likely_57 rfl rfl (by
    have e1 : ∀ x : Int32, x.toInt = 1 → x = 1 := fun x h => Int32.toInt_inj.mp h
    have e0 : ∀ x : Int32, x.toInt = 0 → x = 0 := fun x h => Int32.toInt_inj.mp h
    refine ⟨rfl, ?_, ?_, (by intro c hc; first | rfl | (repeat rw [fc_wI_ne (by omega)]))⟩
    all_goals unfold op_likely
    all_goals simp only [ax0_0, ax0_1, ax0_2, ax0_3, ax0_4, ax0_5, ax0_6, ax0_7, ax0_8, ax0_9, ax0_10, ax0_11, ax_1, ax_2, ax_3, ax_4, ax_5, ax_6, ax_7, ax_8, ax_9, ax_10, ax_11, ax_12, ax_13, ax_14, ax_15, ax_16, ax_17, ax_18, ax_19, ax_20, ax_21, ax_22, ax_23, ax_24, ax_25, ax_26, ax_27, ax_28]
    all_goals repeat' split
    all_goals first | (exfalso; omega) | rfl | (simp only [bw_2, bw_3, bw_5, bw_6, bw_7, bw_8, bw_9, bw_11, bw_12, bw_13, bw_14, bw_16, bw_25, bw_26, bw_27, bw_28, bw_29, bw_30, bw_68, bw_46, bw_47, bw_48, bw_49, bw_50, bw_51, bw_52, bw_53, bw0_0, bw0_1, bw0_2, bw0_3, bw0_4, bw0_5, bw0_6, bw0_7, bw0_10, bw0_11, bs_42, bs_43, bs_44, bs_54, bs_55, bs_56, bs_57, bs_67, bs_69]; done) | exact (e1 _ (by omega)).symm | exact (e0 _ (by omega)).symm | (rw [e1 i (by omega)]; simp only [bw_2, bw_3, bw_5, bw_6, bw_7, bw_8, bw_9, bw_11, bw_12, bw_13, bw_14, bw_16, bw_25, bw_26, bw_27, bw_28, bw_29, bw_30, bw_68, bw_46, bw_47, bw_48, bw_49, bw_50, bw_51, bw_52, bw_53, bw0_0, bw0_1, bw0_2, bw0_3, bw0_4, bw0_5, bw0_6, bw0_7, bw0_10, bw0_11, bs_42, bs_43, bs_44, bs_54, bs_55, bs_56, bs_57, bs_67, bs_69]; done) | (rw [e0 i (by omega)]; simp only [bw_2, bw_3, bw_5, bw_6, bw_7, bw_8, bw_9, bw_11, bw_12, bw_13, bw_14, bw_16, bw_25, bw_26, bw_27, bw_28, bw_29, bw_30, bw_68, bw_46, bw_47, bw_48, bw_49, bw_50, bw_51, bw_52, bw_53, bw0_0, bw0_1, bw0_2, bw0_3, bw0_4, bw0_5, bw0_6, bw0_7, bw0_10, bw0_11, bs_42, bs_43, bs_44, bs_54, bs_55, bs_56, bs_57, bs_67, bs_69]; done))
      · refine ft_iconst (v := 1) dX10_likely_31 rfl ?_
        refine ft_goto (tgt := 36) dX10_likely_32 (by decide) ?_
        refine ft_istore_n dX10_likely_36 (by decide) ?_
        refine ft_aload_n dX10_likely_37 rfl ?_
        refine ft_getR fl_X10_33 rfl sh_0 (by decide) pt_0_3 dX10_likely_38 ?_
        refine ft_getR fl_X10_187 rfl sh_15 (by decide) pt_15_0 dX10_likely_41 ?_
        refine ft_iload_n dX10_likely_44 rfl ?_
        refine ft_iload_n dX10_likely_45 rfl ?_
        refine ft_iconst (v := 1) dX10_likely_46 rfl ?_
        refine fj_icmp_ne (tgt := 54) dX10_likely_47 (by decide) (fun h_47 => ?_) (fun h_47 => ?_)
        · refine ft_iconst (v := 0) dX10_likely_54 rfl ?_
          refine ft_zast sh_16 (by rw [vp_in_iff]; omega) rfl dX10_likely_55 ?_
          refine ft_iload_n dX10_likely_56 rfl ?_
          exact ft_reti dX10_likely_57 rfl rfl (by
    have e1 : ∀ x : Int32, x.toInt = 1 → x = 1 := fun x h => Int32.toInt_inj.mp h
    have e0 : ∀ x : Int32, x.toInt = 0 → x = 0 := fun x h => Int32.toInt_inj.mp h
    refine ⟨rfl, ?_, ?_, (by intro c hc; first | rfl | (repeat rw [fc_wI_ne (by omega)]))⟩
    all_goals unfold op_likely
    all_goals simp only [ax0_0, ax0_1, ax0_2, ax0_3, ax0_4, ax0_5, ax0_6, ax0_7, ax0_8, ax0_9, ax0_10, ax0_11, ax_1, ax_2, ax_3, ax_4, ax_5, ax_6, ax_7, ax_8, ax_9, ax_10, ax_11, ax_12, ax_13, ax_14, ax_15, ax_16, ax_17, ax_18, ax_19, ax_20, ax_21, ax_22, ax_23, ax_24, ax_25, ax_26, ax_27, ax_28]
    all_goals repeat' split
    all_goals first | (exfalso; omega) | rfl | (simp only [bw_2, bw_3, bw_5, bw_6, bw_7, bw_8, bw_9, bw_11, bw_12, bw_13, bw_14, bw_16, bw_25, bw_26, bw_27, bw_28, bw_29, bw_30, bw_68, bw_46, bw_47, bw_48, bw_49, bw_50, bw_51, bw_52, bw_53, bw0_0, bw0_1, bw0_2, bw0_3, bw0_4, bw0_5, bw0_6, bw0_7, bw0_10, bw0_11, bs_42, bs_43, bs_44, bs_54, bs_55, bs_56, bs_57, bs_67, bs_69]; done) | exact (e1 _ (by omega)).symm | exact (e0 _ (by omega)).symm | (rw [e1 i (by omega)]; simp only [bw_2, bw_3, bw_5, bw_6, bw_7, bw_8, bw_9, bw_11, bw_12, bw_13, bw_14, bw_16, bw_25, bw_26, bw_27, bw_28, bw_29, bw_30, bw_68, bw_46, bw_47, bw_48, bw_49, bw_50, bw_51, bw_52, bw_53, bw0_0, bw0_1, bw0_2, bw0_3, bw0_4, bw0_5, bw0_6, bw0_7, bw0_10, bw0_11, bs_42, bs_43, bs_44, bs_54, bs_55, bs_56, bs_57, bs_67, bs_69]; done) | (rw [e0 i (by omega)]; simp only [bw_2, bw_3, bw_5, bw_6, bw_7, bw_8, bw_9, bw_11, bw_12, bw_13, bw_14, bw_16, bw_25, bw_26, bw_27, bw_28, bw_29, bw_30, bw_68, bw_46, bw_47, bw_48, bw_49, bw_50, bw_51, bw_52, bw_53, bw0_0, bw0_1, bw0_2, bw0_3, bw0_4, bw0_5, bw0_6, bw0_7, bw0_10, bw0_11, bs_42, bs_43, bs_44, bs_54, bs_55, bs_56, bs_57, bs_67, bs_69]; done))
        · refine ft_iconst (v := 1) dX10_likely_50 rfl ?_
          refine ft_goto (tgt := 55) dX10_likely_51 (by decide) ?_
          refine ft_zast sh_16 (by rw [vp_in_iff]; omega) rfl dX10_likely_55 ?_
          refine ft_iload_n dX10_likely_56 rfl ?_
          exact ft_reti dX10_likely_57 rfl rfl (by
    have e1 : ∀ x : Int32, x.toInt = 1 → x = 1 := fun x h => Int32.toInt_inj.mp h
    have e0 : ∀ x : Int32, x.toInt = 0 → x = 0 := fun x h => Int32.toInt_inj.mp h
    refine ⟨rfl, ?_, ?_, (by intro c hc; first | rfl | (repeat rw [fc_wI_ne (by omega)]))⟩
    all_goals unfold op_likely
    all_goals simp only [ax0_0, ax0_1, ax0_2, ax0_3, ax0_4, ax0_5, ax0_6, ax0_7, ax0_8, ax0_9, ax0_10, ax0_11, ax_1, ax_2, ax_3, ax_4, ax_5, ax_6, ax_7, ax_8, ax_9, ax_10, ax_11, ax_12, ax_13, ax_14, ax_15, ax_16, ax_17, ax_18, ax_19, ax_20, ax_21, ax_22, ax_23, ax_24, ax_25, ax_26, ax_27, ax_28]
    all_goals repeat' split
    all_goals first | (exfalso; omega) | rfl | (simp only [bw_2, bw_3, bw_5, bw_6, bw_7, bw_8, bw_9, bw_11, bw_12, bw_13, bw_14, bw_16, bw_25, bw_26, bw_27, bw_28, bw_29, bw_30, bw_68, bw_46, bw_47, bw_48, bw_49, bw_50, bw_51, bw_52, bw_53, bw0_0, bw0_1, bw0_2, bw0_3, bw0_4, bw0_5, bw0_6, bw0_7, bw0_10, bw0_11, bs_42, bs_43, bs_44, bs_54, bs_55, bs_56, bs_57, bs_67, bs_69]; done) | exact (e1 _ (by omega)).symm | exact (e0 _ (by omega)).symm | (rw [e1 i (by omega)]; simp only [bw_2, bw_3, bw_5, bw_6, bw_7, bw_8, bw_9, bw_11, bw_12, bw_13, bw_14, bw_16, bw_25, bw_26, bw_27, bw_28, bw_29, bw_30, bw_68, bw_46, bw_47, bw_48, bw_49, bw_50, bw_51, bw_52, bw_53, bw0_0, bw0_1, bw0_2, bw0_3, bw0_4, bw0_5, bw0_6, bw0_7, bw0_10, bw0_11, bs_42, bs_43, bs_44, bs_54, bs_55, bs_56, bs_57, bs_67, bs_69]; done) | (rw [e0 i (by omega)]; simp only [bw_2, bw_3, bw_5, bw_6, bw_7, bw_8, bw_9, bw_11, bw_12, bw_13, bw_14, bw_16, bw_25, bw_26, bw_27, bw_28, bw_29, bw_30, bw_68, bw_46, bw_47, bw_48, bw_49, bw_50, bw_51, bw_52, bw_53, bw0_0, bw0_1, bw0_2, bw0_3, bw0_4, bw0_5, bw0_6, bw0_7, bw0_10, bw0_11, bs_42, bs_43, bs_44, bs_54, bs_55, bs_56, bs_57, bs_67, bs_69]; done))
    · refine ft_bipush (v := (-2)) dX10_likely_16 rfl ?_
      exact ft_reti dX10_likely_18 rfl rfl (by
    have e1 : ∀ x : Int32, x.toInt = 1 → x = 1 := fun x h => Int32.toInt_inj.mp h
    have e0 : ∀ x : Int32, x.toInt = 0 → x = 0 := fun x h => Int32.toInt_inj.mp h
    refine ⟨rfl, ?_, ?_, (by intro c hc; first | rfl | (repeat rw [fc_wI_ne (by omega)]))⟩
    all_goals unfold op_likely
    all_goals simp only [ax0_0, ax0_1, ax0_2, ax0_3, ax0_4, ax0_5, ax0_6, ax0_7, ax0_8, ax0_9, ax0_10, ax0_11, ax_1, ax_2, ax_3, ax_4, ax_5, ax_6, ax_7, ax_8, ax_9, ax_10, ax_11, ax_12, ax_13, ax_14, ax_15, ax_16, ax_17, ax_18, ax_19, ax_20, ax_21, ax_22, ax_23, ax_24, ax_25, ax_26, ax_27, ax_28]
    all_goals repeat' split
    all_goals first | (exfalso; omega) | rfl | (simp only [bw_2, bw_3, bw_5, bw_6, bw_7, bw_8, bw_9, bw_11, bw_12, bw_13, bw_14, bw_16, bw_25, bw_26, bw_27, bw_28, bw_29, bw_30, bw_68, bw_46, bw_47, bw_48, bw_49, bw_50, bw_51, bw_52, bw_53, bw0_0, bw0_1, bw0_2, bw0_3, bw0_4, bw0_5, bw0_6, bw0_7, bw0_10, bw0_11, bs_42, bs_43, bs_44, bs_54, bs_55, bs_56, bs_57, bs_67, bs_69]; done) | exact (e1 _ (by omega)).symm | exact (e0 _ (by omega)).symm | (rw [e1 i (by omega)]; simp only [bw_2, bw_3, bw_5, bw_6, bw_7, bw_8, bw_9, bw_11, bw_12, bw_13, bw_14, bw_16, bw_25, bw_26, bw_27, bw_28, bw_29, bw_30, bw_68, bw_46, bw_47, bw_48, bw_49, bw_50, bw_51, bw_52, bw_53, bw0_0, bw0_1, bw0_2, bw0_3, bw0_4, bw0_5, bw0_6, bw0_7, bw0_10, bw0_11, bs_42, bs_43, bs_44, bs_54, bs_55, bs_56, bs_57, bs_67, bs_69]; done) | (rw [e0 i (by omega)]; simp only [bw_2, bw_3, bw_5, bw_6, bw_7, bw_8, bw_9, bw_11, bw_12, bw_13, bw_14, bw_16, bw_25, bw_26, bw_27, bw_28, bw_29, bw_30, bw_68, bw_46, bw_47, bw_48, bw_49, bw_50, bw_51, bw_52, bw_53, bw0_0, bw0_1, bw0_2, bw0_3, bw0_4, bw0_5, bw0_6, bw0_7, bw0_10, bw0_11, bs_42, bs_43, bs_44, bs_54, bs_55, bs_56, bs_57, bs_67, bs_69]; done))
