/-- outside -/
abbrev ou (a b c : Int32) : Prop := a.toInt < b.toInt ∨ c.toInt < a.toInt

set_option maxHeartbeats 4000000 in
set_option maxRecDepth 100000 in
theorem c_isOutside {d : Nat} {sh : fc_Sh} {P : fc_P} {I : fc_I} (a b c : Int32) : fc_Cp X10_isOutside d [.int a, .int b, .int c] sh I P (if ou a b c then 1 else 0) := by
  refine fc_Cp.of ⟨rfl, rfl⟩ (Nat.le_of_ble_eq_true rfl) rfl ?_
  refine ft_iload_n dX10_isOutside_0 rfl ?_
  refine ft_iload_n dX10_isOutside_1 rfl ?_
  refine ft_icmp_lt (tgt := 10) dX10_isOutside_2 (by decide) (fun h_2 => ?_) (fun h_2 => ?_)
  · refine ft_iconst (v := 1) dX10_isOutside_10 rfl ?_
    refine ft_goto (tgt := 15) dX10_isOutside_11 (by decide) ?_
    exact ft_reti dX10_isOutside_15 rfl rfl (by refine ⟨?_, rfl, rfl⟩; simp only [Int32.lt_iff_toInt_lt, Int32.le_iff_toInt_le, ou] at *; split <;> first | rfl | omega)
  · refine ft_iload_n dX10_isOutside_5 rfl ?_
    refine ft_iload_n dX10_isOutside_6 rfl ?_
    refine ft_icmp_le (tgt := 14) dX10_isOutside_7 (by decide) (fun h_7 => ?_) (fun h_7 => ?_)
    · refine ft_iconst (v := 0) dX10_isOutside_14 rfl ?_
      exact ft_reti dX10_isOutside_15 rfl rfl (by refine ⟨?_, rfl, rfl⟩; simp only [Int32.lt_iff_toInt_lt, Int32.le_iff_toInt_le, ou] at *; split <;> first | rfl | omega)
    · refine ft_iconst (v := 1) dX10_isOutside_10 rfl ?_
      refine ft_goto (tgt := 15) dX10_isOutside_11 (by decide) ?_
      exact ft_reti dX10_isOutside_15 rfl rfl (by refine ⟨?_, rfl, rfl⟩; simp only [Int32.lt_iff_toInt_lt, Int32.le_iff_toInt_le, ou] at *; split <;> first | rfl | omega)
set_option maxHeartbeats 4000000 in
set_option maxRecDepth 100000 in
theorem c_isNoTrack {d : Nat} {sh : fc_Sh} {P : fc_P} {I : fc_I} (t : Int32) : fc_Cp X10_isNoTrack (d + 1) [.int t] sh I P (if ou t 0 2 then 1 else 0) := by
  refine fc_Cp.of ⟨rfl, rfl⟩ (Nat.le_of_ble_eq_true rfl) rfl ?_
  refine ft_iload_n dX10_isNoTrack_0 rfl ?_
  refine ft_iconst (v := 0) dX10_isNoTrack_1 rfl ?_
  refine ft_iconst (v := 2) dX10_isNoTrack_2 rfl ?_
  refine ft_S3p cf_X10_86 (c_isOutside _ _ _) (Nat.le_of_ble_eq_true rfl) dX10_isNoTrack_3 ?_
  exact ft_reti dX10_isNoTrack_6 rfl fc_nb ⟨rfl, rfl, rfl⟩
set_option maxHeartbeats 4000000 in
set_option maxRecDepth 100000 in
theorem c_isNoSheet {d : Nat} {sh : fc_Sh} {P : fc_P} {I : fc_I} (t : Int32) : fc_Cp X10_isNoSheet (d + 1) [.int t] sh I P (if ou t 0 3 then 1 else 0) := by
  refine fc_Cp.of ⟨rfl, rfl⟩ (Nat.le_of_ble_eq_true rfl) rfl ?_
  refine ft_iload_n dX10_isNoSheet_0 rfl ?_
  refine ft_iconst (v := 0) dX10_isNoSheet_1 rfl ?_
  refine ft_iconst (v := 3) dX10_isNoSheet_2 rfl ?_
  refine ft_S3p cf_X10_86 (c_isOutside _ _ _) (Nat.le_of_ble_eq_true rfl) dX10_isNoSheet_3 ?_
  exact ft_reti dX10_isNoSheet_6 rfl fc_nb ⟨rfl, rfl, rfl⟩
set_option maxHeartbeats 4000000 in
set_option maxRecDepth 100000 in
theorem c_isNoZone {d : Nat} {v : Nat} {I : fc_I} (t : Int32) : fc_Cp X10_isNoZone (d + 1) [.ref 0, .int t] fc_SH I (fc_PT v) (if ou t 0 (I 1 2 - 1) then 1 else 0) := by
  refine fc_Cp.of ⟨rfl, rfl⟩ (Nat.le_of_ble_eq_true rfl) rfl ?_
  refine ft_iload_n dX10_isNoZone_0 rfl ?_
  refine ft_iconst (v := 0) dX10_isNoZone_1 rfl ?_
  refine ft_aload_n dX10_isNoZone_2 rfl ?_
  refine ft_getR fl_X10_10 rfl sh_0 (by decide) pt_0_0 dX10_isNoZone_3 ?_
  refine ft_getI fl_X10_95 rfl sh_1 (by decide) dX10_isNoZone_6 ?_
  refine ft_iconst (v := 1) dX10_isNoZone_9 rfl ?_
  refine ft_isub dX10_isNoZone_10 ?_
  refine ft_S3p cf_X10_86 (c_isOutside _ _ _) (Nat.le_of_ble_eq_true rfl) dX10_isNoZone_11 ?_
  exact ft_reti dX10_isNoZone_14 rfl fc_nb ⟨rfl, rfl, rfl⟩
set_option maxHeartbeats 4000000 in
set_option maxRecDepth 100000 in
theorem c_isNoShelter {d : Nat} {v : Nat} {I : fc_I} (t : Int32) : fc_Cp X10_isNoShelter (d + 1) [.ref 0, .int t] fc_SH I (fc_PT v) (if ou t 0 (I 1 3 - 1) then 1 else 0) := by
  refine fc_Cp.of ⟨rfl, rfl⟩ (Nat.le_of_ble_eq_true rfl) rfl ?_
  refine ft_iload_n dX10_isNoShelter_0 rfl ?_
  refine ft_iconst (v := 0) dX10_isNoShelter_1 rfl ?_
  refine ft_aload_n dX10_isNoShelter_2 rfl ?_
  refine ft_getR fl_X10_10 rfl sh_0 (by decide) pt_0_0 dX10_isNoShelter_3 ?_
  refine ft_getI fl_X10_108 rfl sh_1 (by decide) dX10_isNoShelter_6 ?_
  refine ft_iconst (v := 1) dX10_isNoShelter_9 rfl ?_
  refine ft_isub dX10_isNoShelter_10 ?_
  refine ft_S3p cf_X10_86 (c_isOutside _ _ _) (Nat.le_of_ble_eq_true rfl) dX10_isNoShelter_11 ?_
  exact ft_reti dX10_isNoShelter_14 rfl fc_nb ⟨rfl, rfl, rfl⟩
set_option maxHeartbeats 4000000 in
set_option maxRecDepth 100000 in
theorem c_isNoRoad {d : Nat} {v : Nat} {I : fc_I} (t : Int32) : fc_Cp X10_isNoRoad (d + 1) [.ref 0, .int t] fc_SH I (fc_PT v) (if ou t 0 (I 4 5 - 1) then 1 else 0) := by
  refine fc_Cp.of ⟨rfl, rfl⟩ (Nat.le_of_ble_eq_true rfl) rfl ?_
  refine ft_iload_n dX10_isNoRoad_0 rfl ?_
  refine ft_iconst (v := 0) dX10_isNoRoad_1 rfl ?_
  refine ft_aload_n dX10_isNoRoad_2 rfl ?_
  refine ft_getR fl_X10_19 rfl sh_0 (by decide) pt_0_1 dX10_isNoRoad_3 ?_
  refine ft_getI fl_X10_121 rfl sh_4 (by decide) dX10_isNoRoad_6 ?_
  refine ft_iconst (v := 1) dX10_isNoRoad_9 rfl ?_
  refine ft_isub dX10_isNoRoad_10 ?_
  refine ft_S3p cf_X10_86 (c_isOutside _ _ _) (Nat.le_of_ble_eq_true rfl) dX10_isNoRoad_11 ?_
  exact ft_reti dX10_isNoRoad_14 rfl fc_nb ⟨rfl, rfl, rfl⟩
set_option maxHeartbeats 4000000 in
set_option maxRecDepth 100000 in
theorem c_isNoGoal {d : Nat} {v : Nat} {I : fc_I} (t : Int32) : fc_Cp X10_isNoGoal (d + 2) [.ref 0, .int t] fc_SH I (fc_PT v) (if ou t 0 (I 1 2 - 1) ∧ ou t 10 (10 + I 1 3 - 1) ∧ ¬ t = 20 then 1 else 0) := by
  refine fc_Cp.of ⟨rfl, rfl⟩ (Nat.le_of_ble_eq_true rfl) rfl ?_
  refine ft_aload_n dX10_isNoGoal_0 rfl ?_
  refine ft_iload_n dX10_isNoGoal_1 rfl ?_
  refine ft_V1p cf_X10_114 sh_0 (c_isNoZone _) (Nat.le_of_ble_eq_true rfl) dX10_isNoGoal_2 ?_
  refine ft_bz (tgt := 39) dX10_isNoGoal_5 (by decide) (fun h_5 => ?_) (fun h_5 => ?_)
  · refine ft_iconst (v := 0) dX10_isNoGoal_39 rfl ?_
    exact ft_reti dX10_isNoGoal_40 rfl rfl (by refine ⟨?_, rfl, rfl⟩; simp only [*, true_and, and_true, and_false, false_and, not_true_eq_false, not_false_eq_true, if_true, if_false, and_self])
  · refine ft_iload_n dX10_isNoGoal_8 rfl ?_
    refine ft_bipush (v := 10) dX10_isNoGoal_9 rfl ?_
    refine ft_bipush (v := 10) dX10_isNoGoal_11 rfl ?_
    refine ft_aload_n dX10_isNoGoal_13 rfl ?_
    refine ft_getR fl_X10_10 rfl sh_0 (by decide) pt_0_0 dX10_isNoGoal_14 ?_
    refine ft_getI fl_X10_108 rfl sh_1 (by decide) dX10_isNoGoal_17 ?_
    refine ft_iadd dX10_isNoGoal_20 ?_
    refine ft_iconst (v := 1) dX10_isNoGoal_21 rfl ?_
    refine ft_isub dX10_isNoGoal_22 ?_
    refine ft_S3p cf_X10_86 (c_isOutside _ _ _) (Nat.le_of_ble_eq_true rfl) dX10_isNoGoal_23 ?_
    refine ft_bz (tgt := 39) dX10_isNoGoal_26 (by decide) (fun h_26 => ?_) (fun h_26 => ?_)
    · refine ft_iconst (v := 0) dX10_isNoGoal_39 rfl ?_
      exact ft_reti dX10_isNoGoal_40 rfl rfl (by refine ⟨?_, rfl, rfl⟩; simp only [*, true_and, and_true, and_false, false_and, not_true_eq_false, not_false_eq_true, if_true, if_false, and_self])
    · refine ft_iload_n dX10_isNoGoal_29 rfl ?_
      refine ft_bipush (v := 20) dX10_isNoGoal_30 rfl ?_
      refine ft_icmp_eq (tgt := 39) dX10_isNoGoal_32 (by decide) (fun h_32 => ?_) (fun h_32 => ?_)
      · refine ft_iconst (v := 0) dX10_isNoGoal_39 rfl ?_
        exact ft_reti dX10_isNoGoal_40 rfl rfl (by refine ⟨?_, rfl, rfl⟩; simp only [*, true_and, and_true, and_false, false_and, not_true_eq_false, not_false_eq_true, if_true, if_false, and_self])
      · refine ft_iconst (v := 1) dX10_isNoGoal_35 rfl ?_
        refine ft_goto (tgt := 40) dX10_isNoGoal_36 (by decide) ?_
        exact ft_reti dX10_isNoGoal_40 rfl rfl (by refine ⟨?_, rfl, rfl⟩; simp only [*, true_and, and_true, and_false, false_and, not_true_eq_false, not_false_eq_true, if_true, if_false, and_self])
