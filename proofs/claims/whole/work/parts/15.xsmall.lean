theorem bw_2 {j : Nat} {x : Int32} {I : fc_I} : aX 45 (fc_wI I 2 j x) = fc_wI (aX 45 I) 1 j x := aw_2 (Or.inl rfl)
theorem bw_3 {j : Nat} {x : Int32} {I : fc_I} : aX 45 (fc_wI I 3 j x) = fc_wI (aX 45 I) 6 j x := aw_3 (Or.inl rfl)
theorem bw_5 {j : Nat} {x : Int32} {I : fc_I} : aX 45 (fc_wI I 5 j x) = fc_wI (aX 45 I) 9 j x := aw_5 (Or.inl rfl)
theorem bw_6 {j : Nat} {x : Int32} {I : fc_I} : aX 45 (fc_wI I 6 j x) = fc_wI (aX 45 I) 10 j x := aw_6 (Or.inl rfl)
theorem bw_7 {j : Nat} {x : Int32} {I : fc_I} : aX 45 (fc_wI I 7 j x) = fc_wI (aX 45 I) 11 j x := aw_7 (Or.inl rfl)
theorem bw_8 {j : Nat} {x : Int32} {I : fc_I} : aX 45 (fc_wI I 8 j x) = fc_wI (aX 45 I) 12 j x := aw_8 (Or.inl rfl)
theorem bw_9 {j : Nat} {x : Int32} {I : fc_I} : aX 45 (fc_wI I 9 j x) = fc_wI (aX 45 I) 13 j x := aw_9 (Or.inl rfl)
theorem bw_11 {j : Nat} {x : Int32} {I : fc_I} : aX 45 (fc_wI I 11 j x) = fc_wI (aX 45 I) 14 j x := aw_11 (Or.inl rfl)
theorem bw_12 {j : Nat} {x : Int32} {I : fc_I} : aX 45 (fc_wI I 12 j x) = fc_wI (aX 45 I) 15 j x := aw_12 (Or.inl rfl)
theorem bw_13 {j : Nat} {x : Int32} {I : fc_I} : aX 45 (fc_wI I 13 j x) = fc_wI (aX 45 I) 16 j x := aw_13 (Or.inl rfl)
theorem bw_14 {j : Nat} {x : Int32} {I : fc_I} : aX 45 (fc_wI I 14 j x) = fc_wI (aX 45 I) 17 j x := aw_14 (Or.inl rfl)
theorem bw_16 {j : Nat} {x : Int32} {I : fc_I} : aX 45 (fc_wI I 16 j x) = fc_wI (aX 45 I) 20 j x := aw_16 (Or.inl rfl)
theorem bw_25 {j : Nat} {x : Int32} {I : fc_I} : aX 45 (fc_wI I 25 j x) = fc_wI (aX 45 I) 21 j x := aw_25 (Or.inl rfl)
theorem bw_26 {j : Nat} {x : Int32} {I : fc_I} : aX 45 (fc_wI I 26 j x) = fc_wI (aX 45 I) 22 j x := aw_26 (Or.inl rfl)
theorem bw_27 {j : Nat} {x : Int32} {I : fc_I} : aX 45 (fc_wI I 27 j x) = fc_wI (aX 45 I) 23 j x := aw_27 (Or.inl rfl)
theorem bw_28 {j : Nat} {x : Int32} {I : fc_I} : aX 45 (fc_wI I 28 j x) = fc_wI (aX 45 I) 24 j x := aw_28 (Or.inl rfl)
theorem bw_29 {j : Nat} {x : Int32} {I : fc_I} : aX 45 (fc_wI I 29 j x) = fc_wI (aX 45 I) 25 j x := aw_29 (Or.inl rfl)
theorem bw_30 {j : Nat} {x : Int32} {I : fc_I} : aX 45 (fc_wI I 30 j x) = fc_wI (aX 45 I) 26 j x := aw_30 (Or.inl rfl)
theorem bw_68 {j : Nat} {x : Int32} {I : fc_I} : aX 45 (fc_wI I 68 j x) = fc_wI (aX 45 I) 27 j x := aw_68 (Or.inl rfl)
theorem bw_46 {j : Nat} {x : Int32} {I : fc_I} : aX 45 (fc_wI I 46 j x) = fc_wI (aX 45 I) 2 j x := awf_1 (Or.inl rfl)
theorem bw_47 {j : Nat} {x : Int32} {I : fc_I} : aX 45 (fc_wI I 47 j x) = fc_wI (aX 45 I) 3 j x := awf_2 (Or.inl rfl)
theorem bw_48 {j : Nat} {x : Int32} {I : fc_I} : aX 45 (fc_wI I 48 j x) = fc_wI (aX 45 I) 4 j x := awf_3 (Or.inl rfl)
theorem bw_49 {j : Nat} {x : Int32} {I : fc_I} : aX 45 (fc_wI I 49 j x) = fc_wI (aX 45 I) 5 j x := awf_4 (Or.inl rfl)
theorem bw_50 {j : Nat} {x : Int32} {I : fc_I} : aX 45 (fc_wI I 50 j x) = fc_wI (aX 45 I) 7 j x := awf_5 (Or.inl rfl)
theorem bw_51 {j : Nat} {x : Int32} {I : fc_I} : aX 45 (fc_wI I 51 j x) = fc_wI (aX 45 I) 8 j x := awf_6 (Or.inl rfl)
theorem bw_53 {j : Nat} {x : Int32} {I : fc_I} : aX 45 (fc_wI I 53 j x) = fc_wI (aX 45 I) 18 j x := awf_8 (Or.inl rfl)
theorem bw_52 {j : Nat} {x : Int32} {I : fc_I} : aX 45 (fc_wI I 52 j x) = fc_wI (aX 45 I) 19 j x := awf_7 (Or.inl rfl)
theorem bw0_2 {x : Int32} {I : fc_I} : aX 45 (fc_wI I 1 2 x) = fc_wI (aX 45 I) 0 2 x := aw0_2 (Or.inl rfl)
theorem bw0_3 {x : Int32} {I : fc_I} : aX 45 (fc_wI I 1 3 x) = fc_wI (aX 45 I) 0 3 x := aw0_3 (Or.inl rfl)
theorem bw0_4 {x : Int32} {I : fc_I} : aX 45 (fc_wI I 4 5 x) = fc_wI (aX 45 I) 0 4 x := aw0_4 (Or.inl rfl)
theorem bw0_5 {x : Int32} {I : fc_I} : aX 45 (fc_wI I 10 4 x) = fc_wI (aX 45 I) 0 5 x := aw0_5 (Or.inl rfl)
theorem bw0_7 {x : Int32} {I : fc_I} : aX 45 (fc_wI I 15 9 x) = fc_wI (aX 45 I) 0 7 x := aw0_7 (Or.inl rfl)
theorem bw0_6 {x : Int32} {I : fc_I} : aX 45 (fc_wI I 15 10 x) = fc_wI (aX 45 I) 0 6 x := aw0_6 (Or.inl rfl)
theorem bw0_1 {x : Int32} {I : fc_I} : aX 45 (fc_wI I 15 11 x) = fc_wI (aX 45 I) 0 1 x := aw0_1 (Or.inl rfl)
theorem bw0_10 {x : Int32} {I : fc_I} : aX 45 (fc_wI I 31 8 x) = fc_wI (aX 45 I) 0 10 x := aw0_10 (Or.inl rfl)
theorem bw0_11 {x : Int32} {I : fc_I} : aX 45 (fc_wI I 45 8 x) = fc_wI (aX 45 I) 0 11 x := aw0_11 (Or.inl rfl)
theorem bw0_0 {x : Int32} {I : fc_I} : aX 45 (fc_wI I 45 9 x) = fc_wI (aX 45 I) 0 0 x := aw0_0 (Or.inl rfl)
theorem bs_42 {j : Nat} {x : Int32} {I : fc_I} : aX 45 (fc_wI I 42 j x) = aX 45 I := as_42 (Or.inl rfl)
theorem bs_43 {j : Nat} {x : Int32} {I : fc_I} : aX 45 (fc_wI I 43 j x) = aX 45 I := as_43 (Or.inl rfl)
theorem bs_44 {j : Nat} {x : Int32} {I : fc_I} : aX 45 (fc_wI I 44 j x) = aX 45 I := as_44 (Or.inl rfl)
theorem bs_54 {j : Nat} {x : Int32} {I : fc_I} : aX 45 (fc_wI I 54 j x) = aX 45 I := as_54 (Or.inl rfl)
theorem bs_55 {j : Nat} {x : Int32} {I : fc_I} : aX 45 (fc_wI I 55 j x) = aX 45 I := as_55 (Or.inl rfl)
theorem bs_56 {j : Nat} {x : Int32} {I : fc_I} : aX 45 (fc_wI I 56 j x) = aX 45 I := as_56 (Or.inl rfl)
theorem bs_57 {j : Nat} {x : Int32} {I : fc_I} : aX 45 (fc_wI I 57 j x) = aX 45 I := as_57 (Or.inl rfl)
theorem bs_67 {j : Nat} {x : Int32} {I : fc_I} : aX 45 (fc_wI I 67 j x) = aX 45 I := as_67 (Or.inl rfl)
theorem bs_69 {j : Nat} {x : Int32} {I : fc_I} : aX 45 (fc_wI I 69 j x) = aX 45 I := as_69 (Or.inl rfl)
set_option maxHeartbeats 4000000 in
set_option maxRecDepth 100000 in
theorem c_isOutside {d : Nat} {sh : fc_Sh} {P : fc_P} {I : fc_I} (a b c : Int32) : fc_Cp X10_isOutside d [.int a, .int b, .int c] sh I P (if a.toInt < b.toInt ∨ c.toInt < a.toInt then 1 else 0) := by
  have k0 : (0 : Int32).toInt = 0 := rfl
  have k1 : (1 : Int32).toInt = 1 := rfl
  refine fc_Cp.of ⟨rfl, rfl⟩ (Nat.le_of_ble_eq_true rfl) rfl ?_
  refine ft_iload_n dX10_isOutside_0 rfl ?_
  refine ft_iload_n dX10_isOutside_1 rfl ?_
  refine fj_icmp_lt (tgt := 10) dX10_isOutside_2 (by decide) (fun h_2 => ?_) (fun h_2 => ?_)
  · refine ft_iconst (v := 1) dX10_isOutside_10 rfl ?_
    refine ft_goto (tgt := 15) dX10_isOutside_11 (by decide) ?_
    exact ft_reti dX10_isOutside_15 rfl rfl (by refine ⟨?_, rfl, rfl⟩; split <;> first | rfl | omega)
  · refine ft_iload_n dX10_isOutside_5 rfl ?_
    refine ft_iload_n dX10_isOutside_6 rfl ?_
    refine fj_icmp_le (tgt := 14) dX10_isOutside_7 (by decide) (fun h_7 => ?_) (fun h_7 => ?_)
    · refine ft_iconst (v := 0) dX10_isOutside_14 rfl ?_
      exact ft_reti dX10_isOutside_15 rfl rfl (by refine ⟨?_, rfl, rfl⟩; split <;> first | rfl | omega)
    · refine ft_iconst (v := 1) dX10_isOutside_10 rfl ?_
      refine ft_goto (tgt := 15) dX10_isOutside_11 (by decide) ?_
      exact ft_reti dX10_isOutside_15 rfl rfl (by refine ⟨?_, rfl, rfl⟩; split <;> first | rfl | omega)
set_option maxHeartbeats 4000000 in
set_option maxRecDepth 100000 in
theorem c_isNoTrack {d : Nat} {sh : fc_Sh} {P : fc_P} {I : fc_I} (t : Int32) : fc_Cp X10_isNoTrack (d + 1) [.int t] sh I P (if t.toInt < 0 ∨ 2 < t.toInt then 1 else 0) := by
  have k0 : (0 : Int32).toInt = 0 := rfl
  have k2 : (2 : Int32).toInt = 2 := rfl
  refine fc_Cp.of ⟨rfl, rfl⟩ (Nat.le_of_ble_eq_true rfl) rfl ?_
  refine ft_iload_n dX10_isNoTrack_0 rfl ?_
  refine ft_iconst (v := 0) dX10_isNoTrack_1 rfl ?_
  refine ft_iconst (v := 2) dX10_isNoTrack_2 rfl ?_
  refine ft_S3p cf_X10_86 (c_isOutside _ _ _) (Nat.le_of_ble_eq_true rfl) dX10_isNoTrack_3 ?_
  exact ft_reti dX10_isNoTrack_6 rfl fc_nb ⟨ite_congr (propext (by omega)) (fun _ => rfl) (fun _ => rfl), rfl, rfl⟩
set_option maxHeartbeats 4000000 in
set_option maxRecDepth 100000 in
theorem c_isNoSheet {d : Nat} {sh : fc_Sh} {P : fc_P} {I : fc_I} (t : Int32) : fc_Cp X10_isNoSheet (d + 1) [.int t] sh I P (if t.toInt < 0 ∨ 3 < t.toInt then 1 else 0) := by
  have k0 : (0 : Int32).toInt = 0 := rfl
  have k3 : (3 : Int32).toInt = 3 := rfl
  refine fc_Cp.of ⟨rfl, rfl⟩ (Nat.le_of_ble_eq_true rfl) rfl ?_
  refine ft_iload_n dX10_isNoSheet_0 rfl ?_
  refine ft_iconst (v := 0) dX10_isNoSheet_1 rfl ?_
  refine ft_iconst (v := 3) dX10_isNoSheet_2 rfl ?_
  refine ft_S3p cf_X10_86 (c_isOutside _ _ _) (Nat.le_of_ble_eq_true rfl) dX10_isNoSheet_3 ?_
  exact ft_reti dX10_isNoSheet_6 rfl fc_nb ⟨ite_congr (propext (by omega)) (fun _ => rfl) (fun _ => rfl), rfl, rfl⟩
set_option maxHeartbeats 4000000 in
set_option maxRecDepth 100000 in
theorem c_isNoZone {d : Nat} {v : Nat} {I : fc_I} (t : Int32) (hw : Wf0 (aX 45 I)) : fc_Cp X10_isNoZone (d + 1) [.ref 0, .int t] fc_SH I (fc_PT v) (if t.toInt < 0 ∨ (I 1 2).toInt ≤ t.toInt then 1 else 0) := by
  have k0 : (0 : Int32).toInt = 0 := rfl
  have k1 : (1 : Int32).toInt = 1 := rfl
  have hw0 : (0 ≤ (I 45 9).toInt ∧ (I 45 9).toInt ≤ (I 15 11).toInt ∧ 1 ≤ (I 15 11).toInt ∧ (I 15 11).toInt ≤ 60) ∧ (0 ≤ (I 1 2).toInt ∧ (I 1 2).toInt ≤ 6) ∧ (0 ≤ (I 1 3).toInt ∧ (I 1 3).toInt ≤ 3) ∧ (0 ≤ (I 4 5).toInt ∧ (I 4 5).toInt ≤ 14) ∧ (0 ≤ (I 10 4).toInt ∧ (I 10 4).toInt ≤ 4) ∧ (0 ≤ (I 15 10).toInt ∧ (I 15 10).toInt ≤ 2) ∧ (0 ≤ (I 15 9).toInt ∧ (I 15 9).toInt ≤ 40) ∧ (0 ≤ (I 31 6).toInt ∧ (I 31 6).toInt ≤ 160) ∧ (1 ≤ (I 31 7).toInt ∧ (I 31 7).toInt ≤ 6) ∧ (0 ≤ (I 31 8).toInt ∧ (I 31 8).toInt < (I 31 7).toInt) := hw
  obtain ⟨⟨w1, w2, w3, w4⟩, ⟨w5, w6⟩, ⟨w7, w8⟩, ⟨w9, w10⟩, ⟨w11, w12⟩, ⟨w13, w14⟩, ⟨w15, w16⟩, ⟨w17, w18⟩, ⟨w19, w20⟩, ⟨w21, w22⟩⟩ := hw0
  refine fc_Cp.of ⟨rfl, rfl⟩ (Nat.le_of_ble_eq_true rfl) rfl ?_
  refine ft_iload_n dX10_isNoZone_0 rfl ?_
  refine ft_iconst (v := 0) dX10_isNoZone_1 rfl ?_
  refine ft_aload_n dX10_isNoZone_2 rfl ?_
  refine ft_getR fl_X10_10 rfl sh_0 (by decide) pt_0_0 dX10_isNoZone_3 ?_
  refine ft_getI fl_X10_95 rfl sh_1 (by decide) dX10_isNoZone_6 ?_
  refine ft_iconst (v := 1) dX10_isNoZone_9 rfl ?_
  refine ft_isub dX10_isNoZone_10 ?_
  refine ft_S3p cf_X10_86 (c_isOutside _ _ _) (Nat.le_of_ble_eq_true rfl) dX10_isNoZone_11 ?_
  exact ft_reti dX10_isNoZone_14 rfl fc_nb ⟨ite_congr (propext (by rw [i_sub (by omega) (by omega)]; omega)) (fun _ => rfl) (fun _ => rfl), rfl, rfl⟩
set_option maxHeartbeats 4000000 in
set_option maxRecDepth 100000 in
theorem c_isNoShelter {d : Nat} {v : Nat} {I : fc_I} (t : Int32) (hw : Wf0 (aX 45 I)) : fc_Cp X10_isNoShelter (d + 1) [.ref 0, .int t] fc_SH I (fc_PT v) (if t.toInt < 0 ∨ (I 1 3).toInt ≤ t.toInt then 1 else 0) := by
  have k0 : (0 : Int32).toInt = 0 := rfl
  have k1 : (1 : Int32).toInt = 1 := rfl
  have hw0 : (0 ≤ (I 45 9).toInt ∧ (I 45 9).toInt ≤ (I 15 11).toInt ∧ 1 ≤ (I 15 11).toInt ∧ (I 15 11).toInt ≤ 60) ∧ (0 ≤ (I 1 2).toInt ∧ (I 1 2).toInt ≤ 6) ∧ (0 ≤ (I 1 3).toInt ∧ (I 1 3).toInt ≤ 3) ∧ (0 ≤ (I 4 5).toInt ∧ (I 4 5).toInt ≤ 14) ∧ (0 ≤ (I 10 4).toInt ∧ (I 10 4).toInt ≤ 4) ∧ (0 ≤ (I 15 10).toInt ∧ (I 15 10).toInt ≤ 2) ∧ (0 ≤ (I 15 9).toInt ∧ (I 15 9).toInt ≤ 40) ∧ (0 ≤ (I 31 6).toInt ∧ (I 31 6).toInt ≤ 160) ∧ (1 ≤ (I 31 7).toInt ∧ (I 31 7).toInt ≤ 6) ∧ (0 ≤ (I 31 8).toInt ∧ (I 31 8).toInt < (I 31 7).toInt) := hw
  obtain ⟨⟨w1, w2, w3, w4⟩, ⟨w5, w6⟩, ⟨w7, w8⟩, ⟨w9, w10⟩, ⟨w11, w12⟩, ⟨w13, w14⟩, ⟨w15, w16⟩, ⟨w17, w18⟩, ⟨w19, w20⟩, ⟨w21, w22⟩⟩ := hw0
  refine fc_Cp.of ⟨rfl, rfl⟩ (Nat.le_of_ble_eq_true rfl) rfl ?_
  refine ft_iload_n dX10_isNoShelter_0 rfl ?_
  refine ft_iconst (v := 0) dX10_isNoShelter_1 rfl ?_
  refine ft_aload_n dX10_isNoShelter_2 rfl ?_
  refine ft_getR fl_X10_10 rfl sh_0 (by decide) pt_0_0 dX10_isNoShelter_3 ?_
  refine ft_getI fl_X10_108 rfl sh_1 (by decide) dX10_isNoShelter_6 ?_
  refine ft_iconst (v := 1) dX10_isNoShelter_9 rfl ?_
  refine ft_isub dX10_isNoShelter_10 ?_
  refine ft_S3p cf_X10_86 (c_isOutside _ _ _) (Nat.le_of_ble_eq_true rfl) dX10_isNoShelter_11 ?_
  exact ft_reti dX10_isNoShelter_14 rfl fc_nb ⟨ite_congr (propext (by rw [i_sub (by omega) (by omega)]; omega)) (fun _ => rfl) (fun _ => rfl), rfl, rfl⟩
set_option maxHeartbeats 4000000 in
set_option maxRecDepth 100000 in
theorem c_isNoRoad {d : Nat} {v : Nat} {I : fc_I} (t : Int32) (hw : Wf0 (aX 45 I)) : fc_Cp X10_isNoRoad (d + 1) [.ref 0, .int t] fc_SH I (fc_PT v) (if t.toInt < 0 ∨ (I 4 5).toInt ≤ t.toInt then 1 else 0) := by
  have k0 : (0 : Int32).toInt = 0 := rfl
  have k1 : (1 : Int32).toInt = 1 := rfl
  have hw0 : (0 ≤ (I 45 9).toInt ∧ (I 45 9).toInt ≤ (I 15 11).toInt ∧ 1 ≤ (I 15 11).toInt ∧ (I 15 11).toInt ≤ 60) ∧ (0 ≤ (I 1 2).toInt ∧ (I 1 2).toInt ≤ 6) ∧ (0 ≤ (I 1 3).toInt ∧ (I 1 3).toInt ≤ 3) ∧ (0 ≤ (I 4 5).toInt ∧ (I 4 5).toInt ≤ 14) ∧ (0 ≤ (I 10 4).toInt ∧ (I 10 4).toInt ≤ 4) ∧ (0 ≤ (I 15 10).toInt ∧ (I 15 10).toInt ≤ 2) ∧ (0 ≤ (I 15 9).toInt ∧ (I 15 9).toInt ≤ 40) ∧ (0 ≤ (I 31 6).toInt ∧ (I 31 6).toInt ≤ 160) ∧ (1 ≤ (I 31 7).toInt ∧ (I 31 7).toInt ≤ 6) ∧ (0 ≤ (I 31 8).toInt ∧ (I 31 8).toInt < (I 31 7).toInt) := hw
  obtain ⟨⟨w1, w2, w3, w4⟩, ⟨w5, w6⟩, ⟨w7, w8⟩, ⟨w9, w10⟩, ⟨w11, w12⟩, ⟨w13, w14⟩, ⟨w15, w16⟩, ⟨w17, w18⟩, ⟨w19, w20⟩, ⟨w21, w22⟩⟩ := hw0
  refine fc_Cp.of ⟨rfl, rfl⟩ (Nat.le_of_ble_eq_true rfl) rfl ?_
  refine ft_iload_n dX10_isNoRoad_0 rfl ?_
  refine ft_iconst (v := 0) dX10_isNoRoad_1 rfl ?_
  refine ft_aload_n dX10_isNoRoad_2 rfl ?_
  refine ft_getR fl_X10_19 rfl sh_0 (by decide) pt_0_1 dX10_isNoRoad_3 ?_
  refine ft_getI fl_X10_121 rfl sh_4 (by decide) dX10_isNoRoad_6 ?_
  refine ft_iconst (v := 1) dX10_isNoRoad_9 rfl ?_
  refine ft_isub dX10_isNoRoad_10 ?_
  refine ft_S3p cf_X10_86 (c_isOutside _ _ _) (Nat.le_of_ble_eq_true rfl) dX10_isNoRoad_11 ?_
  exact ft_reti dX10_isNoRoad_14 rfl fc_nb ⟨ite_congr (propext (by rw [i_sub (by omega) (by omega)]; omega)) (fun _ => rfl) (fun _ => rfl), rfl, rfl⟩
set_option maxHeartbeats 4000000 in
set_option maxRecDepth 100000 in
theorem c_isNoGoal {d : Nat} {v : Nat} {I : fc_I} (t : Int32) (hw : Wf0 (aX 45 I)) : fc_Cp X10_isNoGoal (d + 2) [.ref 0, .int t] fc_SH I (fc_PT v) (if (t.toInt < 0 ∨ (I 1 2).toInt ≤ t.toInt) ∧ (t.toInt < 10 ∨ 10 + (I 1 3).toInt ≤ t.toInt) ∧ ¬ t.toInt = 20 then 1 else 0) := by
  have k0 : (0 : Int32).toInt = 0 := rfl
  have k1 : (1 : Int32).toInt = 1 := rfl
  have k10 : (10 : Int32).toInt = 10 := rfl
  have k20 : (20 : Int32).toInt = 20 := rfl
  have hw0 : (0 ≤ (I 45 9).toInt ∧ (I 45 9).toInt ≤ (I 15 11).toInt ∧ 1 ≤ (I 15 11).toInt ∧ (I 15 11).toInt ≤ 60) ∧ (0 ≤ (I 1 2).toInt ∧ (I 1 2).toInt ≤ 6) ∧ (0 ≤ (I 1 3).toInt ∧ (I 1 3).toInt ≤ 3) ∧ (0 ≤ (I 4 5).toInt ∧ (I 4 5).toInt ≤ 14) ∧ (0 ≤ (I 10 4).toInt ∧ (I 10 4).toInt ≤ 4) ∧ (0 ≤ (I 15 10).toInt ∧ (I 15 10).toInt ≤ 2) ∧ (0 ≤ (I 15 9).toInt ∧ (I 15 9).toInt ≤ 40) ∧ (0 ≤ (I 31 6).toInt ∧ (I 31 6).toInt ≤ 160) ∧ (1 ≤ (I 31 7).toInt ∧ (I 31 7).toInt ≤ 6) ∧ (0 ≤ (I 31 8).toInt ∧ (I 31 8).toInt < (I 31 7).toInt) := hw
  obtain ⟨⟨w1, w2, w3, w4⟩, ⟨w5, w6⟩, ⟨w7, w8⟩, ⟨w9, w10⟩, ⟨w11, w12⟩, ⟨w13, w14⟩, ⟨w15, w16⟩, ⟨w17, w18⟩, ⟨w19, w20⟩, ⟨w21, w22⟩⟩ := hw0
  have e1 : (10 + I 1 3 - 1).toInt = 10 + (I 1 3).toInt - 1 := by rw [i_sub (by rw [i_add (by omega) (by omega)]; omega) (by rw [i_add (by omega) (by omega)]; omega), i_add (by omega) (by omega)]; rfl
  refine fc_Cp.of ⟨rfl, rfl⟩ (Nat.le_of_ble_eq_true rfl) rfl ?_
  refine ft_aload_n dX10_isNoGoal_0 rfl ?_
  refine ft_iload_n dX10_isNoGoal_1 rfl ?_
  refine ft_V1p cf_X10_114 sh_0 (c_isNoZone _ hw) (Nat.le_of_ble_eq_true rfl) dX10_isNoGoal_2 ?_
  refine ft_bz (tgt := 39) dX10_isNoGoal_5 (by decide) (fun h_5 => ?_) (fun h_5 => ?_)
  · refine ft_iconst (v := 0) dX10_isNoGoal_39 rfl ?_
    exact ft_reti dX10_isNoGoal_40 rfl rfl (by refine ⟨?_, rfl, rfl⟩; split <;> first | rfl | omega)
  · refine ft_iload_n dX10_isNoGoal_8 rfl ?_
    refine ft_bipush (v := 10) dX10_isNoGoal_9 rfl ?_
    refine ft_bipush (v := 10) dX10_isNoGoal_11 rfl ?_
    refine ft_aload_n dX10_isNoGoal_13 rfl ?_
    refine ft_getR fl_X10_10 rfl sh_0 (by decide) pt_0_0 dX10_isNoGoal_14 ?_
    refine ft_getI fl_X10_108 rfl sh_1 (by decide) dX10_isNoGoal_17 ?_
    refine ft_iadd dX10_isNoGoal_20 ?_
    refine ft_iconst (v := 1) dX10_isNoGoal_21 rfl ?_
    refine ft_isub dX10_isNoGoal_22 ?_
    refine ft_S3p cf_X10_86 (c_isOutside _ _ _) (Nat.le_of_ble_eq_true rfl) dX10_isNoGoal_23 ?_
    refine ft_bz (tgt := 39) dX10_isNoGoal_26 (by decide) (fun h_26 => ?_) (fun h_26 => ?_)
    · refine ft_iconst (v := 0) dX10_isNoGoal_39 rfl ?_
      exact ft_reti dX10_isNoGoal_40 rfl rfl (by refine ⟨?_, rfl, rfl⟩; split <;> first | rfl | omega)
    · refine ft_iload_n dX10_isNoGoal_29 rfl ?_
      refine ft_bipush (v := 20) dX10_isNoGoal_30 rfl ?_
      refine fj_icmp_eq (tgt := 39) dX10_isNoGoal_32 (by decide) (fun h_32 => ?_) (fun h_32 => ?_)
      · refine ft_iconst (v := 0) dX10_isNoGoal_39 rfl ?_
        exact ft_reti dX10_isNoGoal_40 rfl rfl (by refine ⟨?_, rfl, rfl⟩; split <;> first | rfl | omega)
      · refine ft_iconst (v := 1) dX10_isNoGoal_35 rfl ?_
        refine ft_goto (tgt := 40) dX10_isNoGoal_36 (by decide) ?_
        exact ft_reti dX10_isNoGoal_40 rfl rfl (by refine ⟨?_, rfl, rfl⟩; split <;> first | rfl | omega)
/-- what a call of the class owes: the answer, the state, the reference's cells as they were -/
def xQ (v : Nat) (I : fc_I) (o : Int32 × fc_I) : Int32 → fc_I → fc_P → Prop := fun r I' P' => P' = fc_PT v ∧ r = o.1 ∧ aX 45 I' = o.2 ∧ ∀ c, 78 ≤ c → I' c = I c
def op_zone (A : fc_I) (h o l : Int32) : Int32 × fc_I := if (h.toInt < 0 ∨ 99 < h.toInt) ∨ (o.toInt < 0 ∨ 99999 < o.toInt) ∨ (l.toInt < 0 ∨ 999 < l.toInt) then (-2, A) else if 0 < (A 0 0).toInt then (-3, A) else if 6 ≤ (A 0 2).toInt then (-4, A) else (A 0 2, fc_wI (fc_wI (fc_wI (fc_wI A 0 2 (A 0 2 + 1)) 1 (cn (A 0 2)) h) 2 (cn (A 0 2)) o) 4 (cn (A 0 2)) l)
def op_shelter (A : fc_I) (r : Int32) : Int32 × fc_I := if r.toInt < 0 ∨ 99999 < r.toInt then (-2, A) else if 3 ≤ (A 0 3).toInt then (-4, A) else (A 0 3, fc_wI (fc_wI A 0 3 (A 0 3 + 1)) 7 (cn (A 0 3)) r)
def op_end (A : fc_I) (h : Int32) : Int32 × fc_I := if h.toInt < 1 ∨ 60 < h.toInt ∨ h.toInt < (A 0 0).toInt then (-2, A) else (A 0 1, fc_wI A 0 1 h)
def op_truth (A : fc_I) (t : Int32) : Int32 × fc_I := if t.toInt < 0 ∨ 2 < t.toInt then (-2, A) else (A 0 6, fc_wI A 0 6 t)
def op_force (A : fc_I) (t : Int32) : Int32 × fc_I := if t.toInt < 0 ∨ (A 0 9).toInt ≤ t.toInt then (-2, A) else (A 0 10, fc_wI A 0 10 t)

set_option maxHeartbeats 4000000 in
set_option maxRecDepth 100000 in
theorem x_zone {d : Nat} {v : Nat} {I : fc_I} (h o l : Int32) (hw : Wf0 (aX 45 I)) : fc_Ci X10_zone (d + 1) [.ref 0, .int h, .int o, .int l] fc_SH I (fc_PT v) (xQ v I (op_zone (aX 45 I) h o l)) := by
  have km4 : (-4 : Int32).toInt = -4 := rfl
  have km3 : (-3 : Int32).toInt = -3 := rfl
  have km2 : (-2 : Int32).toInt = -2 := rfl
  have k0 : (0 : Int32).toInt = 0 := rfl
  have k1 : (1 : Int32).toInt = 1 := rfl
  have k6 : (6 : Int32).toInt = 6 := rfl
  have k99 : (99 : Int32).toInt = 99 := rfl
  have k999 : (999 : Int32).toInt = 999 := rfl
  have k99999 : (99999 : Int32).toInt = 99999 := rfl
  have hw0 : (0 ≤ (I 45 9).toInt ∧ (I 45 9).toInt ≤ (I 15 11).toInt ∧ 1 ≤ (I 15 11).toInt ∧ (I 15 11).toInt ≤ 60) ∧ (0 ≤ (I 1 2).toInt ∧ (I 1 2).toInt ≤ 6) ∧ (0 ≤ (I 1 3).toInt ∧ (I 1 3).toInt ≤ 3) ∧ (0 ≤ (I 4 5).toInt ∧ (I 4 5).toInt ≤ 14) ∧ (0 ≤ (I 10 4).toInt ∧ (I 10 4).toInt ≤ 4) ∧ (0 ≤ (I 15 10).toInt ∧ (I 15 10).toInt ≤ 2) ∧ (0 ≤ (I 15 9).toInt ∧ (I 15 9).toInt ≤ 40) ∧ (0 ≤ (I 31 6).toInt ∧ (I 31 6).toInt ≤ 160) ∧ (1 ≤ (I 31 7).toInt ∧ (I 31 7).toInt ≤ 6) ∧ (0 ≤ (I 31 8).toInt ∧ (I 31 8).toInt < (I 31 7).toInt) := hw
  obtain ⟨⟨w1, w2, w3, w4⟩, ⟨w5, w6⟩, ⟨w7, w8⟩, ⟨w9, w10⟩, ⟨w11, w12⟩, ⟨w13, w14⟩, ⟨w15, w16⟩, ⟨w17, w18⟩, ⟨w19, w20⟩, ⟨w21, w22⟩⟩ := hw0
  refine fc_Ci.of ⟨rfl, rfl⟩ (Nat.le_of_ble_eq_true rfl) rfl ?_
  refine ft_iload_n dX10_zone_0 rfl ?_
  refine ft_iconst (v := 0) dX10_zone_1 rfl ?_
  refine ft_bipush (v := 99) dX10_zone_2 rfl ?_
  refine ft_S3p cf_X10_86 (c_isOutside _ _ _) (Nat.le_of_ble_eq_true rfl) dX10_zone_4 ?_
  refine ft_bnz (tgt := 31) dX10_zone_7 (by decide) (fun h_7 => ?_) (fun h_7 => ?_)
  · refine ft_bipush (v := (-2)) dX10_zone_31 rfl ?_
    exact ft_reti dX10_zone_33 rfl rfl (by
    refine ⟨rfl, ?_, ?_, (by intro c hc; first | rfl | (repeat rw [fc_wI_ne (by omega)]))⟩
    all_goals unfold op_zone
    all_goals simp only [ax0_0, ax0_1, ax0_2, ax0_3, ax0_4, ax0_5, ax0_6, ax0_7, ax0_8, ax0_9, ax0_10, ax0_11, ax_1, ax_2, ax_3, ax_4, ax_5, ax_6, ax_7, ax_8, ax_9, ax_10, ax_11, ax_12, ax_13, ax_14, ax_15, ax_16, ax_17, ax_18, ax_19, ax_20, ax_21, ax_22, ax_23, ax_24, ax_25, ax_26, ax_27, ax_28]
    all_goals repeat' split
    all_goals first | (exfalso; omega) | rfl | (simp only [bw_2, bw_3, bw_5, bw_6, bw_7, bw_8, bw_9, bw_11, bw_12, bw_13, bw_14, bw_16, bw_25, bw_26, bw_27, bw_28, bw_29, bw_30, bw_68, bw_46, bw_47, bw_48, bw_49, bw_50, bw_51, bw_52, bw_53, bw0_0, bw0_1, bw0_2, bw0_3, bw0_4, bw0_5, bw0_6, bw0_7, bw0_10, bw0_11, bs_42, bs_43, bs_44, bs_54, bs_55, bs_56, bs_57, bs_67, bs_69]; done) | (simp only [bw_2, bw_3, bw_5, bw_6, bw_7, bw_8, bw_9, bw_11, bw_12, bw_13, bw_14, bw_16, bw_25, bw_26, bw_27, bw_28, bw_29, bw_30, bw_68, bw_46, bw_47, bw_48, bw_49, bw_50, bw_51, bw_52, bw_53, bw0_0, bw0_1, bw0_2, bw0_3, bw0_4, bw0_5, bw0_6, bw0_7, bw0_10, bw0_11, bs_42, bs_43, bs_44, bs_54, bs_55, bs_56, bs_57, bs_67, bs_69]; rfl))
  · refine ft_iload_n dX10_zone_10 rfl ?_
    refine ft_iconst (v := 0) dX10_zone_11 rfl ?_
    refine ft_ldc dX10_zone_12 kc_X10_90 ?_
    refine ft_S3p cf_X10_86 (c_isOutside _ _ _) (Nat.le_of_ble_eq_true rfl) dX10_zone_14 ?_
    refine ft_bnz (tgt := 31) dX10_zone_17 (by decide) (fun h_17 => ?_) (fun h_17 => ?_)
    · refine ft_bipush (v := (-2)) dX10_zone_31 rfl ?_
      exact ft_reti dX10_zone_33 rfl rfl (by
    refine ⟨rfl, ?_, ?_, (by intro c hc; first | rfl | (repeat rw [fc_wI_ne (by omega)]))⟩
    all_goals unfold op_zone
    all_goals simp only [ax0_0, ax0_1, ax0_2, ax0_3, ax0_4, ax0_5, ax0_6, ax0_7, ax0_8, ax0_9, ax0_10, ax0_11, ax_1, ax_2, ax_3, ax_4, ax_5, ax_6, ax_7, ax_8, ax_9, ax_10, ax_11, ax_12, ax_13, ax_14, ax_15, ax_16, ax_17, ax_18, ax_19, ax_20, ax_21, ax_22, ax_23, ax_24, ax_25, ax_26, ax_27, ax_28]
    all_goals repeat' split
    all_goals first | (exfalso; omega) | rfl | (simp only [bw_2, bw_3, bw_5, bw_6, bw_7, bw_8, bw_9, bw_11, bw_12, bw_13, bw_14, bw_16, bw_25, bw_26, bw_27, bw_28, bw_29, bw_30, bw_68, bw_46, bw_47, bw_48, bw_49, bw_50, bw_51, bw_52, bw_53, bw0_0, bw0_1, bw0_2, bw0_3, bw0_4, bw0_5, bw0_6, bw0_7, bw0_10, bw0_11, bs_42, bs_43, bs_44, bs_54, bs_55, bs_56, bs_57, bs_67, bs_69]; done) | (simp only [bw_2, bw_3, bw_5, bw_6, bw_7, bw_8, bw_9, bw_11, bw_12, bw_13, bw_14, bw_16, bw_25, bw_26, bw_27, bw_28, bw_29, bw_30, bw_68, bw_46, bw_47, bw_48, bw_49, bw_50, bw_51, bw_52, bw_53, bw0_0, bw0_1, bw0_2, bw0_3, bw0_4, bw0_5, bw0_6, bw0_7, bw0_10, bw0_11, bs_42, bs_43, bs_44, bs_54, bs_55, bs_56, bs_57, bs_67, bs_69]; rfl))
    · refine ft_iload_n dX10_zone_20 rfl ?_
      refine ft_iconst (v := 0) dX10_zone_21 rfl ?_
      refine ft_sipush (v := 999) dX10_zone_22 rfl ?_
      refine ft_S3p cf_X10_86 (c_isOutside _ _ _) (Nat.le_of_ble_eq_true rfl) dX10_zone_25 ?_
      refine ft_bz (tgt := 34) dX10_zone_28 (by decide) (fun h_28 => ?_) (fun h_28 => ?_)
      · refine ft_aload_n dX10_zone_34 rfl ?_
        refine ft_getR fl_X10_57 rfl sh_0 (by decide) pt_0_5 dX10_zone_35 ?_
        refine ft_getI fl_X10_91 rfl sh_45 (by decide) dX10_zone_38 ?_
        refine fj_if_le (tgt := 47) dX10_zone_41 (by decide) (fun h_41 => ?_) (fun h_41 => ?_)
        · refine ft_aload_n dX10_zone_47 rfl ?_
          refine ft_getR fl_X10_10 rfl sh_0 (by decide) pt_0_0 dX10_zone_48 ?_
          refine ft_getI fl_X10_95 rfl sh_1 (by decide) dX10_zone_51 ?_
          refine ft_bipush (v := 6) dX10_zone_54 rfl ?_
          refine fj_icmp_lt (tgt := 62) dX10_zone_56 (by decide) (fun h_56 => ?_) (fun h_56 => ?_)
          · refine ft_aload_n dX10_zone_62 rfl ?_
            refine ft_getR fl_X10_10 rfl sh_0 (by decide) pt_0_0 dX10_zone_63 ?_
            refine ft_dup dX10_zone_66 rfl ?_
            refine ft_getI fl_X10_95 rfl sh_1 (by decide) dX10_zone_67 ?_
            refine ft_dup_x1 dX10_zone_70 rfl rfl ?_
            refine ft_iconst (v := 1) dX10_zone_71 rfl ?_
            refine ft_iadd dX10_zone_72 ?_
            refine ft_putI fl_X10_95 rfl (fun q h => by cases h; rfl) sh_1 (by decide) dX10_zone_73 ?_
            refine ft_istore dX10_zone_76 (by decide) ?_
            refine ft_aload_n dX10_zone_78 rfl ?_
            refine ft_getR fl_X10_10 rfl sh_0 (by decide) pt_0_0 dX10_zone_79 ?_
            refine ft_getR fl_X10_98 rfl sh_1 (by decide) pt_1_0 dX10_zone_82 ?_
            refine ft_iload dX10_zone_85 rfl ?_
            refine ft_iload_n dX10_zone_87 rfl ?_
            refine ft_iast sh_2 (by rw [vp_in_iff]; omega) rfl dX10_zone_88 ?_
            refine ft_aload_n dX10_zone_89 rfl ?_
            refine ft_getR fl_X10_57 rfl sh_0 (by decide) pt_0_5 dX10_zone_90 ?_
            refine ft_getR fl_X10_102 rfl sh_45 (by decide) pt_45_0 dX10_zone_93 ?_
            refine ft_iload dX10_zone_96 rfl ?_
            refine ft_iload_n dX10_zone_98 rfl ?_
            refine ft_iast sh_46 (by rw [vp_in_iff]; omega) rfl dX10_zone_99 ?_
            refine ft_aload_n dX10_zone_100 rfl ?_
            refine ft_getR fl_X10_57 rfl sh_0 (by decide) pt_0_5 dX10_zone_101 ?_
            refine ft_getR fl_X10_105 rfl sh_45 (by decide) pt_45_2 dX10_zone_104 ?_
            refine ft_iload dX10_zone_107 rfl ?_
            refine ft_iload_n dX10_zone_109 rfl ?_
            refine ft_iast sh_48 (by rw [vp_in_iff]; omega) rfl dX10_zone_110 ?_
            refine ft_iload dX10_zone_111 rfl ?_
            exact ft_reti dX10_zone_113 rfl rfl (by
    refine ⟨rfl, ?_, ?_, (by intro c hc; first | rfl | (repeat rw [fc_wI_ne (by omega)]))⟩
    all_goals unfold op_zone
    all_goals simp only [ax0_0, ax0_1, ax0_2, ax0_3, ax0_4, ax0_5, ax0_6, ax0_7, ax0_8, ax0_9, ax0_10, ax0_11, ax_1, ax_2, ax_3, ax_4, ax_5, ax_6, ax_7, ax_8, ax_9, ax_10, ax_11, ax_12, ax_13, ax_14, ax_15, ax_16, ax_17, ax_18, ax_19, ax_20, ax_21, ax_22, ax_23, ax_24, ax_25, ax_26, ax_27, ax_28]
    all_goals repeat' split
    all_goals first | (exfalso; omega) | rfl | (simp only [bw_2, bw_3, bw_5, bw_6, bw_7, bw_8, bw_9, bw_11, bw_12, bw_13, bw_14, bw_16, bw_25, bw_26, bw_27, bw_28, bw_29, bw_30, bw_68, bw_46, bw_47, bw_48, bw_49, bw_50, bw_51, bw_52, bw_53, bw0_0, bw0_1, bw0_2, bw0_3, bw0_4, bw0_5, bw0_6, bw0_7, bw0_10, bw0_11, bs_42, bs_43, bs_44, bs_54, bs_55, bs_56, bs_57, bs_67, bs_69]; done) | (simp only [bw_2, bw_3, bw_5, bw_6, bw_7, bw_8, bw_9, bw_11, bw_12, bw_13, bw_14, bw_16, bw_25, bw_26, bw_27, bw_28, bw_29, bw_30, bw_68, bw_46, bw_47, bw_48, bw_49, bw_50, bw_51, bw_52, bw_53, bw0_0, bw0_1, bw0_2, bw0_3, bw0_4, bw0_5, bw0_6, bw0_7, bw0_10, bw0_11, bs_42, bs_43, bs_44, bs_54, bs_55, bs_56, bs_57, bs_67, bs_69]; rfl))
          · refine ft_bipush (v := (-4)) dX10_zone_59 rfl ?_
            exact ft_reti dX10_zone_61 rfl rfl (by
    refine ⟨rfl, ?_, ?_, (by intro c hc; first | rfl | (repeat rw [fc_wI_ne (by omega)]))⟩
    all_goals unfold op_zone
    all_goals simp only [ax0_0, ax0_1, ax0_2, ax0_3, ax0_4, ax0_5, ax0_6, ax0_7, ax0_8, ax0_9, ax0_10, ax0_11, ax_1, ax_2, ax_3, ax_4, ax_5, ax_6, ax_7, ax_8, ax_9, ax_10, ax_11, ax_12, ax_13, ax_14, ax_15, ax_16, ax_17, ax_18, ax_19, ax_20, ax_21, ax_22, ax_23, ax_24, ax_25, ax_26, ax_27, ax_28]
    all_goals repeat' split
    all_goals first | (exfalso; omega) | rfl | (simp only [bw_2, bw_3, bw_5, bw_6, bw_7, bw_8, bw_9, bw_11, bw_12, bw_13, bw_14, bw_16, bw_25, bw_26, bw_27, bw_28, bw_29, bw_30, bw_68, bw_46, bw_47, bw_48, bw_49, bw_50, bw_51, bw_52, bw_53, bw0_0, bw0_1, bw0_2, bw0_3, bw0_4, bw0_5, bw0_6, bw0_7, bw0_10, bw0_11, bs_42, bs_43, bs_44, bs_54, bs_55, bs_56, bs_57, bs_67, bs_69]; done) | (simp only [bw_2, bw_3, bw_5, bw_6, bw_7, bw_8, bw_9, bw_11, bw_12, bw_13, bw_14, bw_16, bw_25, bw_26, bw_27, bw_28, bw_29, bw_30, bw_68, bw_46, bw_47, bw_48, bw_49, bw_50, bw_51, bw_52, bw_53, bw0_0, bw0_1, bw0_2, bw0_3, bw0_4, bw0_5, bw0_6, bw0_7, bw0_10, bw0_11, bs_42, bs_43, bs_44, bs_54, bs_55, bs_56, bs_57, bs_67, bs_69]; rfl))
        · refine ft_bipush (v := (-3)) dX10_zone_44 rfl ?_
          exact ft_reti dX10_zone_46 rfl rfl (by
    refine ⟨rfl, ?_, ?_, (by intro c hc; first | rfl | (repeat rw [fc_wI_ne (by omega)]))⟩
    all_goals unfold op_zone
    all_goals simp only [ax0_0, ax0_1, ax0_2, ax0_3, ax0_4, ax0_5, ax0_6, ax0_7, ax0_8, ax0_9, ax0_10, ax0_11, ax_1, ax_2, ax_3, ax_4, ax_5, ax_6, ax_7, ax_8, ax_9, ax_10, ax_11, ax_12, ax_13, ax_14, ax_15, ax_16, ax_17, ax_18, ax_19, ax_20, ax_21, ax_22, ax_23, ax_24, ax_25, ax_26, ax_27, ax_28]
    all_goals repeat' split
    all_goals first | (exfalso; omega) | rfl | (simp only [bw_2, bw_3, bw_5, bw_6, bw_7, bw_8, bw_9, bw_11, bw_12, bw_13, bw_14, bw_16, bw_25, bw_26, bw_27, bw_28, bw_29, bw_30, bw_68, bw_46, bw_47, bw_48, bw_49, bw_50, bw_51, bw_52, bw_53, bw0_0, bw0_1, bw0_2, bw0_3, bw0_4, bw0_5, bw0_6, bw0_7, bw0_10, bw0_11, bs_42, bs_43, bs_44, bs_54, bs_55, bs_56, bs_57, bs_67, bs_69]; done) | (simp only [bw_2, bw_3, bw_5, bw_6, bw_7, bw_8, bw_9, bw_11, bw_12, bw_13, bw_14, bw_16, bw_25, bw_26, bw_27, bw_28, bw_29, bw_30, bw_68, bw_46, bw_47, bw_48, bw_49, bw_50, bw_51, bw_52, bw_53, bw0_0, bw0_1, bw0_2, bw0_3, bw0_4, bw0_5, bw0_6, bw0_7, bw0_10, bw0_11, bs_42, bs_43, bs_44, bs_54, bs_55, bs_56, bs_57, bs_67, bs_69]; rfl))
      · refine ft_bipush (v := (-2)) dX10_zone_31 rfl ?_
        exact ft_reti dX10_zone_33 rfl rfl (by
    refine ⟨rfl, ?_, ?_, (by intro c hc; first | rfl | (repeat rw [fc_wI_ne (by omega)]))⟩
    all_goals unfold op_zone
    all_goals simp only [ax0_0, ax0_1, ax0_2, ax0_3, ax0_4, ax0_5, ax0_6, ax0_7, ax0_8, ax0_9, ax0_10, ax0_11, ax_1, ax_2, ax_3, ax_4, ax_5, ax_6, ax_7, ax_8, ax_9, ax_10, ax_11, ax_12, ax_13, ax_14, ax_15, ax_16, ax_17, ax_18, ax_19, ax_20, ax_21, ax_22, ax_23, ax_24, ax_25, ax_26, ax_27, ax_28]
    all_goals repeat' split
    all_goals first | (exfalso; omega) | rfl | (simp only [bw_2, bw_3, bw_5, bw_6, bw_7, bw_8, bw_9, bw_11, bw_12, bw_13, bw_14, bw_16, bw_25, bw_26, bw_27, bw_28, bw_29, bw_30, bw_68, bw_46, bw_47, bw_48, bw_49, bw_50, bw_51, bw_52, bw_53, bw0_0, bw0_1, bw0_2, bw0_3, bw0_4, bw0_5, bw0_6, bw0_7, bw0_10, bw0_11, bs_42, bs_43, bs_44, bs_54, bs_55, bs_56, bs_57, bs_67, bs_69]; done) | (simp only [bw_2, bw_3, bw_5, bw_6, bw_7, bw_8, bw_9, bw_11, bw_12, bw_13, bw_14, bw_16, bw_25, bw_26, bw_27, bw_28, bw_29, bw_30, bw_68, bw_46, bw_47, bw_48, bw_49, bw_50, bw_51, bw_52, bw_53, bw0_0, bw0_1, bw0_2, bw0_3, bw0_4, bw0_5, bw0_6, bw0_7, bw0_10, bw0_11, bs_42, bs_43, bs_44, bs_54, bs_55, bs_56, bs_57, bs_67, bs_69]; rfl))
set_option maxHeartbeats 4000000 in
set_option maxRecDepth 100000 in
theorem x_shelter {d : Nat} {v : Nat} {I : fc_I} (r : Int32) (hw : Wf0 (aX 45 I)) : fc_Ci X10_shelter (d + 1) [.ref 0, .int r] fc_SH I (fc_PT v) (xQ v I (op_shelter (aX 45 I) r)) := by
  have km4 : (-4 : Int32).toInt = -4 := rfl
  have km2 : (-2 : Int32).toInt = -2 := rfl
  have k0 : (0 : Int32).toInt = 0 := rfl
  have k1 : (1 : Int32).toInt = 1 := rfl
  have k3 : (3 : Int32).toInt = 3 := rfl
  have k99999 : (99999 : Int32).toInt = 99999 := rfl
  have hw0 : (0 ≤ (I 45 9).toInt ∧ (I 45 9).toInt ≤ (I 15 11).toInt ∧ 1 ≤ (I 15 11).toInt ∧ (I 15 11).toInt ≤ 60) ∧ (0 ≤ (I 1 2).toInt ∧ (I 1 2).toInt ≤ 6) ∧ (0 ≤ (I 1 3).toInt ∧ (I 1 3).toInt ≤ 3) ∧ (0 ≤ (I 4 5).toInt ∧ (I 4 5).toInt ≤ 14) ∧ (0 ≤ (I 10 4).toInt ∧ (I 10 4).toInt ≤ 4) ∧ (0 ≤ (I 15 10).toInt ∧ (I 15 10).toInt ≤ 2) ∧ (0 ≤ (I 15 9).toInt ∧ (I 15 9).toInt ≤ 40) ∧ (0 ≤ (I 31 6).toInt ∧ (I 31 6).toInt ≤ 160) ∧ (1 ≤ (I 31 7).toInt ∧ (I 31 7).toInt ≤ 6) ∧ (0 ≤ (I 31 8).toInt ∧ (I 31 8).toInt < (I 31 7).toInt) := hw
  obtain ⟨⟨w1, w2, w3, w4⟩, ⟨w5, w6⟩, ⟨w7, w8⟩, ⟨w9, w10⟩, ⟨w11, w12⟩, ⟨w13, w14⟩, ⟨w15, w16⟩, ⟨w17, w18⟩, ⟨w19, w20⟩, ⟨w21, w22⟩⟩ := hw0
  refine fc_Ci.of ⟨rfl, rfl⟩ (Nat.le_of_ble_eq_true rfl) rfl ?_
  refine ft_iload_n dX10_shelter_0 rfl ?_
  refine ft_iconst (v := 0) dX10_shelter_1 rfl ?_
  refine ft_ldc dX10_shelter_2 kc_X10_90 ?_
  refine ft_S3p cf_X10_86 (c_isOutside _ _ _) (Nat.le_of_ble_eq_true rfl) dX10_shelter_4 ?_
  refine ft_bz (tgt := 13) dX10_shelter_7 (by decide) (fun h_7 => ?_) (fun h_7 => ?_)
  · refine ft_aload_n dX10_shelter_13 rfl ?_
    refine ft_getR fl_X10_10 rfl sh_0 (by decide) pt_0_0 dX10_shelter_14 ?_
    refine ft_getI fl_X10_108 rfl sh_1 (by decide) dX10_shelter_17 ?_
    refine ft_iconst (v := 3) dX10_shelter_20 rfl ?_
    refine fj_icmp_lt (tgt := 27) dX10_shelter_21 (by decide) (fun h_21 => ?_) (fun h_21 => ?_)
    · refine ft_aload_n dX10_shelter_27 rfl ?_
      refine ft_getR fl_X10_10 rfl sh_0 (by decide) pt_0_0 dX10_shelter_28 ?_
      refine ft_dup dX10_shelter_31 rfl ?_
      refine ft_getI fl_X10_108 rfl sh_1 (by decide) dX10_shelter_32 ?_
      refine ft_dup_x1 dX10_shelter_35 rfl rfl ?_
      refine ft_iconst (v := 1) dX10_shelter_36 rfl ?_
      refine ft_iadd dX10_shelter_37 ?_
      refine ft_putI fl_X10_108 rfl (fun q h => by cases h; rfl) sh_1 (by decide) dX10_shelter_38 ?_
      refine ft_istore_n dX10_shelter_41 (by decide) ?_
      refine ft_aload_n dX10_shelter_42 rfl ?_
      refine ft_getR fl_X10_57 rfl sh_0 (by decide) pt_0_5 dX10_shelter_43 ?_
      refine ft_getR fl_X10_111 rfl sh_45 (by decide) pt_45_4 dX10_shelter_46 ?_
      refine ft_iload_n dX10_shelter_49 rfl ?_
      refine ft_iload_n dX10_shelter_50 rfl ?_
      refine ft_iast sh_50 (by rw [vp_in_iff]; omega) rfl dX10_shelter_51 ?_
      refine ft_iload_n dX10_shelter_52 rfl ?_
      exact ft_reti dX10_shelter_53 rfl rfl (by
    refine ⟨rfl, ?_, ?_, (by intro c hc; first | rfl | (repeat rw [fc_wI_ne (by omega)]))⟩
    all_goals unfold op_shelter
    all_goals simp only [ax0_0, ax0_1, ax0_2, ax0_3, ax0_4, ax0_5, ax0_6, ax0_7, ax0_8, ax0_9, ax0_10, ax0_11, ax_1, ax_2, ax_3, ax_4, ax_5, ax_6, ax_7, ax_8, ax_9, ax_10, ax_11, ax_12, ax_13, ax_14, ax_15, ax_16, ax_17, ax_18, ax_19, ax_20, ax_21, ax_22, ax_23, ax_24, ax_25, ax_26, ax_27, ax_28]
    all_goals repeat' split
    all_goals first | (exfalso; omega) | rfl | (simp only [bw_2, bw_3, bw_5, bw_6, bw_7, bw_8, bw_9, bw_11, bw_12, bw_13, bw_14, bw_16, bw_25, bw_26, bw_27, bw_28, bw_29, bw_30, bw_68, bw_46, bw_47, bw_48, bw_49, bw_50, bw_51, bw_52, bw_53, bw0_0, bw0_1, bw0_2, bw0_3, bw0_4, bw0_5, bw0_6, bw0_7, bw0_10, bw0_11, bs_42, bs_43, bs_44, bs_54, bs_55, bs_56, bs_57, bs_67, bs_69]; done) | (simp only [bw_2, bw_3, bw_5, bw_6, bw_7, bw_8, bw_9, bw_11, bw_12, bw_13, bw_14, bw_16, bw_25, bw_26, bw_27, bw_28, bw_29, bw_30, bw_68, bw_46, bw_47, bw_48, bw_49, bw_50, bw_51, bw_52, bw_53, bw0_0, bw0_1, bw0_2, bw0_3, bw0_4, bw0_5, bw0_6, bw0_7, bw0_10, bw0_11, bs_42, bs_43, bs_44, bs_54, bs_55, bs_56, bs_57, bs_67, bs_69]; rfl))
    · refine ft_bipush (v := (-4)) dX10_shelter_24 rfl ?_
      exact ft_reti dX10_shelter_26 rfl rfl (by
    refine ⟨rfl, ?_, ?_, (by intro c hc; first | rfl | (repeat rw [fc_wI_ne (by omega)]))⟩
    all_goals unfold op_shelter
    all_goals simp only [ax0_0, ax0_1, ax0_2, ax0_3, ax0_4, ax0_5, ax0_6, ax0_7, ax0_8, ax0_9, ax0_10, ax0_11, ax_1, ax_2, ax_3, ax_4, ax_5, ax_6, ax_7, ax_8, ax_9, ax_10, ax_11, ax_12, ax_13, ax_14, ax_15, ax_16, ax_17, ax_18, ax_19, ax_20, ax_21, ax_22, ax_23, ax_24, ax_25, ax_26, ax_27, ax_28]
    all_goals repeat' split
    all_goals first | (exfalso; omega) | rfl | (simp only [bw_2, bw_3, bw_5, bw_6, bw_7, bw_8, bw_9, bw_11, bw_12, bw_13, bw_14, bw_16, bw_25, bw_26, bw_27, bw_28, bw_29, bw_30, bw_68, bw_46, bw_47, bw_48, bw_49, bw_50, bw_51, bw_52, bw_53, bw0_0, bw0_1, bw0_2, bw0_3, bw0_4, bw0_5, bw0_6, bw0_7, bw0_10, bw0_11, bs_42, bs_43, bs_44, bs_54, bs_55, bs_56, bs_57, bs_67, bs_69]; done) | (simp only [bw_2, bw_3, bw_5, bw_6, bw_7, bw_8, bw_9, bw_11, bw_12, bw_13, bw_14, bw_16, bw_25, bw_26, bw_27, bw_28, bw_29, bw_30, bw_68, bw_46, bw_47, bw_48, bw_49, bw_50, bw_51, bw_52, bw_53, bw0_0, bw0_1, bw0_2, bw0_3, bw0_4, bw0_5, bw0_6, bw0_7, bw0_10, bw0_11, bs_42, bs_43, bs_44, bs_54, bs_55, bs_56, bs_57, bs_67, bs_69]; rfl))
  · refine ft_bipush (v := (-2)) dX10_shelter_10 rfl ?_
    exact ft_reti dX10_shelter_12 rfl rfl (by
    refine ⟨rfl, ?_, ?_, (by intro c hc; first | rfl | (repeat rw [fc_wI_ne (by omega)]))⟩
    all_goals unfold op_shelter
    all_goals simp only [ax0_0, ax0_1, ax0_2, ax0_3, ax0_4, ax0_5, ax0_6, ax0_7, ax0_8, ax0_9, ax0_10, ax0_11, ax_1, ax_2, ax_3, ax_4, ax_5, ax_6, ax_7, ax_8, ax_9, ax_10, ax_11, ax_12, ax_13, ax_14, ax_15, ax_16, ax_17, ax_18, ax_19, ax_20, ax_21, ax_22, ax_23, ax_24, ax_25, ax_26, ax_27, ax_28]
    all_goals repeat' split
    all_goals first | (exfalso; omega) | rfl | (simp only [bw_2, bw_3, bw_5, bw_6, bw_7, bw_8, bw_9, bw_11, bw_12, bw_13, bw_14, bw_16, bw_25, bw_26, bw_27, bw_28, bw_29, bw_30, bw_68, bw_46, bw_47, bw_48, bw_49, bw_50, bw_51, bw_52, bw_53, bw0_0, bw0_1, bw0_2, bw0_3, bw0_4, bw0_5, bw0_6, bw0_7, bw0_10, bw0_11, bs_42, bs_43, bs_44, bs_54, bs_55, bs_56, bs_57, bs_67, bs_69]; done) | (simp only [bw_2, bw_3, bw_5, bw_6, bw_7, bw_8, bw_9, bw_11, bw_12, bw_13, bw_14, bw_16, bw_25, bw_26, bw_27, bw_28, bw_29, bw_30, bw_68, bw_46, bw_47, bw_48, bw_49, bw_50, bw_51, bw_52, bw_53, bw0_0, bw0_1, bw0_2, bw0_3, bw0_4, bw0_5, bw0_6, bw0_7, bw0_10, bw0_11, bs_42, bs_43, bs_44, bs_54, bs_55, bs_56, bs_57, bs_67, bs_69]; rfl))
set_option maxHeartbeats 4000000 in
set_option maxRecDepth 100000 in
theorem x_end {d : Nat} {v : Nat} {I : fc_I} (h : Int32) (hw : Wf0 (aX 45 I)) : fc_Ci X10_end (d + 1) [.ref 0, .int h] fc_SH I (fc_PT v) (xQ v I (op_end (aX 45 I) h)) := by
  have km2 : (-2 : Int32).toInt = -2 := rfl
  have k1 : (1 : Int32).toInt = 1 := rfl
  have k60 : (60 : Int32).toInt = 60 := rfl
  have hw0 : (0 ≤ (I 45 9).toInt ∧ (I 45 9).toInt ≤ (I 15 11).toInt ∧ 1 ≤ (I 15 11).toInt ∧ (I 15 11).toInt ≤ 60) ∧ (0 ≤ (I 1 2).toInt ∧ (I 1 2).toInt ≤ 6) ∧ (0 ≤ (I 1 3).toInt ∧ (I 1 3).toInt ≤ 3) ∧ (0 ≤ (I 4 5).toInt ∧ (I 4 5).toInt ≤ 14) ∧ (0 ≤ (I 10 4).toInt ∧ (I 10 4).toInt ≤ 4) ∧ (0 ≤ (I 15 10).toInt ∧ (I 15 10).toInt ≤ 2) ∧ (0 ≤ (I 15 9).toInt ∧ (I 15 9).toInt ≤ 40) ∧ (0 ≤ (I 31 6).toInt ∧ (I 31 6).toInt ≤ 160) ∧ (1 ≤ (I 31 7).toInt ∧ (I 31 7).toInt ≤ 6) ∧ (0 ≤ (I 31 8).toInt ∧ (I 31 8).toInt < (I 31 7).toInt) := hw
  obtain ⟨⟨w1, w2, w3, w4⟩, ⟨w5, w6⟩, ⟨w7, w8⟩, ⟨w9, w10⟩, ⟨w11, w12⟩, ⟨w13, w14⟩, ⟨w15, w16⟩, ⟨w17, w18⟩, ⟨w19, w20⟩, ⟨w21, w22⟩⟩ := hw0
  refine fc_Ci.of ⟨rfl, rfl⟩ (Nat.le_of_ble_eq_true rfl) rfl ?_
  refine ft_iload_n dX10_end_0 rfl ?_
  refine ft_iconst (v := 1) dX10_end_1 rfl ?_
  refine ft_bipush (v := 60) dX10_end_2 rfl ?_
  refine ft_S3p cf_X10_86 (c_isOutside _ _ _) (Nat.le_of_ble_eq_true rfl) dX10_end_4 ?_
  refine ft_bnz (tgt := 21) dX10_end_7 (by decide) (fun h_7 => ?_) (fun h_7 => ?_)
  · refine ft_bipush (v := (-2)) dX10_end_21 rfl ?_
    exact ft_reti dX10_end_23 rfl rfl (by
    refine ⟨rfl, ?_, ?_, (by intro c hc; first | rfl | (repeat rw [fc_wI_ne (by omega)]))⟩
    all_goals unfold op_end
    all_goals simp only [ax0_0, ax0_1, ax0_2, ax0_3, ax0_4, ax0_5, ax0_6, ax0_7, ax0_8, ax0_9, ax0_10, ax0_11, ax_1, ax_2, ax_3, ax_4, ax_5, ax_6, ax_7, ax_8, ax_9, ax_10, ax_11, ax_12, ax_13, ax_14, ax_15, ax_16, ax_17, ax_18, ax_19, ax_20, ax_21, ax_22, ax_23, ax_24, ax_25, ax_26, ax_27, ax_28]
    all_goals repeat' split
    all_goals first | (exfalso; omega) | rfl | (simp only [bw_2, bw_3, bw_5, bw_6, bw_7, bw_8, bw_9, bw_11, bw_12, bw_13, bw_14, bw_16, bw_25, bw_26, bw_27, bw_28, bw_29, bw_30, bw_68, bw_46, bw_47, bw_48, bw_49, bw_50, bw_51, bw_52, bw_53, bw0_0, bw0_1, bw0_2, bw0_3, bw0_4, bw0_5, bw0_6, bw0_7, bw0_10, bw0_11, bs_42, bs_43, bs_44, bs_54, bs_55, bs_56, bs_57, bs_67, bs_69]; done) | (simp only [bw_2, bw_3, bw_5, bw_6, bw_7, bw_8, bw_9, bw_11, bw_12, bw_13, bw_14, bw_16, bw_25, bw_26, bw_27, bw_28, bw_29, bw_30, bw_68, bw_46, bw_47, bw_48, bw_49, bw_50, bw_51, bw_52, bw_53, bw0_0, bw0_1, bw0_2, bw0_3, bw0_4, bw0_5, bw0_6, bw0_7, bw0_10, bw0_11, bs_42, bs_43, bs_44, bs_54, bs_55, bs_56, bs_57, bs_67, bs_69]; rfl))
  · refine ft_iload_n dX10_end_10 rfl ?_
    refine ft_aload_n dX10_end_11 rfl ?_
    refine ft_getR fl_X10_57 rfl sh_0 (by decide) pt_0_5 dX10_end_12 ?_
    refine ft_getI fl_X10_91 rfl sh_45 (by decide) dX10_end_15 ?_
    refine fj_icmp_ge (tgt := 24) dX10_end_18 (by decide) (fun h_18 => ?_) (fun h_18 => ?_)
    · refine ft_aload_n dX10_end_24 rfl ?_
      refine ft_getR fl_X10_33 rfl sh_0 (by decide) pt_0_3 dX10_end_25 ?_
      refine ft_getI fl_X10_181 rfl sh_15 (by decide) dX10_end_28 ?_
      refine ft_istore_n dX10_end_31 (by decide) ?_
      refine ft_aload_n dX10_end_32 rfl ?_
      refine ft_getR fl_X10_33 rfl sh_0 (by decide) pt_0_3 dX10_end_33 ?_
      refine ft_iload_n dX10_end_36 rfl ?_
      refine ft_putI fl_X10_181 rfl (fun q h => by cases h; rfl) sh_15 (by decide) dX10_end_37 ?_
      refine ft_iload_n dX10_end_40 rfl ?_
      exact ft_reti dX10_end_41 rfl rfl (by
    refine ⟨rfl, ?_, ?_, (by intro c hc; first | rfl | (repeat rw [fc_wI_ne (by omega)]))⟩
    all_goals unfold op_end
    all_goals simp only [ax0_0, ax0_1, ax0_2, ax0_3, ax0_4, ax0_5, ax0_6, ax0_7, ax0_8, ax0_9, ax0_10, ax0_11, ax_1, ax_2, ax_3, ax_4, ax_5, ax_6, ax_7, ax_8, ax_9, ax_10, ax_11, ax_12, ax_13, ax_14, ax_15, ax_16, ax_17, ax_18, ax_19, ax_20, ax_21, ax_22, ax_23, ax_24, ax_25, ax_26, ax_27, ax_28]
    all_goals repeat' split
    all_goals first | (exfalso; omega) | rfl | (simp only [bw_2, bw_3, bw_5, bw_6, bw_7, bw_8, bw_9, bw_11, bw_12, bw_13, bw_14, bw_16, bw_25, bw_26, bw_27, bw_28, bw_29, bw_30, bw_68, bw_46, bw_47, bw_48, bw_49, bw_50, bw_51, bw_52, bw_53, bw0_0, bw0_1, bw0_2, bw0_3, bw0_4, bw0_5, bw0_6, bw0_7, bw0_10, bw0_11, bs_42, bs_43, bs_44, bs_54, bs_55, bs_56, bs_57, bs_67, bs_69]; done) | (simp only [bw_2, bw_3, bw_5, bw_6, bw_7, bw_8, bw_9, bw_11, bw_12, bw_13, bw_14, bw_16, bw_25, bw_26, bw_27, bw_28, bw_29, bw_30, bw_68, bw_46, bw_47, bw_48, bw_49, bw_50, bw_51, bw_52, bw_53, bw0_0, bw0_1, bw0_2, bw0_3, bw0_4, bw0_5, bw0_6, bw0_7, bw0_10, bw0_11, bs_42, bs_43, bs_44, bs_54, bs_55, bs_56, bs_57, bs_67, bs_69]; rfl))
    · refine ft_bipush (v := (-2)) dX10_end_21 rfl ?_
      exact ft_reti dX10_end_23 rfl rfl (by
    refine ⟨rfl, ?_, ?_, (by intro c hc; first | rfl | (repeat rw [fc_wI_ne (by omega)]))⟩
    all_goals unfold op_end
    all_goals simp only [ax0_0, ax0_1, ax0_2, ax0_3, ax0_4, ax0_5, ax0_6, ax0_7, ax0_8, ax0_9, ax0_10, ax0_11, ax_1, ax_2, ax_3, ax_4, ax_5, ax_6, ax_7, ax_8, ax_9, ax_10, ax_11, ax_12, ax_13, ax_14, ax_15, ax_16, ax_17, ax_18, ax_19, ax_20, ax_21, ax_22, ax_23, ax_24, ax_25, ax_26, ax_27, ax_28]
    all_goals repeat' split
    all_goals first | (exfalso; omega) | rfl | (simp only [bw_2, bw_3, bw_5, bw_6, bw_7, bw_8, bw_9, bw_11, bw_12, bw_13, bw_14, bw_16, bw_25, bw_26, bw_27, bw_28, bw_29, bw_30, bw_68, bw_46, bw_47, bw_48, bw_49, bw_50, bw_51, bw_52, bw_53, bw0_0, bw0_1, bw0_2, bw0_3, bw0_4, bw0_5, bw0_6, bw0_7, bw0_10, bw0_11, bs_42, bs_43, bs_44, bs_54, bs_55, bs_56, bs_57, bs_67, bs_69]; done) | (simp only [bw_2, bw_3, bw_5, bw_6, bw_7, bw_8, bw_9, bw_11, bw_12, bw_13, bw_14, bw_16, bw_25, bw_26, bw_27, bw_28, bw_29, bw_30, bw_68, bw_46, bw_47, bw_48, bw_49, bw_50, bw_51, bw_52, bw_53, bw0_0, bw0_1, bw0_2, bw0_3, bw0_4, bw0_5, bw0_6, bw0_7, bw0_10, bw0_11, bs_42, bs_43, bs_44, bs_54, bs_55, bs_56, bs_57, bs_67, bs_69]; rfl))
set_option maxHeartbeats 4000000 in
set_option maxRecDepth 100000 in
theorem x_truth {d : Nat} {v : Nat} {I : fc_I} (t : Int32) (hw : Wf0 (aX 45 I)) : fc_Ci X10_truth (d + 2) [.ref 0, .int t] fc_SH I (fc_PT v) (xQ v I (op_truth (aX 45 I) t)) := by
  have km2 : (-2 : Int32).toInt = -2 := rfl
  have hw0 : (0 ≤ (I 45 9).toInt ∧ (I 45 9).toInt ≤ (I 15 11).toInt ∧ 1 ≤ (I 15 11).toInt ∧ (I 15 11).toInt ≤ 60) ∧ (0 ≤ (I 1 2).toInt ∧ (I 1 2).toInt ≤ 6) ∧ (0 ≤ (I 1 3).toInt ∧ (I 1 3).toInt ≤ 3) ∧ (0 ≤ (I 4 5).toInt ∧ (I 4 5).toInt ≤ 14) ∧ (0 ≤ (I 10 4).toInt ∧ (I 10 4).toInt ≤ 4) ∧ (0 ≤ (I 15 10).toInt ∧ (I 15 10).toInt ≤ 2) ∧ (0 ≤ (I 15 9).toInt ∧ (I 15 9).toInt ≤ 40) ∧ (0 ≤ (I 31 6).toInt ∧ (I 31 6).toInt ≤ 160) ∧ (1 ≤ (I 31 7).toInt ∧ (I 31 7).toInt ≤ 6) ∧ (0 ≤ (I 31 8).toInt ∧ (I 31 8).toInt < (I 31 7).toInt) := hw
  obtain ⟨⟨w1, w2, w3, w4⟩, ⟨w5, w6⟩, ⟨w7, w8⟩, ⟨w9, w10⟩, ⟨w11, w12⟩, ⟨w13, w14⟩, ⟨w15, w16⟩, ⟨w17, w18⟩, ⟨w19, w20⟩, ⟨w21, w22⟩⟩ := hw0
  refine fc_Ci.of ⟨rfl, rfl⟩ (Nat.le_of_ble_eq_true rfl) rfl ?_
  refine ft_iload_n dX10_truth_0 rfl ?_
  refine ft_S1p cf_X10_184 (c_isNoTrack _) (Nat.le_of_ble_eq_true rfl) dX10_truth_1 ?_
  refine ft_bz (tgt := 10) dX10_truth_4 (by decide) (fun h_4 => ?_) (fun h_4 => ?_)
  · refine ft_aload_n dX10_truth_10 rfl ?_
    refine ft_getR fl_X10_33 rfl sh_0 (by decide) pt_0_3 dX10_truth_11 ?_
    refine ft_getI fl_X10_153 rfl sh_15 (by decide) dX10_truth_14 ?_
    refine ft_istore_n dX10_truth_17 (by decide) ?_
    refine ft_aload_n dX10_truth_18 rfl ?_
    refine ft_getR fl_X10_33 rfl sh_0 (by decide) pt_0_3 dX10_truth_19 ?_
    refine ft_iload_n dX10_truth_22 rfl ?_
    refine ft_putI fl_X10_153 rfl (fun q h => by cases h; rfl) sh_15 (by decide) dX10_truth_23 ?_
    refine ft_iload_n dX10_truth_26 rfl ?_
    exact ft_reti dX10_truth_27 rfl rfl (by
    refine ⟨rfl, ?_, ?_, (by intro c hc; first | rfl | (repeat rw [fc_wI_ne (by omega)]))⟩
    all_goals unfold op_truth
    all_goals simp only [ax0_0, ax0_1, ax0_2, ax0_3, ax0_4, ax0_5, ax0_6, ax0_7, ax0_8, ax0_9, ax0_10, ax0_11, ax_1, ax_2, ax_3, ax_4, ax_5, ax_6, ax_7, ax_8, ax_9, ax_10, ax_11, ax_12, ax_13, ax_14, ax_15, ax_16, ax_17, ax_18, ax_19, ax_20, ax_21, ax_22, ax_23, ax_24, ax_25, ax_26, ax_27, ax_28]
    all_goals repeat' split
    all_goals first | (exfalso; omega) | rfl | (simp only [bw_2, bw_3, bw_5, bw_6, bw_7, bw_8, bw_9, bw_11, bw_12, bw_13, bw_14, bw_16, bw_25, bw_26, bw_27, bw_28, bw_29, bw_30, bw_68, bw_46, bw_47, bw_48, bw_49, bw_50, bw_51, bw_52, bw_53, bw0_0, bw0_1, bw0_2, bw0_3, bw0_4, bw0_5, bw0_6, bw0_7, bw0_10, bw0_11, bs_42, bs_43, bs_44, bs_54, bs_55, bs_56, bs_57, bs_67, bs_69]; done) | (simp only [bw_2, bw_3, bw_5, bw_6, bw_7, bw_8, bw_9, bw_11, bw_12, bw_13, bw_14, bw_16, bw_25, bw_26, bw_27, bw_28, bw_29, bw_30, bw_68, bw_46, bw_47, bw_48, bw_49, bw_50, bw_51, bw_52, bw_53, bw0_0, bw0_1, bw0_2, bw0_3, bw0_4, bw0_5, bw0_6, bw0_7, bw0_10, bw0_11, bs_42, bs_43, bs_44, bs_54, bs_55, bs_56, bs_57, bs_67, bs_69]; rfl))
  · refine ft_bipush (v := (-2)) dX10_truth_7 rfl ?_
    exact ft_reti dX10_truth_9 rfl rfl (by
    refine ⟨rfl, ?_, ?_, (by intro c hc; first | rfl | (repeat rw [fc_wI_ne (by omega)]))⟩
    all_goals unfold op_truth
    all_goals simp only [ax0_0, ax0_1, ax0_2, ax0_3, ax0_4, ax0_5, ax0_6, ax0_7, ax0_8, ax0_9, ax0_10, ax0_11, ax_1, ax_2, ax_3, ax_4, ax_5, ax_6, ax_7, ax_8, ax_9, ax_10, ax_11, ax_12, ax_13, ax_14, ax_15, ax_16, ax_17, ax_18, ax_19, ax_20, ax_21, ax_22, ax_23, ax_24, ax_25, ax_26, ax_27, ax_28]
    all_goals repeat' split
    all_goals first | (exfalso; omega) | rfl | (simp only [bw_2, bw_3, bw_5, bw_6, bw_7, bw_8, bw_9, bw_11, bw_12, bw_13, bw_14, bw_16, bw_25, bw_26, bw_27, bw_28, bw_29, bw_30, bw_68, bw_46, bw_47, bw_48, bw_49, bw_50, bw_51, bw_52, bw_53, bw0_0, bw0_1, bw0_2, bw0_3, bw0_4, bw0_5, bw0_6, bw0_7, bw0_10, bw0_11, bs_42, bs_43, bs_44, bs_54, bs_55, bs_56, bs_57, bs_67, bs_69]; done) | (simp only [bw_2, bw_3, bw_5, bw_6, bw_7, bw_8, bw_9, bw_11, bw_12, bw_13, bw_14, bw_16, bw_25, bw_26, bw_27, bw_28, bw_29, bw_30, bw_68, bw_46, bw_47, bw_48, bw_49, bw_50, bw_51, bw_52, bw_53, bw0_0, bw0_1, bw0_2, bw0_3, bw0_4, bw0_5, bw0_6, bw0_7, bw0_10, bw0_11, bs_42, bs_43, bs_44, bs_54, bs_55, bs_56, bs_57, bs_67, bs_69]; rfl))
