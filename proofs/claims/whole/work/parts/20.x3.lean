def f_X10_best_33_B (x1 : Int32) (k33 : Int32 → fc_I → Option (Int64 × fc_I)) (x2 : Int32) (I : fc_I) : Option (Int64 × fc_I) :=
if x2.toInt < (I 1 2).toInt then (
if ((x1 >>> (x2 &&& 31)) &&& 1).toInt = (1 : Int32).toInt then (
fq_g 6 x2 (
if (I 49 (cn x2)).toInt = ((-1) : Int32).toInt then (
fq_l (x2 + 1) fun y70 =>
k33 y70 I)
else (
some ((-4611686018427387904), I))))
else (
fq_l (x2 + 1) fun y70 =>
k33 y70 I))
else (
fq_b (f_X3_search I x1) fun r81 I81 =>
some (r81, I81))
def f_X10_best_33 (x1 : Int32) (n : Nat) : Int32 → fc_I → Option (Int64 × fc_I) := lpm1 (f_X10_best_33_B x1 ) n
def f_X10_best (I : fc_I) (x1 : Int32) : Option (Int64 × fc_I) :=
fq_v (f_X10_isOutside x1 0 (((1 : Int32) <<< ((I 1 2) &&& 31)) - 1)) fun r13 =>
if r13.toInt = 0 then (
fq_v (f_J6_bitCount_0f7a4 x1) fun r20 =>
if (4 : Int32).toInt < r20.toInt then (
some ((-4611686018427387904), I))
else (
f_X10_best_33 x1 4000 0 I))
else (
some ((-4611686018427387904), I))
set_option maxHeartbeats 4000000 in
set_option maxRecDepth 100000 in
theorem t_X10_best_33 {d : Nat} {v : Nat} {r : Int64} {J : fc_I} {x1 : Int32} (hv : fc_v v) : ∀ (n : Nat) (x2 : Int32) (I : fc_I) , f_X10_best_33 x1 n x2 I = some (r, J) → fc_T X10_best (d + 7) 0 0 33 [some (.ref 0), some (.int x1), some (.int x2)] [] fc_SH I (fc_PT v) (fc_Ql fc_SH (fun r' I' P' => r' = r ∧ I' = J ∧ P' = (fc_PT v))) := by
  unfold f_X10_best_33
  refine lpm1_T (fun k33 hk33 x2 I hf => ?_)
  unfold f_X10_best_33_B at hf
  refine ft_iload_n dX10_best_33 rfl ?_
  refine ft_aload_n dX10_best_34 rfl ?_
  refine ft_getR fl_X10_10 rfl (sh_0) (by decide) pt_0_0 dX10_best_35 ?_
  refine ft_getI fl_X10_95 rfl (sh_1) (by decide) dX10_best_38 ?_
  refine fk_icmp_ge (tgt := 76) dX10_best_41 (by decide) hf (fun hf => ?_) (fun hf => ?_)
  · refine ft_aload_n dX10_best_76 rfl ?_
    refine ft_getR fl_X10_75 rfl (sh_0) (by decide) pt_0_7 dX10_best_77 ?_
    refine ft_iload_n dX10_best_80 rfl ?_
    obtain ⟨r81, I81, hc81, hf⟩ := fq_bs hf
    refine ft_V1l cf_X10_248 (sh_57) (t_X3_search hv hc81) (Nat.le_of_ble_eq_true rfl) dX10_best_81 (fun r' J P' q => ?_)
    obtain ⟨rfl, rfl, rfl⟩ := q
    exact fk_retl hf dX10_best_84 rfl
  · refine ft_iload_n dX10_best_44 rfl ?_
    refine ft_iload_n dX10_best_45 rfl ?_
    refine ft_ishr dX10_best_46 ?_
    refine ft_iconst (v := 1) dX10_best_47 rfl ?_
    refine ft_iand dX10_best_48 ?_
    refine ft_iconst (v := 1) dX10_best_49 rfl ?_
    refine fk_icmp_ne (tgt := 70) dX10_best_50 (by decide) hf (fun hf => ?_) (fun hf => ?_)
    · refine fk_iinc (c := 1) dX10_best_70 rfl (by decide) rfl ?_
      refine ft_goto (tgt := 33) dX10_best_73 (by decide) ?_
      exact ft_forget (by simp [fc_le, fc_st1, fc_st2, fc_kill]) (hk33 _ _ hf)
    · refine ft_aload_n dX10_best_53 rfl ?_
      refine ft_getR fl_X10_57 rfl (sh_0) (by decide) pt_0_5 dX10_best_54 ?_
      refine ft_getR fl_X10_150 rfl (sh_45) (by decide) pt_45_3 dX10_best_57 ?_
      refine ft_iload_n dX10_best_60 rfl ?_
      refine fk_iald (sh_49) hf dX10_best_61 (fun hf => ?_)
      refine ft_iconst (v := (-1)) dX10_best_62 rfl ?_
      refine fk_icmp_eq (tgt := 70) dX10_best_63 (by decide) hf (fun hf => ?_) (fun hf => ?_)
      · refine fk_iinc (c := 1) dX10_best_70 rfl (by decide) rfl ?_
        refine ft_goto (tgt := 33) dX10_best_73 (by decide) ?_
        exact ft_forget (by simp [fc_le, fc_st1, fc_st2, fc_kill]) (hk33 _ _ hf)
      · refine ft_ldc2 dX10_best_66 kc_X10_209 ?_
        exact fk_retl hf dX10_best_69 rfl
set_option maxHeartbeats 4000000 in
set_option maxRecDepth 100000 in
theorem t_X10_best {d : Nat} {v : Nat} {r : Int64} {J : fc_I} {I : fc_I} {x1 : Int32} (hv : fc_v v) (hf : f_X10_best I x1 = some (r, J)) : fc_Cl X10_best (d + 7) [.ref 0, .int x1] fc_SH I (fc_PT v) (fun r' I' P' => r' = r ∧ I' = J ∧ P' = (fc_PT v)) := by
  unfold f_X10_best at hf
  refine fc_Cl.of (ls := [some (.ref 0), some (.int x1), none]) ⟨rfl, rfl⟩ (Nat.le_of_ble_eq_true rfl) rfl ?_
  refine ft_iload_n dX10_best_0 rfl ?_
  refine ft_iconst (v := 0) dX10_best_1 rfl ?_
  refine ft_iconst (v := 1) dX10_best_2 rfl ?_
  refine ft_aload_n dX10_best_3 rfl ?_
  refine ft_getR fl_X10_10 rfl (sh_0) (by decide) pt_0_0 dX10_best_4 ?_
  refine ft_getI fl_X10_95 rfl (sh_1) (by decide) dX10_best_7 ?_
  refine ft_ishl dX10_best_10 ?_
  refine ft_iconst (v := 1) dX10_best_11 rfl ?_
  refine ft_isub dX10_best_12 ?_
  obtain ⟨r13, hc13, hf⟩ := fq_vs hf
  refine ft_S3p cf_X10_86 (t_X10_isOutside hc13) (Nat.le_of_ble_eq_true rfl) dX10_best_13 ?_
  refine fk_if_ne (tgt := 27) dX10_best_16 (by decide) hf (fun hf => ?_) (fun hf => ?_)
  · refine ft_ldc2 dX10_best_27 kc_X10_209 ?_
    exact fk_retl hf dX10_best_30 rfl
  · refine ft_iload_n dX10_best_19 rfl ?_
    obtain ⟨r20, hc20, hf⟩ := fq_vs hf
    refine ft_S1p cf_X10_243 (t_J6_bitCount_0f7a4 hc20) (Nat.le_of_ble_eq_true rfl) dX10_best_20 ?_
    refine ft_iconst (v := 4) dX10_best_23 rfl ?_
    refine fk_icmp_le (tgt := 31) dX10_best_24 (by decide) hf (fun hf => ?_) (fun hf => ?_)
    · refine ft_iconst (v := 0) dX10_best_31 rfl ?_
      refine ft_istore_n dX10_best_32 (by decide) ?_
      exact ft_forget (by simp [fc_le, fc_st1, fc_st2, fc_kill]) (t_X10_best_33 hv  _ _ _ hf)
    · refine ft_ldc2 dX10_best_27 kc_X10_209 ?_
      exact fk_retl hf dX10_best_30 rfl
def f_X10_isNoZone (I : fc_I) (x1 : Int32) : Option Int32 :=
fq_v (f_X10_isOutside x1 0 ((I 1 2) - 1)) fun r11 =>
fq_z r11 (some r11)
set_option maxHeartbeats 4000000 in
set_option maxRecDepth 100000 in
theorem t_X10_isNoZone {d : Nat} {v : Nat} {r : Int32} {I : fc_I} {x1 : Int32} (hf : f_X10_isNoZone I x1 = some r) : fc_Cp X10_isNoZone (d + 1) [.ref 0, .int x1] fc_SH I (fc_PT v) r := by
  unfold f_X10_isNoZone at hf
  refine fc_Cp.of (ls := [some (.ref 0), some (.int x1)]) ⟨rfl, rfl⟩ (Nat.le_of_ble_eq_true rfl) rfl ?_
  refine ft_iload_n dX10_isNoZone_0 rfl ?_
  refine ft_iconst (v := 0) dX10_isNoZone_1 rfl ?_
  refine ft_aload_n dX10_isNoZone_2 rfl ?_
  refine ft_getR fl_X10_10 rfl (sh_0) (by decide) pt_0_0 dX10_isNoZone_3 ?_
  refine ft_getI fl_X10_95 rfl (sh_1) (by decide) dX10_isNoZone_6 ?_
  refine ft_iconst (v := 1) dX10_isNoZone_9 rfl ?_
  refine ft_isub dX10_isNoZone_10 ?_
  obtain ⟨r11, hc11, hf⟩ := fq_vs hf
  refine ft_S3p cf_X10_86 (t_X10_isOutside hc11) (Nat.le_of_ble_eq_true rfl) dX10_isNoZone_11 ?_
  obtain ⟨hz, hf⟩ := fq_zs hf
  exact fk_retp hf dX10_isNoZone_14 rfl (fq_nz hz)
def f_X10_bestCall (I : fc_I) (x1 : Int32) : Option Int32 :=
fq_v (f_X10_isNoZone I x1) fun r2 =>
if r2.toInt = 0 then (
fq_g 6 x1 (
some (I 68 (cn x1))))
else (
some (-1))
set_option maxHeartbeats 4000000 in
set_option maxRecDepth 100000 in
theorem t_X10_bestCall {d : Nat} {v : Nat} {r : Int32} {I : fc_I} {x1 : Int32} (hf : f_X10_bestCall I x1 = some r) : fc_Cp X10_bestCall (d + 2) [.ref 0, .int x1] fc_SH I (fc_PT v) r := by
  unfold f_X10_bestCall at hf
  refine fc_Cp.of (ls := [some (.ref 0), some (.int x1)]) ⟨rfl, rfl⟩ (Nat.le_of_ble_eq_true rfl) rfl ?_
  refine ft_aload_n dX10_bestCall_0 rfl ?_
  refine ft_iload_n dX10_bestCall_1 rfl ?_
  obtain ⟨r2, hc2, hf⟩ := fq_vs hf
  refine ft_V1p cf_X10_114 (sh_0) (t_X10_isNoZone hc2) (Nat.le_of_ble_eq_true rfl) dX10_bestCall_2 ?_
  refine fk_if_eq (tgt := 12) dX10_bestCall_5 (by decide) hf (fun hf => ?_) (fun hf => ?_)
  · refine ft_aload_n dX10_bestCall_12 rfl ?_
    refine ft_getR fl_X10_75 rfl (sh_0) (by decide) pt_0_7 dX10_bestCall_13 ?_
    refine ft_getR fl_X10_252 rfl (sh_57) (by decide) pt_57_6 dX10_bestCall_16 ?_
    refine ft_iload_n dX10_bestCall_19 rfl ?_
    refine fk_iald (sh_68) hf dX10_bestCall_20 (fun hf => ?_)
    exact fk_retp hf dX10_bestCall_21 rfl rfl
  · refine ft_iconst (v := (-1)) dX10_bestCall_8 rfl ?_
    refine ft_goto (tgt := 21) dX10_bestCall_9 (by decide) ?_
    exact fk_retp hf dX10_bestCall_21 rfl rfl
def f_X10_isNoShelter (I : fc_I) (x1 : Int32) : Option Int32 :=
fq_v (f_X10_isOutside x1 0 ((I 1 3) - 1)) fun r11 =>
fq_z r11 (some r11)
set_option maxHeartbeats 4000000 in
set_option maxRecDepth 100000 in
theorem t_X10_isNoShelter {d : Nat} {v : Nat} {r : Int32} {I : fc_I} {x1 : Int32} (hf : f_X10_isNoShelter I x1 = some r) : fc_Cp X10_isNoShelter (d + 1) [.ref 0, .int x1] fc_SH I (fc_PT v) r := by
  unfold f_X10_isNoShelter at hf
  refine fc_Cp.of (ls := [some (.ref 0), some (.int x1)]) ⟨rfl, rfl⟩ (Nat.le_of_ble_eq_true rfl) rfl ?_
  refine ft_iload_n dX10_isNoShelter_0 rfl ?_
  refine ft_iconst (v := 0) dX10_isNoShelter_1 rfl ?_
  refine ft_aload_n dX10_isNoShelter_2 rfl ?_
  refine ft_getR fl_X10_10 rfl (sh_0) (by decide) pt_0_0 dX10_isNoShelter_3 ?_
  refine ft_getI fl_X10_108 rfl (sh_1) (by decide) dX10_isNoShelter_6 ?_
  refine ft_iconst (v := 1) dX10_isNoShelter_9 rfl ?_
  refine ft_isub dX10_isNoShelter_10 ?_
  obtain ⟨r11, hc11, hf⟩ := fq_vs hf
  refine ft_S3p cf_X10_86 (t_X10_isOutside hc11) (Nat.le_of_ble_eq_true rfl) dX10_isNoShelter_11 ?_
  obtain ⟨hz, hf⟩ := fq_zs hf
  exact fk_retp hf dX10_isNoShelter_14 rfl (fq_nz hz)
def f_X10_bus (I : fc_I) (x1 : Int32) (x2 : Int32) (x3 : Int32) (x4 : Int32) : Option (Int32 × fc_I) :=
fq_v (f_X10_isNoZone I x1) fun r2 =>
if r2.toInt = 0 then (
fq_v (f_X10_isNoShelter I x2) fun r10 =>
if r10.toInt = 0 then (
fq_v (f_X10_isOutside x3 1 99) fun r20 =>
if r20.toInt = 0 then (
fq_v (f_X10_isOutside x4 1 9) fun r31 =>
if r31.toInt = 0 then (
if (I 10 4).toInt < (4 : Int32).toInt then (
fq_b (f_X1_hire I x1 x2 x3 x4) fun r63 I63 =>
some (r63, I63))
else (
some ((-4), I)))
else (
some ((-2), I)))
else (
some ((-2), I)))
else (
some ((-2), I)))
else (
some ((-2), I))
set_option maxHeartbeats 4000000 in
set_option maxRecDepth 100000 in
theorem t_X10_bus {d : Nat} {v : Nat} {r : Int32} {J : fc_I} {I : fc_I} {x1 : Int32} {x2 : Int32} {x3 : Int32} {x4 : Int32} (hf : f_X10_bus I x1 x2 x3 x4 = some (r, J)) : fc_Ci X10_bus (d + 2) [.ref 0, .int x1, .int x2, .int x3, .int x4] fc_SH I (fc_PT v) (fun r' I' P' => r' = r ∧ I' = J ∧ P' = (fc_PT v)) := by
  unfold f_X10_bus at hf
  refine fc_Ci.of (ls := [some (.ref 0), some (.int x1), some (.int x2), some (.int x3), some (.int x4)]) ⟨rfl, rfl⟩ (Nat.le_of_ble_eq_true rfl) rfl ?_
  refine ft_aload_n dX10_bus_0 rfl ?_
  refine ft_iload_n dX10_bus_1 rfl ?_
  obtain ⟨r2, hc2, hf⟩ := fq_vs hf
  refine ft_V1p cf_X10_114 (sh_0) (t_X10_isNoZone hc2) (Nat.le_of_ble_eq_true rfl) dX10_bus_2 ?_
  refine fk_if_ne (tgt := 37) dX10_bus_5 (by decide) hf (fun hf => ?_) (fun hf => ?_)
  · refine ft_bipush (v := (-2)) dX10_bus_37 rfl ?_
    exact fk_reti hf dX10_bus_39 rfl rfl
  · refine ft_aload_n dX10_bus_8 rfl ?_
    refine ft_iload_n dX10_bus_9 rfl ?_
    obtain ⟨r10, hc10, hf⟩ := fq_vs hf
    refine ft_V1p cf_X10_140 (sh_0) (t_X10_isNoShelter hc10) (Nat.le_of_ble_eq_true rfl) dX10_bus_10 ?_
    refine fk_if_ne (tgt := 37) dX10_bus_13 (by decide) hf (fun hf => ?_) (fun hf => ?_)
    · refine ft_bipush (v := (-2)) dX10_bus_37 rfl ?_
      exact fk_reti hf dX10_bus_39 rfl rfl
    · refine ft_iload_n dX10_bus_16 rfl ?_
      refine ft_iconst (v := 1) dX10_bus_17 rfl ?_
      refine ft_bipush (v := 99) dX10_bus_18 rfl ?_
      obtain ⟨r20, hc20, hf⟩ := fq_vs hf
      refine ft_S3p cf_X10_86 (t_X10_isOutside hc20) (Nat.le_of_ble_eq_true rfl) dX10_bus_20 ?_
      refine fk_if_ne (tgt := 37) dX10_bus_23 (by decide) hf (fun hf => ?_) (fun hf => ?_)
      · refine ft_bipush (v := (-2)) dX10_bus_37 rfl ?_
        exact fk_reti hf dX10_bus_39 rfl rfl
      · refine ft_iload dX10_bus_26 rfl ?_
        refine ft_iconst (v := 1) dX10_bus_28 rfl ?_
        refine ft_bipush (v := 9) dX10_bus_29 rfl ?_
        obtain ⟨r31, hc31, hf⟩ := fq_vs hf
        refine ft_S3p cf_X10_86 (t_X10_isOutside hc31) (Nat.le_of_ble_eq_true rfl) dX10_bus_31 ?_
        refine fk_if_eq (tgt := 40) dX10_bus_34 (by decide) hf (fun hf => ?_) (fun hf => ?_)
        · refine ft_aload_n dX10_bus_40 rfl ?_
          refine ft_getR fl_X10_26 rfl (sh_0) (by decide) pt_0_2 dX10_bus_41 ?_
          refine ft_getI fl_X10_143 rfl (sh_10) (by decide) dX10_bus_44 ?_
          refine ft_iconst (v := 4) dX10_bus_47 rfl ?_
          refine fk_icmp_lt (tgt := 54) dX10_bus_48 (by decide) hf (fun hf => ?_) (fun hf => ?_)
          · refine ft_aload_n dX10_bus_54 rfl ?_
            refine ft_getR fl_X10_26 rfl (sh_0) (by decide) pt_0_2 dX10_bus_55 ?_
            refine ft_iload_n dX10_bus_58 rfl ?_
            refine ft_iload_n dX10_bus_59 rfl ?_
            refine ft_iload_n dX10_bus_60 rfl ?_
            refine ft_iload dX10_bus_61 rfl ?_
            obtain ⟨r63, I63, hc63, hf⟩ := fq_bs hf
            refine ft_V4i cf_X10_144 (sh_10) (t_X1_hire hc63) (Nat.le_of_ble_eq_true rfl) dX10_bus_63 (fun r' J P' q => ?_)
            obtain ⟨rfl, rfl, rfl⟩ := q
            exact fk_reti hf dX10_bus_66 rfl rfl
          · refine ft_bipush (v := (-4)) dX10_bus_51 rfl ?_
            exact fk_reti hf dX10_bus_53 rfl rfl
        · refine ft_bipush (v := (-2)) dX10_bus_37 rfl ?_
          exact fk_reti hf dX10_bus_39 rfl rfl
def f_X10_busTold (I : fc_I) (x1 : Int32) (x2 : Int32) : Option Int32 :=
fq_v (f_X10_isOutside x1 0 ((I 10 4) - 1)) fun r11 =>
if r11.toInt = 0 then (
if x2.toInt = 0 then (
fq_g 4 x1 (
if (I 53 (cn x1)).toInt = ((-1) : Int32).toInt then (
some 1)
else (
some 0)))
else if x2.toInt = 1 then (
fq_g 4 x1 (
some (I 52 (cn x1))))
else if x2.toInt = 2 then (
fq_g 4 x1 (
some (I 53 (cn x1))))
else (
some (-2)))
else (
some (-2))
set_option maxHeartbeats 4000000 in
set_option maxRecDepth 100000 in
theorem t_X10_busTold {d : Nat} {v : Nat} {r : Int32} {I : fc_I} {x1 : Int32} {x2 : Int32} (hf : f_X10_busTold I x1 x2 = some r) : fc_Cp X10_busTold (d + 1) [.ref 0, .int x1, .int x2] fc_SH I (fc_PT v) r := by
  unfold f_X10_busTold at hf
  refine fc_Cp.of (ls := [some (.ref 0), some (.int x1), some (.int x2)]) ⟨rfl, rfl⟩ (Nat.le_of_ble_eq_true rfl) rfl ?_
  refine ft_iload_n dX10_busTold_0 rfl ?_
  refine ft_iconst (v := 0) dX10_busTold_1 rfl ?_
  refine ft_aload_n dX10_busTold_2 rfl ?_
  refine ft_getR fl_X10_26 rfl (sh_0) (by decide) pt_0_2 dX10_busTold_3 ?_
  refine ft_getI fl_X10_143 rfl (sh_10) (by decide) dX10_busTold_6 ?_
  refine ft_iconst (v := 1) dX10_busTold_9 rfl ?_
  refine ft_isub dX10_busTold_10 ?_
  obtain ⟨r11, hc11, hf⟩ := fq_vs hf
  refine ft_S3p cf_X10_86 (t_X10_isOutside hc11) (Nat.le_of_ble_eq_true rfl) dX10_busTold_11 ?_
  refine fk_if_eq (tgt := 20) dX10_busTold_14 (by decide) hf (fun hf => ?_) (fun hf => ?_)
  · refine ft_iload_n dX10_busTold_20 rfl ?_
    rcases fq_is hf with ⟨e_21_0, hf⟩ | ⟨e_21_0, hf⟩
    · refine ft_tsIn (tgt := 48) dX10_busTold_21 (by rw [e_21_0]; decide) (by rw [e_21_0]; decide) (by rw [e_21_0]; rfl) (by decide) ?_
      refine ft_aload_n dX10_busTold_48 rfl ?_
      refine ft_getR fl_X10_57 rfl (sh_0) (by decide) pt_0_5 dX10_busTold_49 ?_
      refine ft_getR fl_X10_175 rfl (sh_45) (by decide) pt_45_7 dX10_busTold_52 ?_
      refine ft_iload_n dX10_busTold_55 rfl ?_
      refine fk_iald (sh_53) hf dX10_busTold_56 (fun hf => ?_)
      refine ft_iconst (v := (-1)) dX10_busTold_57 rfl ?_
      refine fk_icmp_ne (tgt := 65) dX10_busTold_58 (by decide) hf (fun hf => ?_) (fun hf => ?_)
      · refine ft_iconst (v := 0) dX10_busTold_65 rfl ?_
        exact fk_retp hf dX10_busTold_66 rfl rfl
      · refine ft_iconst (v := 1) dX10_busTold_61 rfl ?_
        refine ft_goto (tgt := 66) dX10_busTold_62 (by decide) ?_
        exact fk_retp hf dX10_busTold_66 rfl rfl
    rcases fq_is hf with ⟨e_21_1, hf⟩ | ⟨e_21_1, hf⟩
    · refine ft_tsIn (tgt := 67) dX10_busTold_21 (by rw [e_21_1]; decide) (by rw [e_21_1]; decide) (by rw [e_21_1]; rfl) (by decide) ?_
      refine ft_aload_n dX10_busTold_67 rfl ?_
      refine ft_getR fl_X10_57 rfl (sh_0) (by decide) pt_0_5 dX10_busTold_68 ?_
      refine ft_getR fl_X10_178 rfl (sh_45) (by decide) pt_45_6 dX10_busTold_71 ?_
      refine ft_iload_n dX10_busTold_74 rfl ?_
      refine fk_iald (sh_52) hf dX10_busTold_75 (fun hf => ?_)
      exact fk_retp hf dX10_busTold_76 rfl rfl
    rcases fq_is hf with ⟨e_21_2, hf⟩ | ⟨e_21_2, hf⟩
    · refine ft_tsIn (tgt := 77) dX10_busTold_21 (by rw [e_21_2]; decide) (by rw [e_21_2]; decide) (by rw [e_21_2]; rfl) (by decide) ?_
      refine ft_aload_n dX10_busTold_77 rfl ?_
      refine ft_getR fl_X10_57 rfl (sh_0) (by decide) pt_0_5 dX10_busTold_78 ?_
      refine ft_getR fl_X10_175 rfl (sh_45) (by decide) pt_45_7 dX10_busTold_81 ?_
      refine ft_iload_n dX10_busTold_84 rfl ?_
      refine fk_iald (sh_53) hf dX10_busTold_85 (fun hf => ?_)
      exact fk_retp hf dX10_busTold_86 rfl rfl
    refine ft_tsOut (tgt := 87) dX10_busTold_21 (by omega) (by decide) ?_
    refine ft_bipush (v := (-2)) dX10_busTold_87 rfl ?_
    exact fk_retp hf dX10_busTold_89 rfl rfl
  · refine ft_bipush (v := (-2)) dX10_busTold_17 rfl ?_
    exact fk_retp hf dX10_busTold_19 rfl rfl
def f_X10_call (I : fc_I) (x1 : Int32) : Option (Int32 × fc_I) :=
fq_v (f_X10_isNoZone I x1) fun r2 =>
if r2.toInt = 0 then (
fq_g 6 x1 (
if (I 49 (cn x1)).toInt = ((-1) : Int32).toInt then (
if (I 45 9).toInt < (I 15 11).toInt then (
fq_g 6 x1 (fq_l (fc_wI I 49 (cn x1) (I 45 9)) fun I59 =>
some ((I59 45 9), I59)))
else (
some ((-3), I)))
else (
some ((-3), I))))
else (
some ((-2), I))
set_option maxHeartbeats 4000000 in
set_option maxRecDepth 100000 in
theorem t_X10_call {d : Nat} {v : Nat} {r : Int32} {J : fc_I} {I : fc_I} {x1 : Int32} (hf : f_X10_call I x1 = some (r, J)) : fc_Ci X10_call (d + 2) [.ref 0, .int x1] fc_SH I (fc_PT v) (fun r' I' P' => r' = r ∧ I' = J ∧ P' = (fc_PT v)) := by
  unfold f_X10_call at hf
  refine fc_Ci.of (ls := [some (.ref 0), some (.int x1)]) ⟨rfl, rfl⟩ (Nat.le_of_ble_eq_true rfl) rfl ?_
  refine ft_aload_n dX10_call_0 rfl ?_
  refine ft_iload_n dX10_call_1 rfl ?_
  obtain ⟨r2, hc2, hf⟩ := fq_vs hf
  refine ft_V1p cf_X10_114 (sh_0) (t_X10_isNoZone hc2) (Nat.le_of_ble_eq_true rfl) dX10_call_2 ?_
  refine fk_if_eq (tgt := 11) dX10_call_5 (by decide) hf (fun hf => ?_) (fun hf => ?_)
  · refine ft_aload_n dX10_call_11 rfl ?_
    refine ft_getR fl_X10_57 rfl (sh_0) (by decide) pt_0_5 dX10_call_12 ?_
    refine ft_getR fl_X10_150 rfl (sh_45) (by decide) pt_45_3 dX10_call_15 ?_
    refine ft_iload_n dX10_call_18 rfl ?_
    refine fk_iald (sh_49) hf dX10_call_19 (fun hf => ?_)
    refine ft_iconst (v := (-1)) dX10_call_20 rfl ?_
    refine fk_icmp_ne (tgt := 41) dX10_call_21 (by decide) hf (fun hf => ?_) (fun hf => ?_)
    · refine ft_bipush (v := (-3)) dX10_call_41 rfl ?_
      exact fk_reti hf dX10_call_43 rfl rfl
    · refine ft_aload_n dX10_call_24 rfl ?_
      refine ft_getR fl_X10_57 rfl (sh_0) (by decide) pt_0_5 dX10_call_25 ?_
      refine ft_getI fl_X10_91 rfl (sh_45) (by decide) dX10_call_28 ?_
      refine ft_aload_n dX10_call_31 rfl ?_
      refine ft_getR fl_X10_33 rfl (sh_0) (by decide) pt_0_3 dX10_call_32 ?_
      refine ft_getI fl_X10_181 rfl (sh_15) (by decide) dX10_call_35 ?_
      refine fk_icmp_lt (tgt := 44) dX10_call_38 (by decide) hf (fun hf => ?_) (fun hf => ?_)
      · refine ft_aload_n dX10_call_44 rfl ?_
        refine ft_getR fl_X10_57 rfl (sh_0) (by decide) pt_0_5 dX10_call_45 ?_
        refine ft_getR fl_X10_150 rfl (sh_45) (by decide) pt_45_3 dX10_call_48 ?_
        refine ft_iload_n dX10_call_51 rfl ?_
        refine ft_aload_n dX10_call_52 rfl ?_
        refine ft_getR fl_X10_57 rfl (sh_0) (by decide) pt_0_5 dX10_call_53 ?_
        refine ft_getI fl_X10_91 rfl (sh_45) (by decide) dX10_call_56 ?_
        refine fk_iast (sh_49) hf dX10_call_59 (fun hf => ?_)
        refine ft_aload_n dX10_call_60 rfl ?_
        refine ft_getR fl_X10_57 rfl (sh_0) (by decide) pt_0_5 dX10_call_61 ?_
        refine ft_getI fl_X10_91 rfl (sh_45) (by decide) dX10_call_64 ?_
        exact fk_reti hf dX10_call_67 rfl rfl
      · refine ft_bipush (v := (-3)) dX10_call_41 rfl ?_
        exact fk_reti hf dX10_call_43 rfl rfl
  · refine ft_bipush (v := (-2)) dX10_call_8 rfl ?_
    exact fk_reti hf dX10_call_10 rfl rfl
def f_X10_isNoSheet (x0 : Int32) : Option Int32 :=
fq_v (f_X10_isOutside x0 0 3) fun r3 =>
fq_z r3 (some r3)
set_option maxHeartbeats 4000000 in
set_option maxRecDepth 100000 in
theorem t_X10_isNoSheet {d : Nat} {sh : fc_Sh} {P : fc_P} {r : Int32} {I : fc_I} {x0 : Int32} (hf : f_X10_isNoSheet  x0 = some r) : fc_Cp X10_isNoSheet (d + 1) [.int x0] sh I P r := by
  unfold f_X10_isNoSheet at hf
  refine fc_Cp.of (ls := [some (.int x0)]) ⟨rfl, rfl⟩ (Nat.le_of_ble_eq_true rfl) rfl ?_
  refine ft_iload_n dX10_isNoSheet_0 rfl ?_
  refine ft_iconst (v := 0) dX10_isNoSheet_1 rfl ?_
  refine ft_iconst (v := 3) dX10_isNoSheet_2 rfl ?_
  obtain ⟨r3, hc3, hf⟩ := fq_vs hf
  refine ft_S3p cf_X10_86 (t_X10_isOutside hc3) (Nat.le_of_ble_eq_true rfl) dX10_isNoSheet_3 ?_
  obtain ⟨hz, hf⟩ := fq_zs hf
  exact fk_retp hf dX10_isNoSheet_6 rfl (fq_nz hz)
def f_X10_cell (I : fc_I) (x1 : Int32) (x2 : Int32) (x3 : Int32) : Option (Int32 × fc_I) :=
fq_v (f_X10_isNoSheet x1) fun r1 =>
if r1.toInt = 0 then (
fq_g 4 x1 (
if (I 76 (cn x1)).toInt = ((-1) : Int32).toInt then (
some ((-11), I))
else (
fq_g 4 x1 (
fq_v (f_X10_isOutside x2 0 ((I 77 (cn x1)) - 1)) fun r39 =>
if r39.toInt = 0 then (
fq_u (f_X7_write I x1 x2 x3) fun I55 =>
some (1, I55))
else (
some ((-12), I))))))
else (
some ((-2), I))
set_option maxHeartbeats 4000000 in
set_option maxRecDepth 100000 in
theorem t_X10_cell {d : Nat} {v : Nat} {r : Int32} {J : fc_I} {I : fc_I} {x1 : Int32} {x2 : Int32} {x3 : Int32} (hf : f_X10_cell I x1 x2 x3 = some (r, J)) : fc_Ci X10_cell (d + 2) [.ref 0, .int x1, .int x2, .int x3] fc_SH I (fc_PT v) (fun r' I' P' => r' = r ∧ I' = J ∧ P' = (fc_PT v)) := by
  unfold f_X10_cell at hf
  refine fc_Ci.of (ls := [some (.ref 0), some (.int x1), some (.int x2), some (.int x3)]) ⟨rfl, rfl⟩ (Nat.le_of_ble_eq_true rfl) rfl ?_
  refine ft_iload_n dX10_cell_0 rfl ?_
  obtain ⟨r1, hc1, hf⟩ := fq_vs hf
  refine ft_S1p cf_X10_266 (t_X10_isNoSheet hc1) (Nat.le_of_ble_eq_true rfl) dX10_cell_1 ?_
  refine fk_if_eq (tgt := 10) dX10_cell_4 (by decide) hf (fun hf => ?_) (fun hf => ?_)
  · refine ft_aload_n dX10_cell_10 rfl ?_
    refine ft_getR fl_X10_82 rfl (sh_0) (by decide) pt_0_8 dX10_cell_11 ?_
    refine ft_getR fl_X10_269 rfl (sh_70) (by decide) pt_70_1 dX10_cell_14 ?_
    refine ft_iload_n dX10_cell_17 rfl ?_
    refine fk_iald (sh_76) hf dX10_cell_18 (fun hf => ?_)
    refine ft_iconst (v := (-1)) dX10_cell_19 rfl ?_
    refine fk_icmp_ne (tgt := 26) dX10_cell_20 (by decide) hf (fun hf => ?_) (fun hf => ?_)
    · refine ft_iload_n dX10_cell_26 rfl ?_
      refine ft_iconst (v := 0) dX10_cell_27 rfl ?_
      refine ft_aload_n dX10_cell_28 rfl ?_
      refine ft_getR fl_X10_82 rfl (sh_0) (by decide) pt_0_8 dX10_cell_29 ?_
      refine ft_getR fl_X10_276 rfl (sh_70) (by decide) pt_70_2 dX10_cell_32 ?_
      refine ft_iload_n dX10_cell_35 rfl ?_
      refine fk_iald (sh_77) hf dX10_cell_36 (fun hf => ?_)
      refine ft_iconst (v := 1) dX10_cell_37 rfl ?_
      refine ft_isub dX10_cell_38 ?_
      obtain ⟨r39, hc39, hf⟩ := fq_vs hf
      refine ft_S3p cf_X10_86 (t_X10_isOutside hc39) (Nat.le_of_ble_eq_true rfl) dX10_cell_39 ?_
      refine fk_if_eq (tgt := 48) dX10_cell_42 (by decide) hf (fun hf => ?_) (fun hf => ?_)
      · refine ft_aload_n dX10_cell_48 rfl ?_
        refine ft_getR fl_X10_82 rfl (sh_0) (by decide) pt_0_8 dX10_cell_49 ?_
        refine ft_iload_n dX10_cell_52 rfl ?_
        refine ft_iload_n dX10_cell_53 rfl ?_
        refine ft_iload_n dX10_cell_54 rfl ?_
        obtain ⟨I55, hc55, hf⟩ := fq_us hf
        refine ft_V3v cf_X10_279 (sh_70) (t_X7_write hc55) (Nat.le_of_ble_eq_true rfl) dX10_cell_55 (fun J P' q => ?_)
        obtain ⟨rfl, rfl⟩ := q
        refine ft_iconst (v := 1) dX10_cell_58 rfl ?_
        exact fk_reti hf dX10_cell_59 rfl rfl
      · refine ft_bipush (v := (-12)) dX10_cell_45 rfl ?_
        exact fk_reti hf dX10_cell_47 rfl rfl
    · refine ft_bipush (v := (-11)) dX10_cell_23 rfl ?_
      exact fk_reti hf dX10_cell_25 rfl rfl
  · refine ft_bipush (v := (-2)) dX10_cell_7 rfl ?_
    exact fk_reti hf dX10_cell_9 rfl rfl
def f_X10_copy (I : fc_I) (x1 : Int32) (x2 : Int32) (x3 : Int32) (x4 : Int32) (x5 : Int32) : Option (Int32 × fc_I) :=
fq_v (f_X10_isNoSheet x1) fun r1 =>
if r1.toInt = 0 then (
fq_v (f_X10_isNoSheet x3) fun r8 =>
if r8.toInt = 0 then (
fq_g 4 x1 (
if (I 76 (cn x1)).toInt = ((-1) : Int32).toInt then (
some ((-11), I))
else (
fq_g 4 x3 (
if (I 76 (cn x3)).toInt = ((-1) : Int32).toInt then (
some ((-11), I))
else (
fq_g 4 x1 (
fq_g 4 x3 (
if (I 76 (cn x1)).toInt = (I 76 (cn x3)).toInt then (
if x5.toInt < 0 then (
some ((-12), I))
else (
fq_v (f_X7_holds I x1 x2 x5) fun r83 =>
if r83.toInt = 0 then (
some ((-12), I))
else (
fq_v (f_X7_holds I x3 x4 x5) fun r98 =>
if r98.toInt = 0 then (
some ((-12), I))
else (
fq_g 4 x1 (
fq_g 4 x3 (
fq_c 40 40 x2 x4 x5 (fq_l (fc_cpI I (72 + cn x1) (72 + cn x3) (cn x2) (cn x4) (cn x5)) fun I130 =>
some (x5, I130))))))))
else (
some ((-13), I)))))))))
else (
some ((-2), I)))
else (
some ((-2), I))
set_option maxHeartbeats 4000000 in
set_option maxRecDepth 100000 in
theorem t_X10_copy {d : Nat} {v : Nat} {r : Int32} {J : fc_I} {I : fc_I} {x1 : Int32} {x2 : Int32} {x3 : Int32} {x4 : Int32} {x5 : Int32} (hf : f_X10_copy I x1 x2 x3 x4 x5 = some (r, J)) : fc_Ci X10_copy (d + 2) [.ref 0, .int x1, .int x2, .int x3, .int x4, .int x5] fc_SH I (fc_PT v) (fun r' I' P' => r' = r ∧ I' = J ∧ P' = (fc_PT v)) := by
  unfold f_X10_copy at hf
  refine fc_Ci.of (ls := [some (.ref 0), some (.int x1), some (.int x2), some (.int x3), some (.int x4), some (.int x5)]) ⟨rfl, rfl⟩ (Nat.le_of_ble_eq_true rfl) rfl ?_
  refine ft_iload_n dX10_copy_0 rfl ?_
  obtain ⟨r1, hc1, hf⟩ := fq_vs hf
  refine ft_S1p cf_X10_266 (t_X10_isNoSheet hc1) (Nat.le_of_ble_eq_true rfl) dX10_copy_1 ?_
  refine fk_if_ne (tgt := 14) dX10_copy_4 (by decide) hf (fun hf => ?_) (fun hf => ?_)
  · refine ft_bipush (v := (-2)) dX10_copy_14 rfl ?_
    exact fk_reti hf dX10_copy_16 rfl rfl
  · refine ft_iload_n dX10_copy_7 rfl ?_
    obtain ⟨r8, hc8, hf⟩ := fq_vs hf
    refine ft_S1p cf_X10_266 (t_X10_isNoSheet hc8) (Nat.le_of_ble_eq_true rfl) dX10_copy_8 ?_
    refine fk_if_eq (tgt := 17) dX10_copy_11 (by decide) hf (fun hf => ?_) (fun hf => ?_)
    · refine ft_aload_n dX10_copy_17 rfl ?_
      refine ft_getR fl_X10_82 rfl (sh_0) (by decide) pt_0_8 dX10_copy_18 ?_
      refine ft_getR fl_X10_269 rfl (sh_70) (by decide) pt_70_1 dX10_copy_21 ?_
      refine ft_iload_n dX10_copy_24 rfl ?_
      refine fk_iald (sh_76) hf dX10_copy_25 (fun hf => ?_)
      refine ft_iconst (v := (-1)) dX10_copy_26 rfl ?_
      refine fk_icmp_eq (tgt := 43) dX10_copy_27 (by decide) hf (fun hf => ?_) (fun hf => ?_)
      · refine ft_bipush (v := (-11)) dX10_copy_43 rfl ?_
        exact fk_reti hf dX10_copy_45 rfl rfl
      · refine ft_aload_n dX10_copy_30 rfl ?_
        refine ft_getR fl_X10_82 rfl (sh_0) (by decide) pt_0_8 dX10_copy_31 ?_
        refine ft_getR fl_X10_269 rfl (sh_70) (by decide) pt_70_1 dX10_copy_34 ?_
        refine ft_iload_n dX10_copy_37 rfl ?_
        refine fk_iald (sh_76) hf dX10_copy_38 (fun hf => ?_)
        refine ft_iconst (v := (-1)) dX10_copy_39 rfl ?_
        refine fk_icmp_ne (tgt := 46) dX10_copy_40 (by decide) hf (fun hf => ?_) (fun hf => ?_)
        · refine ft_aload_n dX10_copy_46 rfl ?_
          refine ft_getR fl_X10_82 rfl (sh_0) (by decide) pt_0_8 dX10_copy_47 ?_
          refine ft_getR fl_X10_269 rfl (sh_70) (by decide) pt_70_1 dX10_copy_50 ?_
          refine ft_iload_n dX10_copy_53 rfl ?_
          refine fk_iald (sh_76) hf dX10_copy_54 (fun hf => ?_)
          refine ft_aload_n dX10_copy_55 rfl ?_
          refine ft_getR fl_X10_82 rfl (sh_0) (by decide) pt_0_8 dX10_copy_56 ?_
          refine ft_getR fl_X10_269 rfl (sh_70) (by decide) pt_70_1 dX10_copy_59 ?_
          refine ft_iload_n dX10_copy_62 rfl ?_
          refine fk_iald (sh_76) hf dX10_copy_63 (fun hf => ?_)
          refine fk_icmp_eq (tgt := 70) dX10_copy_64 (by decide) hf (fun hf => ?_) (fun hf => ?_)
          · refine ft_iload dX10_copy_70 rfl ?_
            refine fk_if_lt (tgt := 104) dX10_copy_72 (by decide) hf (fun hf => ?_) (fun hf => ?_)
            · refine ft_bipush (v := (-12)) dX10_copy_104 rfl ?_
              exact fk_reti hf dX10_copy_106 rfl rfl
            · refine ft_aload_n dX10_copy_75 rfl ?_
              refine ft_getR fl_X10_82 rfl (sh_0) (by decide) pt_0_8 dX10_copy_76 ?_
              refine ft_iload_n dX10_copy_79 rfl ?_
              refine ft_iload_n dX10_copy_80 rfl ?_
              refine ft_iload dX10_copy_81 rfl ?_
              obtain ⟨r83, hc83, hf⟩ := fq_vs hf
              refine ft_V3p cf_X10_281 (sh_70) (t_X7_holds hc83) (Nat.le_of_ble_eq_true rfl) dX10_copy_83 ?_
              refine fk_if_eq (tgt := 104) dX10_copy_86 (by decide) hf (fun hf => ?_) (fun hf => ?_)
              · refine ft_bipush (v := (-12)) dX10_copy_104 rfl ?_
                exact fk_reti hf dX10_copy_106 rfl rfl
              · refine ft_aload_n dX10_copy_89 rfl ?_
                refine ft_getR fl_X10_82 rfl (sh_0) (by decide) pt_0_8 dX10_copy_90 ?_
                refine ft_iload_n dX10_copy_93 rfl ?_
                refine ft_iload dX10_copy_94 rfl ?_
                refine ft_iload dX10_copy_96 rfl ?_
                obtain ⟨r98, hc98, hf⟩ := fq_vs hf
                refine ft_V3p cf_X10_281 (sh_70) (t_X7_holds hc98) (Nat.le_of_ble_eq_true rfl) dX10_copy_98 ?_
                refine fk_if_ne (tgt := 107) dX10_copy_101 (by decide) hf (fun hf => ?_) (fun hf => ?_)
                · refine ft_aload_n dX10_copy_107 rfl ?_
                  refine ft_getR fl_X10_82 rfl (sh_0) (by decide) pt_0_8 dX10_copy_108 ?_
                  refine ft_getR fl_X10_284 rfl (sh_70) (by decide) pt_70_0 dX10_copy_111 ?_
                  refine ft_iload_n dX10_copy_114 rfl ?_
                  refine fk_aald (sh_71) hf (fun b => pa_71 b) dX10_copy_115 (fun hb115 hf => ?_)
                  refine ft_iload_n dX10_copy_116 rfl ?_
                  refine ft_aload_n dX10_copy_117 rfl ?_
                  refine ft_getR fl_X10_82 rfl (sh_0) (by decide) pt_0_8 dX10_copy_118 ?_
                  refine ft_getR fl_X10_284 rfl (sh_70) (by decide) pt_70_0 dX10_copy_121 ?_
                  refine ft_iload_n dX10_copy_124 rfl ?_
                  refine fk_aald (sh_71) hf (fun b => pa_71 b) dX10_copy_125 (fun hb125 hf => ?_)
                  refine ft_iload dX10_copy_126 rfl ?_
                  refine ft_iload dX10_copy_128 rfl ?_
                  refine fk_copy cf_X10_288 (sa_71 hb115) (sa_71 hb125) hf (Nat.le_of_ble_eq_true rfl) dX10_copy_130 (fun hf => ?_)
                  refine ft_iload dX10_copy_133 rfl ?_
                  exact fk_reti hf dX10_copy_135 rfl rfl
                · refine ft_bipush (v := (-12)) dX10_copy_104 rfl ?_
                  exact fk_reti hf dX10_copy_106 rfl rfl
          · refine ft_bipush (v := (-13)) dX10_copy_67 rfl ?_
            exact fk_reti hf dX10_copy_69 rfl rfl
        · refine ft_bipush (v := (-11)) dX10_copy_43 rfl ?_
          exact fk_reti hf dX10_copy_45 rfl rfl
    · refine ft_bipush (v := (-2)) dX10_copy_14 rfl ?_
      exact fk_reti hf dX10_copy_16 rfl rfl
def f_X10_sum_10_B (c : Nat) (N : Nat) (I : fc_I) (x3 : Int32) (k10 : Int32 → Int32 → Option Int32) (x1 : Int32) (x4 : Int32) : Option Int32 :=
if x4.toInt < x3.toInt then (
fq_g N x4 (
fq_l ((I c (cn x4))) fun y20 =>
fq_l ((x1 + y20)) fun y26 =>
fq_l (x4 + 1) fun y27 =>
k10 y26 y27))
else (
some x1)
def f_X10_sum_10 (c : Nat) (N : Nat) (I : fc_I) (x3 : Int32) (n : Nat) : Int32 → Int32 → Option Int32 := lpp2 (f_X10_sum_10_B c N I x3 ) n
def f_X10_sum (c : Nat) (N : Nat) (I : fc_I) : Option Int32 :=
fq_l ((Int32.ofNat N)) fun y6 =>
f_X10_sum_10 c N I y6 4000 0 0
set_option maxHeartbeats 4000000 in
set_option maxRecDepth 100000 in
theorem t_X10_sum_10 {d : Nat} {v : Nat} {c : Nat} {N : Nat} {r : Int32} {x3 : Int32} {I : fc_I} (hc : fc_SH[c]? = some (0, N)) (hN : N < 2147483648) : ∀ (n : Nat) (x1 : Int32) (x4 : Int32) , f_X10_sum_10 c N I x3 n x1 x4 = some r → fc_T X10_sum d 0 0 10 [none, some (.int x1), some (.ref c), some (.int x3), some (.int x4), none] [] fc_SH I (fc_PT v) (fc_Qi fc_SH (fun r' I' P' => r' = r ∧ I' = I ∧ P' = (fc_PT v))) := by
  unfold f_X10_sum_10
  refine lpp2_T (fun k10 hk10 x1 x4 hf => ?_)
  unfold f_X10_sum_10_B at hf
  refine ft_iload dX10_sum_10 rfl ?_
  refine ft_iload_n dX10_sum_12 rfl ?_
  refine fk_icmp_ge (tgt := 33) dX10_sum_13 (by decide) hf (fun hf => ?_) (fun hf => ?_)
  · refine ft_iload_n dX10_sum_33 rfl ?_
    exact fk_retp hf dX10_sum_34 rfl rfl
  · refine ft_aload_n dX10_sum_16 rfl ?_
    refine ft_iload dX10_sum_17 rfl ?_
    refine fk_iald (hc) hf dX10_sum_19 (fun hf => ?_)
    refine ft_istore dX10_sum_20 (by decide) ?_
    refine ft_iload_n dX10_sum_22 rfl ?_
    refine ft_iload dX10_sum_23 rfl ?_
    refine ft_iadd dX10_sum_25 ?_
    refine ft_istore_n dX10_sum_26 (by decide) ?_
    refine fk_iinc (c := 1) dX10_sum_27 rfl (by decide) rfl ?_
    refine ft_goto (tgt := 10) dX10_sum_30 (by decide) ?_
    exact ft_forget (by simp [fc_le, fc_st1, fc_st2, fc_kill]) (hk10 _ _ hf)
set_option maxHeartbeats 4000000 in
set_option maxRecDepth 100000 in
theorem t_X10_sum {d : Nat} {v : Nat} {c : Nat} {N : Nat} {r : Int32} {I : fc_I} (hc : fc_SH[c]? = some (0, N)) (hN : N < 2147483648) (hf : f_X10_sum c N I = some r) : fc_Cp X10_sum d [.ref c] fc_SH I (fc_PT v) r := by
  unfold f_X10_sum at hf
  refine fc_Cp.of (ls := [some (.ref c), none, none, none, none, none]) ⟨rfl, rfl⟩ (Nat.le_of_ble_eq_true rfl) rfl ?_
  refine ft_iconst (v := 0) dX10_sum_0 rfl ?_
  refine ft_istore_n dX10_sum_1 (by decide) ?_
  refine ft_aload_n dX10_sum_2 rfl ?_
  refine ft_astore_n dX10_sum_3 (by decide) ?_
  refine ft_aload_n dX10_sum_4 rfl ?_
  refine ft_alen (hc) (by decide) rfl dX10_sum_5 ?_
  refine ft_istore_n dX10_sum_6 (by decide) ?_
  refine ft_iconst (v := 0) dX10_sum_7 rfl ?_
  refine ft_istore dX10_sum_8 (by decide) ?_
  exact ft_forget (by simp [fc_le, fc_st1, fc_st2, fc_kill]) (t_X10_sum_10 hc hN  _ _ _ hf)
def f_X10_count (I : fc_I) (x1 : Int32) : Option Int32 :=
if x1.toInt = 0 then (
some (I 45 9))
else if x1.toInt = 1 then (
some (I 1 2))
else if x1.toInt = 2 then (
some (I 1 3))
else if x1.toInt = 3 then (
some (I 4 5))
else if x1.toInt = 4 then (
some (I 10 4))
else if x1.toInt = 5 then (
some (I 15 9))
else if x1.toInt = 6 then (
some (I 15 11))
else if x1.toInt = 7 then (
fq_v (f_X10_sum 46 6 I) fun r143 =>
some r143)
else if x1.toInt = 8 then (
fq_v (f_X10_sum 47 6 I) fun r154 =>
some r154)
else if x1.toInt = 9 then (
fq_v (f_X10_sum 48 6 I) fun r165 =>
some r165)
else if x1.toInt = 10 then (
fq_v (f_X10_sum 52 4 I) fun r176 =>
some r176)
else if x1.toInt = 11 then (
fq_v (f_X10_sum 51 3 I) fun r187 =>
some r187)
else if x1.toInt = 12 then (
some (I 45 8))
else if x1.toInt = 13 then (
some (I 31 7))
else if x1.toInt = 14 then (
some (I 31 6))
else if x1.toInt = 15 then (
some (I 31 8))
else (
some (-2))
set_option maxHeartbeats 4000000 in
set_option maxRecDepth 100000 in
theorem t_X10_count {d : Nat} {v : Nat} {r : Int32} {I : fc_I} {x1 : Int32} (hf : f_X10_count I x1 = some r) : fc_Cp X10_count (d + 1) [.ref 0, .int x1] fc_SH I (fc_PT v) r := by
  unfold f_X10_count at hf
  refine fc_Cp.of (ls := [some (.ref 0), some (.int x1)]) ⟨rfl, rfl⟩ (Nat.le_of_ble_eq_true rfl) rfl ?_
  refine ft_iload_n dX10_count_0 rfl ?_
  rcases fq_is hf with ⟨e_1_0, hf⟩ | ⟨e_1_0, hf⟩
  · refine ft_tsIn (tgt := 80) dX10_count_1 (by rw [e_1_0]; decide) (by rw [e_1_0]; decide) (by rw [e_1_0]; rfl) (by decide) ?_
    refine ft_aload_n dX10_count_80 rfl ?_
    refine ft_getR fl_X10_57 rfl (sh_0) (by decide) pt_0_5 dX10_count_81 ?_
    refine ft_getI fl_X10_91 rfl (sh_45) (by decide) dX10_count_84 ?_
    exact fk_retp hf dX10_count_87 rfl rfl
  rcases fq_is hf with ⟨e_1_1, hf⟩ | ⟨e_1_1, hf⟩
  · refine ft_tsIn (tgt := 88) dX10_count_1 (by rw [e_1_1]; decide) (by rw [e_1_1]; decide) (by rw [e_1_1]; rfl) (by decide) ?_
    refine ft_aload_n dX10_count_88 rfl ?_
    refine ft_getR fl_X10_10 rfl (sh_0) (by decide) pt_0_0 dX10_count_89 ?_
    refine ft_getI fl_X10_95 rfl (sh_1) (by decide) dX10_count_92 ?_
    exact fk_retp hf dX10_count_95 rfl rfl
  rcases fq_is hf with ⟨e_1_2, hf⟩ | ⟨e_1_2, hf⟩
  · refine ft_tsIn (tgt := 96) dX10_count_1 (by rw [e_1_2]; decide) (by rw [e_1_2]; decide) (by rw [e_1_2]; rfl) (by decide) ?_
    refine ft_aload_n dX10_count_96 rfl ?_
    refine ft_getR fl_X10_10 rfl (sh_0) (by decide) pt_0_0 dX10_count_97 ?_
    refine ft_getI fl_X10_108 rfl (sh_1) (by decide) dX10_count_100 ?_
    exact fk_retp hf dX10_count_103 rfl rfl
  rcases fq_is hf with ⟨e_1_3, hf⟩ | ⟨e_1_3, hf⟩
  · refine ft_tsIn (tgt := 104) dX10_count_1 (by rw [e_1_3]; decide) (by rw [e_1_3]; decide) (by rw [e_1_3]; rfl) (by decide) ?_
    refine ft_aload_n dX10_count_104 rfl ?_
    refine ft_getR fl_X10_19 rfl (sh_0) (by decide) pt_0_1 dX10_count_105 ?_
    refine ft_getI fl_X10_121 rfl (sh_4) (by decide) dX10_count_108 ?_
    exact fk_retp hf dX10_count_111 rfl rfl
  rcases fq_is hf with ⟨e_1_4, hf⟩ | ⟨e_1_4, hf⟩
  · refine ft_tsIn (tgt := 112) dX10_count_1 (by rw [e_1_4]; decide) (by rw [e_1_4]; decide) (by rw [e_1_4]; rfl) (by decide) ?_
    refine ft_aload_n dX10_count_112 rfl ?_
    refine ft_getR fl_X10_26 rfl (sh_0) (by decide) pt_0_2 dX10_count_113 ?_
    refine ft_getI fl_X10_143 rfl (sh_10) (by decide) dX10_count_116 ?_
    exact fk_retp hf dX10_count_119 rfl rfl
  rcases fq_is hf with ⟨e_1_5, hf⟩ | ⟨e_1_5, hf⟩
  · refine ft_tsIn (tgt := 120) dX10_count_1 (by rw [e_1_5]; decide) (by rw [e_1_5]; decide) (by rw [e_1_5]; rfl) (by decide) ?_
    refine ft_aload_n dX10_count_120 rfl ?_
    refine ft_getR fl_X10_33 rfl (sh_0) (by decide) pt_0_3 dX10_count_121 ?_
    refine ft_getI fl_X10_255 rfl (sh_15) (by decide) dX10_count_124 ?_
    exact fk_retp hf dX10_count_127 rfl rfl
  rcases fq_is hf with ⟨e_1_6, hf⟩ | ⟨e_1_6, hf⟩
  · refine ft_tsIn (tgt := 128) dX10_count_1 (by rw [e_1_6]; decide) (by rw [e_1_6]; decide) (by rw [e_1_6]; rfl) (by decide) ?_
    refine ft_aload_n dX10_count_128 rfl ?_
    refine ft_getR fl_X10_33 rfl (sh_0) (by decide) pt_0_3 dX10_count_129 ?_
    refine ft_getI fl_X10_181 rfl (sh_15) (by decide) dX10_count_132 ?_
    exact fk_retp hf dX10_count_135 rfl rfl
  rcases fq_is hf with ⟨e_1_7, hf⟩ | ⟨e_1_7, hf⟩
  · refine ft_tsIn (tgt := 136) dX10_count_1 (by rw [e_1_7]; decide) (by rw [e_1_7]; decide) (by rw [e_1_7]; rfl) (by decide) ?_
    refine ft_aload_n dX10_count_136 rfl ?_
    refine ft_getR fl_X10_57 rfl (sh_0) (by decide) pt_0_5 dX10_count_137 ?_
    refine ft_getR fl_X10_102 rfl (sh_45) (by decide) pt_45_0 dX10_count_140 ?_
    obtain ⟨r143, hc143, hf⟩ := fq_vs hf
    refine ft_S1p cf_X10_256 (t_X10_sum (sh_46) (by decide) hc143) (Nat.le_of_ble_eq_true rfl) dX10_count_143 ?_
    exact fk_retp hf dX10_count_146 rfl rfl
  rcases fq_is hf with ⟨e_1_8, hf⟩ | ⟨e_1_8, hf⟩
  · refine ft_tsIn (tgt := 147) dX10_count_1 (by rw [e_1_8]; decide) (by rw [e_1_8]; decide) (by rw [e_1_8]; rfl) (by decide) ?_
    refine ft_aload_n dX10_count_147 rfl ?_
    refine ft_getR fl_X10_57 rfl (sh_0) (by decide) pt_0_5 dX10_count_148 ?_
    refine ft_getR fl_X10_147 rfl (sh_45) (by decide) pt_45_1 dX10_count_151 ?_
    obtain ⟨r154, hc154, hf⟩ := fq_vs hf
    refine ft_S1p cf_X10_256 (t_X10_sum (sh_47) (by decide) hc154) (Nat.le_of_ble_eq_true rfl) dX10_count_154 ?_
    exact fk_retp hf dX10_count_157 rfl rfl
  rcases fq_is hf with ⟨e_1_9, hf⟩ | ⟨e_1_9, hf⟩
  · refine ft_tsIn (tgt := 158) dX10_count_1 (by rw [e_1_9]; decide) (by rw [e_1_9]; decide) (by rw [e_1_9]; rfl) (by decide) ?_
    refine ft_aload_n dX10_count_158 rfl ?_
    refine ft_getR fl_X10_57 rfl (sh_0) (by decide) pt_0_5 dX10_count_159 ?_
    refine ft_getR fl_X10_105 rfl (sh_45) (by decide) pt_45_2 dX10_count_162 ?_
    obtain ⟨r165, hc165, hf⟩ := fq_vs hf
    refine ft_S1p cf_X10_256 (t_X10_sum (sh_48) (by decide) hc165) (Nat.le_of_ble_eq_true rfl) dX10_count_165 ?_
    exact fk_retp hf dX10_count_168 rfl rfl
  rcases fq_is hf with ⟨e_1_10, hf⟩ | ⟨e_1_10, hf⟩
  · refine ft_tsIn (tgt := 169) dX10_count_1 (by rw [e_1_10]; decide) (by rw [e_1_10]; decide) (by rw [e_1_10]; rfl) (by decide) ?_
    refine ft_aload_n dX10_count_169 rfl ?_
    refine ft_getR fl_X10_57 rfl (sh_0) (by decide) pt_0_5 dX10_count_170 ?_
    refine ft_getR fl_X10_178 rfl (sh_45) (by decide) pt_45_6 dX10_count_173 ?_
    obtain ⟨r176, hc176, hf⟩ := fq_vs hf
    refine ft_S1p cf_X10_256 (t_X10_sum (sh_52) (by decide) hc176) (Nat.le_of_ble_eq_true rfl) dX10_count_176 ?_
    exact fk_retp hf dX10_count_179 rfl rfl
  rcases fq_is hf with ⟨e_1_11, hf⟩ | ⟨e_1_11, hf⟩
  · refine ft_tsIn (tgt := 180) dX10_count_1 (by rw [e_1_11]; decide) (by rw [e_1_11]; decide) (by rw [e_1_11]; rfl) (by decide) ?_
    refine ft_aload_n dX10_count_180 rfl ?_
    refine ft_getR fl_X10_57 rfl (sh_0) (by decide) pt_0_5 dX10_count_181 ?_
    refine ft_getR fl_X10_159 rfl (sh_45) (by decide) pt_45_5 dX10_count_184 ?_
    obtain ⟨r187, hc187, hf⟩ := fq_vs hf
    refine ft_S1p cf_X10_256 (t_X10_sum (sh_51) (by decide) hc187) (Nat.le_of_ble_eq_true rfl) dX10_count_187 ?_
    exact fk_retp hf dX10_count_190 rfl rfl
  rcases fq_is hf with ⟨e_1_12, hf⟩ | ⟨e_1_12, hf⟩
  · refine ft_tsIn (tgt := 191) dX10_count_1 (by rw [e_1_12]; decide) (by rw [e_1_12]; decide) (by rw [e_1_12]; rfl) (by decide) ?_
    refine ft_aload_n dX10_count_191 rfl ?_
    refine ft_getR fl_X10_57 rfl (sh_0) (by decide) pt_0_5 dX10_count_192 ?_
    refine ft_getI fl_X10_260 rfl (sh_45) (by decide) dX10_count_195 ?_
    exact fk_retp hf dX10_count_198 rfl rfl
  rcases fq_is hf with ⟨e_1_13, hf⟩ | ⟨e_1_13, hf⟩
  · refine ft_tsIn (tgt := 199) dX10_count_1 (by rw [e_1_13]; decide) (by rw [e_1_13]; decide) (by rw [e_1_13]; rfl) (by decide) ?_
    refine ft_aload_n dX10_count_199 rfl ?_
    refine ft_getR fl_X10_40 rfl (sh_0) (by decide) pt_0_4 dX10_count_200 ?_
    refine ft_getI fl_X10_205 rfl (sh_31) (by decide) dX10_count_203 ?_
    exact fk_retp hf dX10_count_206 rfl rfl
  rcases fq_is hf with ⟨e_1_14, hf⟩ | ⟨e_1_14, hf⟩
  · refine ft_tsIn (tgt := 207) dX10_count_1 (by rw [e_1_14]; decide) (by rw [e_1_14]; decide) (by rw [e_1_14]; rfl) (by decide) ?_
    refine ft_aload_n dX10_count_207 rfl ?_
    refine ft_getR fl_X10_40 rfl (sh_0) (by decide) pt_0_4 dX10_count_208 ?_
    refine ft_getI fl_X10_263 rfl (sh_31) (by decide) dX10_count_211 ?_
    exact fk_retp hf dX10_count_214 rfl rfl
  rcases fq_is hf with ⟨e_1_15, hf⟩ | ⟨e_1_15, hf⟩
  · refine ft_tsIn (tgt := 215) dX10_count_1 (by rw [e_1_15]; decide) (by rw [e_1_15]; decide) (by rw [e_1_15]; rfl) (by decide) ?_
    refine ft_aload_n dX10_count_215 rfl ?_
    refine ft_getR fl_X10_40 rfl (sh_0) (by decide) pt_0_4 dX10_count_216 ?_
    refine ft_getI fl_X10_206 rfl (sh_31) (by decide) dX10_count_219 ?_
    exact fk_retp hf dX10_count_222 rfl rfl
  refine ft_tsOut (tgt := 223) dX10_count_1 (by omega) (by decide) ?_
  refine ft_bipush (v := (-2)) dX10_count_223 rfl ?_
  exact fk_retp hf dX10_count_225 rfl rfl
def f_X10_end (I : fc_I) (x1 : Int32) : Option (Int32 × fc_I) :=
fq_v (f_X10_isOutside x1 1 60) fun r4 =>
if r4.toInt = 0 then (
if x1.toInt < (I 45 9).toInt then (
some ((-2), I))
else (
fq_l ((I 15 11)) fun y31 =>
fq_l (fc_wI I 15 11 x1) fun I37 =>
some (y31, I37)))
else (
some ((-2), I))
set_option maxHeartbeats 4000000 in
set_option maxRecDepth 100000 in
theorem t_X10_end {d : Nat} {v : Nat} {r : Int32} {J : fc_I} {I : fc_I} {x1 : Int32} (hf : f_X10_end I x1 = some (r, J)) : fc_Ci X10_end (d + 1) [.ref 0, .int x1] fc_SH I (fc_PT v) (fun r' I' P' => r' = r ∧ I' = J ∧ P' = (fc_PT v)) := by
  unfold f_X10_end at hf
  refine fc_Ci.of (ls := [some (.ref 0), some (.int x1), none]) ⟨rfl, rfl⟩ (Nat.le_of_ble_eq_true rfl) rfl ?_
  refine ft_iload_n dX10_end_0 rfl ?_
  refine ft_iconst (v := 1) dX10_end_1 rfl ?_
  refine ft_bipush (v := 60) dX10_end_2 rfl ?_
  obtain ⟨r4, hc4, hf⟩ := fq_vs hf
  refine ft_S3p cf_X10_86 (t_X10_isOutside hc4) (Nat.le_of_ble_eq_true rfl) dX10_end_4 ?_
  refine fk_if_ne (tgt := 21) dX10_end_7 (by decide) hf (fun hf => ?_) (fun hf => ?_)
  · refine ft_bipush (v := (-2)) dX10_end_21 rfl ?_
    exact fk_reti hf dX10_end_23 rfl rfl
  · refine ft_iload_n dX10_end_10 rfl ?_
    refine ft_aload_n dX10_end_11 rfl ?_
    refine ft_getR fl_X10_57 rfl (sh_0) (by decide) pt_0_5 dX10_end_12 ?_
    refine ft_getI fl_X10_91 rfl (sh_45) (by decide) dX10_end_15 ?_
    refine fk_icmp_ge (tgt := 24) dX10_end_18 (by decide) hf (fun hf => ?_) (fun hf => ?_)
    · refine ft_aload_n dX10_end_24 rfl ?_
      refine ft_getR fl_X10_33 rfl (sh_0) (by decide) pt_0_3 dX10_end_25 ?_
      refine ft_getI fl_X10_181 rfl (sh_15) (by decide) dX10_end_28 ?_
      refine ft_istore_n dX10_end_31 (by decide) ?_
      refine ft_aload_n dX10_end_32 rfl ?_
      refine ft_getR fl_X10_33 rfl (sh_0) (by decide) pt_0_3 dX10_end_33 ?_
      refine ft_iload_n dX10_end_36 rfl ?_
      refine ft_putI fl_X10_181 rfl (fun q h => by cases h; rfl) (sh_15) (by decide) dX10_end_37 ?_
      refine ft_iload_n dX10_end_40 rfl ?_
      exact fk_reti hf dX10_end_41 rfl rfl
    · refine ft_bipush (v := (-2)) dX10_end_21 rfl ?_
      exact fk_reti hf dX10_end_23 rfl rfl
def f_X10_feed (I : fc_I) (x1 : Int32) (x2 : Int64) : Option (Int32 × fc_I) :=
fq_v (f_X10_isOutside x1 1 8) fun r4 =>
if r4.toInt = 0 then (
fq_b (f_X0_append I x1 x2) fun r19 I19 =>
some (r19, I19))
else (
some ((-2), I))
set_option maxHeartbeats 4000000 in
set_option maxRecDepth 100000 in
theorem t_X10_feed {d : Nat} {v : Nat} {r : Int32} {J : fc_I} {I : fc_I} {x1 : Int32} {x2 : Int64} (hv : fc_v v) (hf : f_X10_feed I x1 x2 = some (r, J)) : fc_Ci X10_feed (d + 1) [.ref 0, .int x1, .long x2] fc_SH I (fc_PT v) (fun r' I' P' => r' = r ∧ I' = J ∧ P' = (fc_PT v)) := by
  unfold f_X10_feed at hf
  refine fc_Ci.of (ls := [some (.ref 0), some (.int x1), some (.long x2), none]) ⟨rfl, rfl⟩ (Nat.le_of_ble_eq_true rfl) rfl ?_
  refine ft_iload_n dX10_feed_0 rfl ?_
  refine ft_iconst (v := 1) dX10_feed_1 rfl ?_
  refine ft_bipush (v := 8) dX10_feed_2 rfl ?_
  obtain ⟨r4, hc4, hf⟩ := fq_vs hf
  refine ft_S3p cf_X10_86 (t_X10_isOutside hc4) (Nat.le_of_ble_eq_true rfl) dX10_feed_4 ?_
  refine fk_if_eq (tgt := 13) dX10_feed_7 (by decide) hf (fun hf => ?_) (fun hf => ?_)
  · refine ft_aload_n dX10_feed_13 rfl ?_
    refine ft_getR fl_X10_40 rfl (sh_0) (by decide) pt_0_4 dX10_feed_14 ?_
    refine ft_iload_n dX10_feed_17 rfl ?_
    refine ft_lload_n dX10_feed_18 rfl ?_
    obtain ⟨r19, I19, hc19, hf⟩ := fq_bs hf
    refine ft_V2i cf_X10_201 (sh_31) (t_X0_append (wd_full hv) hc19) (Nat.le_of_ble_eq_true rfl) dX10_feed_19 (fun r' J P' q => ?_)
    obtain ⟨rfl, rfl, rfl⟩ := q
    exact fk_reti hf dX10_feed_22 rfl rfl
  · refine ft_bipush (v := (-2)) dX10_feed_10 rfl ?_
    exact fk_reti hf dX10_feed_12 rfl rfl
def f_X10_force (I : fc_I) (x1 : Int32) : Option (Int32 × fc_I) :=
fq_v (f_X10_isOutside x1 0 ((I 31 7) - 1)) fun r11 =>
if r11.toInt = 0 then (
fq_l ((I 31 8)) fun y27 =>
fq_l (fc_wI I 31 8 x1) fun I33 =>
some (y27, I33))
else (
some ((-2), I))
set_option maxHeartbeats 4000000 in
set_option maxRecDepth 100000 in
theorem t_X10_force {d : Nat} {v : Nat} {r : Int32} {J : fc_I} {I : fc_I} {x1 : Int32} (hf : f_X10_force I x1 = some (r, J)) : fc_Ci X10_force (d + 1) [.ref 0, .int x1] fc_SH I (fc_PT v) (fun r' I' P' => r' = r ∧ I' = J ∧ P' = (fc_PT v)) := by
  unfold f_X10_force at hf
  refine fc_Ci.of (ls := [some (.ref 0), some (.int x1), none]) ⟨rfl, rfl⟩ (Nat.le_of_ble_eq_true rfl) rfl ?_
  refine ft_iload_n dX10_force_0 rfl ?_
  refine ft_iconst (v := 0) dX10_force_1 rfl ?_
  refine ft_aload_n dX10_force_2 rfl ?_
  refine ft_getR fl_X10_40 rfl (sh_0) (by decide) pt_0_4 dX10_force_3 ?_
  refine ft_getI fl_X10_205 rfl (sh_31) (by decide) dX10_force_6 ?_
  refine ft_iconst (v := 1) dX10_force_9 rfl ?_
  refine ft_isub dX10_force_10 ?_
  obtain ⟨r11, hc11, hf⟩ := fq_vs hf
  refine ft_S3p cf_X10_86 (t_X10_isOutside hc11) (Nat.le_of_ble_eq_true rfl) dX10_force_11 ?_
  refine fk_if_eq (tgt := 20) dX10_force_14 (by decide) hf (fun hf => ?_) (fun hf => ?_)
  · refine ft_aload_n dX10_force_20 rfl ?_
    refine ft_getR fl_X10_40 rfl (sh_0) (by decide) pt_0_4 dX10_force_21 ?_
    refine ft_getI fl_X10_206 rfl (sh_31) (by decide) dX10_force_24 ?_
    refine ft_istore_n dX10_force_27 (by decide) ?_
    refine ft_aload_n dX10_force_28 rfl ?_
    refine ft_getR fl_X10_40 rfl (sh_0) (by decide) pt_0_4 dX10_force_29 ?_
    refine ft_iload_n dX10_force_32 rfl ?_
    refine ft_putI fl_X10_206 rfl (fun q h => by cases h; rfl) (sh_31) (by decide) dX10_force_33 ?_
    refine ft_iload_n dX10_force_36 rfl ?_
    exact fk_reti hf dX10_force_37 rfl rfl
  · refine ft_bipush (v := (-2)) dX10_force_17 rfl ?_
    exact fk_reti hf dX10_force_19 rfl rfl
def f_X10_foresee_64 (x1 : Int32) (k23 : Int64 → Int32 → fc_I → Option (Int64 × fc_I)) (x4 : Int64) (x6 : Int32) (x7 : Int32) (s0 : Int32) (I : fc_I) : Option (Int64 × fc_I) :=
fq_g 6 x6 (
if (I 49 (cn x6)).toInt = ((-1) : Int32).toInt then (
if s0.toInt = 0 then (
if (I 15 11).toInt < ((I 45 9) + x7).toInt then (
some ((-4611686018427387904), I))
else (
if s0.toInt = 0 then (
fq_g 6 x6 (fq_l (fc_wI I 67 (cn x6) x7) fun I129 =>
fq_l (x6 + 1) fun y130 =>
k23 x4 y130 I129))
else (
fq_g 6 x6 (fq_l (fc_wI I 67 (cn x6) (-1)) fun I129 =>
fq_l (x6 + 1) fun y130 =>
k23 x4 y130 I129))))
else (
if s0.toInt = 0 then (
fq_g 6 x6 (fq_l (fc_wI I 67 (cn x6) x7) fun I129 =>
fq_l (x6 + 1) fun y130 =>
k23 x4 y130 I129))
else (
fq_g 6 x6 (fq_l (fc_wI I 67 (cn x6) (-1)) fun I129 =>
fq_l (x6 + 1) fun y130 =>
k23 x4 y130 I129))))
else (
if s0.toInt = 0 then (
fq_g 6 x6 (fq_l (fc_wI I 67 (cn x6) x7) fun I129 =>
fq_l (x6 + 1) fun y130 =>
k23 x4 y130 I129))
else (
fq_g 6 x6 (fq_l (fc_wI I 67 (cn x6) (-1)) fun I129 =>
fq_l (x6 + 1) fun y130 =>
k23 x4 y130 I129))))
def f_X10_foresee_23_B (x1 : Int32) (k23 : Int64 → Int32 → fc_I → Option (Int64 × fc_I)) (x4 : Int64) (x6 : Int32) (I : fc_I) : Option (Int64 × fc_I) :=
if x6.toInt < (I 1 2).toInt then (
fq_l ((Int64.toInt32 (x4 - x4 / 100 * 100))) fun y42 =>
fq_l ((x4 / 100)) fun y50 =>
if y42.toInt = (99 : Int32).toInt then (
f_X10_foresee_64 x1 k23 y50 x6 y42 1 I)
else (
f_X10_foresee_64 x1 k23 y50 x6 y42 0 I))
else (
if (lg_cmp x4 (0 : Int64)).toInt = 0 then (
fq_b (f_X3_foreseen I x1) fun r148 I148 =>
some ((Int32.toInt64 r148), I148))
else (
some ((-4611686018427387904), I)))
def f_X10_foresee_23 (x1 : Int32) (n : Nat) : Int64 → Int32 → fc_I → Option (Int64 × fc_I) := lpm2 (f_X10_foresee_23_B x1 ) n
def f_X10_foresee (I : fc_I) (x1 : Int32) (x2 : Int64) : Option (Int64 × fc_I) :=
fq_v (f_X10_isNoTrack x1) fun r1 =>
if r1.toInt = 0 then (
if (lg_cmp x2 (0 : Int64)).toInt < 0 then (
some ((-4611686018427387904), I))
else (
f_X10_foresee_23 x1 4000 x2 0 I))
else (
some ((-4611686018427387904), I))
set_option maxHeartbeats 4000000 in
set_option maxRecDepth 100000 in
theorem t_X10_foresee_64 {d : Nat} {v : Nat} {r : Int64} {J : fc_I} {x1 : Int32} {k23 : Int64 → Int32 → fc_I → Option (Int64 × fc_I)} (hv : fc_v v) (hk23 : ∀ (x4 : Int64) (x6 : Int32) (I : fc_I), k23 x4 x6 I = some (r, J) → fc_T X10_foresee (d + 5) 0 0 23 [some (.ref 0), some (.int x1), none, none, some (.long x4), none, some (.int x6), none, none] [] fc_SH I (fc_PT v) (fc_Ql fc_SH (fun r' I' P' => r' = r ∧ I' = J ∧ P' = (fc_PT v)))) : ∀ (x4 : Int64) (x6 : Int32) (x7 : Int32) (s0 : Int32) (I : fc_I) , f_X10_foresee_64 x1 k23  x4 x6 x7 s0 I = some (r, J) → fc_T X10_foresee (d + 5) 0 0 64 [some (.ref 0), some (.int x1), none, none, some (.long x4), none, some (.int x6), some (.int x7), none] [.int s0] fc_SH I (fc_PT v) (fc_Ql fc_SH (fun r' I' P' => r' = r ∧ I' = J ∧ P' = (fc_PT v))) := by
  intro x4 x6 x7 s0 I hf
  unfold f_X10_foresee_64 at hf
  refine ft_istore dX10_foresee_64 (by decide) ?_
  refine ft_aload_n dX10_foresee_66 rfl ?_
  refine ft_getR fl_X10_57 rfl (sh_0) (by decide) pt_0_5 dX10_foresee_67 ?_
  refine ft_getR fl_X10_150 rfl (sh_45) (by decide) pt_45_3 dX10_foresee_70 ?_
  refine ft_iload dX10_foresee_73 rfl ?_
  refine fk_iald (sh_49) hf dX10_foresee_75 (fun hf => ?_)
  refine ft_iconst (v := (-1)) dX10_foresee_76 rfl ?_
  refine fk_icmp_ne (tgt := 109) dX10_foresee_77 (by decide) hf (fun hf => ?_) (fun hf => ?_)
  · refine ft_aload_n dX10_foresee_109 rfl ?_
    refine ft_getR fl_X10_75 rfl (sh_0) (by decide) pt_0_7 dX10_foresee_110 ?_
    refine ft_getR fl_X10_236 rfl (sh_57) (by decide) pt_57_5 dX10_foresee_113 ?_
    refine ft_iload dX10_foresee_116 rfl ?_
    refine ft_iload dX10_foresee_118 rfl ?_
    refine fk_if_eq (tgt := 127) dX10_foresee_120 (by decide) hf (fun hf => ?_) (fun hf => ?_)
    · refine ft_iload dX10_foresee_127 rfl ?_
      refine fk_iast (sh_67) hf dX10_foresee_129 (fun hf => ?_)
      refine fk_iinc (c := 1) dX10_foresee_130 rfl (by decide) rfl ?_
      refine ft_goto (tgt := 23) dX10_foresee_133 (by decide) ?_
      exact ft_forget (by simp [fc_le, fc_st1, fc_st2, fc_kill]) (hk23 _ _ _ hf)
    · refine ft_iconst (v := (-1)) dX10_foresee_123 rfl ?_
      refine ft_goto (tgt := 129) dX10_foresee_124 (by decide) ?_
      refine fk_iast (sh_67) hf dX10_foresee_129 (fun hf => ?_)
      refine fk_iinc (c := 1) dX10_foresee_130 rfl (by decide) rfl ?_
      refine ft_goto (tgt := 23) dX10_foresee_133 (by decide) ?_
      exact ft_forget (by simp [fc_le, fc_st1, fc_st2, fc_kill]) (hk23 _ _ _ hf)
  · refine ft_iload dX10_foresee_80 rfl ?_
    refine fk_if_ne (tgt := 109) dX10_foresee_82 (by decide) hf (fun hf => ?_) (fun hf => ?_)
    · refine ft_aload_n dX10_foresee_109 rfl ?_
      refine ft_getR fl_X10_75 rfl (sh_0) (by decide) pt_0_7 dX10_foresee_110 ?_
      refine ft_getR fl_X10_236 rfl (sh_57) (by decide) pt_57_5 dX10_foresee_113 ?_
      refine ft_iload dX10_foresee_116 rfl ?_
      refine ft_iload dX10_foresee_118 rfl ?_
      refine fk_if_eq (tgt := 127) dX10_foresee_120 (by decide) hf (fun hf => ?_) (fun hf => ?_)
      · refine ft_iload dX10_foresee_127 rfl ?_
        refine fk_iast (sh_67) hf dX10_foresee_129 (fun hf => ?_)
        refine fk_iinc (c := 1) dX10_foresee_130 rfl (by decide) rfl ?_
        refine ft_goto (tgt := 23) dX10_foresee_133 (by decide) ?_
        exact ft_forget (by simp [fc_le, fc_st1, fc_st2, fc_kill]) (hk23 _ _ _ hf)
      · refine ft_iconst (v := (-1)) dX10_foresee_123 rfl ?_
        refine ft_goto (tgt := 129) dX10_foresee_124 (by decide) ?_
        refine fk_iast (sh_67) hf dX10_foresee_129 (fun hf => ?_)
        refine fk_iinc (c := 1) dX10_foresee_130 rfl (by decide) rfl ?_
        refine ft_goto (tgt := 23) dX10_foresee_133 (by decide) ?_
        exact ft_forget (by simp [fc_le, fc_st1, fc_st2, fc_kill]) (hk23 _ _ _ hf)
    · refine ft_aload_n dX10_foresee_85 rfl ?_
      refine ft_getR fl_X10_57 rfl (sh_0) (by decide) pt_0_5 dX10_foresee_86 ?_
      refine ft_getI fl_X10_91 rfl (sh_45) (by decide) dX10_foresee_89 ?_
      refine ft_iload dX10_foresee_92 rfl ?_
      refine ft_iadd dX10_foresee_94 ?_
      refine ft_aload_n dX10_foresee_95 rfl ?_
      refine ft_getR fl_X10_33 rfl (sh_0) (by decide) pt_0_3 dX10_foresee_96 ?_
      refine ft_getI fl_X10_181 rfl (sh_15) (by decide) dX10_foresee_99 ?_
      refine fk_icmp_le (tgt := 109) dX10_foresee_102 (by decide) hf (fun hf => ?_) (fun hf => ?_)
      · refine ft_aload_n dX10_foresee_109 rfl ?_
        refine ft_getR fl_X10_75 rfl (sh_0) (by decide) pt_0_7 dX10_foresee_110 ?_
        refine ft_getR fl_X10_236 rfl (sh_57) (by decide) pt_57_5 dX10_foresee_113 ?_
        refine ft_iload dX10_foresee_116 rfl ?_
        refine ft_iload dX10_foresee_118 rfl ?_
        refine fk_if_eq (tgt := 127) dX10_foresee_120 (by decide) hf (fun hf => ?_) (fun hf => ?_)
        · refine ft_iload dX10_foresee_127 rfl ?_
          refine fk_iast (sh_67) hf dX10_foresee_129 (fun hf => ?_)
          refine fk_iinc (c := 1) dX10_foresee_130 rfl (by decide) rfl ?_
          refine ft_goto (tgt := 23) dX10_foresee_133 (by decide) ?_
          exact ft_forget (by simp [fc_le, fc_st1, fc_st2, fc_kill]) (hk23 _ _ _ hf)
        · refine ft_iconst (v := (-1)) dX10_foresee_123 rfl ?_
          refine ft_goto (tgt := 129) dX10_foresee_124 (by decide) ?_
          refine fk_iast (sh_67) hf dX10_foresee_129 (fun hf => ?_)
          refine fk_iinc (c := 1) dX10_foresee_130 rfl (by decide) rfl ?_
          refine ft_goto (tgt := 23) dX10_foresee_133 (by decide) ?_
          exact ft_forget (by simp [fc_le, fc_st1, fc_st2, fc_kill]) (hk23 _ _ _ hf)
      · refine ft_ldc2 dX10_foresee_105 kc_X10_209 ?_
        exact fk_retl hf dX10_foresee_108 rfl
set_option maxHeartbeats 4000000 in
set_option maxRecDepth 100000 in
theorem t_X10_foresee_23 {d : Nat} {v : Nat} {r : Int64} {J : fc_I} {x1 : Int32} (hv : fc_v v) : ∀ (n : Nat) (x4 : Int64) (x6 : Int32) (I : fc_I) , f_X10_foresee_23 x1 n x4 x6 I = some (r, J) → fc_T X10_foresee (d + 5) 0 0 23 [some (.ref 0), some (.int x1), none, none, some (.long x4), none, some (.int x6), none, none] [] fc_SH I (fc_PT v) (fc_Ql fc_SH (fun r' I' P' => r' = r ∧ I' = J ∧ P' = (fc_PT v))) := by
  unfold f_X10_foresee_23
  refine lpm2_T (fun k23 hk23 x4 x6 I hf => ?_)
  unfold f_X10_foresee_23_B at hf
  refine ft_iload dX10_foresee_23 rfl ?_
  refine ft_aload_n dX10_foresee_25 rfl ?_
  refine ft_getR fl_X10_10 rfl (sh_0) (by decide) pt_0_0 dX10_foresee_26 ?_
  refine ft_getI fl_X10_95 rfl (sh_1) (by decide) dX10_foresee_29 ?_
  refine fk_icmp_ge (tgt := 136) dX10_foresee_32 (by decide) hf (fun hf => ?_) (fun hf => ?_)
  · refine ft_lload dX10_foresee_136 rfl ?_
    refine ft_lconst (v := 0) dX10_foresee_138 rfl ?_
    refine ft_lcmp dX10_foresee_139 ?_
    refine fk_if_ne (tgt := 155) dX10_foresee_140 (by decide) hf (fun hf => ?_) (fun hf => ?_)
    · refine ft_ldc2 dX10_foresee_155 kc_X10_209 ?_
      exact fk_retl hf dX10_foresee_158 rfl
    · refine ft_aload_n dX10_foresee_143 rfl ?_
      refine ft_getR fl_X10_75 rfl (sh_0) (by decide) pt_0_7 dX10_foresee_144 ?_
      refine ft_iload_n dX10_foresee_147 rfl ?_
      obtain ⟨r148, I148, hc148, hf⟩ := fq_bs hf
      refine ft_V1i cf_X10_239 (sh_57) (t_X3_foreseen hv hc148) (Nat.le_of_ble_eq_true rfl) dX10_foresee_148 (fun r' J P' q => ?_)
      obtain ⟨rfl, rfl, rfl⟩ := q
      refine ft_i2l dX10_foresee_151 ?_
      refine ft_goto (tgt := 158) dX10_foresee_152 (by decide) ?_
      exact fk_retl hf dX10_foresee_158 rfl
  · refine ft_lload dX10_foresee_35 rfl ?_
    refine ft_ldc2 dX10_foresee_37 kc_X10_234 ?_
    refine ft_lrem dX10_foresee_40 (by decide) ?_
    refine ft_l2i dX10_foresee_41 ?_
    refine ft_istore dX10_foresee_42 (by decide) ?_
    refine ft_lload dX10_foresee_44 rfl ?_
    refine ft_ldc2 dX10_foresee_46 kc_X10_234 ?_
    refine ft_ldiv dX10_foresee_49 (by decide) ?_
    refine ft_lstore dX10_foresee_50 (by decide) ?_
    refine ft_iload dX10_foresee_52 rfl ?_
    refine ft_bipush (v := 99) dX10_foresee_54 rfl ?_
    refine fk_icmp_ne (tgt := 63) dX10_foresee_56 (by decide) hf (fun hf => ?_) (fun hf => ?_)
    · refine ft_iconst (v := 0) dX10_foresee_63 rfl ?_
      exact ft_forget (by simp [fc_le, fc_st1, fc_st2, fc_kill]) (t_X10_foresee_64 hv hk23  _ _ _ _ _ hf)
    · refine ft_iconst (v := 1) dX10_foresee_59 rfl ?_
      refine ft_goto (tgt := 64) dX10_foresee_60 (by decide) ?_
      exact ft_forget (by simp [fc_le, fc_st1, fc_st2, fc_kill]) (t_X10_foresee_64 hv hk23  _ _ _ _ _ hf)
set_option maxHeartbeats 4000000 in
set_option maxRecDepth 100000 in
theorem t_X10_foresee {d : Nat} {v : Nat} {r : Int64} {J : fc_I} {I : fc_I} {x1 : Int32} {x2 : Int64} (hv : fc_v v) (hf : f_X10_foresee I x1 x2 = some (r, J)) : fc_Cl X10_foresee (d + 5) [.ref 0, .int x1, .long x2] fc_SH I (fc_PT v) (fun r' I' P' => r' = r ∧ I' = J ∧ P' = (fc_PT v)) := by
  unfold f_X10_foresee at hf
  refine fc_Cl.of (ls := [some (.ref 0), some (.int x1), some (.long x2), none, none, none, none, none, none]) ⟨rfl, rfl⟩ (Nat.le_of_ble_eq_true rfl) rfl ?_
  refine ft_iload_n dX10_foresee_0 rfl ?_
  obtain ⟨r1, hc1, hf⟩ := fq_vs hf
  refine ft_S1p cf_X10_184 (t_X10_isNoTrack hc1) (Nat.le_of_ble_eq_true rfl) dX10_foresee_1 ?_
  refine fk_if_ne (tgt := 13) dX10_foresee_4 (by decide) hf (fun hf => ?_) (fun hf => ?_)
  · refine ft_ldc2 dX10_foresee_13 kc_X10_209 ?_
    exact fk_retl hf dX10_foresee_16 rfl
  · refine ft_lload_n dX10_foresee_7 rfl ?_
    refine ft_lconst (v := 0) dX10_foresee_8 rfl ?_
    refine ft_lcmp dX10_foresee_9 ?_
    refine fk_if_ge (tgt := 17) dX10_foresee_10 (by decide) hf (fun hf => ?_) (fun hf => ?_)
    · refine ft_lload_n dX10_foresee_17 rfl ?_
      refine ft_lstore dX10_foresee_18 (by decide) ?_
      refine ft_iconst (v := 0) dX10_foresee_20 rfl ?_
      refine ft_istore dX10_foresee_21 (by decide) ?_
      exact ft_forget (by simp [fc_le, fc_st1, fc_st2, fc_kill]) (t_X10_foresee_23 hv  _ _ _ _ hf)
    · refine ft_ldc2 dX10_foresee_13 kc_X10_209 ?_
      exact fk_retl hf dX10_foresee_16 rfl
def f_X10_good (I : fc_I) (x1 : Int32) : Option Int32 :=
fq_v (f_X10_isNoZone I x1) fun r2 =>
if r2.toInt = 0 then (
fq_g 6 x1 (
fq_l ((I 49 (cn x1))) fun y20 =>
if y20.toInt = ((-1) : Int32).toInt then (
some (-1))
else (
fq_g 6 x1 (
fq_v (f_X8_wasDanger I (I 2 (cn x1)) y20) fun r42 =>
if r42.toInt = 0 then (
some 0)
else (
some 1)))))
else (
some (-2))
set_option maxHeartbeats 4000000 in
set_option maxRecDepth 100000 in
theorem t_X10_good {d : Nat} {v : Nat} {r : Int32} {I : fc_I} {x1 : Int32} (hf : f_X10_good I x1 = some r) : fc_Cp X10_good (d + 3) [.ref 0, .int x1] fc_SH I (fc_PT v) r := by
  unfold f_X10_good at hf
  refine fc_Cp.of (ls := [some (.ref 0), some (.int x1), none]) ⟨rfl, rfl⟩ (Nat.le_of_ble_eq_true rfl) rfl ?_
  refine ft_aload_n dX10_good_0 rfl ?_
  refine ft_iload_n dX10_good_1 rfl ?_
  obtain ⟨r2, hc2, hf⟩ := fq_vs hf
  refine ft_V1p cf_X10_114 (sh_0) (t_X10_isNoZone hc2) (Nat.le_of_ble_eq_true rfl) dX10_good_2 ?_
  refine fk_if_eq (tgt := 11) dX10_good_5 (by decide) hf (fun hf => ?_) (fun hf => ?_)
  · refine ft_aload_n dX10_good_11 rfl ?_
    refine ft_getR fl_X10_57 rfl (sh_0) (by decide) pt_0_5 dX10_good_12 ?_
    refine ft_getR fl_X10_150 rfl (sh_45) (by decide) pt_45_3 dX10_good_15 ?_
    refine ft_iload_n dX10_good_18 rfl ?_
    refine fk_iald (sh_49) hf dX10_good_19 (fun hf => ?_)
    refine ft_istore_n dX10_good_20 (by decide) ?_
    refine ft_iload_n dX10_good_21 rfl ?_
    refine ft_iconst (v := (-1)) dX10_good_22 rfl ?_
    refine fk_icmp_ne (tgt := 28) dX10_good_23 (by decide) hf (fun hf => ?_) (fun hf => ?_)
    · refine ft_aload_n dX10_good_28 rfl ?_
      refine ft_getR fl_X10_33 rfl (sh_0) (by decide) pt_0_3 dX10_good_29 ?_
      refine ft_aload_n dX10_good_32 rfl ?_
      refine ft_getR fl_X10_10 rfl (sh_0) (by decide) pt_0_0 dX10_good_33 ?_
      refine ft_getR fl_X10_98 rfl (sh_1) (by decide) pt_1_0 dX10_good_36 ?_
      refine ft_iload_n dX10_good_39 rfl ?_
      refine fk_iald (sh_2) hf dX10_good_40 (fun hf => ?_)
      refine ft_iload_n dX10_good_41 rfl ?_
      obtain ⟨r42, hc42, hf⟩ := fq_vs hf
      refine ft_V2p cf_X10_222 (sh_15) (t_X8_wasDanger hc42) (Nat.le_of_ble_eq_true rfl) dX10_good_42 ?_
      refine fk_if_eq (tgt := 52) dX10_good_45 (by decide) hf (fun hf => ?_) (fun hf => ?_)
      · refine ft_iconst (v := 0) dX10_good_52 rfl ?_
        exact fk_retp hf dX10_good_53 rfl rfl
      · refine ft_iconst (v := 1) dX10_good_48 rfl ?_
        refine ft_goto (tgt := 53) dX10_good_49 (by decide) ?_
        exact fk_retp hf dX10_good_53 rfl rfl
    · refine ft_iconst (v := (-1)) dX10_good_26 rfl ?_
      exact fk_retp hf dX10_good_27 rfl rfl
  · refine ft_bipush (v := (-2)) dX10_good_8 rfl ?_
    exact fk_retp hf dX10_good_10 rfl rfl
def f_X10_inWater (I : fc_I) : Option Int32 :=
fq_v (f_X4_standInWater 45 I (I 15 10) (I 45 9)) fun r22 =>
some r22
set_option maxHeartbeats 4000000 in
set_option maxRecDepth 100000 in
theorem t_X10_inWater {d : Nat} {v : Nat} {r : Int32} {I : fc_I} (hf : f_X10_inWater I = some r) : fc_Cp X10_inWater (d + 2) [.ref 0] fc_SH I (fc_PT v) r := by
  unfold f_X10_inWater at hf
  refine fc_Cp.of (ls := [some (.ref 0)]) ⟨rfl, rfl⟩ (Nat.le_of_ble_eq_true rfl) rfl ?_
  refine ft_aload_n dX10_inWater_0 rfl ?_
  refine ft_getR fl_X10_66 rfl (sh_0) (by decide) pt_0_6 dX10_inWater_1 ?_
  refine ft_aload_n dX10_inWater_4 rfl ?_
  refine ft_getR fl_X10_57 rfl (sh_0) (by decide) pt_0_5 dX10_inWater_5 ?_
  refine ft_aload_n dX10_inWater_8 rfl ?_
  refine ft_getR fl_X10_33 rfl (sh_0) (by decide) pt_0_3 dX10_inWater_9 ?_
  refine ft_getI fl_X10_153 rfl (sh_15) (by decide) dX10_inWater_12 ?_
  refine ft_aload_n dX10_inWater_15 rfl ?_
  refine ft_getR fl_X10_57 rfl (sh_0) (by decide) pt_0_5 dX10_inWater_16 ?_
  refine ft_getI fl_X10_91 rfl (sh_45) (by decide) dX10_inWater_19 ?_
  obtain ⟨r22, hc22, hf⟩ := fq_vs hf
  refine ft_V3p cf_X10_230 (sh_54) (t_X4_standInWater (Or.inl rfl) hc22) (Nat.le_of_ble_eq_true rfl) dX10_inWater_22 ?_
  exact fk_retp hf dX10_inWater_25 rfl rfl
def f_X10_isNoGoal (I : fc_I) (x1 : Int32) : Option Int32 :=
fq_v (f_X10_isNoZone I x1) fun r2 =>
if r2.toInt = 0 then (
some 0)
else (
fq_v (f_X10_isOutside x1 10 (((10 : Int32) + (I 1 3)) - 1)) fun r23 =>
if r23.toInt = 0 then (
some 0)
else (
if x1.toInt = (20 : Int32).toInt then (
some 0)
else (
some 1)))
set_option maxHeartbeats 4000000 in
set_option maxRecDepth 100000 in
theorem t_X10_isNoGoal {d : Nat} {v : Nat} {r : Int32} {I : fc_I} {x1 : Int32} (hf : f_X10_isNoGoal I x1 = some r) : fc_Cp X10_isNoGoal (d + 2) [.ref 0, .int x1] fc_SH I (fc_PT v) r := by
  unfold f_X10_isNoGoal at hf
  refine fc_Cp.of (ls := [some (.ref 0), some (.int x1)]) ⟨rfl, rfl⟩ (Nat.le_of_ble_eq_true rfl) rfl ?_
  refine ft_aload_n dX10_isNoGoal_0 rfl ?_
  refine ft_iload_n dX10_isNoGoal_1 rfl ?_
  obtain ⟨r2, hc2, hf⟩ := fq_vs hf
  refine ft_V1p cf_X10_114 (sh_0) (t_X10_isNoZone hc2) (Nat.le_of_ble_eq_true rfl) dX10_isNoGoal_2 ?_
  refine fk_if_eq (tgt := 39) dX10_isNoGoal_5 (by decide) hf (fun hf => ?_) (fun hf => ?_)
  · refine ft_iconst (v := 0) dX10_isNoGoal_39 rfl ?_
    exact fk_retp hf dX10_isNoGoal_40 rfl rfl
  · refine ft_iload_n dX10_isNoGoal_8 rfl ?_
    refine ft_bipush (v := 10) dX10_isNoGoal_9 rfl ?_
    refine ft_bipush (v := 10) dX10_isNoGoal_11 rfl ?_
    refine ft_aload_n dX10_isNoGoal_13 rfl ?_
    refine ft_getR fl_X10_10 rfl (sh_0) (by decide) pt_0_0 dX10_isNoGoal_14 ?_
    refine ft_getI fl_X10_108 rfl (sh_1) (by decide) dX10_isNoGoal_17 ?_
    refine ft_iadd dX10_isNoGoal_20 ?_
    refine ft_iconst (v := 1) dX10_isNoGoal_21 rfl ?_
    refine ft_isub dX10_isNoGoal_22 ?_
    obtain ⟨r23, hc23, hf⟩ := fq_vs hf
    refine ft_S3p cf_X10_86 (t_X10_isOutside hc23) (Nat.le_of_ble_eq_true rfl) dX10_isNoGoal_23 ?_
    refine fk_if_eq (tgt := 39) dX10_isNoGoal_26 (by decide) hf (fun hf => ?_) (fun hf => ?_)
    · refine ft_iconst (v := 0) dX10_isNoGoal_39 rfl ?_
      exact fk_retp hf dX10_isNoGoal_40 rfl rfl
    · refine ft_iload_n dX10_isNoGoal_29 rfl ?_
      refine ft_bipush (v := 20) dX10_isNoGoal_30 rfl ?_
      refine fk_icmp_eq (tgt := 39) dX10_isNoGoal_32 (by decide) hf (fun hf => ?_) (fun hf => ?_)
      · refine ft_iconst (v := 0) dX10_isNoGoal_39 rfl ?_
        exact fk_retp hf dX10_isNoGoal_40 rfl rfl
      · refine ft_iconst (v := 1) dX10_isNoGoal_35 rfl ?_
        refine ft_goto (tgt := 40) dX10_isNoGoal_36 (by decide) ?_
        exact fk_retp hf dX10_isNoGoal_40 rfl rfl
def f_X10_isNoRoad (I : fc_I) (x1 : Int32) : Option Int32 :=
fq_v (f_X10_isOutside x1 0 ((I 4 5) - 1)) fun r11 =>
fq_z r11 (some r11)
set_option maxHeartbeats 4000000 in
set_option maxRecDepth 100000 in
theorem t_X10_isNoRoad {d : Nat} {v : Nat} {r : Int32} {I : fc_I} {x1 : Int32} (hf : f_X10_isNoRoad I x1 = some r) : fc_Cp X10_isNoRoad (d + 1) [.ref 0, .int x1] fc_SH I (fc_PT v) r := by
  unfold f_X10_isNoRoad at hf
  refine fc_Cp.of (ls := [some (.ref 0), some (.int x1)]) ⟨rfl, rfl⟩ (Nat.le_of_ble_eq_true rfl) rfl ?_
  refine ft_iload_n dX10_isNoRoad_0 rfl ?_
  refine ft_iconst (v := 0) dX10_isNoRoad_1 rfl ?_
  refine ft_aload_n dX10_isNoRoad_2 rfl ?_
  refine ft_getR fl_X10_19 rfl (sh_0) (by decide) pt_0_1 dX10_isNoRoad_3 ?_
  refine ft_getI fl_X10_121 rfl (sh_4) (by decide) dX10_isNoRoad_6 ?_
  refine ft_iconst (v := 1) dX10_isNoRoad_9 rfl ?_
  refine ft_isub dX10_isNoRoad_10 ?_
  obtain ⟨r11, hc11, hf⟩ := fq_vs hf
  refine ft_S3p cf_X10_86 (t_X10_isOutside hc11) (Nat.le_of_ble_eq_true rfl) dX10_isNoRoad_11 ?_
  obtain ⟨hz, hf⟩ := fq_zs hf
  exact fk_retp hf dX10_isNoRoad_14 rfl (fq_nz hz)
def f_X10_known (I : fc_I) (x1 : Int32) (x2 : Int32) (x3 : Int32) (x4 : Int32) : Option Int32 :=
fq_v (f_X10_isNoTrack x1) fun r1 =>
if r1.toInt = 0 then (
fq_v (f_X10_isOutside x2 0 60) fun r11 =>
if r11.toInt = 0 then (
fq_v (f_X10_isOutside x3 0 (I 45 9)) fun r26 =>
if r26.toInt = 0 then (
fq_v (f_X10_isOutside x4 0 1) fun r36 =>
if r36.toInt = 0 then (
if x4.toInt = 0 then (
fq_v (f_X8_waterKnown I x1 x2 x3) fun r57 =>
some r57)
else (
fq_v (f_X8_windKnown I x1 x2 x3) fun r70 =>
some r70))
else (
some (-2)))
else (
some (-2)))
else (
some (-2)))
else (
some (-2))
set_option maxHeartbeats 4000000 in
set_option maxRecDepth 100000 in
theorem t_X10_known {d : Nat} {v : Nat} {r : Int32} {I : fc_I} {x1 : Int32} {x2 : Int32} {x3 : Int32} {x4 : Int32} (hf : f_X10_known I x1 x2 x3 x4 = some r) : fc_Cp X10_known (d + 2) [.ref 0, .int x1, .int x2, .int x3, .int x4] fc_SH I (fc_PT v) r := by
  unfold f_X10_known at hf
  refine fc_Cp.of (ls := [some (.ref 0), some (.int x1), some (.int x2), some (.int x3), some (.int x4)]) ⟨rfl, rfl⟩ (Nat.le_of_ble_eq_true rfl) rfl ?_
  refine ft_iload_n dX10_known_0 rfl ?_
  obtain ⟨r1, hc1, hf⟩ := fq_vs hf
  refine ft_S1p cf_X10_184 (t_X10_isNoTrack hc1) (Nat.le_of_ble_eq_true rfl) dX10_known_1 ?_
  refine fk_if_ne (tgt := 42) dX10_known_4 (by decide) hf (fun hf => ?_) (fun hf => ?_)
  · refine ft_bipush (v := (-2)) dX10_known_42 rfl ?_
    exact fk_retp hf dX10_known_44 rfl rfl
  · refine ft_iload_n dX10_known_7 rfl ?_
    refine ft_iconst (v := 0) dX10_known_8 rfl ?_
    refine ft_bipush (v := 60) dX10_known_9 rfl ?_
    obtain ⟨r11, hc11, hf⟩ := fq_vs hf
    refine ft_S3p cf_X10_86 (t_X10_isOutside hc11) (Nat.le_of_ble_eq_true rfl) dX10_known_11 ?_
    refine fk_if_ne (tgt := 42) dX10_known_14 (by decide) hf (fun hf => ?_) (fun hf => ?_)
    · refine ft_bipush (v := (-2)) dX10_known_42 rfl ?_
      exact fk_retp hf dX10_known_44 rfl rfl
    · refine ft_iload_n dX10_known_17 rfl ?_
      refine ft_iconst (v := 0) dX10_known_18 rfl ?_
      refine ft_aload_n dX10_known_19 rfl ?_
      refine ft_getR fl_X10_57 rfl (sh_0) (by decide) pt_0_5 dX10_known_20 ?_
      refine ft_getI fl_X10_91 rfl (sh_45) (by decide) dX10_known_23 ?_
      obtain ⟨r26, hc26, hf⟩ := fq_vs hf
      refine ft_S3p cf_X10_86 (t_X10_isOutside hc26) (Nat.le_of_ble_eq_true rfl) dX10_known_26 ?_
      refine fk_if_ne (tgt := 42) dX10_known_29 (by decide) hf (fun hf => ?_) (fun hf => ?_)
      · refine ft_bipush (v := (-2)) dX10_known_42 rfl ?_
        exact fk_retp hf dX10_known_44 rfl rfl
      · refine ft_iload dX10_known_32 rfl ?_
        refine ft_iconst (v := 0) dX10_known_34 rfl ?_
        refine ft_iconst (v := 1) dX10_known_35 rfl ?_
        obtain ⟨r36, hc36, hf⟩ := fq_vs hf
        refine ft_S3p cf_X10_86 (t_X10_isOutside hc36) (Nat.le_of_ble_eq_true rfl) dX10_known_36 ?_
        refine fk_if_eq (tgt := 45) dX10_known_39 (by decide) hf (fun hf => ?_) (fun hf => ?_)
        · refine ft_iload dX10_known_45 rfl ?_
          refine fk_if_ne (tgt := 63) dX10_known_47 (by decide) hf (fun hf => ?_) (fun hf => ?_)
          · refine ft_aload_n dX10_known_63 rfl ?_
            refine ft_getR fl_X10_33 rfl (sh_0) (by decide) pt_0_3 dX10_known_64 ?_
            refine ft_iload_n dX10_known_67 rfl ?_
            refine ft_iload_n dX10_known_68 rfl ?_
            refine ft_iload_n dX10_known_69 rfl ?_
            obtain ⟨r70, hc70, hf⟩ := fq_vs hf
            refine ft_V3p cf_X10_198 (sh_15) (t_X8_windKnown hc70) (Nat.le_of_ble_eq_true rfl) dX10_known_70 ?_
            exact fk_retp hf dX10_known_73 rfl rfl
          · refine ft_aload_n dX10_known_50 rfl ?_
            refine ft_getR fl_X10_33 rfl (sh_0) (by decide) pt_0_3 dX10_known_51 ?_
            refine ft_iload_n dX10_known_54 rfl ?_
            refine ft_iload_n dX10_known_55 rfl ?_
            refine ft_iload_n dX10_known_56 rfl ?_
            obtain ⟨r57, hc57, hf⟩ := fq_vs hf
            refine ft_V3p cf_X10_195 (sh_15) (t_X8_waterKnown hc57) (Nat.le_of_ble_eq_true rfl) dX10_known_57 ?_
            refine ft_goto (tgt := 73) dX10_known_60 (by decide) ?_
            exact fk_retp hf dX10_known_73 rfl rfl
        · refine ft_bipush (v := (-2)) dX10_known_42 rfl ?_
          exact fk_retp hf dX10_known_44 rfl rfl
def f_X10_likely (I : fc_I) (x1 : Int32) (x2 : Int32) : Option (Int32 × fc_I) :=
fq_v (f_X10_isNoTrack x1) fun r1 =>
if r1.toInt = 0 then (
fq_v (f_X10_isOutside x2 0 1) fun r10 =>
if r10.toInt = 0 then (
fq_g 3 x1 (
if (I 16 (cn x1)).toInt = 0 then (
if x2.toInt = (1 : Int32).toInt then (
fq_g 3 x1 (fq_l (fc_wI I 16 (cn x1) (vp_nar .boolean 1)) fun I55 =>
some (0, I55)))
else (
fq_g 3 x1 (fq_l (fc_wI I 16 (cn x1) (vp_nar .boolean 0)) fun I55 =>
some (0, I55))))
else (
if x2.toInt = (1 : Int32).toInt then (
fq_g 3 x1 (fq_l (fc_wI I 16 (cn x1) (vp_nar .boolean 1)) fun I55 =>
some (1, I55)))
else (
fq_g 3 x1 (fq_l (fc_wI I 16 (cn x1) (vp_nar .boolean 0)) fun I55 =>
some (1, I55))))))
else (
some ((-2), I)))
else (
some ((-2), I))
set_option maxHeartbeats 4000000 in
set_option maxRecDepth 100000 in
theorem t_X10_likely {d : Nat} {v : Nat} {r : Int32} {J : fc_I} {I : fc_I} {x1 : Int32} {x2 : Int32} (hf : f_X10_likely I x1 x2 = some (r, J)) : fc_Ci X10_likely (d + 2) [.ref 0, .int x1, .int x2] fc_SH I (fc_PT v) (fun r' I' P' => r' = r ∧ I' = J ∧ P' = (fc_PT v)) := by
  unfold f_X10_likely at hf
  refine fc_Ci.of (ls := [some (.ref 0), some (.int x1), some (.int x2), none]) ⟨rfl, rfl⟩ (Nat.le_of_ble_eq_true rfl) rfl ?_
  refine ft_iload_n dX10_likely_0 rfl ?_
  obtain ⟨r1, hc1, hf⟩ := fq_vs hf
  refine ft_S1p cf_X10_184 (t_X10_isNoTrack hc1) (Nat.le_of_ble_eq_true rfl) dX10_likely_1 ?_
  refine fk_if_ne (tgt := 16) dX10_likely_4 (by decide) hf (fun hf => ?_) (fun hf => ?_)
  · refine ft_bipush (v := (-2)) dX10_likely_16 rfl ?_
    exact fk_reti hf dX10_likely_18 rfl rfl
  · refine ft_iload_n dX10_likely_7 rfl ?_
    refine ft_iconst (v := 0) dX10_likely_8 rfl ?_
    refine ft_iconst (v := 1) dX10_likely_9 rfl ?_
    obtain ⟨r10, hc10, hf⟩ := fq_vs hf
    refine ft_S3p cf_X10_86 (t_X10_isOutside hc10) (Nat.le_of_ble_eq_true rfl) dX10_likely_10 ?_
    refine fk_if_eq (tgt := 19) dX10_likely_13 (by decide) hf (fun hf => ?_) (fun hf => ?_)
    · refine ft_aload_n dX10_likely_19 rfl ?_
      refine ft_getR fl_X10_33 rfl (sh_0) (by decide) pt_0_3 dX10_likely_20 ?_
      refine ft_getR fl_X10_187 rfl (sh_15) (by decide) pt_15_0 dX10_likely_23 ?_
      refine ft_iload_n dX10_likely_26 rfl ?_
      refine fk_zald (sh_16) hf dX10_likely_27 (fun hf => ?_)
      refine fk_if_eq (tgt := 35) dX10_likely_28 (by decide) hf (fun hf => ?_) (fun hf => ?_)
      · refine ft_iconst (v := 0) dX10_likely_35 rfl ?_
        refine ft_istore_n dX10_likely_36 (by decide) ?_
        refine ft_aload_n dX10_likely_37 rfl ?_
        refine ft_getR fl_X10_33 rfl (sh_0) (by decide) pt_0_3 dX10_likely_38 ?_
        refine ft_getR fl_X10_187 rfl (sh_15) (by decide) pt_15_0 dX10_likely_41 ?_
        refine ft_iload_n dX10_likely_44 rfl ?_
        refine ft_iload_n dX10_likely_45 rfl ?_
        refine ft_iconst (v := 1) dX10_likely_46 rfl ?_
        refine fk_icmp_ne (tgt := 54) dX10_likely_47 (by decide) hf (fun hf => ?_) (fun hf => ?_)
        · refine ft_iconst (v := 0) dX10_likely_54 rfl ?_
          refine fk_zast (sh_16) hf dX10_likely_55 (fun hf => ?_)
          refine ft_iload_n dX10_likely_56 rfl ?_
          exact fk_reti hf dX10_likely_57 rfl rfl
        · refine ft_iconst (v := 1) dX10_likely_50 rfl ?_
          refine ft_goto (tgt := 55) dX10_likely_51 (by decide) ?_
          refine fk_zast (sh_16) hf dX10_likely_55 (fun hf => ?_)
          refine ft_iload_n dX10_likely_56 rfl ?_
          exact fk_reti hf dX10_likely_57 rfl rfl
      · refine ft_iconst (v := 1) dX10_likely_31 rfl ?_
        refine ft_goto (tgt := 36) dX10_likely_32 (by decide) ?_
        refine ft_istore_n dX10_likely_36 (by decide) ?_
        refine ft_aload_n dX10_likely_37 rfl ?_
        refine ft_getR fl_X10_33 rfl (sh_0) (by decide) pt_0_3 dX10_likely_38 ?_
        refine ft_getR fl_X10_187 rfl (sh_15) (by decide) pt_15_0 dX10_likely_41 ?_
        refine ft_iload_n dX10_likely_44 rfl ?_
        refine ft_iload_n dX10_likely_45 rfl ?_
        refine ft_iconst (v := 1) dX10_likely_46 rfl ?_
        refine fk_icmp_ne (tgt := 54) dX10_likely_47 (by decide) hf (fun hf => ?_) (fun hf => ?_)
        · refine ft_iconst (v := 0) dX10_likely_54 rfl ?_
          refine fk_zast (sh_16) hf dX10_likely_55 (fun hf => ?_)
          refine ft_iload_n dX10_likely_56 rfl ?_
          exact fk_reti hf dX10_likely_57 rfl rfl
        · refine ft_iconst (v := 1) dX10_likely_50 rfl ?_
          refine ft_goto (tgt := 55) dX10_likely_51 (by decide) ?_
          refine fk_zast (sh_16) hf dX10_likely_55 (fun hf => ?_)
          refine ft_iload_n dX10_likely_56 rfl ?_
          exact fk_reti hf dX10_likely_57 rfl rfl
    · refine ft_bipush (v := (-2)) dX10_likely_16 rfl ?_
      exact fk_reti hf dX10_likely_18 rfl rfl
def f_X10_news (I : fc_I) (x1 : Int32) (x2 : Int32) (x3 : Int32) (x4 : Int32) (x5 : Int32) : Option (Int32 × fc_I) :=
fq_b (f_X8_hear I (I 45 9) x1 x2 x3 x4 x5) fun r18 I18 =>
some (r18, I18)
set_option maxHeartbeats 4000000 in
set_option maxRecDepth 100000 in
theorem t_X10_news {d : Nat} {v : Nat} {r : Int32} {J : fc_I} {I : fc_I} {x1 : Int32} {x2 : Int32} {x3 : Int32} {x4 : Int32} {x5 : Int32} (hf : f_X10_news I x1 x2 x3 x4 x5 = some (r, J)) : fc_Ci X10_news (d + 3) [.ref 0, .int x1, .int x2, .int x3, .int x4, .int x5] fc_SH I (fc_PT v) (fun r' I' P' => r' = r ∧ I' = J ∧ P' = (fc_PT v)) := by
  unfold f_X10_news at hf
  refine fc_Ci.of (ls := [some (.ref 0), some (.int x1), some (.int x2), some (.int x3), some (.int x4), some (.int x5)]) ⟨rfl, rfl⟩ (Nat.le_of_ble_eq_true rfl) rfl ?_
  refine ft_aload_n dX10_news_0 rfl ?_
  refine ft_getR fl_X10_33 rfl (sh_0) (by decide) pt_0_3 dX10_news_1 ?_
  refine ft_aload_n dX10_news_4 rfl ?_
  refine ft_getR fl_X10_57 rfl (sh_0) (by decide) pt_0_5 dX10_news_5 ?_
  refine ft_getI fl_X10_91 rfl (sh_45) (by decide) dX10_news_8 ?_
  refine ft_iload_n dX10_news_11 rfl ?_
  refine ft_iload_n dX10_news_12 rfl ?_
  refine ft_iload_n dX10_news_13 rfl ?_
  refine ft_iload dX10_news_14 rfl ?_
  refine ft_iload dX10_news_16 rfl ?_
  obtain ⟨r18, I18, hc18, hf⟩ := fq_bs hf
  refine ft_V6i cf_X10_191 (sh_15) (t_X8_hear hc18) (Nat.le_of_ble_eq_true rfl) dX10_news_18 (fun r' J P' q => ?_)
  obtain ⟨rfl, rfl, rfl⟩ := q
  exact fk_reti hf dX10_news_21 rfl rfl
def f_X10_newsRow_75_B (x1 : Int32) (x2 : Int32) (x4 : Int32) (x5 : Int32) (k75 : Int32 → Int32 → fc_I → Option (Int32 × fc_I)) (x6 : Int32) (x7 : Int32) (I : fc_I) : Option (Int32 × fc_I) :=
if x7.toInt < x5.toInt then (
fq_l ((x4 + (x7 * 4))) fun y89 =>
fq_v (f_X7_holds I x2 y89 4) fun r99 =>
if r99.toInt = 0 then (
some ((-12), I))
else (
fq_g 4 x2 (
fq_g 40 y89 (
fq_g 40 (y89 + 1) (
fq_g 40 (y89 + 2) (
fq_g 40 (y89 + 3) (
fq_b (f_X8_hear I (I 45 9) x1 (I (72 + cn x2) (cn y89)) (I (72 + cn x2) (cn (y89 + 1))) (I (72 + cn x2) (cn (y89 + 2))) (I (72 + cn x2) (cn (y89 + 3)))) fun r157 I157 =>
if r157.toInt < 0 then (
fq_l (x7 + 1) fun y166 =>
k75 x6 y166 I157)
else (
fq_l (x6 + 1) fun y163 =>
fq_l (x7 + 1) fun y166 =>
k75 y163 y166 I157))))))))
else (
some (x6, I))
def f_X10_newsRow_75 (x1 : Int32) (x2 : Int32) (x4 : Int32) (x5 : Int32) (n : Nat) : Int32 → Int32 → fc_I → Option (Int32 × fc_I) := lpm2 (f_X10_newsRow_75_B x1 x2 x4 x5 ) n
def f_X10_newsRow (I : fc_I) (x1 : Int32) (x2 : Int32) (x3 : Int32) (x4 : Int32) (x5 : Int32) : Option (Int32 × fc_I) :=
fq_v (f_X10_isNoTrack x1) fun r1 =>
if r1.toInt = 0 then (
fq_v (f_X10_isNoSheet x2) fun r8 =>
if r8.toInt = 0 then (
fq_v (f_X10_isOutside x3 0 2) fun r17 =>
if r17.toInt = 0 then (
fq_v (f_X10_isOutside x5 0 10) fun r28 =>
if r28.toInt = 0 then (
fq_g 4 x2 (
if (I 76 (cn x2)).toInt = ((-1) : Int32).toInt then (
some ((-11), I))
else (
fq_g 4 x2 (
if (I 76 (cn x2)).toInt = x3.toInt then (
f_X10_newsRow_75 x1 x2 x4 x5 4000 0 0 I)
else (
some ((-13), I))))))
else (
some ((-2), I)))
else (
some ((-2), I)))
else (
some ((-2), I)))
else (
some ((-2), I))
set_option maxHeartbeats 4000000 in
set_option maxRecDepth 100000 in
theorem t_X10_newsRow_75 {d : Nat} {v : Nat} {r : Int32} {J : fc_I} {x1 : Int32} {x2 : Int32} {x4 : Int32} {x5 : Int32} : ∀ (n : Nat) (x6 : Int32) (x7 : Int32) (I : fc_I) , f_X10_newsRow_75 x1 x2 x4 x5 n x6 x7 I = some (r, J) → fc_T X10_newsRow (d + 3) 0 0 75 [some (.ref 0), some (.int x1), some (.int x2), none, some (.int x4), some (.int x5), some (.int x6), some (.int x7), none, none] [] fc_SH I (fc_PT v) (fc_Qi fc_SH (fun r' I' P' => r' = r ∧ I' = J ∧ P' = (fc_PT v))) := by
  unfold f_X10_newsRow_75
  refine lpm2_T (fun k75 hk75 x6 x7 I hf => ?_)
  unfold f_X10_newsRow_75_B at hf
  refine ft_iload dX10_newsRow_75 rfl ?_
  refine ft_iload dX10_newsRow_77 rfl ?_
  refine fk_icmp_ge (tgt := 172) dX10_newsRow_79 (by decide) hf (fun hf => ?_) (fun hf => ?_)
  · refine ft_iload dX10_newsRow_172 rfl ?_
    exact fk_reti hf dX10_newsRow_174 rfl rfl
  · refine ft_iload dX10_newsRow_82 rfl ?_
    refine ft_iload dX10_newsRow_84 rfl ?_
    refine ft_iconst (v := 4) dX10_newsRow_86 rfl ?_
    refine ft_imul dX10_newsRow_87 ?_
    refine ft_iadd dX10_newsRow_88 ?_
    refine ft_istore dX10_newsRow_89 (by decide) ?_
    refine ft_aload_n dX10_newsRow_91 rfl ?_
    refine ft_getR fl_X10_82 rfl (sh_0) (by decide) pt_0_8 dX10_newsRow_92 ?_
    refine ft_iload_n dX10_newsRow_95 rfl ?_
    refine ft_iload dX10_newsRow_96 rfl ?_
    refine ft_iconst (v := 4) dX10_newsRow_98 rfl ?_
    obtain ⟨r99, hc99, hf⟩ := fq_vs hf
    refine ft_V3p cf_X10_281 (sh_70) (t_X7_holds hc99) (Nat.le_of_ble_eq_true rfl) dX10_newsRow_99 ?_
    refine fk_if_ne (tgt := 108) dX10_newsRow_102 (by decide) hf (fun hf => ?_) (fun hf => ?_)
    · refine ft_aload_n dX10_newsRow_108 rfl ?_
      refine ft_getR fl_X10_82 rfl (sh_0) (by decide) pt_0_8 dX10_newsRow_109 ?_
      refine ft_getR fl_X10_284 rfl (sh_70) (by decide) pt_70_0 dX10_newsRow_112 ?_
      refine ft_iload_n dX10_newsRow_115 rfl ?_
      refine fk_aald (sh_71) hf (fun b => pa_71 b) dX10_newsRow_116 (fun hb116 hf => ?_)
      refine ft_astore dX10_newsRow_117 (by decide) ?_
      refine ft_aload_n dX10_newsRow_119 rfl ?_
      refine ft_getR fl_X10_33 rfl (sh_0) (by decide) pt_0_3 dX10_newsRow_120 ?_
      refine ft_aload_n dX10_newsRow_123 rfl ?_
      refine ft_getR fl_X10_57 rfl (sh_0) (by decide) pt_0_5 dX10_newsRow_124 ?_
      refine ft_getI fl_X10_91 rfl (sh_45) (by decide) dX10_newsRow_127 ?_
      refine ft_iload_n dX10_newsRow_130 rfl ?_
      refine ft_aload dX10_newsRow_131 rfl ?_
      refine ft_iload dX10_newsRow_133 rfl ?_
      refine fk_iald (sa_71 hb116) hf dX10_newsRow_135 (fun hf => ?_)
      refine ft_aload dX10_newsRow_136 rfl ?_
      refine ft_iload dX10_newsRow_138 rfl ?_
      refine ft_iconst (v := 1) dX10_newsRow_140 rfl ?_
      refine ft_iadd dX10_newsRow_141 ?_
      refine fk_iald (sa_71 hb116) hf dX10_newsRow_142 (fun hf => ?_)
      refine ft_aload dX10_newsRow_143 rfl ?_
      refine ft_iload dX10_newsRow_145 rfl ?_
      refine ft_iconst (v := 2) dX10_newsRow_147 rfl ?_
      refine ft_iadd dX10_newsRow_148 ?_
      refine fk_iald (sa_71 hb116) hf dX10_newsRow_149 (fun hf => ?_)
      refine ft_aload dX10_newsRow_150 rfl ?_
      refine ft_iload dX10_newsRow_152 rfl ?_
      refine ft_iconst (v := 3) dX10_newsRow_154 rfl ?_
      refine ft_iadd dX10_newsRow_155 ?_
      refine fk_iald (sa_71 hb116) hf dX10_newsRow_156 (fun hf => ?_)
      obtain ⟨r157, I157, hc157, hf⟩ := fq_bs hf
      refine ft_V6i cf_X10_191 (sh_15) (t_X8_hear hc157) (Nat.le_of_ble_eq_true rfl) dX10_newsRow_157 (fun r' J P' q => ?_)
      obtain ⟨rfl, rfl, rfl⟩ := q
      refine fk_if_lt (tgt := 166) dX10_newsRow_160 (by decide) hf (fun hf => ?_) (fun hf => ?_)
      · refine fk_iinc (c := 1) dX10_newsRow_166 rfl (by decide) rfl ?_
        refine ft_goto (tgt := 75) dX10_newsRow_169 (by decide) ?_
        exact ft_forget (by simp [fc_le, fc_st1, fc_st2, fc_kill]) (hk75 _ _ _ hf)
      · refine fk_iinc (c := 1) dX10_newsRow_163 rfl (by decide) rfl ?_
        refine fk_iinc (c := 1) dX10_newsRow_166 rfl (by decide) rfl ?_
        refine ft_goto (tgt := 75) dX10_newsRow_169 (by decide) ?_
        exact ft_forget (by simp [fc_le, fc_st1, fc_st2, fc_kill]) (hk75 _ _ _ hf)
    · refine ft_bipush (v := (-12)) dX10_newsRow_105 rfl ?_
      exact fk_reti hf dX10_newsRow_107 rfl rfl
set_option maxHeartbeats 4000000 in
set_option maxRecDepth 100000 in
theorem t_X10_newsRow {d : Nat} {v : Nat} {r : Int32} {J : fc_I} {I : fc_I} {x1 : Int32} {x2 : Int32} {x3 : Int32} {x4 : Int32} {x5 : Int32} (hf : f_X10_newsRow I x1 x2 x3 x4 x5 = some (r, J)) : fc_Ci X10_newsRow (d + 3) [.ref 0, .int x1, .int x2, .int x3, .int x4, .int x5] fc_SH I (fc_PT v) (fun r' I' P' => r' = r ∧ I' = J ∧ P' = (fc_PT v)) := by
  unfold f_X10_newsRow at hf
  refine fc_Ci.of (ls := [some (.ref 0), some (.int x1), some (.int x2), some (.int x3), some (.int x4), some (.int x5), none, none, none, none]) ⟨rfl, rfl⟩ (Nat.le_of_ble_eq_true rfl) rfl ?_
  refine ft_iload_n dX10_newsRow_0 rfl ?_
  obtain ⟨r1, hc1, hf⟩ := fq_vs hf
  refine ft_S1p cf_X10_184 (t_X10_isNoTrack hc1) (Nat.le_of_ble_eq_true rfl) dX10_newsRow_1 ?_
  refine fk_if_ne (tgt := 34) dX10_newsRow_4 (by decide) hf (fun hf => ?_) (fun hf => ?_)
  · refine ft_bipush (v := (-2)) dX10_newsRow_34 rfl ?_
    exact fk_reti hf dX10_newsRow_36 rfl rfl
  · refine ft_iload_n dX10_newsRow_7 rfl ?_
    obtain ⟨r8, hc8, hf⟩ := fq_vs hf
    refine ft_S1p cf_X10_266 (t_X10_isNoSheet hc8) (Nat.le_of_ble_eq_true rfl) dX10_newsRow_8 ?_
    refine fk_if_ne (tgt := 34) dX10_newsRow_11 (by decide) hf (fun hf => ?_) (fun hf => ?_)
    · refine ft_bipush (v := (-2)) dX10_newsRow_34 rfl ?_
      exact fk_reti hf dX10_newsRow_36 rfl rfl
    · refine ft_iload_n dX10_newsRow_14 rfl ?_
      refine ft_iconst (v := 0) dX10_newsRow_15 rfl ?_
      refine ft_iconst (v := 2) dX10_newsRow_16 rfl ?_
      obtain ⟨r17, hc17, hf⟩ := fq_vs hf
      refine ft_S3p cf_X10_86 (t_X10_isOutside hc17) (Nat.le_of_ble_eq_true rfl) dX10_newsRow_17 ?_
      refine fk_if_ne (tgt := 34) dX10_newsRow_20 (by decide) hf (fun hf => ?_) (fun hf => ?_)
      · refine ft_bipush (v := (-2)) dX10_newsRow_34 rfl ?_
        exact fk_reti hf dX10_newsRow_36 rfl rfl
      · refine ft_iload dX10_newsRow_23 rfl ?_
        refine ft_iconst (v := 0) dX10_newsRow_25 rfl ?_
        refine ft_bipush (v := 10) dX10_newsRow_26 rfl ?_
        obtain ⟨r28, hc28, hf⟩ := fq_vs hf
        refine ft_S3p cf_X10_86 (t_X10_isOutside hc28) (Nat.le_of_ble_eq_true rfl) dX10_newsRow_28 ?_
        refine fk_if_eq (tgt := 37) dX10_newsRow_31 (by decide) hf (fun hf => ?_) (fun hf => ?_)
        · refine ft_aload_n dX10_newsRow_37 rfl ?_
          refine ft_getR fl_X10_82 rfl (sh_0) (by decide) pt_0_8 dX10_newsRow_38 ?_
          refine ft_getR fl_X10_269 rfl (sh_70) (by decide) pt_70_1 dX10_newsRow_41 ?_
          refine ft_iload_n dX10_newsRow_44 rfl ?_
          refine fk_iald (sh_76) hf dX10_newsRow_45 (fun hf => ?_)
          refine ft_iconst (v := (-1)) dX10_newsRow_46 rfl ?_
          refine fk_icmp_ne (tgt := 53) dX10_newsRow_47 (by decide) hf (fun hf => ?_) (fun hf => ?_)
          · refine ft_aload_n dX10_newsRow_53 rfl ?_
            refine ft_getR fl_X10_82 rfl (sh_0) (by decide) pt_0_8 dX10_newsRow_54 ?_
            refine ft_getR fl_X10_269 rfl (sh_70) (by decide) pt_70_1 dX10_newsRow_57 ?_
            refine ft_iload_n dX10_newsRow_60 rfl ?_
            refine fk_iald (sh_76) hf dX10_newsRow_61 (fun hf => ?_)
            refine ft_iload_n dX10_newsRow_62 rfl ?_
            refine fk_icmp_eq (tgt := 69) dX10_newsRow_63 (by decide) hf (fun hf => ?_) (fun hf => ?_)
            · refine ft_iconst (v := 0) dX10_newsRow_69 rfl ?_
              refine ft_istore dX10_newsRow_70 (by decide) ?_
              refine ft_iconst (v := 0) dX10_newsRow_72 rfl ?_
              refine ft_istore dX10_newsRow_73 (by decide) ?_
              exact ft_forget (by simp [fc_le, fc_st1, fc_st2, fc_kill]) (t_X10_newsRow_75   _ _ _ _ hf)
            · refine ft_bipush (v := (-13)) dX10_newsRow_66 rfl ?_
              exact fk_reti hf dX10_newsRow_68 rfl rfl
          · refine ft_bipush (v := (-11)) dX10_newsRow_50 rfl ?_
            exact fk_reti hf dX10_newsRow_52 rfl rfl
        · refine ft_bipush (v := (-2)) dX10_newsRow_34 rfl ?_
          exact fk_reti hf dX10_newsRow_36 rfl rfl
def f_X10_pass_37_B (x1 : Int32) (k37 : Int32 → fc_I → Option (Int32 × fc_I)) (x2 : Int32) (I : fc_I) : Option (Int32 × fc_I) :=
if x2.toInt < x1.toInt then (
fq_u (f_X4_goBy 45 I (I 15 10)) fun I57 =>
fq_l (x2 + 1) fun y60 =>
k37 y60 I57)
else (
some ((I 45 9), I))
def f_X10_pass_37 (x1 : Int32) (n : Nat) : Int32 → fc_I → Option (Int32 × fc_I) := lpm1 (f_X10_pass_37_B x1 ) n
def f_X10_pass (I : fc_I) (x1 : Int32) : Option (Int32 × fc_I) :=
fq_v (f_X10_isOutside x1 1 60) fun r4 =>
if r4.toInt = 0 then (
if (I 15 11).toInt < ((I 45 9) + x1).toInt then (
some ((-4), I))
else (
f_X10_pass_37 x1 4000 0 I))
else (
some ((-2), I))
set_option maxHeartbeats 4000000 in
set_option maxRecDepth 100000 in
theorem t_X10_pass_37 {d : Nat} {v : Nat} {r : Int32} {J : fc_I} {x1 : Int32} (hv : fc_v v) : ∀ (n : Nat) (x2 : Int32) (I : fc_I) , f_X10_pass_37 x1 n x2 I = some (r, J) → fc_T X10_pass (d + 4) 0 0 37 [some (.ref 0), some (.int x1), some (.int x2)] [] fc_SH I (fc_PT v) (fc_Qi fc_SH (fun r' I' P' => r' = r ∧ I' = J ∧ P' = (fc_PT v))) := by
  unfold f_X10_pass_37
  refine lpm1_T (fun k37 hk37 x2 I hf => ?_)
  unfold f_X10_pass_37_B at hf
  refine ft_iload_n dX10_pass_37 rfl ?_
  refine ft_iload_n dX10_pass_38 rfl ?_
  refine fk_icmp_ge (tgt := 66) dX10_pass_39 (by decide) hf (fun hf => ?_) (fun hf => ?_)
  · refine ft_aload_n dX10_pass_66 rfl ?_
    refine ft_getR fl_X10_57 rfl (sh_0) (by decide) pt_0_5 dX10_pass_67 ?_
    refine ft_getI fl_X10_91 rfl (sh_45) (by decide) dX10_pass_70 ?_
    exact fk_reti hf dX10_pass_73 rfl rfl
  · refine ft_aload_n dX10_pass_42 rfl ?_
    refine ft_getR fl_X10_66 rfl (sh_0) (by decide) pt_0_6 dX10_pass_43 ?_
    refine ft_aload_n dX10_pass_46 rfl ?_
    refine ft_getR fl_X10_57 rfl (sh_0) (by decide) pt_0_5 dX10_pass_47 ?_
    refine ft_aload_n dX10_pass_50 rfl ?_
    refine ft_getR fl_X10_33 rfl (sh_0) (by decide) pt_0_3 dX10_pass_51 ?_
    refine ft_getI fl_X10_153 rfl (sh_15) (by decide) dX10_pass_54 ?_
    obtain ⟨I57, hc57, hf⟩ := fq_us hf
    refine ft_V2v cf_X10_226 (sh_54) (t_X4_goBy hv (Or.inl rfl) hc57) (Nat.le_of_ble_eq_true rfl) dX10_pass_57 (fun J P' q => ?_)
    obtain ⟨rfl, rfl⟩ := q
    refine fk_iinc (c := 1) dX10_pass_60 rfl (by decide) rfl ?_
    refine ft_goto (tgt := 37) dX10_pass_63 (by decide) ?_
    exact ft_forget (by simp [fc_le, fc_st1, fc_st2, fc_kill]) (hk37 _ _ hf)
set_option maxHeartbeats 4000000 in
set_option maxRecDepth 100000 in
theorem t_X10_pass {d : Nat} {v : Nat} {r : Int32} {J : fc_I} {I : fc_I} {x1 : Int32} (hv : fc_v v) (hf : f_X10_pass I x1 = some (r, J)) : fc_Ci X10_pass (d + 4) [.ref 0, .int x1] fc_SH I (fc_PT v) (fun r' I' P' => r' = r ∧ I' = J ∧ P' = (fc_PT v)) := by
  unfold f_X10_pass at hf
  refine fc_Ci.of (ls := [some (.ref 0), some (.int x1), none]) ⟨rfl, rfl⟩ (Nat.le_of_ble_eq_true rfl) rfl ?_
  refine ft_iload_n dX10_pass_0 rfl ?_
  refine ft_iconst (v := 1) dX10_pass_1 rfl ?_
  refine ft_bipush (v := 60) dX10_pass_2 rfl ?_
  obtain ⟨r4, hc4, hf⟩ := fq_vs hf
  refine ft_S3p cf_X10_86 (t_X10_isOutside hc4) (Nat.le_of_ble_eq_true rfl) dX10_pass_4 ?_
  refine fk_if_eq (tgt := 13) dX10_pass_7 (by decide) hf (fun hf => ?_) (fun hf => ?_)
  · refine ft_aload_n dX10_pass_13 rfl ?_
    refine ft_getR fl_X10_57 rfl (sh_0) (by decide) pt_0_5 dX10_pass_14 ?_
    refine ft_getI fl_X10_91 rfl (sh_45) (by decide) dX10_pass_17 ?_
    refine ft_iload_n dX10_pass_20 rfl ?_
    refine ft_iadd dX10_pass_21 ?_
    refine ft_aload_n dX10_pass_22 rfl ?_
    refine ft_getR fl_X10_33 rfl (sh_0) (by decide) pt_0_3 dX10_pass_23 ?_
    refine ft_getI fl_X10_181 rfl (sh_15) (by decide) dX10_pass_26 ?_
    refine fk_icmp_le (tgt := 35) dX10_pass_29 (by decide) hf (fun hf => ?_) (fun hf => ?_)
    · refine ft_iconst (v := 0) dX10_pass_35 rfl ?_
      refine ft_istore_n dX10_pass_36 (by decide) ?_
      exact ft_forget (by simp [fc_le, fc_st1, fc_st2, fc_kill]) (t_X10_pass_37 hv  _ _ _ hf)
    · refine ft_bipush (v := (-4)) dX10_pass_32 rfl ?_
      exact fk_reti hf dX10_pass_34 rfl rfl
  · refine ft_bipush (v := (-2)) dX10_pass_10 rfl ?_
    exact fk_reti hf dX10_pass_12 rfl rfl
def f_X10_road (I : fc_I) (x1 : Int32) (x2 : Int32) (x3 : Int32) (x4 : Int32) : Option (Int32 × fc_I) :=
fq_v (f_X10_isOutside x1 0 5) fun r3 =>
if r3.toInt = 0 then (
fq_v (f_X10_isNoZone I x2) fun r11 =>
if r11.toInt = 0 then (
fq_v (f_X10_isNoGoal I x3) fun r19 =>
if r19.toInt = 0 then (
if x3.toInt = x2.toInt then (
some ((-2), I))
else (
fq_v (f_X10_isOutside x4 1 9999) fun r36 =>
if r36.toInt = 0 then (
if (I 4 5).toInt < (14 : Int32).toInt then (
fq_b (f_X6_build I x1 x2 x3 x4) fun r69 I69 =>
some (r69, I69))
else (
some ((-4), I)))
else (
some ((-2), I))))
else (
some ((-2), I)))
else (
some ((-2), I)))
else (
some ((-2), I))
set_option maxHeartbeats 4000000 in
set_option maxRecDepth 100000 in
theorem t_X10_road {d : Nat} {v : Nat} {r : Int32} {J : fc_I} {I : fc_I} {x1 : Int32} {x2 : Int32} {x3 : Int32} {x4 : Int32} (hf : f_X10_road I x1 x2 x3 x4 = some (r, J)) : fc_Ci X10_road (d + 3) [.ref 0, .int x1, .int x2, .int x3, .int x4] fc_SH I (fc_PT v) (fun r' I' P' => r' = r ∧ I' = J ∧ P' = (fc_PT v)) := by
  unfold f_X10_road at hf
  refine fc_Ci.of (ls := [some (.ref 0), some (.int x1), some (.int x2), some (.int x3), some (.int x4)]) ⟨rfl, rfl⟩ (Nat.le_of_ble_eq_true rfl) rfl ?_
  refine ft_iload_n dX10_road_0 rfl ?_
  refine ft_iconst (v := 0) dX10_road_1 rfl ?_
  refine ft_iconst (v := 5) dX10_road_2 rfl ?_
  obtain ⟨r3, hc3, hf⟩ := fq_vs hf
  refine ft_S3p cf_X10_86 (t_X10_isOutside hc3) (Nat.le_of_ble_eq_true rfl) dX10_road_3 ?_
  refine fk_if_ne (tgt := 42) dX10_road_6 (by decide) hf (fun hf => ?_) (fun hf => ?_)
  · refine ft_bipush (v := (-2)) dX10_road_42 rfl ?_
    exact fk_reti hf dX10_road_44 rfl rfl
  · refine ft_aload_n dX10_road_9 rfl ?_
    refine ft_iload_n dX10_road_10 rfl ?_
    obtain ⟨r11, hc11, hf⟩ := fq_vs hf
    refine ft_V1p cf_X10_114 (sh_0) (t_X10_isNoZone hc11) (Nat.le_of_ble_eq_true rfl) dX10_road_11 ?_
    refine fk_if_ne (tgt := 42) dX10_road_14 (by decide) hf (fun hf => ?_) (fun hf => ?_)
    · refine ft_bipush (v := (-2)) dX10_road_42 rfl ?_
      exact fk_reti hf dX10_road_44 rfl rfl
    · refine ft_aload_n dX10_road_17 rfl ?_
      refine ft_iload_n dX10_road_18 rfl ?_
      obtain ⟨r19, hc19, hf⟩ := fq_vs hf
      refine ft_V1p cf_X10_118 (sh_0) (t_X10_isNoGoal hc19) (Nat.le_of_ble_eq_true rfl) dX10_road_19 ?_
      refine fk_if_ne (tgt := 42) dX10_road_22 (by decide) hf (fun hf => ?_) (fun hf => ?_)
      · refine ft_bipush (v := (-2)) dX10_road_42 rfl ?_
        exact fk_reti hf dX10_road_44 rfl rfl
      · refine ft_iload_n dX10_road_25 rfl ?_
        refine ft_iload_n dX10_road_26 rfl ?_
        refine fk_icmp_eq (tgt := 42) dX10_road_27 (by decide) hf (fun hf => ?_) (fun hf => ?_)
        · refine ft_bipush (v := (-2)) dX10_road_42 rfl ?_
          exact fk_reti hf dX10_road_44 rfl rfl
        · refine ft_iload dX10_road_30 rfl ?_
          refine ft_iconst (v := 1) dX10_road_32 rfl ?_
          refine ft_sipush (v := 9999) dX10_road_33 rfl ?_
          obtain ⟨r36, hc36, hf⟩ := fq_vs hf
          refine ft_S3p cf_X10_86 (t_X10_isOutside hc36) (Nat.le_of_ble_eq_true rfl) dX10_road_36 ?_
          refine fk_if_eq (tgt := 45) dX10_road_39 (by decide) hf (fun hf => ?_) (fun hf => ?_)
          · refine ft_aload_n dX10_road_45 rfl ?_
            refine ft_getR fl_X10_19 rfl (sh_0) (by decide) pt_0_1 dX10_road_46 ?_
            refine ft_getI fl_X10_121 rfl (sh_4) (by decide) dX10_road_49 ?_
            refine ft_bipush (v := 14) dX10_road_52 rfl ?_
            refine fk_icmp_lt (tgt := 60) dX10_road_54 (by decide) hf (fun hf => ?_) (fun hf => ?_)
            · refine ft_aload_n dX10_road_60 rfl ?_
              refine ft_getR fl_X10_19 rfl (sh_0) (by decide) pt_0_1 dX10_road_61 ?_
              refine ft_iload_n dX10_road_64 rfl ?_
              refine ft_iload_n dX10_road_65 rfl ?_
              refine ft_iload_n dX10_road_66 rfl ?_
              refine ft_iload dX10_road_67 rfl ?_
              obtain ⟨r69, I69, hc69, hf⟩ := fq_bs hf
              refine ft_V4i cf_X10_124 (sh_4) (t_X6_build hc69) (Nat.le_of_ble_eq_true rfl) dX10_road_69 (fun r' J P' q => ?_)
              obtain ⟨rfl, rfl, rfl⟩ := q
              exact fk_reti hf dX10_road_72 rfl rfl
            · refine ft_bipush (v := (-4)) dX10_road_57 rfl ?_
              exact fk_reti hf dX10_road_59 rfl rfl
          · refine ft_bipush (v := (-2)) dX10_road_42 rfl ?_
            exact fk_reti hf dX10_road_44 rfl rfl
def f_X10_roadTold (I : fc_I) (x1 : Int32) (x2 : Int32) : Option Int32 :=
fq_v (f_X10_isNoRoad I x1) fun r2 =>
if r2.toInt = 0 then (
if x2.toInt = 0 then (
fq_g 14 x1 (
some (I 5 (cn x1))))
else if x2.toInt = 1 then (
fq_g 14 x1 (
some (I 6 (cn x1))))
else if x2.toInt = 2 then (
fq_g 14 x1 (
some (I 7 (cn x1))))
else if x2.toInt = 3 then (
fq_g 14 x1 (
some (I 8 (cn x1))))
else if x2.toInt = 4 then (
fq_g 14 x1 (
some (I 9 (cn x1))))
else if x2.toInt = 5 then (
fq_v (f_X4_openFlow I x1 (I 15 10) (I 45 9)) fun r121 =>
some r121)
else (
some (-2)))
else (
some (-2))
set_option maxHeartbeats 4000000 in
set_option maxRecDepth 100000 in
theorem t_X10_roadTold {d : Nat} {v : Nat} {r : Int32} {I : fc_I} {x1 : Int32} {x2 : Int32} (hf : f_X10_roadTold I x1 x2 = some r) : fc_Cp X10_roadTold (d + 2) [.ref 0, .int x1, .int x2] fc_SH I (fc_PT v) r := by
  unfold f_X10_roadTold at hf
  refine fc_Cp.of (ls := [some (.ref 0), some (.int x1), some (.int x2)]) ⟨rfl, rfl⟩ (Nat.le_of_ble_eq_true rfl) rfl ?_
  refine ft_aload_n dX10_roadTold_0 rfl ?_
  refine ft_iload_n dX10_roadTold_1 rfl ?_
  obtain ⟨r2, hc2, hf⟩ := fq_vs hf
  refine ft_V1p cf_X10_128 (sh_0) (t_X10_isNoRoad hc2) (Nat.le_of_ble_eq_true rfl) dX10_roadTold_2 ?_
  refine fk_if_eq (tgt := 11) dX10_roadTold_5 (by decide) hf (fun hf => ?_) (fun hf => ?_)
  · refine ft_iload_n dX10_roadTold_11 rfl ?_
    rcases fq_is hf with ⟨e_12_0, hf⟩ | ⟨e_12_0, hf⟩
    · refine ft_tsIn (tgt := 52) dX10_roadTold_12 (by rw [e_12_0]; decide) (by rw [e_12_0]; decide) (by rw [e_12_0]; rfl) (by decide) ?_
      refine ft_aload_n dX10_roadTold_52 rfl ?_
      refine ft_getR fl_X10_19 rfl (sh_0) (by decide) pt_0_1 dX10_roadTold_53 ?_
      refine ft_getR fl_X10_162 rfl (sh_4) (by decide) pt_4_0 dX10_roadTold_56 ?_
      refine ft_iload_n dX10_roadTold_59 rfl ?_
      refine fk_iald (sh_5) hf dX10_roadTold_60 (fun hf => ?_)
      exact fk_retp hf dX10_roadTold_61 rfl rfl
    rcases fq_is hf with ⟨e_12_1, hf⟩ | ⟨e_12_1, hf⟩
    · refine ft_tsIn (tgt := 62) dX10_roadTold_12 (by rw [e_12_1]; decide) (by rw [e_12_1]; decide) (by rw [e_12_1]; rfl) (by decide) ?_
      refine ft_aload_n dX10_roadTold_62 rfl ?_
      refine ft_getR fl_X10_19 rfl (sh_0) (by decide) pt_0_1 dX10_roadTold_63 ?_
      refine ft_getR fl_X10_131 rfl (sh_4) (by decide) pt_4_1 dX10_roadTold_66 ?_
      refine ft_iload_n dX10_roadTold_69 rfl ?_
      refine fk_iald (sh_6) hf dX10_roadTold_70 (fun hf => ?_)
      exact fk_retp hf dX10_roadTold_71 rfl rfl
    rcases fq_is hf with ⟨e_12_2, hf⟩ | ⟨e_12_2, hf⟩
    · refine ft_tsIn (tgt := 72) dX10_roadTold_12 (by rw [e_12_2]; decide) (by rw [e_12_2]; decide) (by rw [e_12_2]; rfl) (by decide) ?_
      refine ft_aload_n dX10_roadTold_72 rfl ?_
      refine ft_getR fl_X10_19 rfl (sh_0) (by decide) pt_0_1 dX10_roadTold_73 ?_
      refine ft_getR fl_X10_165 rfl (sh_4) (by decide) pt_4_2 dX10_roadTold_76 ?_
      refine ft_iload_n dX10_roadTold_79 rfl ?_
      refine fk_iald (sh_7) hf dX10_roadTold_80 (fun hf => ?_)
      exact fk_retp hf dX10_roadTold_81 rfl rfl
    rcases fq_is hf with ⟨e_12_3, hf⟩ | ⟨e_12_3, hf⟩
    · refine ft_tsIn (tgt := 82) dX10_roadTold_12 (by rw [e_12_3]; decide) (by rw [e_12_3]; decide) (by rw [e_12_3]; rfl) (by decide) ?_
      refine ft_aload_n dX10_roadTold_82 rfl ?_
      refine ft_getR fl_X10_19 rfl (sh_0) (by decide) pt_0_1 dX10_roadTold_83 ?_
      refine ft_getR fl_X10_168 rfl (sh_4) (by decide) pt_4_3 dX10_roadTold_86 ?_
      refine ft_iload_n dX10_roadTold_89 rfl ?_
      refine fk_iald (sh_8) hf dX10_roadTold_90 (fun hf => ?_)
      exact fk_retp hf dX10_roadTold_91 rfl rfl
    rcases fq_is hf with ⟨e_12_4, hf⟩ | ⟨e_12_4, hf⟩
    · refine ft_tsIn (tgt := 92) dX10_roadTold_12 (by rw [e_12_4]; decide) (by rw [e_12_4]; decide) (by rw [e_12_4]; rfl) (by decide) ?_
      refine ft_aload_n dX10_roadTold_92 rfl ?_
      refine ft_getR fl_X10_19 rfl (sh_0) (by decide) pt_0_1 dX10_roadTold_93 ?_
      refine ft_getR fl_X10_137 rfl (sh_4) (by decide) pt_4_4 dX10_roadTold_96 ?_
      refine ft_iload_n dX10_roadTold_99 rfl ?_
      refine fk_iald (sh_9) hf dX10_roadTold_100 (fun hf => ?_)
      exact fk_retp hf dX10_roadTold_101 rfl rfl
    rcases fq_is hf with ⟨e_12_5, hf⟩ | ⟨e_12_5, hf⟩
    · refine ft_tsIn (tgt := 102) dX10_roadTold_12 (by rw [e_12_5]; decide) (by rw [e_12_5]; decide) (by rw [e_12_5]; rfl) (by decide) ?_
      refine ft_aload_n dX10_roadTold_102 rfl ?_
      refine ft_getR fl_X10_66 rfl (sh_0) (by decide) pt_0_6 dX10_roadTold_103 ?_
      refine ft_iload_n dX10_roadTold_106 rfl ?_
      refine ft_aload_n dX10_roadTold_107 rfl ?_
      refine ft_getR fl_X10_33 rfl (sh_0) (by decide) pt_0_3 dX10_roadTold_108 ?_
      refine ft_getI fl_X10_153 rfl (sh_15) (by decide) dX10_roadTold_111 ?_
      refine ft_aload_n dX10_roadTold_114 rfl ?_
      refine ft_getR fl_X10_57 rfl (sh_0) (by decide) pt_0_5 dX10_roadTold_115 ?_
      refine ft_getI fl_X10_91 rfl (sh_45) (by decide) dX10_roadTold_118 ?_
      obtain ⟨r121, hc121, hf⟩ := fq_vs hf
      refine ft_V3p cf_X10_171 (sh_54) (t_X4_openFlow hc121) (Nat.le_of_ble_eq_true rfl) dX10_roadTold_121 ?_
      exact fk_retp hf dX10_roadTold_124 rfl rfl
    refine ft_tsOut (tgt := 125) dX10_roadTold_12 (by omega) (by decide) ?_
    refine ft_bipush (v := (-2)) dX10_roadTold_125 rfl ?_
    exact fk_retp hf dX10_roadTold_127 rfl rfl
  · refine ft_bipush (v := (-2)) dX10_roadTold_8 rfl ?_
    exact fk_retp hf dX10_roadTold_10 rfl rfl
def f_X10_says (I : fc_I) (x1 : Int32) (x2 : Int32) : Option (Int64 × fc_I) :=
fq_v (f_X10_isNoZone I x1) fun r2 =>
if r2.toInt = 0 then (
fq_v (f_X10_isOutside x2 0 1) fun r11 =>
if r11.toInt = 0 then (
fq_u (f_X4_gather 45 I x1 (I 15 10)) fun I37 =>
fq_b (f_X0_worth I37 x2) fun r52 I52 =>
some ((Int32.toInt64 r52), I52))
else (
some ((-4611686018427387904), I)))
else (
some ((-4611686018427387904), I))
set_option maxHeartbeats 4000000 in
set_option maxRecDepth 100000 in
theorem t_X10_says {d : Nat} {v : Nat} {r : Int64} {J : fc_I} {I : fc_I} {x1 : Int32} {x2 : Int32} (hv : fc_v v) (hf : f_X10_says I x1 x2 = some (r, J)) : fc_Cl X10_says (d + 2) [.ref 0, .int x1, .int x2] fc_SH I (fc_PT v) (fun r' I' P' => r' = r ∧ I' = J ∧ P' = (fc_PT v)) := by
  unfold f_X10_says at hf
  refine fc_Cl.of (ls := [some (.ref 0), some (.int x1), some (.int x2)]) ⟨rfl, rfl⟩ (Nat.le_of_ble_eq_true rfl) rfl ?_
  refine ft_aload_n dX10_says_0 rfl ?_
  refine ft_iload_n dX10_says_1 rfl ?_
  obtain ⟨r2, hc2, hf⟩ := fq_vs hf
  refine ft_V1p cf_X10_114 (sh_0) (t_X10_isNoZone hc2) (Nat.le_of_ble_eq_true rfl) dX10_says_2 ?_
  refine fk_if_ne (tgt := 17) dX10_says_5 (by decide) hf (fun hf => ?_) (fun hf => ?_)
  · refine ft_ldc2 dX10_says_17 kc_X10_209 ?_
    exact fk_retl hf dX10_says_20 rfl
  · refine ft_iload_n dX10_says_8 rfl ?_
    refine ft_iconst (v := 0) dX10_says_9 rfl ?_
    refine ft_iconst (v := 1) dX10_says_10 rfl ?_
    obtain ⟨r11, hc11, hf⟩ := fq_vs hf
    refine ft_S3p cf_X10_86 (t_X10_isOutside hc11) (Nat.le_of_ble_eq_true rfl) dX10_says_11 ?_
    refine fk_if_eq (tgt := 21) dX10_says_14 (by decide) hf (fun hf => ?_) (fun hf => ?_)
    · refine ft_aload_n dX10_says_21 rfl ?_
      refine ft_getR fl_X10_66 rfl (sh_0) (by decide) pt_0_6 dX10_says_22 ?_
      refine ft_aload_n dX10_says_25 rfl ?_
      refine ft_getR fl_X10_57 rfl (sh_0) (by decide) pt_0_5 dX10_says_26 ?_
      refine ft_iload_n dX10_says_29 rfl ?_
      refine ft_aload_n dX10_says_30 rfl ?_
      refine ft_getR fl_X10_33 rfl (sh_0) (by decide) pt_0_3 dX10_says_31 ?_
      refine ft_getI fl_X10_153 rfl (sh_15) (by decide) dX10_says_34 ?_
      obtain ⟨I37, hc37, hf⟩ := fq_us hf
      refine ft_V3v cf_X10_211 (sh_54) (t_X4_gather (Or.inl rfl) hc37) (Nat.le_of_ble_eq_true rfl) dX10_says_37 (fun J P' q => ?_)
      obtain ⟨rfl, rfl⟩ := q
      refine ft_aload_n dX10_says_40 rfl ?_
      refine ft_getR fl_X10_40 rfl (sh_0) (by decide) pt_0_4 dX10_says_41 ?_
      refine ft_iload_n dX10_says_44 rfl ?_
      refine ft_aload_n dX10_says_45 rfl ?_
      refine ft_getR fl_X10_66 rfl (sh_0) (by decide) pt_0_6 dX10_says_46 ?_
      refine ft_getR fl_X10_215 rfl (sh_54) (by decide) pt_54_5 dX10_says_49 ?_
      obtain ⟨r52, I52, hc52, hf⟩ := fq_bs hf
      refine ft_V2i cf_X10_218 (sh_31) (t_X0_worth hv hc52) (Nat.le_of_ble_eq_true rfl) dX10_says_52 (fun r' J P' q => ?_)
      obtain ⟨rfl, rfl, rfl⟩ := q
      refine ft_i2l dX10_says_55 ?_
      exact fk_retl hf dX10_says_56 rfl
    · refine ft_ldc2 dX10_says_17 kc_X10_209 ?_
      exact fk_retl hf dX10_says_20 rfl
def f_X10_sheet (I : fc_I) (x1 : Int32) (x2 : Int32) (x3 : Int32) : Option (Int32 × fc_I) :=
fq_v (f_X10_isNoSheet x1) fun r1 =>
if r1.toInt = 0 then (
fq_v (f_X10_isOutside x2 (-1) 2) fun r10 =>
if r10.toInt = 0 then (
if x2.toInt = ((-1) : Int32).toInt then (
fq_g 4 x1 (fq_l (fc_wI I 76 (cn x1) (-1)) fun I33 =>
some (1, I33)))
else (
if (40 : Int32).toInt < x3.toInt then (
some ((-2), I))
else (
if x3.toInt < 0 then (
some ((-14), I))
else (
fq_u (f_X7_lay I x1 x2 x3) fun I59 =>
some (1, I59)))))
else (
some ((-2), I)))
else (
some ((-2), I))
set_option maxHeartbeats 4000000 in
set_option maxRecDepth 100000 in
theorem t_X10_sheet {d : Nat} {v : Nat} {r : Int32} {J : fc_I} {I : fc_I} {x1 : Int32} {x2 : Int32} {x3 : Int32} (hf : f_X10_sheet I x1 x2 x3 = some (r, J)) : fc_Ci X10_sheet (d + 2) [.ref 0, .int x1, .int x2, .int x3] fc_SH I (fc_PT v) (fun r' I' P' => r' = r ∧ I' = J ∧ P' = (fc_PT v)) := by
  unfold f_X10_sheet at hf
  refine fc_Ci.of (ls := [some (.ref 0), some (.int x1), some (.int x2), some (.int x3)]) ⟨rfl, rfl⟩ (Nat.le_of_ble_eq_true rfl) rfl ?_
  refine ft_iload_n dX10_sheet_0 rfl ?_
  obtain ⟨r1, hc1, hf⟩ := fq_vs hf
  refine ft_S1p cf_X10_266 (t_X10_isNoSheet hc1) (Nat.le_of_ble_eq_true rfl) dX10_sheet_1 ?_
  refine fk_if_ne (tgt := 16) dX10_sheet_4 (by decide) hf (fun hf => ?_) (fun hf => ?_)
  · refine ft_bipush (v := (-2)) dX10_sheet_16 rfl ?_
    exact fk_reti hf dX10_sheet_18 rfl rfl
  · refine ft_iload_n dX10_sheet_7 rfl ?_
    refine ft_iconst (v := (-1)) dX10_sheet_8 rfl ?_
    refine ft_iconst (v := 2) dX10_sheet_9 rfl ?_
    obtain ⟨r10, hc10, hf⟩ := fq_vs hf
    refine ft_S3p cf_X10_86 (t_X10_isOutside hc10) (Nat.le_of_ble_eq_true rfl) dX10_sheet_10 ?_
    refine fk_if_eq (tgt := 19) dX10_sheet_13 (by decide) hf (fun hf => ?_) (fun hf => ?_)
    · refine ft_iload_n dX10_sheet_19 rfl ?_
      refine ft_iconst (v := (-1)) dX10_sheet_20 rfl ?_
      refine fk_icmp_ne (tgt := 36) dX10_sheet_21 (by decide) hf (fun hf => ?_) (fun hf => ?_)
      · refine ft_iload_n dX10_sheet_36 rfl ?_
        refine ft_bipush (v := 40) dX10_sheet_37 rfl ?_
        refine fk_icmp_le (tgt := 45) dX10_sheet_39 (by decide) hf (fun hf => ?_) (fun hf => ?_)
        · refine ft_iload_n dX10_sheet_45 rfl ?_
          refine fk_if_ge (tgt := 52) dX10_sheet_46 (by decide) hf (fun hf => ?_) (fun hf => ?_)
          · refine ft_aload_n dX10_sheet_52 rfl ?_
            refine ft_getR fl_X10_82 rfl (sh_0) (by decide) pt_0_8 dX10_sheet_53 ?_
            refine ft_iload_n dX10_sheet_56 rfl ?_
            refine ft_iload_n dX10_sheet_57 rfl ?_
            refine ft_iload_n dX10_sheet_58 rfl ?_
            obtain ⟨I59, hc59, hf⟩ := fq_us hf
            refine ft_V3v cf_X10_272 (sh_70) (t_X7_lay hc59) (Nat.le_of_ble_eq_true rfl) dX10_sheet_59 (fun J P' q => ?_)
            obtain ⟨rfl, rfl⟩ := q
            refine ft_iconst (v := 1) dX10_sheet_62 rfl ?_
            exact fk_reti hf dX10_sheet_63 rfl rfl
          · refine ft_bipush (v := (-14)) dX10_sheet_49 rfl ?_
            exact fk_reti hf dX10_sheet_51 rfl rfl
        · refine ft_bipush (v := (-2)) dX10_sheet_42 rfl ?_
          exact fk_reti hf dX10_sheet_44 rfl rfl
      · refine ft_aload_n dX10_sheet_24 rfl ?_
        refine ft_getR fl_X10_82 rfl (sh_0) (by decide) pt_0_8 dX10_sheet_25 ?_
        refine ft_getR fl_X10_269 rfl (sh_70) (by decide) pt_70_1 dX10_sheet_28 ?_
        refine ft_iload_n dX10_sheet_31 rfl ?_
        refine ft_iconst (v := (-1)) dX10_sheet_32 rfl ?_
        refine fk_iast (sh_76) hf dX10_sheet_33 (fun hf => ?_)
        refine ft_iconst (v := 1) dX10_sheet_34 rfl ?_
        exact fk_reti hf dX10_sheet_35 rfl rfl
    · refine ft_bipush (v := (-2)) dX10_sheet_16 rfl ?_
      exact fk_reti hf dX10_sheet_18 rfl rfl
def f_X10_shelter (I : fc_I) (x1 : Int32) : Option (Int32 × fc_I) :=
fq_v (f_X10_isOutside x1 0 99999) fun r4 =>
if r4.toInt = 0 then (
if (I 1 3).toInt < (3 : Int32).toInt then (
fq_l (fc_wI I 1 3 ((I 1 3) + 1)) fun I38 =>
fq_l ((I 1 3)) fun y41 =>
fq_g 3 y41 (fq_l (fc_wI I38 50 (cn y41) x1) fun I51 =>
some (y41, I51)))
else (
some ((-4), I)))
else (
some ((-2), I))
set_option maxHeartbeats 4000000 in
set_option maxRecDepth 100000 in
theorem t_X10_shelter {d : Nat} {v : Nat} {r : Int32} {J : fc_I} {I : fc_I} {x1 : Int32} (hf : f_X10_shelter I x1 = some (r, J)) : fc_Ci X10_shelter (d + 1) [.ref 0, .int x1] fc_SH I (fc_PT v) (fun r' I' P' => r' = r ∧ I' = J ∧ P' = (fc_PT v)) := by
  unfold f_X10_shelter at hf
  refine fc_Ci.of (ls := [some (.ref 0), some (.int x1), none]) ⟨rfl, rfl⟩ (Nat.le_of_ble_eq_true rfl) rfl ?_
  refine ft_iload_n dX10_shelter_0 rfl ?_
  refine ft_iconst (v := 0) dX10_shelter_1 rfl ?_
  refine ft_ldc dX10_shelter_2 kc_X10_90 ?_
  obtain ⟨r4, hc4, hf⟩ := fq_vs hf
  refine ft_S3p cf_X10_86 (t_X10_isOutside hc4) (Nat.le_of_ble_eq_true rfl) dX10_shelter_4 ?_
  refine fk_if_eq (tgt := 13) dX10_shelter_7 (by decide) hf (fun hf => ?_) (fun hf => ?_)
  · refine ft_aload_n dX10_shelter_13 rfl ?_
    refine ft_getR fl_X10_10 rfl (sh_0) (by decide) pt_0_0 dX10_shelter_14 ?_
    refine ft_getI fl_X10_108 rfl (sh_1) (by decide) dX10_shelter_17 ?_
    refine ft_iconst (v := 3) dX10_shelter_20 rfl ?_
    refine fk_icmp_lt (tgt := 27) dX10_shelter_21 (by decide) hf (fun hf => ?_) (fun hf => ?_)
    · refine ft_aload_n dX10_shelter_27 rfl ?_
      refine ft_getR fl_X10_10 rfl (sh_0) (by decide) pt_0_0 dX10_shelter_28 ?_
      refine ft_dup dX10_shelter_31 rfl ?_
      refine ft_getI fl_X10_108 rfl (sh_1) (by decide) dX10_shelter_32 ?_
      refine ft_dup_x1 dX10_shelter_35 rfl rfl ?_
      refine ft_iconst (v := 1) dX10_shelter_36 rfl ?_
      refine ft_iadd dX10_shelter_37 ?_
      refine ft_putI fl_X10_108 rfl (fun q h => by cases h; rfl) (sh_1) (by decide) dX10_shelter_38 ?_
      refine ft_istore_n dX10_shelter_41 (by decide) ?_
      refine ft_aload_n dX10_shelter_42 rfl ?_
      refine ft_getR fl_X10_57 rfl (sh_0) (by decide) pt_0_5 dX10_shelter_43 ?_
      refine ft_getR fl_X10_111 rfl (sh_45) (by decide) pt_45_4 dX10_shelter_46 ?_
      refine ft_iload_n dX10_shelter_49 rfl ?_
      refine ft_iload_n dX10_shelter_50 rfl ?_
      refine fk_iast (sh_50) hf dX10_shelter_51 (fun hf => ?_)
      refine ft_iload_n dX10_shelter_52 rfl ?_
      exact fk_reti hf dX10_shelter_53 rfl rfl
    · refine ft_bipush (v := (-4)) dX10_shelter_24 rfl ?_
      exact fk_reti hf dX10_shelter_26 rfl rfl
  · refine ft_bipush (v := (-2)) dX10_shelter_10 rfl ?_
    exact fk_reti hf dX10_shelter_12 rfl rfl
def f_X10_shelterTold (I : fc_I) (x1 : Int32) (x2 : Int32) : Option Int32 :=
fq_v (f_X10_isNoShelter I x1) fun r2 =>
if r2.toInt = 0 then (
if x2.toInt = 0 then (
fq_g 3 x1 (
some (I 50 (cn x1))))
else if x2.toInt = 1 then (
fq_g 3 x1 (
some (I 51 (cn x1))))
else (
some (-2)))
else (
some (-2))
set_option maxHeartbeats 4000000 in
set_option maxRecDepth 100000 in
theorem t_X10_shelterTold {d : Nat} {v : Nat} {r : Int32} {I : fc_I} {x1 : Int32} {x2 : Int32} (hf : f_X10_shelterTold I x1 x2 = some r) : fc_Cp X10_shelterTold (d + 2) [.ref 0, .int x1, .int x2] fc_SH I (fc_PT v) r := by
  unfold f_X10_shelterTold at hf
  refine fc_Cp.of (ls := [some (.ref 0), some (.int x1), some (.int x2)]) ⟨rfl, rfl⟩ (Nat.le_of_ble_eq_true rfl) rfl ?_
  refine ft_aload_n dX10_shelterTold_0 rfl ?_
  refine ft_iload_n dX10_shelterTold_1 rfl ?_
  obtain ⟨r2, hc2, hf⟩ := fq_vs hf
  refine ft_V1p cf_X10_140 (sh_0) (t_X10_isNoShelter hc2) (Nat.le_of_ble_eq_true rfl) dX10_shelterTold_2 ?_
  refine fk_if_eq (tgt := 11) dX10_shelterTold_5 (by decide) hf (fun hf => ?_) (fun hf => ?_)
  · refine ft_iload_n dX10_shelterTold_11 rfl ?_
    rcases fq_is hf with ⟨e_12_0, hf⟩ | ⟨e_12_0, hf⟩
    · refine ft_lookup (off := 28) (tgt := 40) dX10_shelterTold_12 (by decide) (by rw [e_12_0]; try rfl) (by decide) ?_
      refine ft_aload_n dX10_shelterTold_40 rfl ?_
      refine ft_getR fl_X10_57 rfl (sh_0) (by decide) pt_0_5 dX10_shelterTold_41 ?_
      refine ft_getR fl_X10_111 rfl (sh_45) (by decide) pt_45_4 dX10_shelterTold_44 ?_
      refine ft_iload_n dX10_shelterTold_47 rfl ?_
      refine fk_iald (sh_50) hf dX10_shelterTold_48 (fun hf => ?_)
      exact fk_retp hf dX10_shelterTold_49 rfl rfl
    rcases fq_is hf with ⟨e_12_1, hf⟩ | ⟨e_12_1, hf⟩
    · refine ft_lookup (off := 38) (tgt := 50) dX10_shelterTold_12 (by decide) (by rw [e_12_1]; try rfl) (by decide) ?_
      refine ft_aload_n dX10_shelterTold_50 rfl ?_
      refine ft_getR fl_X10_57 rfl (sh_0) (by decide) pt_0_5 dX10_shelterTold_51 ?_
      refine ft_getR fl_X10_159 rfl (sh_45) (by decide) pt_45_5 dX10_shelterTold_54 ?_
      refine ft_iload_n dX10_shelterTold_57 rfl ?_
      refine fk_iald (sh_51) hf dX10_shelterTold_58 (fun hf => ?_)
      exact fk_retp hf dX10_shelterTold_59 rfl rfl
    refine ft_lookup (off := 48) (tgt := 60) dX10_shelterTold_12 (by decide) (by simp [Op.lookupswitch.offset, e_12_0, Ne.symm e_12_0, e_12_1, Ne.symm e_12_1]) (by decide) ?_
    refine ft_bipush (v := (-2)) dX10_shelterTold_60 rfl ?_
    exact fk_retp hf dX10_shelterTold_62 rfl rfl
  · refine ft_bipush (v := (-2)) dX10_shelterTold_8 rfl ?_
    exact fk_retp hf dX10_shelterTold_10 rfl rfl
def f_X10_taken (I : fc_I) (x1 : Int32) (x2 : Int32) : Option Int32 :=
fq_v (f_X10_isOutside x2 0 5) fun r3 =>
if r3.toInt = 0 then (
fq_v (f_X10_isNoRoad I x1) fun r14 =>
if r14.toInt = 0 then (
fq_v (f_X6_isOfKind I x1 x2) fun r29 =>
if r29.toInt = 0 then (
some (-13))
else (
fq_g 14 x1 (
some (I 8 (cn x1)))))
else (
some (-11)))
else (
some (-2))
set_option maxHeartbeats 4000000 in
set_option maxRecDepth 100000 in
theorem t_X10_taken {d : Nat} {v : Nat} {r : Int32} {I : fc_I} {x1 : Int32} {x2 : Int32} (hf : f_X10_taken I x1 x2 = some r) : fc_Cp X10_taken (d + 2) [.ref 0, .int x1, .int x2] fc_SH I (fc_PT v) r := by
  unfold f_X10_taken at hf
  refine fc_Cp.of (ls := [some (.ref 0), some (.int x1), some (.int x2)]) ⟨rfl, rfl⟩ (Nat.le_of_ble_eq_true rfl) rfl ?_
  refine ft_iload_n dX10_taken_0 rfl ?_
  refine ft_iconst (v := 0) dX10_taken_1 rfl ?_
  refine ft_iconst (v := 5) dX10_taken_2 rfl ?_
  obtain ⟨r3, hc3, hf⟩ := fq_vs hf
  refine ft_S3p cf_X10_86 (t_X10_isOutside hc3) (Nat.le_of_ble_eq_true rfl) dX10_taken_3 ?_
  refine fk_if_eq (tgt := 12) dX10_taken_6 (by decide) hf (fun hf => ?_) (fun hf => ?_)
  · refine ft_aload_n dX10_taken_12 rfl ?_
    refine ft_iload_n dX10_taken_13 rfl ?_
    obtain ⟨r14, hc14, hf⟩ := fq_vs hf
    refine ft_V1p cf_X10_128 (sh_0) (t_X10_isNoRoad hc14) (Nat.le_of_ble_eq_true rfl) dX10_taken_14 ?_
    refine fk_if_eq (tgt := 23) dX10_taken_17 (by decide) hf (fun hf => ?_) (fun hf => ?_)
    · refine ft_aload_n dX10_taken_23 rfl ?_
      refine ft_getR fl_X10_19 rfl (sh_0) (by decide) pt_0_1 dX10_taken_24 ?_
      refine ft_iload_n dX10_taken_27 rfl ?_
      refine ft_iload_n dX10_taken_28 rfl ?_
      obtain ⟨r29, hc29, hf⟩ := fq_vs hf
      refine ft_V2p cf_X10_294 (sh_4) (t_X6_isOfKind hc29) (Nat.le_of_ble_eq_true rfl) dX10_taken_29 ?_
      refine fk_if_eq (tgt := 47) dX10_taken_32 (by decide) hf (fun hf => ?_) (fun hf => ?_)
      · refine ft_bipush (v := (-13)) dX10_taken_47 rfl ?_
        exact fk_retp hf dX10_taken_49 rfl rfl
      · refine ft_aload_n dX10_taken_35 rfl ?_
        refine ft_getR fl_X10_19 rfl (sh_0) (by decide) pt_0_1 dX10_taken_36 ?_
        refine ft_getR fl_X10_168 rfl (sh_4) (by decide) pt_4_3 dX10_taken_39 ?_
        refine ft_iload_n dX10_taken_42 rfl ?_
        refine fk_iald (sh_8) hf dX10_taken_43 (fun hf => ?_)
        refine ft_goto (tgt := 49) dX10_taken_44 (by decide) ?_
        exact fk_retp hf dX10_taken_49 rfl rfl
    · refine ft_bipush (v := (-11)) dX10_taken_20 rfl ?_
      exact fk_retp hf dX10_taken_22 rfl rfl
  · refine ft_bipush (v := (-2)) dX10_taken_9 rfl ?_
    exact fk_retp hf dX10_taken_11 rfl rfl
def f_X10_truth (I : fc_I) (x1 : Int32) : Option (Int32 × fc_I) :=
fq_v (f_X10_isNoTrack x1) fun r1 =>
if r1.toInt = 0 then (
fq_l ((I 15 10)) fun y17 =>
fq_l (fc_wI I 15 10 x1) fun I23 =>
some (y17, I23))
else (
some ((-2), I))
set_option maxHeartbeats 4000000 in
set_option maxRecDepth 100000 in
theorem t_X10_truth {d : Nat} {v : Nat} {r : Int32} {J : fc_I} {I : fc_I} {x1 : Int32} (hf : f_X10_truth I x1 = some (r, J)) : fc_Ci X10_truth (d + 2) [.ref 0, .int x1] fc_SH I (fc_PT v) (fun r' I' P' => r' = r ∧ I' = J ∧ P' = (fc_PT v)) := by
  unfold f_X10_truth at hf
  refine fc_Ci.of (ls := [some (.ref 0), some (.int x1), none]) ⟨rfl, rfl⟩ (Nat.le_of_ble_eq_true rfl) rfl ?_
  refine ft_iload_n dX10_truth_0 rfl ?_
  obtain ⟨r1, hc1, hf⟩ := fq_vs hf
  refine ft_S1p cf_X10_184 (t_X10_isNoTrack hc1) (Nat.le_of_ble_eq_true rfl) dX10_truth_1 ?_
  refine fk_if_eq (tgt := 10) dX10_truth_4 (by decide) hf (fun hf => ?_) (fun hf => ?_)
  · refine ft_aload_n dX10_truth_10 rfl ?_
    refine ft_getR fl_X10_33 rfl (sh_0) (by decide) pt_0_3 dX10_truth_11 ?_
    refine ft_getI fl_X10_153 rfl (sh_15) (by decide) dX10_truth_14 ?_
    refine ft_istore_n dX10_truth_17 (by decide) ?_
    refine ft_aload_n dX10_truth_18 rfl ?_
    refine ft_getR fl_X10_33 rfl (sh_0) (by decide) pt_0_3 dX10_truth_19 ?_
    refine ft_iload_n dX10_truth_22 rfl ?_
    refine ft_putI fl_X10_153 rfl (fun q h => by cases h; rfl) (sh_15) (by decide) dX10_truth_23 ?_
    refine ft_iload_n dX10_truth_26 rfl ?_
    exact fk_reti hf dX10_truth_27 rfl rfl
  · refine ft_bipush (v := (-2)) dX10_truth_7 rfl ?_
    exact fk_reti hf dX10_truth_9 rfl rfl
def f_X10_turn (I : fc_I) (x1 : Int32) : Option (Int32 × fc_I) :=
fq_v (f_X10_isNoRoad I x1) fun r2 =>
if r2.toInt = 0 then (
fq_g 14 x1 (
if (I 9 (cn x1)).toInt = ((-1) : Int32).toInt then (
fq_g 14 x1 (fq_l (fc_wI I 9 (cn x1) (I 45 9)) fun I42 =>
some ((I42 45 9), I42)))
else (
some ((-3), I))))
else (
some ((-2), I))
set_option maxHeartbeats 4000000 in
set_option maxRecDepth 100000 in
theorem t_X10_turn {d : Nat} {v : Nat} {r : Int32} {J : fc_I} {I : fc_I} {x1 : Int32} (hf : f_X10_turn I x1 = some (r, J)) : fc_Ci X10_turn (d + 2) [.ref 0, .int x1] fc_SH I (fc_PT v) (fun r' I' P' => r' = r ∧ I' = J ∧ P' = (fc_PT v)) := by
  unfold f_X10_turn at hf
  refine fc_Ci.of (ls := [some (.ref 0), some (.int x1)]) ⟨rfl, rfl⟩ (Nat.le_of_ble_eq_true rfl) rfl ?_
  refine ft_aload_n dX10_turn_0 rfl ?_
  refine ft_iload_n dX10_turn_1 rfl ?_
  obtain ⟨r2, hc2, hf⟩ := fq_vs hf
  refine ft_V1p cf_X10_128 (sh_0) (t_X10_isNoRoad hc2) (Nat.le_of_ble_eq_true rfl) dX10_turn_2 ?_
  refine fk_if_eq (tgt := 11) dX10_turn_5 (by decide) hf (fun hf => ?_) (fun hf => ?_)
  · refine ft_aload_n dX10_turn_11 rfl ?_
    refine ft_getR fl_X10_19 rfl (sh_0) (by decide) pt_0_1 dX10_turn_12 ?_
    refine ft_getR fl_X10_137 rfl (sh_4) (by decide) pt_4_4 dX10_turn_15 ?_
    refine ft_iload_n dX10_turn_18 rfl ?_
    refine fk_iald (sh_9) hf dX10_turn_19 (fun hf => ?_)
    refine ft_iconst (v := (-1)) dX10_turn_20 rfl ?_
    refine fk_icmp_eq (tgt := 27) dX10_turn_21 (by decide) hf (fun hf => ?_) (fun hf => ?_)
    · refine ft_aload_n dX10_turn_27 rfl ?_
      refine ft_getR fl_X10_19 rfl (sh_0) (by decide) pt_0_1 dX10_turn_28 ?_
      refine ft_getR fl_X10_137 rfl (sh_4) (by decide) pt_4_4 dX10_turn_31 ?_
      refine ft_iload_n dX10_turn_34 rfl ?_
      refine ft_aload_n dX10_turn_35 rfl ?_
      refine ft_getR fl_X10_57 rfl (sh_0) (by decide) pt_0_5 dX10_turn_36 ?_
      refine ft_getI fl_X10_91 rfl (sh_45) (by decide) dX10_turn_39 ?_
      refine fk_iast (sh_9) hf dX10_turn_42 (fun hf => ?_)
      refine ft_aload_n dX10_turn_43 rfl ?_
      refine ft_getR fl_X10_57 rfl (sh_0) (by decide) pt_0_5 dX10_turn_44 ?_
      refine ft_getI fl_X10_91 rfl (sh_45) (by decide) dX10_turn_47 ?_
      exact fk_reti hf dX10_turn_50 rfl rfl
    · refine ft_bipush (v := (-3)) dX10_turn_24 rfl ?_
      exact fk_reti hf dX10_turn_26 rfl rfl
  · refine ft_bipush (v := (-2)) dX10_turn_8 rfl ?_
    exact fk_reti hf dX10_turn_10 rfl rfl
def f_X10_use (I : fc_I) (x1 : Int32) : Option (Int32 × fc_I) :=
fq_v (f_X10_isNoRoad I x1) fun r2 =>
if r2.toInt = 0 then (
fq_g 14 x1 (
fq_l ((I 6 (cn x1))) fun y20 =>
fq_g 6 y20 (
fq_l ((I 3 (cn y20))) fun y30 =>
fq_g 6 y20 (fq_l (fc_wI I 3 (cn y20) x1) fun I40 =>
some (y30, I40)))))
else (
some ((-2), I))
set_option maxHeartbeats 4000000 in
set_option maxRecDepth 100000 in
theorem t_X10_use {d : Nat} {v : Nat} {r : Int32} {J : fc_I} {I : fc_I} {x1 : Int32} (hf : f_X10_use I x1 = some (r, J)) : fc_Ci X10_use (d + 2) [.ref 0, .int x1] fc_SH I (fc_PT v) (fun r' I' P' => r' = r ∧ I' = J ∧ P' = (fc_PT v)) := by
  unfold f_X10_use at hf
  refine fc_Ci.of (ls := [some (.ref 0), some (.int x1), none, none]) ⟨rfl, rfl⟩ (Nat.le_of_ble_eq_true rfl) rfl ?_
  refine ft_aload_n dX10_use_0 rfl ?_
  refine ft_iload_n dX10_use_1 rfl ?_
  obtain ⟨r2, hc2, hf⟩ := fq_vs hf
  refine ft_V1p cf_X10_128 (sh_0) (t_X10_isNoRoad hc2) (Nat.le_of_ble_eq_true rfl) dX10_use_2 ?_
  refine fk_if_eq (tgt := 11) dX10_use_5 (by decide) hf (fun hf => ?_) (fun hf => ?_)
  · refine ft_aload_n dX10_use_11 rfl ?_
    refine ft_getR fl_X10_19 rfl (sh_0) (by decide) pt_0_1 dX10_use_12 ?_
    refine ft_getR fl_X10_131 rfl (sh_4) (by decide) pt_4_1 dX10_use_15 ?_
    refine ft_iload_n dX10_use_18 rfl ?_
    refine fk_iald (sh_6) hf dX10_use_19 (fun hf => ?_)
    refine ft_istore_n dX10_use_20 (by decide) ?_
    refine ft_aload_n dX10_use_21 rfl ?_
    refine ft_getR fl_X10_10 rfl (sh_0) (by decide) pt_0_0 dX10_use_22 ?_
    refine ft_getR fl_X10_134 rfl (sh_1) (by decide) pt_1_1 dX10_use_25 ?_
    refine ft_iload_n dX10_use_28 rfl ?_
    refine fk_iald (sh_3) hf dX10_use_29 (fun hf => ?_)
    refine ft_istore_n dX10_use_30 (by decide) ?_
    refine ft_aload_n dX10_use_31 rfl ?_
    refine ft_getR fl_X10_10 rfl (sh_0) (by decide) pt_0_0 dX10_use_32 ?_
    refine ft_getR fl_X10_134 rfl (sh_1) (by decide) pt_1_1 dX10_use_35 ?_
    refine ft_iload_n dX10_use_38 rfl ?_
    refine ft_iload_n dX10_use_39 rfl ?_
    refine fk_iast (sh_3) hf dX10_use_40 (fun hf => ?_)
    refine ft_iload_n dX10_use_41 rfl ?_
    exact fk_reti hf dX10_use_42 rfl rfl
  · refine ft_bipush (v := (-2)) dX10_use_8 rfl ?_
    exact fk_reti hf dX10_use_10 rfl rfl
def f_X10_zone (I : fc_I) (x1 : Int32) (x2 : Int32) (x3 : Int32) : Option (Int32 × fc_I) :=
fq_v (f_X10_isOutside x1 0 99) fun r4 =>
if r4.toInt = 0 then (
fq_v (f_X10_isOutside x2 0 99999) fun r14 =>
if r14.toInt = 0 then (
fq_v (f_X10_isOutside x3 0 999) fun r25 =>
if r25.toInt = 0 then (
if 0 < (I 45 9).toInt then (
some ((-3), I))
else (
if (I 1 2).toInt < (6 : Int32).toInt then (
fq_l (fc_wI I 1 2 ((I 1 2) + 1)) fun I73 =>
fq_l ((I 1 2)) fun y76 =>
fq_g 6 y76 (fq_l (fc_wI I73 2 (cn y76) x1) fun I88 =>
fq_g 6 y76 (fq_l (fc_wI I88 46 (cn y76) x2) fun I99 =>
fq_g 6 y76 (fq_l (fc_wI I99 48 (cn y76) x3) fun I110 =>
some (y76, I110)))))
else (
some ((-4), I))))
else (
some ((-2), I)))
else (
some ((-2), I)))
else (
some ((-2), I))
set_option maxHeartbeats 4000000 in
set_option maxRecDepth 100000 in
theorem t_X10_zone {d : Nat} {v : Nat} {r : Int32} {J : fc_I} {I : fc_I} {x1 : Int32} {x2 : Int32} {x3 : Int32} (hf : f_X10_zone I x1 x2 x3 = some (r, J)) : fc_Ci X10_zone (d + 1) [.ref 0, .int x1, .int x2, .int x3] fc_SH I (fc_PT v) (fun r' I' P' => r' = r ∧ I' = J ∧ P' = (fc_PT v)) := by
  unfold f_X10_zone at hf
  refine fc_Ci.of (ls := [some (.ref 0), some (.int x1), some (.int x2), some (.int x3), none]) ⟨rfl, rfl⟩ (Nat.le_of_ble_eq_true rfl) rfl ?_
  refine ft_iload_n dX10_zone_0 rfl ?_
  refine ft_iconst (v := 0) dX10_zone_1 rfl ?_
  refine ft_bipush (v := 99) dX10_zone_2 rfl ?_
  obtain ⟨r4, hc4, hf⟩ := fq_vs hf
  refine ft_S3p cf_X10_86 (t_X10_isOutside hc4) (Nat.le_of_ble_eq_true rfl) dX10_zone_4 ?_
  refine fk_if_ne (tgt := 31) dX10_zone_7 (by decide) hf (fun hf => ?_) (fun hf => ?_)
  · refine ft_bipush (v := (-2)) dX10_zone_31 rfl ?_
    exact fk_reti hf dX10_zone_33 rfl rfl
  · refine ft_iload_n dX10_zone_10 rfl ?_
    refine ft_iconst (v := 0) dX10_zone_11 rfl ?_
    refine ft_ldc dX10_zone_12 kc_X10_90 ?_
    obtain ⟨r14, hc14, hf⟩ := fq_vs hf
    refine ft_S3p cf_X10_86 (t_X10_isOutside hc14) (Nat.le_of_ble_eq_true rfl) dX10_zone_14 ?_
    refine fk_if_ne (tgt := 31) dX10_zone_17 (by decide) hf (fun hf => ?_) (fun hf => ?_)
    · refine ft_bipush (v := (-2)) dX10_zone_31 rfl ?_
      exact fk_reti hf dX10_zone_33 rfl rfl
    · refine ft_iload_n dX10_zone_20 rfl ?_
      refine ft_iconst (v := 0) dX10_zone_21 rfl ?_
      refine ft_sipush (v := 999) dX10_zone_22 rfl ?_
      obtain ⟨r25, hc25, hf⟩ := fq_vs hf
      refine ft_S3p cf_X10_86 (t_X10_isOutside hc25) (Nat.le_of_ble_eq_true rfl) dX10_zone_25 ?_
      refine fk_if_eq (tgt := 34) dX10_zone_28 (by decide) hf (fun hf => ?_) (fun hf => ?_)
      · refine ft_aload_n dX10_zone_34 rfl ?_
        refine ft_getR fl_X10_57 rfl (sh_0) (by decide) pt_0_5 dX10_zone_35 ?_
        refine ft_getI fl_X10_91 rfl (sh_45) (by decide) dX10_zone_38 ?_
        refine fk_if_le (tgt := 47) dX10_zone_41 (by decide) hf (fun hf => ?_) (fun hf => ?_)
        · refine ft_aload_n dX10_zone_47 rfl ?_
          refine ft_getR fl_X10_10 rfl (sh_0) (by decide) pt_0_0 dX10_zone_48 ?_
          refine ft_getI fl_X10_95 rfl (sh_1) (by decide) dX10_zone_51 ?_
          refine ft_bipush (v := 6) dX10_zone_54 rfl ?_
          refine fk_icmp_lt (tgt := 62) dX10_zone_56 (by decide) hf (fun hf => ?_) (fun hf => ?_)
          · refine ft_aload_n dX10_zone_62 rfl ?_
            refine ft_getR fl_X10_10 rfl (sh_0) (by decide) pt_0_0 dX10_zone_63 ?_
            refine ft_dup dX10_zone_66 rfl ?_
            refine ft_getI fl_X10_95 rfl (sh_1) (by decide) dX10_zone_67 ?_
            refine ft_dup_x1 dX10_zone_70 rfl rfl ?_
            refine ft_iconst (v := 1) dX10_zone_71 rfl ?_
            refine ft_iadd dX10_zone_72 ?_
            refine ft_putI fl_X10_95 rfl (fun q h => by cases h; rfl) (sh_1) (by decide) dX10_zone_73 ?_
            refine ft_istore dX10_zone_76 (by decide) ?_
            refine ft_aload_n dX10_zone_78 rfl ?_
            refine ft_getR fl_X10_10 rfl (sh_0) (by decide) pt_0_0 dX10_zone_79 ?_
            refine ft_getR fl_X10_98 rfl (sh_1) (by decide) pt_1_0 dX10_zone_82 ?_
            refine ft_iload dX10_zone_85 rfl ?_
            refine ft_iload_n dX10_zone_87 rfl ?_
            refine fk_iast (sh_2) hf dX10_zone_88 (fun hf => ?_)
            refine ft_aload_n dX10_zone_89 rfl ?_
            refine ft_getR fl_X10_57 rfl (sh_0) (by decide) pt_0_5 dX10_zone_90 ?_
            refine ft_getR fl_X10_102 rfl (sh_45) (by decide) pt_45_0 dX10_zone_93 ?_
            refine ft_iload dX10_zone_96 rfl ?_
            refine ft_iload_n dX10_zone_98 rfl ?_
            refine fk_iast (sh_46) hf dX10_zone_99 (fun hf => ?_)
            refine ft_aload_n dX10_zone_100 rfl ?_
            refine ft_getR fl_X10_57 rfl (sh_0) (by decide) pt_0_5 dX10_zone_101 ?_
            refine ft_getR fl_X10_105 rfl (sh_45) (by decide) pt_45_2 dX10_zone_104 ?_
            refine ft_iload dX10_zone_107 rfl ?_
            refine ft_iload_n dX10_zone_109 rfl ?_
            refine fk_iast (sh_48) hf dX10_zone_110 (fun hf => ?_)
            refine ft_iload dX10_zone_111 rfl ?_
            exact fk_reti hf dX10_zone_113 rfl rfl
          · refine ft_bipush (v := (-4)) dX10_zone_59 rfl ?_
            exact fk_reti hf dX10_zone_61 rfl rfl
        · refine ft_bipush (v := (-3)) dX10_zone_44 rfl ?_
          exact fk_reti hf dX10_zone_46 rfl rfl
      · refine ft_bipush (v := (-2)) dX10_zone_31 rfl ?_
        exact fk_reti hf dX10_zone_33 rfl rfl
def f_X10_zoneTold (I : fc_I) (x1 : Int32) (x2 : Int32) : Option Int32 :=
fq_v (f_X10_isNoZone I x1) fun r2 =>
if r2.toInt = 0 then (
if x2.toInt = 0 then (
fq_g 6 x1 (
some (I 2 (cn x1))))
else if x2.toInt = 1 then (
fq_g 6 x1 (
some (I 46 (cn x1))))
else if x2.toInt = 2 then (
fq_g 6 x1 (
some (I 47 (cn x1))))
else if x2.toInt = 3 then (
fq_g 6 x1 (
some (I 48 (cn x1))))
else if x2.toInt = 4 then (
fq_g 6 x1 (
some (I 49 (cn x1))))
else if x2.toInt = 5 then (
fq_g 6 x1 (
some (I 3 (cn x1))))
else if x2.toInt = 6 then (
fq_v (f_X4_isWet I x1 (I 15 10) (I 45 9)) fun r135 =>
if r135.toInt = 0 then (
some 0)
else (
some 1))
else (
some (-2)))
else (
some (-2))
set_option maxHeartbeats 4000000 in
set_option maxRecDepth 100000 in
theorem t_X10_zoneTold {d : Nat} {v : Nat} {r : Int32} {I : fc_I} {x1 : Int32} {x2 : Int32} (hf : f_X10_zoneTold I x1 x2 = some r) : fc_Cp X10_zoneTold (d + 2) [.ref 0, .int x1, .int x2] fc_SH I (fc_PT v) r := by
  unfold f_X10_zoneTold at hf
  refine fc_Cp.of (ls := [some (.ref 0), some (.int x1), some (.int x2)]) ⟨rfl, rfl⟩ (Nat.le_of_ble_eq_true rfl) rfl ?_
  refine ft_aload_n dX10_zoneTold_0 rfl ?_
  refine ft_iload_n dX10_zoneTold_1 rfl ?_
  obtain ⟨r2, hc2, hf⟩ := fq_vs hf
  refine ft_V1p cf_X10_114 (sh_0) (t_X10_isNoZone hc2) (Nat.le_of_ble_eq_true rfl) dX10_zoneTold_2 ?_
  refine fk_if_eq (tgt := 11) dX10_zoneTold_5 (by decide) hf (fun hf => ?_) (fun hf => ?_)
  · refine ft_iload_n dX10_zoneTold_11 rfl ?_
    rcases fq_is hf with ⟨e_12_0, hf⟩ | ⟨e_12_0, hf⟩
    · refine ft_tsIn (tgt := 56) dX10_zoneTold_12 (by rw [e_12_0]; decide) (by rw [e_12_0]; decide) (by rw [e_12_0]; rfl) (by decide) ?_
      refine ft_aload_n dX10_zoneTold_56 rfl ?_
      refine ft_getR fl_X10_10 rfl (sh_0) (by decide) pt_0_0 dX10_zoneTold_57 ?_
      refine ft_getR fl_X10_98 rfl (sh_1) (by decide) pt_1_0 dX10_zoneTold_60 ?_
      refine ft_iload_n dX10_zoneTold_63 rfl ?_
      refine fk_iald (sh_2) hf dX10_zoneTold_64 (fun hf => ?_)
      exact fk_retp hf dX10_zoneTold_65 rfl rfl
    rcases fq_is hf with ⟨e_12_1, hf⟩ | ⟨e_12_1, hf⟩
    · refine ft_tsIn (tgt := 66) dX10_zoneTold_12 (by rw [e_12_1]; decide) (by rw [e_12_1]; decide) (by rw [e_12_1]; rfl) (by decide) ?_
      refine ft_aload_n dX10_zoneTold_66 rfl ?_
      refine ft_getR fl_X10_57 rfl (sh_0) (by decide) pt_0_5 dX10_zoneTold_67 ?_
      refine ft_getR fl_X10_102 rfl (sh_45) (by decide) pt_45_0 dX10_zoneTold_70 ?_
      refine ft_iload_n dX10_zoneTold_73 rfl ?_
      refine fk_iald (sh_46) hf dX10_zoneTold_74 (fun hf => ?_)
      exact fk_retp hf dX10_zoneTold_75 rfl rfl
    rcases fq_is hf with ⟨e_12_2, hf⟩ | ⟨e_12_2, hf⟩
    · refine ft_tsIn (tgt := 76) dX10_zoneTold_12 (by rw [e_12_2]; decide) (by rw [e_12_2]; decide) (by rw [e_12_2]; rfl) (by decide) ?_
      refine ft_aload_n dX10_zoneTold_76 rfl ?_
      refine ft_getR fl_X10_57 rfl (sh_0) (by decide) pt_0_5 dX10_zoneTold_77 ?_
      refine ft_getR fl_X10_147 rfl (sh_45) (by decide) pt_45_1 dX10_zoneTold_80 ?_
      refine ft_iload_n dX10_zoneTold_83 rfl ?_
      refine fk_iald (sh_47) hf dX10_zoneTold_84 (fun hf => ?_)
      exact fk_retp hf dX10_zoneTold_85 rfl rfl
    rcases fq_is hf with ⟨e_12_3, hf⟩ | ⟨e_12_3, hf⟩
    · refine ft_tsIn (tgt := 86) dX10_zoneTold_12 (by rw [e_12_3]; decide) (by rw [e_12_3]; decide) (by rw [e_12_3]; rfl) (by decide) ?_
      refine ft_aload_n dX10_zoneTold_86 rfl ?_
      refine ft_getR fl_X10_57 rfl (sh_0) (by decide) pt_0_5 dX10_zoneTold_87 ?_
      refine ft_getR fl_X10_105 rfl (sh_45) (by decide) pt_45_2 dX10_zoneTold_90 ?_
      refine ft_iload_n dX10_zoneTold_93 rfl ?_
      refine fk_iald (sh_48) hf dX10_zoneTold_94 (fun hf => ?_)
      exact fk_retp hf dX10_zoneTold_95 rfl rfl
    rcases fq_is hf with ⟨e_12_4, hf⟩ | ⟨e_12_4, hf⟩
    · refine ft_tsIn (tgt := 96) dX10_zoneTold_12 (by rw [e_12_4]; decide) (by rw [e_12_4]; decide) (by rw [e_12_4]; rfl) (by decide) ?_
      refine ft_aload_n dX10_zoneTold_96 rfl ?_
      refine ft_getR fl_X10_57 rfl (sh_0) (by decide) pt_0_5 dX10_zoneTold_97 ?_
      refine ft_getR fl_X10_150 rfl (sh_45) (by decide) pt_45_3 dX10_zoneTold_100 ?_
      refine ft_iload_n dX10_zoneTold_103 rfl ?_
      refine fk_iald (sh_49) hf dX10_zoneTold_104 (fun hf => ?_)
      exact fk_retp hf dX10_zoneTold_105 rfl rfl
    rcases fq_is hf with ⟨e_12_5, hf⟩ | ⟨e_12_5, hf⟩
    · refine ft_tsIn (tgt := 106) dX10_zoneTold_12 (by rw [e_12_5]; decide) (by rw [e_12_5]; decide) (by rw [e_12_5]; rfl) (by decide) ?_
      refine ft_aload_n dX10_zoneTold_106 rfl ?_
      refine ft_getR fl_X10_10 rfl (sh_0) (by decide) pt_0_0 dX10_zoneTold_107 ?_
      refine ft_getR fl_X10_134 rfl (sh_1) (by decide) pt_1_1 dX10_zoneTold_110 ?_
      refine ft_iload_n dX10_zoneTold_113 rfl ?_
      refine fk_iald (sh_3) hf dX10_zoneTold_114 (fun hf => ?_)
      exact fk_retp hf dX10_zoneTold_115 rfl rfl
    rcases fq_is hf with ⟨e_12_6, hf⟩ | ⟨e_12_6, hf⟩
    · refine ft_tsIn (tgt := 116) dX10_zoneTold_12 (by rw [e_12_6]; decide) (by rw [e_12_6]; decide) (by rw [e_12_6]; rfl) (by decide) ?_
      refine ft_aload_n dX10_zoneTold_116 rfl ?_
      refine ft_getR fl_X10_66 rfl (sh_0) (by decide) pt_0_6 dX10_zoneTold_117 ?_
      refine ft_iload_n dX10_zoneTold_120 rfl ?_
      refine ft_aload_n dX10_zoneTold_121 rfl ?_
      refine ft_getR fl_X10_33 rfl (sh_0) (by decide) pt_0_3 dX10_zoneTold_122 ?_
      refine ft_getI fl_X10_153 rfl (sh_15) (by decide) dX10_zoneTold_125 ?_
      refine ft_aload_n dX10_zoneTold_128 rfl ?_
      refine ft_getR fl_X10_57 rfl (sh_0) (by decide) pt_0_5 dX10_zoneTold_129 ?_
      refine ft_getI fl_X10_91 rfl (sh_45) (by decide) dX10_zoneTold_132 ?_
      obtain ⟨r135, hc135, hf⟩ := fq_vs hf
      refine ft_V3p cf_X10_156 (sh_54) (t_X4_isWet hc135) (Nat.le_of_ble_eq_true rfl) dX10_zoneTold_135 ?_
      refine fk_if_eq (tgt := 145) dX10_zoneTold_138 (by decide) hf (fun hf => ?_) (fun hf => ?_)
      · refine ft_iconst (v := 0) dX10_zoneTold_145 rfl ?_
        exact fk_retp hf dX10_zoneTold_146 rfl rfl
      · refine ft_iconst (v := 1) dX10_zoneTold_141 rfl ?_
        refine ft_goto (tgt := 146) dX10_zoneTold_142 (by decide) ?_
        exact fk_retp hf dX10_zoneTold_146 rfl rfl
    refine ft_tsOut (tgt := 147) dX10_zoneTold_12 (by omega) (by decide) ?_
    refine ft_bipush (v := (-2)) dX10_zoneTold_147 rfl ?_
    exact fk_retp hf dX10_zoneTold_149 rfl rfl
  · refine ft_bipush (v := (-2)) dX10_zoneTold_8 rfl ?_
    exact fk_retp hf dX10_zoneTold_10 rfl rfl
