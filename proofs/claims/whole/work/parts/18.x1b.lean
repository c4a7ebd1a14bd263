def f_X0_append_18_B (x1 : Int32) (x2 : Int64) (k18 : Int32 → fc_I → Option (Int32 × fc_I)) (x4 : Int32) (I : fc_I) : Option (Int32 × fc_I) :=
if x4.toInt < x1.toInt then (
fq_l (fc_wI I 31 6 ((I 31 6) + 1)) fun I36 =>
fq_g 160 (I 31 6) (fq_l (fc_wI I36 32 (cn (I 31 6)) (vp_nar .byte (Int8.toInt32 (Int32.toInt8 (Int64.toInt32 (x2 >>> (Int32.toInt64 ((8 : Int32) * x4) &&& 63))))))) fun I48 =>
fq_l (x4 + 1) fun y49 =>
k18 y49 I48))
else (
some ((I 31 6), I))
def f_X0_append_18 (x1 : Int32) (x2 : Int64) (n : Nat) : Int32 → fc_I → Option (Int32 × fc_I) := lpm1 (f_X0_append_18_B x1 x2 ) n
def f_X0_append (I : fc_I) (x1 : Int32) (x2 : Int64) : Option (Int32 × fc_I) :=
if (160 : Int32).toInt < ((I 31 6) + x1).toInt then (
some ((-4), I))
else (
f_X0_append_18 x1 x2 4000 0 I)
set_option maxHeartbeats 4000000 in
set_option maxRecDepth 100000 in
theorem t_X0_append_18 {d : Nat} {sh : fc_Sh} {P : fc_P} {v : Nat} {r : Int32} {J : fc_I} {x1 : Int32} {x2 : Int64} (hw : fc_wd sh P v) : ∀ (n : Nat) (x4 : Int32) (I : fc_I) , f_X0_append_18 x1 x2 n x4 I = some (r, J) → fc_T X0_append d 0 0 18 [some (.ref 31), some (.int x1), some (.long x2), none, some (.int x4)] [] sh I P (fc_Qi sh (fun r' I' P' => r' = r ∧ I' = J ∧ P' = P)) := by
  unfold f_X0_append_18
  refine lpm1_T (fun k18 hk18 x4 I hf => ?_)
  unfold f_X0_append_18_B at hf
  refine ft_iload dX0_append_18 rfl ?_
  refine ft_iload_n dX0_append_20 rfl ?_
  refine fk_icmp_ge (tgt := 55) dX0_append_21 (by decide) hf (fun hf => ?_) (fun hf => ?_)
  · refine ft_aload_n dX0_append_55 rfl ?_
    refine ft_getI fl_X0_45 rfl (ws_31 hw) (by decide) dX0_append_56 ?_
    exact fk_reti hf dX0_append_59 rfl rfl
  · refine ft_aload_n dX0_append_24 rfl ?_
    refine ft_getR fl_X0_9 rfl (ws_31 hw) (by decide) (wp_31_0 hw) dX0_append_25 ?_
    refine ft_aload_n dX0_append_28 rfl ?_
    refine ft_dup dX0_append_29 rfl ?_
    refine ft_getI fl_X0_45 rfl (ws_31 hw) (by decide) dX0_append_30 ?_
    refine ft_dup_x1 dX0_append_33 rfl rfl ?_
    refine ft_iconst (v := 1) dX0_append_34 rfl ?_
    refine ft_iadd dX0_append_35 ?_
    refine ft_putI fl_X0_45 rfl (fun q h => by cases h; rfl) (ws_31 hw) (by decide) dX0_append_36 ?_
    refine ft_lload_n dX0_append_39 rfl ?_
    refine ft_bipush (v := 8) dX0_append_40 rfl ?_
    refine ft_iload dX0_append_42 rfl ?_
    refine ft_imul dX0_append_44 ?_
    refine ft_lshr dX0_append_45 ?_
    refine ft_l2i dX0_append_46 ?_
    refine ft_i2b dX0_append_47 ?_
    refine fk_bast (ws_32 hw) hf dX0_append_48 (fun hf => ?_)
    refine fk_iinc (c := 1) dX0_append_49 rfl (by decide) rfl ?_
    refine ft_goto (tgt := 18) dX0_append_52 (by decide) ?_
    exact ft_forget (by simp [fc_le, fc_st1, fc_st2, fc_kill]) (hk18 _ _ hf)
set_option maxHeartbeats 4000000 in
set_option maxRecDepth 100000 in
theorem t_X0_append {d : Nat} {sh : fc_Sh} {P : fc_P} {v : Nat} {r : Int32} {J : fc_I} {I : fc_I} {x1 : Int32} {x2 : Int64} (hw : fc_wd sh P v) (hf : f_X0_append I x1 x2 = some (r, J)) : fc_Ci X0_append d [.ref 31, .int x1, .long x2] sh I P (fun r' I' P' => r' = r ∧ I' = J ∧ P' = P) := by
  unfold f_X0_append at hf
  refine fc_Ci.of (ls := [some (.ref 31), some (.int x1), some (.long x2), none, none]) ⟨rfl, rfl⟩ (Nat.le_of_ble_eq_true rfl) rfl ?_
  refine ft_aload_n dX0_append_0 rfl ?_
  refine ft_getI fl_X0_45 rfl (ws_31 hw) (by decide) dX0_append_1 ?_
  refine ft_iload_n dX0_append_4 rfl ?_
  refine ft_iadd dX0_append_5 ?_
  refine ft_sipush (v := 160) dX0_append_6 rfl ?_
  refine fk_icmp_le (tgt := 15) dX0_append_9 (by decide) hf (fun hf => ?_) (fun hf => ?_)
  · refine ft_iconst (v := 0) dX0_append_15 rfl ?_
    refine ft_istore dX0_append_16 (by decide) ?_
    exact ft_forget (by simp [fc_le, fc_st1, fc_st2, fc_kill]) (t_X0_append_18 hw  _ _ _ hf)
  · refine ft_bipush (v := (-4)) dX0_append_12 rfl ?_
    exact fk_reti hf dX0_append_14 rfl rfl
def f_X0_joined (x0 : Int32) (x1 : Int32) (x2 : Int32) : Option Int32 :=
if x0.toInt = (-61) then (
if x1.toInt = x2.toInt then (
some 1)
else (
some 0))
else if x0.toInt = (-60) then (
if x1.toInt < x2.toInt then (
some 1)
else (
some 0))
else if x0.toInt = (-45) then (
some (x1 - x2))
else if x0.toInt = (-43) then (
some (x1 + x2))
else if x0.toInt = (-17) then (
if x1.toInt = 0 then (
some 0)
else (
if x2.toInt = 0 then (
some 0)
else (
some 1)))
else if x0.toInt = (-16) then (
if x1.toInt = 0 then (
if x2.toInt = 0 then (
some 0)
else (
some 1))
else (
some 1))
else (
some (x1 * x2))
set_option maxHeartbeats 4000000 in
set_option maxRecDepth 100000 in
theorem t_X0_joined {d : Nat} {sh : fc_Sh} {P : fc_P} {r : Int32} {I : fc_I} {x0 : Int32} {x1 : Int32} {x2 : Int32} (hf : f_X0_joined  x0 x1 x2 = some r) : fc_Cp X0_joined d [.int x0, .int x1, .int x2] sh I P r := by
  unfold f_X0_joined at hf
  refine fc_Cp.of (ls := [some (.int x0), some (.int x1), some (.int x2)]) ⟨rfl, rfl⟩ (Nat.le_of_ble_eq_true rfl) rfl ?_
  refine ft_iload_n dX0_joined_0 rfl ?_
  rcases fq_is hf with ⟨e_1_0, hf⟩ | ⟨e_1_0, hf⟩
  · refine ft_lookup (off := 98) (tgt := 99) dX0_joined_1 (by decide) (by rw [e_1_0]; try rfl) (by decide) ?_
    refine ft_iload_n dX0_joined_99 rfl ?_
    refine ft_iload_n dX0_joined_100 rfl ?_
    refine fk_icmp_ne (tgt := 108) dX0_joined_101 (by decide) hf (fun hf => ?_) (fun hf => ?_)
    · refine ft_iconst (v := 0) dX0_joined_108 rfl ?_
      exact fk_retp hf dX0_joined_109 rfl rfl
    · refine ft_iconst (v := 1) dX0_joined_104 rfl ?_
      refine ft_goto (tgt := 109) dX0_joined_105 (by decide) ?_
      exact fk_retp hf dX0_joined_109 rfl rfl
  rcases fq_is hf with ⟨e_1_1, hf⟩ | ⟨e_1_1, hf⟩
  · refine ft_lookup (off := 87) (tgt := 88) dX0_joined_1 (by decide) (by rw [e_1_1]; try rfl) (by decide) ?_
    refine ft_iload_n dX0_joined_88 rfl ?_
    refine ft_iload_n dX0_joined_89 rfl ?_
    refine fk_icmp_ge (tgt := 97) dX0_joined_90 (by decide) hf (fun hf => ?_) (fun hf => ?_)
    · refine ft_iconst (v := 0) dX0_joined_97 rfl ?_
      exact fk_retp hf dX0_joined_98 rfl rfl
    · refine ft_iconst (v := 1) dX0_joined_93 rfl ?_
      refine ft_goto (tgt := 98) dX0_joined_94 (by decide) ?_
      exact fk_retp hf dX0_joined_98 rfl rfl
  rcases fq_is hf with ⟨e_1_2, hf⟩ | ⟨e_1_2, hf⟩
  · refine ft_lookup (off := 113) (tgt := 114) dX0_joined_1 (by decide) (by rw [e_1_2]; try rfl) (by decide) ?_
    refine ft_iload_n dX0_joined_114 rfl ?_
    refine ft_iload_n dX0_joined_115 rfl ?_
    refine ft_isub dX0_joined_116 ?_
    exact fk_retp hf dX0_joined_117 rfl rfl
  rcases fq_is hf with ⟨e_1_3, hf⟩ | ⟨e_1_3, hf⟩
  · refine ft_lookup (off := 109) (tgt := 110) dX0_joined_1 (by decide) (by rw [e_1_3]; try rfl) (by decide) ?_
    refine ft_iload_n dX0_joined_110 rfl ?_
    refine ft_iload_n dX0_joined_111 rfl ?_
    refine ft_iadd dX0_joined_112 ?_
    exact fk_retp hf dX0_joined_113 rfl rfl
  rcases fq_is hf with ⟨e_1_4, hf⟩ | ⟨e_1_4, hf⟩
  · refine ft_lookup (off := 73) (tgt := 74) dX0_joined_1 (by decide) (by rw [e_1_4]; try rfl) (by decide) ?_
    refine ft_iload_n dX0_joined_74 rfl ?_
    refine fk_if_eq (tgt := 86) dX0_joined_75 (by decide) hf (fun hf => ?_) (fun hf => ?_)
    · refine ft_iconst (v := 0) dX0_joined_86 rfl ?_
      exact fk_retp hf dX0_joined_87 rfl rfl
    · refine ft_iload_n dX0_joined_78 rfl ?_
      refine fk_if_eq (tgt := 86) dX0_joined_79 (by decide) hf (fun hf => ?_) (fun hf => ?_)
      · refine ft_iconst (v := 0) dX0_joined_86 rfl ?_
        exact fk_retp hf dX0_joined_87 rfl rfl
      · refine ft_iconst (v := 1) dX0_joined_82 rfl ?_
        refine ft_goto (tgt := 87) dX0_joined_83 (by decide) ?_
        exact fk_retp hf dX0_joined_87 rfl rfl
  rcases fq_is hf with ⟨e_1_5, hf⟩ | ⟨e_1_5, hf⟩
  · refine ft_lookup (off := 59) (tgt := 60) dX0_joined_1 (by decide) (by rw [e_1_5]; try rfl) (by decide) ?_
    refine ft_iload_n dX0_joined_60 rfl ?_
    refine fk_if_ne (tgt := 68) dX0_joined_61 (by decide) hf (fun hf => ?_) (fun hf => ?_)
    · refine ft_iconst (v := 1) dX0_joined_68 rfl ?_
      refine ft_goto (tgt := 73) dX0_joined_69 (by decide) ?_
      exact fk_retp hf dX0_joined_73 rfl rfl
    · refine ft_iload_n dX0_joined_64 rfl ?_
      refine fk_if_eq (tgt := 72) dX0_joined_65 (by decide) hf (fun hf => ?_) (fun hf => ?_)
      · refine ft_iconst (v := 0) dX0_joined_72 rfl ?_
        exact fk_retp hf dX0_joined_73 rfl rfl
      · refine ft_iconst (v := 1) dX0_joined_68 rfl ?_
        refine ft_goto (tgt := 73) dX0_joined_69 (by decide) ?_
        exact fk_retp hf dX0_joined_73 rfl rfl
  refine ft_lookup (off := 117) (tgt := 118) dX0_joined_1 (by decide) (by simp [Op.lookupswitch.offset, e_1_0, Ne.symm e_1_0, e_1_1, Ne.symm e_1_1, e_1_2, Ne.symm e_1_2, e_1_3, Ne.symm e_1_3, e_1_4, Ne.symm e_1_4, e_1_5, Ne.symm e_1_5]) (by decide) ?_
  refine ft_iload_n dX0_joined_118 rfl ?_
  refine ft_iload_n dX0_joined_119 rfl ?_
  refine ft_imul dX0_joined_120 ?_
  exact fk_retp hf dX0_joined_121 rfl rfl
def f_X5_readOpened (v : Nat) (kr : Int32 → Int32 → fc_I → Option fc_I) (I : fc_I) (x1 : Int32) (x2 : Int32) : Option fc_I :=
fq_l ((I 43 7)) fun y4 =>
fq_u (f_X5_nextToken I) fun I6 =>
if y4.toInt = (40 : Int32).toInt then (
fq_u (kr 0 (x2 + 1) I6) fun I24 =>
if y4.toInt = (40 : Int32).toInt then (
fq_u (f_X5_expect I24 41) fun I36 =>
some I36)
else (
if y4.toInt = (18 : Int32).toInt then (
fq_u (f_X5_put v I24 (-18)) fun I56 =>
some I56)
else (
fq_u (f_X5_put v I24 (-9)) fun I56 =>
some I56)))
else (
fq_u (kr x1 (x2 + 1) I6) fun I24 =>
if y4.toInt = (40 : Int32).toInt then (
fq_u (f_X5_expect I24 41) fun I36 =>
some I36)
else (
if y4.toInt = (18 : Int32).toInt then (
fq_u (f_X5_put v I24 (-18)) fun I56 =>
some I56)
else (
fq_u (f_X5_put v I24 (-9)) fun I56 =>
some I56)))
set_option maxHeartbeats 4000000 in
set_option maxRecDepth 100000 in
theorem t_X5_readOpened {d : Nat} {sh : fc_Sh} {P : fc_P} {v : Nat} {kr : Int32 → Int32 → fc_I → Option fc_I} {J : fc_I} {I : fc_I} {x1 : Int32} {x2 : Int32} (hkr : ∀ l o I J, kr l o I = some J → fc_Cv X5_readLevel (d + 10) [.ref 43, .int l, .int o] sh I P (fun I' P' => I' = J ∧ P' = P)) (hw : fc_wd sh P v) (hv : fc_v v) (hf : f_X5_readOpened v kr I x1 x2 = some J) : fc_Cv X5_readOpened (d + 11) [.ref 43, .int x1, .int x2] sh I P (fun I' P' => I' = J ∧ P' = P) := by
  unfold f_X5_readOpened at hf
  refine fc_Cv.of (ls := [some (.ref 43), some (.int x1), some (.int x2), none]) ⟨rfl, rfl⟩ (Nat.le_of_ble_eq_true rfl) rfl ?_
  refine ft_aload_n dX5_readOpened_0 rfl ?_
  refine ft_getI fl_X5_46 rfl (ws_43 hw) (by decide) dX5_readOpened_1 ?_
  refine ft_istore_n dX5_readOpened_4 (by decide) ?_
  refine ft_aload_n dX5_readOpened_5 rfl ?_
  obtain ⟨I6, hc6, hf⟩ := fq_us hf
  refine ft_V0v cf_X5_32 (ws_43 hw) (t_X5_nextToken hw hc6) (Nat.le_of_ble_eq_true rfl) dX5_readOpened_6 (fun J P' q => ?_)
  obtain ⟨rfl, rfl⟩ := q
  refine ft_aload_n dX5_readOpened_9 rfl ?_
  refine ft_iload_n dX5_readOpened_10 rfl ?_
  refine ft_bipush (v := 40) dX5_readOpened_11 rfl ?_
  refine fk_icmp_ne (tgt := 20) dX5_readOpened_13 (by decide) hf (fun hf => ?_) (fun hf => ?_)
  · refine ft_iload_n dX5_readOpened_20 rfl ?_
    refine ft_iload_n dX5_readOpened_21 rfl ?_
    refine ft_iconst (v := 1) dX5_readOpened_22 rfl ?_
    refine ft_iadd dX5_readOpened_23 ?_
    obtain ⟨I24, hc24, hf⟩ := fq_us hf
    refine ft_V2v cf_X5_39 (ws_43 hw) (hkr _ _ _ _ hc24) (Nat.le_of_ble_eq_true rfl) dX5_readOpened_24 (fun J P' q => ?_)
    obtain ⟨rfl, rfl⟩ := q
    refine ft_iload_n dX5_readOpened_27 rfl ?_
    refine ft_bipush (v := 40) dX5_readOpened_28 rfl ?_
    refine fk_icmp_ne (tgt := 42) dX5_readOpened_30 (by decide) hf (fun hf => ?_) (fun hf => ?_)
    · refine ft_aload_n dX5_readOpened_42 rfl ?_
      refine ft_iload_n dX5_readOpened_43 rfl ?_
      refine ft_bipush (v := 18) dX5_readOpened_44 rfl ?_
      refine fk_icmp_ne (tgt := 54) dX5_readOpened_46 (by decide) hf (fun hf => ?_) (fun hf => ?_)
      · refine ft_bipush (v := (-9)) dX5_readOpened_54 rfl ?_
        obtain ⟨I56, hc56, hf⟩ := fq_us hf
        refine ft_V1v cf_X5_65 (ws_43 hw) (t_X5_put hw hv hc56) (Nat.le_of_ble_eq_true rfl) dX5_readOpened_56 (fun J P' q => ?_)
        obtain ⟨rfl, rfl⟩ := q
        exact fk_retv hf dX5_readOpened_59 rfl
      · refine ft_bipush (v := (-18)) dX5_readOpened_49 rfl ?_
        refine ft_goto (tgt := 56) dX5_readOpened_51 (by decide) ?_
        obtain ⟨I56, hc56, hf⟩ := fq_us hf
        refine ft_V1v cf_X5_65 (ws_43 hw) (t_X5_put hw hv hc56) (Nat.le_of_ble_eq_true rfl) dX5_readOpened_56 (fun J P' q => ?_)
        obtain ⟨rfl, rfl⟩ := q
        exact fk_retv hf dX5_readOpened_59 rfl
    · refine ft_aload_n dX5_readOpened_33 rfl ?_
      refine ft_bipush (v := 41) dX5_readOpened_34 rfl ?_
      obtain ⟨I36, hc36, hf⟩ := fq_us hf
      refine ft_V1v cf_X5_35 (ws_43 hw) (t_X5_expect hw hc36) (Nat.le_of_ble_eq_true rfl) dX5_readOpened_36 (fun J P' q => ?_)
      obtain ⟨rfl, rfl⟩ := q
      refine ft_goto (tgt := 59) dX5_readOpened_39 (by decide) ?_
      exact fk_retv hf dX5_readOpened_59 rfl
  · refine ft_iconst (v := 0) dX5_readOpened_16 rfl ?_
    refine ft_goto (tgt := 21) dX5_readOpened_17 (by decide) ?_
    refine ft_iload_n dX5_readOpened_21 rfl ?_
    refine ft_iconst (v := 1) dX5_readOpened_22 rfl ?_
    refine ft_iadd dX5_readOpened_23 ?_
    obtain ⟨I24, hc24, hf⟩ := fq_us hf
    refine ft_V2v cf_X5_39 (ws_43 hw) (hkr _ _ _ _ hc24) (Nat.le_of_ble_eq_true rfl) dX5_readOpened_24 (fun J P' q => ?_)
    obtain ⟨rfl, rfl⟩ := q
    refine ft_iload_n dX5_readOpened_27 rfl ?_
    refine ft_bipush (v := 40) dX5_readOpened_28 rfl ?_
    refine fk_icmp_ne (tgt := 42) dX5_readOpened_30 (by decide) hf (fun hf => ?_) (fun hf => ?_)
    · refine ft_aload_n dX5_readOpened_42 rfl ?_
      refine ft_iload_n dX5_readOpened_43 rfl ?_
      refine ft_bipush (v := 18) dX5_readOpened_44 rfl ?_
      refine fk_icmp_ne (tgt := 54) dX5_readOpened_46 (by decide) hf (fun hf => ?_) (fun hf => ?_)
      · refine ft_bipush (v := (-9)) dX5_readOpened_54 rfl ?_
        obtain ⟨I56, hc56, hf⟩ := fq_us hf
        refine ft_V1v cf_X5_65 (ws_43 hw) (t_X5_put hw hv hc56) (Nat.le_of_ble_eq_true rfl) dX5_readOpened_56 (fun J P' q => ?_)
        obtain ⟨rfl, rfl⟩ := q
        exact fk_retv hf dX5_readOpened_59 rfl
      · refine ft_bipush (v := (-18)) dX5_readOpened_49 rfl ?_
        refine ft_goto (tgt := 56) dX5_readOpened_51 (by decide) ?_
        obtain ⟨I56, hc56, hf⟩ := fq_us hf
        refine ft_V1v cf_X5_65 (ws_43 hw) (t_X5_put hw hv hc56) (Nat.le_of_ble_eq_true rfl) dX5_readOpened_56 (fun J P' q => ?_)
        obtain ⟨rfl, rfl⟩ := q
        exact fk_retv hf dX5_readOpened_59 rfl
    · refine ft_aload_n dX5_readOpened_33 rfl ?_
      refine ft_bipush (v := 41) dX5_readOpened_34 rfl ?_
      obtain ⟨I36, hc36, hf⟩ := fq_us hf
      refine ft_V1v cf_X5_35 (ws_43 hw) (t_X5_expect hw hc36) (Nat.le_of_ble_eq_true rfl) dX5_readOpened_36 (fun J P' q => ?_)
      obtain ⟨rfl, rfl⟩ := q
      refine ft_goto (tgt := 59) dX5_readOpened_39 (by decide) ?_
      exact fk_retv hf dX5_readOpened_59 rfl
def f_X5_readLevel_109_B (v : Nat) (kr : Int32 → Int32 → fc_I → Option fc_I) (x1 : Int32) (x2 : Int32) (x4 : Int32) (k109 : Int32 → fc_I → Option fc_I) (x5 : Int32) (I : fc_I) : Option fc_I :=
if x5.toInt < x4.toInt then (
fq_v (f_X5_joinLevel (I 43 7)) fun r121 =>
if x1.toInt = r121.toInt then (
fq_l ((-(I 43 7))) fun y132 =>
fq_u (f_X5_nextToken I) fun I135 =>
fq_u (kr (x1 + 1) x2 I135) fun I143 =>
fq_u (f_X5_put v I143 y132) fun I149 =>
fq_l (x5 + 1) fun y152 =>
k109 y152 I149)
else (
some I))
else (
some I)
def f_X5_readLevel_109 (v : Nat) (kr : Int32 → Int32 → fc_I → Option fc_I) (x1 : Int32) (x2 : Int32) (x4 : Int32) (n : Nat) : Int32 → fc_I → Option fc_I := lpm1 (f_X5_readLevel_109_B v kr x1 x2 x4 ) n
def f_X5_readLevel_59 (v : Nat) (kr : Int32 → Int32 → fc_I → Option fc_I) (x1 : Int32) (x2 : Int32) (x3 : Int32) (I : fc_I) : Option fc_I :=
if x3.toInt = 0 then (
if x1.toInt < (5 : Int32).toInt then (
fq_u (kr (x1 + 1) x2 I) fun I89 =>
if x1.toInt = (2 : Int32).toInt then (
f_X5_readLevel_109 v kr x1 x2 1 4000 0 I89)
else (
f_X5_readLevel_109 v kr x1 x2 160 4000 0 I89))
else (
fq_u (f_X5_readLeaf v I) fun I78 =>
some I78))
else (
fq_u (f_X5_readOpened v kr I x1 x2) fun I66 =>
some I66)
def f_X5_readLevel_42 (v : Nat) (kr : Int32 → Int32 → fc_I → Option fc_I) (x1 : Int32) (x2 : Int32) (s0 : Int32) (I : fc_I) : Option fc_I :=
if s0.toInt = 0 then (
f_X5_readLevel_59 v kr  x1 x2 s0 I)
else (
if x2.toInt < (5 : Int32).toInt then (
f_X5_readLevel_59 v kr  x1 x2 s0 I)
else (
fq_u (f_X5_fail I) fun I53 =>
some I53))
def f_X5_readLevel_41 (v : Nat) (kr : Int32 → Int32 → fc_I → Option fc_I) (x1 : Int32) (x2 : Int32) (I : fc_I) : Option fc_I :=
f_X5_readLevel_42 v kr  x1 x2 0 I
def f_X5_readLevel_37 (v : Nat) (kr : Int32 → Int32 → fc_I → Option fc_I) (x1 : Int32) (x2 : Int32) (I : fc_I) : Option fc_I :=
f_X5_readLevel_42 v kr  x1 x2 1 I
def f_X5_readLevel_14 (v : Nat) (kr : Int32 → Int32 → fc_I → Option fc_I) (x1 : Int32) (x2 : Int32) (I : fc_I) : Option fc_I :=
if x1.toInt = (5 : Int32).toInt then (
if (I 43 7).toInt = (45 : Int32).toInt then (
f_X5_readLevel_37 v kr  x1 x2 I)
else (
if (I 43 7).toInt = (40 : Int32).toInt then (
f_X5_readLevel_37 v kr  x1 x2 I)
else (
f_X5_readLevel_41 v kr  x1 x2 I)))
else (
f_X5_readLevel_41 v kr  x1 x2 I)
def f_X5_readLevel_B (v : Nat) (kr : Int32 → Int32 → fc_I → Option fc_I) (x1 : Int32) (x2 : Int32) (I : fc_I) : Option fc_I :=
if x1.toInt = (2 : Int32).toInt then (
if (I 43 7).toInt = (18 : Int32).toInt then (
f_X5_readLevel_37 v kr  x1 x2 I)
else (
f_X5_readLevel_14 v kr  x1 x2 I))
else (
f_X5_readLevel_14 v kr  x1 x2 I)
def f_X5_readLevel (v n : Nat) : Int32 → Int32 → fc_I → Option fc_I := lpm2 (f_X5_readLevel_B v) n
set_option maxHeartbeats 4000000 in
set_option maxRecDepth 100000 in
theorem t_X5_readLevel_109 {d : Nat} {sh : fc_Sh} {P : fc_P} {v : Nat} {kr : Int32 → Int32 → fc_I → Option fc_I} {J : fc_I} {x1 : Int32} {x2 : Int32} {x4 : Int32} (hkr : ∀ l o I J, kr l o I = some J → fc_Cv X5_readLevel (d + 10) [.ref 43, .int l, .int o] sh I P (fun I' P' => I' = J ∧ P' = P)) (hkr1 : ∀ l o I J, kr l o I = some J → fc_Cv X5_readLevel (d + 11) [.ref 43, .int l, .int o] sh I P (fun I' P' => I' = J ∧ P' = P)) (hw : fc_wd sh P v) (hv : fc_v v) : ∀ (n : Nat) (x5 : Int32) (I : fc_I) , f_X5_readLevel_109 v kr x1 x2 x4 n x5 I = some J → fc_T X5_readLevel (d + 12) 0 0 109 [some (.ref 43), some (.int x1), some (.int x2), none, some (.int x4), some (.int x5), none] [] sh I P (fc_Qv sh (fun I' P' => I' = J ∧ P' = P)) := by
  unfold f_X5_readLevel_109
  refine lpm1_T (fun k109 hk109 x5 I hf => ?_)
  unfold f_X5_readLevel_109_B at hf
  refine ft_iload dX5_readLevel_109 rfl ?_
  refine ft_iload dX5_readLevel_111 rfl ?_
  refine fk_icmp_ge (tgt := 158) dX5_readLevel_113 (by decide) hf (fun hf => ?_) (fun hf => ?_)
  · exact fk_retv hf dX5_readLevel_158 rfl
  · refine ft_iload_n dX5_readLevel_116 rfl ?_
    refine ft_aload_n dX5_readLevel_117 rfl ?_
    refine ft_getI fl_X5_46 rfl (ws_43 hw) (by decide) dX5_readLevel_118 ?_
    obtain ⟨r121, hc121, hf⟩ := fq_vs hf
    refine ft_S1p cf_X5_61 (t_X5_joinLevel hc121) (Nat.le_of_ble_eq_true rfl) dX5_readLevel_121 ?_
    refine fk_icmp_ne (tgt := 158) dX5_readLevel_124 (by decide) hf (fun hf => ?_) (fun hf => ?_)
    · exact fk_retv hf dX5_readLevel_158 rfl
    · refine ft_aload_n dX5_readLevel_127 rfl ?_
      refine ft_getI fl_X5_46 rfl (ws_43 hw) (by decide) dX5_readLevel_128 ?_
      refine ft_ineg dX5_readLevel_131 ?_
      refine ft_istore dX5_readLevel_132 (by decide) ?_
      refine ft_aload_n dX5_readLevel_134 rfl ?_
      obtain ⟨I135, hc135, hf⟩ := fq_us hf
      refine ft_V0v cf_X5_32 (ws_43 hw) (t_X5_nextToken hw hc135) (Nat.le_of_ble_eq_true rfl) dX5_readLevel_135 (fun J P' q => ?_)
      obtain ⟨rfl, rfl⟩ := q
      refine ft_aload_n dX5_readLevel_138 rfl ?_
      refine ft_iload_n dX5_readLevel_139 rfl ?_
      refine ft_iconst (v := 1) dX5_readLevel_140 rfl ?_
      refine ft_iadd dX5_readLevel_141 ?_
      refine ft_iload_n dX5_readLevel_142 rfl ?_
      obtain ⟨I143, hc143, hf⟩ := fq_us hf
      refine ft_V2v cf_X5_39 (ws_43 hw) (hkr1 _ _ _ _ hc143) (Nat.le_of_ble_eq_true rfl) dX5_readLevel_143 (fun J P' q => ?_)
      obtain ⟨rfl, rfl⟩ := q
      refine ft_aload_n dX5_readLevel_146 rfl ?_
      refine ft_iload dX5_readLevel_147 rfl ?_
      obtain ⟨I149, hc149, hf⟩ := fq_us hf
      refine ft_V1v cf_X5_65 (ws_43 hw) (t_X5_put hw hv hc149) (Nat.le_of_ble_eq_true rfl) dX5_readLevel_149 (fun J P' q => ?_)
      obtain ⟨rfl, rfl⟩ := q
      refine fk_iinc (c := 1) dX5_readLevel_152 rfl (by decide) rfl ?_
      refine ft_goto (tgt := 109) dX5_readLevel_155 (by decide) ?_
      exact ft_forget (by simp [fc_le, fc_st1, fc_st2, fc_kill]) (hk109 _ _ hf)
set_option maxHeartbeats 4000000 in
set_option maxRecDepth 100000 in
theorem t_X5_readLevel_59 {d : Nat} {sh : fc_Sh} {P : fc_P} {v : Nat} {kr : Int32 → Int32 → fc_I → Option fc_I} {J : fc_I} (hkr : ∀ l o I J, kr l o I = some J → fc_Cv X5_readLevel (d + 10) [.ref 43, .int l, .int o] sh I P (fun I' P' => I' = J ∧ P' = P)) (hkr1 : ∀ l o I J, kr l o I = some J → fc_Cv X5_readLevel (d + 11) [.ref 43, .int l, .int o] sh I P (fun I' P' => I' = J ∧ P' = P)) (hw : fc_wd sh P v) (hv : fc_v v) : ∀ (x1 : Int32) (x2 : Int32) (x3 : Int32) (I : fc_I) , f_X5_readLevel_59 v kr  x1 x2 x3 I = some J → fc_T X5_readLevel (d + 12) 0 0 59 [some (.ref 43), some (.int x1), some (.int x2), some (.int x3), none, none, none] [] sh I P (fc_Qv sh (fun I' P' => I' = J ∧ P' = P)) := by
  intro x1 x2 x3 I hf
  unfold f_X5_readLevel_59 at hf
  refine ft_iload_n dX5_readLevel_59 rfl ?_
  refine fk_if_eq (tgt := 72) dX5_readLevel_60 (by decide) hf (fun hf => ?_) (fun hf => ?_)
  · refine ft_iload_n dX5_readLevel_72 rfl ?_
    refine ft_iconst (v := 5) dX5_readLevel_73 rfl ?_
    refine fk_icmp_lt (tgt := 84) dX5_readLevel_74 (by decide) hf (fun hf => ?_) (fun hf => ?_)
    · refine ft_aload_n dX5_readLevel_84 rfl ?_
      refine ft_iload_n dX5_readLevel_85 rfl ?_
      refine ft_iconst (v := 1) dX5_readLevel_86 rfl ?_
      refine ft_iadd dX5_readLevel_87 ?_
      refine ft_iload_n dX5_readLevel_88 rfl ?_
      obtain ⟨I89, hc89, hf⟩ := fq_us hf
      refine ft_V2v cf_X5_39 (ws_43 hw) (hkr1 _ _ _ _ hc89) (Nat.le_of_ble_eq_true rfl) dX5_readLevel_89 (fun J P' q => ?_)
      obtain ⟨rfl, rfl⟩ := q
      refine ft_iload_n dX5_readLevel_92 rfl ?_
      refine ft_iconst (v := 2) dX5_readLevel_93 rfl ?_
      refine fk_icmp_ne (tgt := 101) dX5_readLevel_94 (by decide) hf (fun hf => ?_) (fun hf => ?_)
      · refine ft_sipush (v := 160) dX5_readLevel_101 rfl ?_
        refine ft_istore dX5_readLevel_104 (by decide) ?_
        refine ft_iconst (v := 0) dX5_readLevel_106 rfl ?_
        refine ft_istore dX5_readLevel_107 (by decide) ?_
        exact ft_forget (by simp [fc_le, fc_st1, fc_st2, fc_kill]) (t_X5_readLevel_109 hkr hkr1 hw hv  _ _ _ hf)
      · refine ft_iconst (v := 1) dX5_readLevel_97 rfl ?_
        refine ft_goto (tgt := 104) dX5_readLevel_98 (by decide) ?_
        refine ft_istore dX5_readLevel_104 (by decide) ?_
        refine ft_iconst (v := 0) dX5_readLevel_106 rfl ?_
        refine ft_istore dX5_readLevel_107 (by decide) ?_
        exact ft_forget (by simp [fc_le, fc_st1, fc_st2, fc_kill]) (t_X5_readLevel_109 hkr hkr1 hw hv  _ _ _ hf)
    · refine ft_aload_n dX5_readLevel_77 rfl ?_
      obtain ⟨I78, hc78, hf⟩ := fq_us hf
      refine ft_V0v cf_X5_58 (ws_43 hw) (t_X5_readLeaf hw hv hc78) (Nat.le_of_ble_eq_true rfl) dX5_readLevel_78 (fun J P' q => ?_)
      obtain ⟨rfl, rfl⟩ := q
      refine ft_goto (tgt := 158) dX5_readLevel_81 (by decide) ?_
      exact fk_retv hf dX5_readLevel_158 rfl
  · refine ft_aload_n dX5_readLevel_63 rfl ?_
    refine ft_iload_n dX5_readLevel_64 rfl ?_
    refine ft_iload_n dX5_readLevel_65 rfl ?_
    obtain ⟨I66, hc66, hf⟩ := fq_us hf
    refine ft_V2v cf_X5_55 (ws_43 hw) (t_X5_readOpened hkr hw hv hc66) (Nat.le_of_ble_eq_true rfl) dX5_readLevel_66 (fun J P' q => ?_)
    obtain ⟨rfl, rfl⟩ := q
    refine ft_goto (tgt := 158) dX5_readLevel_69 (by decide) ?_
    exact fk_retv hf dX5_readLevel_158 rfl
set_option maxHeartbeats 4000000 in
set_option maxRecDepth 100000 in
theorem t_X5_readLevel_42 {d : Nat} {sh : fc_Sh} {P : fc_P} {v : Nat} {kr : Int32 → Int32 → fc_I → Option fc_I} {J : fc_I} (hkr : ∀ l o I J, kr l o I = some J → fc_Cv X5_readLevel (d + 10) [.ref 43, .int l, .int o] sh I P (fun I' P' => I' = J ∧ P' = P)) (hkr1 : ∀ l o I J, kr l o I = some J → fc_Cv X5_readLevel (d + 11) [.ref 43, .int l, .int o] sh I P (fun I' P' => I' = J ∧ P' = P)) (hw : fc_wd sh P v) (hv : fc_v v) : ∀ (x1 : Int32) (x2 : Int32) (s0 : Int32) (I : fc_I) , f_X5_readLevel_42 v kr  x1 x2 s0 I = some J → fc_T X5_readLevel (d + 12) 0 0 42 [some (.ref 43), some (.int x1), some (.int x2), none, none, none, none] [.int s0] sh I P (fc_Qv sh (fun I' P' => I' = J ∧ P' = P)) := by
  intro x1 x2 s0 I hf
  unfold f_X5_readLevel_42 at hf
  refine ft_istore_n dX5_readLevel_42 (by decide) ?_
  refine ft_iload_n dX5_readLevel_43 rfl ?_
  refine fk_if_eq (tgt := 59) dX5_readLevel_44 (by decide) hf (fun hf => ?_) (fun hf => ?_)
  · exact ft_forget (by simp [fc_le, fc_st1, fc_st2, fc_kill]) (t_X5_readLevel_59 hkr hkr1 hw hv   _ _ _ _ hf)
  · refine ft_iload_n dX5_readLevel_47 rfl ?_
    refine ft_iconst (v := 5) dX5_readLevel_48 rfl ?_
    refine fk_icmp_lt (tgt := 59) dX5_readLevel_49 (by decide) hf (fun hf => ?_) (fun hf => ?_)
    · exact ft_forget (by simp [fc_le, fc_st1, fc_st2, fc_kill]) (t_X5_readLevel_59 hkr hkr1 hw hv   _ _ _ _ hf)
    · refine ft_aload_n dX5_readLevel_52 rfl ?_
      obtain ⟨I53, hc53, hf⟩ := fq_us hf
      refine ft_V0v cf_X5_49 (ws_43 hw) (t_X5_fail hw hc53) (Nat.le_of_ble_eq_true rfl) dX5_readLevel_53 (fun J P' q => ?_)
      obtain ⟨rfl, rfl⟩ := q
      refine ft_goto (tgt := 158) dX5_readLevel_56 (by decide) ?_
      exact fk_retv hf dX5_readLevel_158 rfl
set_option maxHeartbeats 4000000 in
set_option maxRecDepth 100000 in
theorem t_X5_readLevel_41 {d : Nat} {sh : fc_Sh} {P : fc_P} {v : Nat} {kr : Int32 → Int32 → fc_I → Option fc_I} {J : fc_I} (hkr : ∀ l o I J, kr l o I = some J → fc_Cv X5_readLevel (d + 10) [.ref 43, .int l, .int o] sh I P (fun I' P' => I' = J ∧ P' = P)) (hkr1 : ∀ l o I J, kr l o I = some J → fc_Cv X5_readLevel (d + 11) [.ref 43, .int l, .int o] sh I P (fun I' P' => I' = J ∧ P' = P)) (hw : fc_wd sh P v) (hv : fc_v v) : ∀ (x1 : Int32) (x2 : Int32) (I : fc_I) , f_X5_readLevel_41 v kr  x1 x2 I = some J → fc_T X5_readLevel (d + 12) 0 0 41 [some (.ref 43), some (.int x1), some (.int x2), none, none, none, none] [] sh I P (fc_Qv sh (fun I' P' => I' = J ∧ P' = P)) := by
  intro x1 x2 I hf
  unfold f_X5_readLevel_41 at hf
  refine ft_iconst (v := 0) dX5_readLevel_41 rfl ?_
  exact ft_forget (by simp [fc_le, fc_st1, fc_st2, fc_kill]) (t_X5_readLevel_42 hkr hkr1 hw hv   _ _ _ _ hf)
set_option maxHeartbeats 4000000 in
set_option maxRecDepth 100000 in
theorem t_X5_readLevel_37 {d : Nat} {sh : fc_Sh} {P : fc_P} {v : Nat} {kr : Int32 → Int32 → fc_I → Option fc_I} {J : fc_I} (hkr : ∀ l o I J, kr l o I = some J → fc_Cv X5_readLevel (d + 10) [.ref 43, .int l, .int o] sh I P (fun I' P' => I' = J ∧ P' = P)) (hkr1 : ∀ l o I J, kr l o I = some J → fc_Cv X5_readLevel (d + 11) [.ref 43, .int l, .int o] sh I P (fun I' P' => I' = J ∧ P' = P)) (hw : fc_wd sh P v) (hv : fc_v v) : ∀ (x1 : Int32) (x2 : Int32) (I : fc_I) , f_X5_readLevel_37 v kr  x1 x2 I = some J → fc_T X5_readLevel (d + 12) 0 0 37 [some (.ref 43), some (.int x1), some (.int x2), none, none, none, none] [] sh I P (fc_Qv sh (fun I' P' => I' = J ∧ P' = P)) := by
  intro x1 x2 I hf
  unfold f_X5_readLevel_37 at hf
  refine ft_iconst (v := 1) dX5_readLevel_37 rfl ?_
  refine ft_goto (tgt := 42) dX5_readLevel_38 (by decide) ?_
  exact ft_forget (by simp [fc_le, fc_st1, fc_st2, fc_kill]) (t_X5_readLevel_42 hkr hkr1 hw hv   _ _ _ _ hf)
set_option maxHeartbeats 4000000 in
set_option maxRecDepth 100000 in
theorem t_X5_readLevel_14 {d : Nat} {sh : fc_Sh} {P : fc_P} {v : Nat} {kr : Int32 → Int32 → fc_I → Option fc_I} {J : fc_I} (hkr : ∀ l o I J, kr l o I = some J → fc_Cv X5_readLevel (d + 10) [.ref 43, .int l, .int o] sh I P (fun I' P' => I' = J ∧ P' = P)) (hkr1 : ∀ l o I J, kr l o I = some J → fc_Cv X5_readLevel (d + 11) [.ref 43, .int l, .int o] sh I P (fun I' P' => I' = J ∧ P' = P)) (hw : fc_wd sh P v) (hv : fc_v v) : ∀ (x1 : Int32) (x2 : Int32) (I : fc_I) , f_X5_readLevel_14 v kr  x1 x2 I = some J → fc_T X5_readLevel (d + 12) 0 0 14 [some (.ref 43), some (.int x1), some (.int x2), none, none, none, none] [] sh I P (fc_Qv sh (fun I' P' => I' = J ∧ P' = P)) := by
  intro x1 x2 I hf
  unfold f_X5_readLevel_14 at hf
  refine ft_iload_n dX5_readLevel_14 rfl ?_
  refine ft_iconst (v := 5) dX5_readLevel_15 rfl ?_
  refine fk_icmp_ne (tgt := 41) dX5_readLevel_16 (by decide) hf (fun hf => ?_) (fun hf => ?_)
  · exact ft_forget (by simp [fc_le, fc_st1, fc_st2, fc_kill]) (t_X5_readLevel_41 hkr hkr1 hw hv   _ _ _ hf)
  · refine ft_aload_n dX5_readLevel_19 rfl ?_
    refine ft_getI fl_X5_46 rfl (ws_43 hw) (by decide) dX5_readLevel_20 ?_
    refine ft_bipush (v := 45) dX5_readLevel_23 rfl ?_
    refine fk_icmp_eq (tgt := 37) dX5_readLevel_25 (by decide) hf (fun hf => ?_) (fun hf => ?_)
    · exact ft_forget (by simp [fc_le, fc_st1, fc_st2, fc_kill]) (t_X5_readLevel_37 hkr hkr1 hw hv   _ _ _ hf)
    · refine ft_aload_n dX5_readLevel_28 rfl ?_
      refine ft_getI fl_X5_46 rfl (ws_43 hw) (by decide) dX5_readLevel_29 ?_
      refine ft_bipush (v := 40) dX5_readLevel_32 rfl ?_
      refine fk_icmp_ne (tgt := 41) dX5_readLevel_34 (by decide) hf (fun hf => ?_) (fun hf => ?_)
      · exact ft_forget (by simp [fc_le, fc_st1, fc_st2, fc_kill]) (t_X5_readLevel_41 hkr hkr1 hw hv   _ _ _ hf)
      · exact ft_forget (by simp [fc_le, fc_st1, fc_st2, fc_kill]) (t_X5_readLevel_37 hkr hkr1 hw hv   _ _ _ hf)
set_option maxHeartbeats 4000000 in
set_option maxRecDepth 100000 in
theorem t_X5_readLevel_step {d : Nat} {sh : fc_Sh} {P : fc_P} {v : Nat} {kr : Int32 → Int32 → fc_I → Option fc_I} {J : fc_I} {I : fc_I} {x1 : Int32} {x2 : Int32} (hkr : ∀ l o I J, kr l o I = some J → fc_Cv X5_readLevel (d + 10) [.ref 43, .int l, .int o] sh I P (fun I' P' => I' = J ∧ P' = P)) (hkr1 : ∀ l o I J, kr l o I = some J → fc_Cv X5_readLevel (d + 11) [.ref 43, .int l, .int o] sh I P (fun I' P' => I' = J ∧ P' = P)) (hw : fc_wd sh P v) (hv : fc_v v) (hf : f_X5_readLevel_B v kr x1 x2 I = some J) : fc_Cv X5_readLevel (d + 12) [.ref 43, .int x1, .int x2] sh I P (fun I' P' => I' = J ∧ P' = P) := by
  unfold f_X5_readLevel_B at hf
  refine fc_Cv.of (ls := [some (.ref 43), some (.int x1), some (.int x2), none, none, none, none]) ⟨rfl, rfl⟩ (Nat.le_of_ble_eq_true rfl) rfl ?_
  refine ft_iload_n dX5_readLevel_0 rfl ?_
  refine ft_iconst (v := 2) dX5_readLevel_1 rfl ?_
  refine fk_icmp_ne (tgt := 14) dX5_readLevel_2 (by decide) hf (fun hf => ?_) (fun hf => ?_)
  · exact ft_forget (by simp [fc_le, fc_st1, fc_st2, fc_kill]) (t_X5_readLevel_14 hkr hkr1 hw hv   _ _ _ hf)
  · refine ft_aload_n dX5_readLevel_5 rfl ?_
    refine ft_getI fl_X5_46 rfl (ws_43 hw) (by decide) dX5_readLevel_6 ?_
    refine ft_bipush (v := 18) dX5_readLevel_9 rfl ?_
    refine fk_icmp_eq (tgt := 37) dX5_readLevel_11 (by decide) hf (fun hf => ?_) (fun hf => ?_)
    · exact ft_forget (by simp [fc_le, fc_st1, fc_st2, fc_kill]) (t_X5_readLevel_37 hkr hkr1 hw hv   _ _ _ hf)
    · exact ft_forget (by simp [fc_le, fc_st1, fc_st2, fc_kill]) (t_X5_readLevel_14 hkr hkr1 hw hv   _ _ _ hf)
theorem t_X5_readLevel {v : Nat} {sh : fc_Sh} {P : fc_P} (hw : fc_wd sh P v) (hv : fc_v v) : ∀ (n : Nat) (d : Nat) (l o : Int32) (I J : fc_I), f_X5_readLevel v n l o I = some J → fc_Cv X5_readLevel (d + 2 * n + 10) [.ref 43, .int l, .int o] sh I P (fun I' P' => I' = J ∧ P' = P)
  | 0, _, _, _, _, _, h => by cases h
  | n + 1, d, l, o, I, J, h => by
    have q := t_X5_readLevel_step (d := d + 2 * n) (fun l o I J h => t_X5_readLevel hw hv n d l o I J h) (fun l o I J h => by
      have q := t_X5_readLevel hw hv n (d + 1) l o I J h
      rw [show d + 1 + 2 * n + 10 = d + 2 * n + 11 by omega] at q
      exact q) hw hv h
    rw [show d + 2 * (n + 1) + 10 = d + 2 * n + 12 by omega]
    exact q
theorem t_X5_readLevelF {d v : Nat} {sh : fc_Sh} {P : fc_P} (hw : fc_wd sh P v) (hv : fc_v v) {l o : Int32} {I J : fc_I} (h : f_X5_readLevel v 40 l o I = some J) : fc_Cv X5_readLevel (d + 90) [.ref 43, .int l, .int o] sh I P (fun I' P' => I' = J ∧ P' = P) := by
  have q := t_X5_readLevel hw hv 40 d l o I J h
  rw [show d + 2 * 40 + 10 = d + 90 by omega] at q
  exact q
def f_X5_read (w : Nat) (I : fc_I) (x1 : Int32) : Option (Int32 × fc_I) :=
fq_l (fc_wI I 43 4 x1) fun I2 =>
fq_l (fc_wI I2 43 2 0) fun I12 =>
fq_l (fc_wI I12 43 6 0) fun I17 =>
fq_l (fc_wI I17 43 9 (-1)) fun I22 =>
fq_u (f_X5_nextToken I22) fun I26 =>
fq_u (f_X5_expect I26 14) fun I32 =>
fq_u (f_X5_readLevel w 40 0 0 I32) fun I38 =>
fq_u (f_X5_expect I38 59) fun I44 =>
fq_l (fc_wI I44 43 3 (I44 43 2)) fun I52 =>
fq_u (f_X5_expect I52 15) fun I58 =>
fq_u (f_X5_readLevel w 40 0 0 I58) fun I64 =>
fq_u (f_X5_expect I64 59) fun I70 =>
if (I70 43 7).toInt = (11 : Int32).toInt then (
some ((I70 43 9), I70))
else (
fq_u (f_X5_fail I70) fun I83 =>
some ((I83 43 9), I83))
set_option maxHeartbeats 4000000 in
set_option maxRecDepth 100000 in
theorem t_X5_read {d : Nat} {sh : fc_Sh} {P : fc_P} {v : Nat} {w : Nat} {r : Int32} {J : fc_I} {I : fc_I} {x1 : Int32} (hw : fc_wd sh P v) (hwv : fc_v w) (hf : f_X5_read w I x1 = some (r, J)) : fc_Ci X5_read (d + 91) [.ref 43, .int x1, .ref w] sh I P (fun r' I' P' => r' = r ∧ I' = J ∧ P' = (fc_wP P 43 1 w)) := by
  unfold f_X5_read at hf
  refine fc_Ci.of (ls := [some (.ref 43), some (.int x1), some (.ref w)]) ⟨rfl, rfl⟩ (Nat.le_of_ble_eq_true rfl) rfl ?_
  refine ft_aload_n dX5_read_0 rfl ?_
  refine ft_iload_n dX5_read_1 rfl ?_
  refine ft_putI fl_X5_19 rfl (fun q h => by cases h; rfl) (ws_43 hw) (by decide) dX5_read_2 ?_
  refine ft_aload_n dX5_read_5 rfl ?_
  refine ft_aload_n dX5_read_6 rfl ?_
  refine ft_putR fl_X5_15 rfl (fun q h => by cases h; rfl) (ws_43 hw) (by decide) (Nat.lt_of_le_of_lt (show w ≤ 44 by have := hwv.2; omega) (List.getElem?_eq_some_iff.mp (ws_44 hw)).1) dX5_read_7 ?_
  replace hw := wd_set hw hwv
  refine ft_aload_n dX5_read_10 rfl ?_
  refine ft_iconst (v := 0) dX5_read_11 rfl ?_
  refine ft_putI fl_X5_23 rfl (fun q h => by cases h; rfl) (ws_43 hw) (by decide) dX5_read_12 ?_
  refine ft_aload_n dX5_read_15 rfl ?_
  refine ft_iconst (v := 0) dX5_read_16 rfl ?_
  refine ft_putI fl_X5_26 rfl (fun q h => by cases h; rfl) (ws_43 hw) (by decide) dX5_read_17 ?_
  refine ft_aload_n dX5_read_20 rfl ?_
  refine ft_iconst (v := (-1)) dX5_read_21 rfl ?_
  refine ft_putI fl_X5_29 rfl (fun q h => by cases h; rfl) (ws_43 hw) (by decide) dX5_read_22 ?_
  refine ft_aload_n dX5_read_25 rfl ?_
  obtain ⟨I26, hc26, hf⟩ := fq_us hf
  refine ft_V0v cf_X5_32 (ws_43 hw) (t_X5_nextToken hw hc26) (Nat.le_of_ble_eq_true rfl) dX5_read_26 (fun J P' q => ?_)
  obtain ⟨rfl, rfl⟩ := q
  refine ft_aload_n dX5_read_29 rfl ?_
  refine ft_bipush (v := 14) dX5_read_30 rfl ?_
  obtain ⟨I32, hc32, hf⟩ := fq_us hf
  refine ft_V1v cf_X5_35 (ws_43 hw) (t_X5_expect hw hc32) (Nat.le_of_ble_eq_true rfl) dX5_read_32 (fun J P' q => ?_)
  obtain ⟨rfl, rfl⟩ := q
  refine ft_aload_n dX5_read_35 rfl ?_
  refine ft_iconst (v := 0) dX5_read_36 rfl ?_
  refine ft_iconst (v := 0) dX5_read_37 rfl ?_
  obtain ⟨I38, hc38, hf⟩ := fq_us hf
  refine ft_V2v cf_X5_39 (ws_43 hw) (t_X5_readLevelF hw hwv hc38) (Nat.le_of_ble_eq_true rfl) dX5_read_38 (fun J P' q => ?_)
  obtain ⟨rfl, rfl⟩ := q
  refine ft_aload_n dX5_read_41 rfl ?_
  refine ft_bipush (v := 59) dX5_read_42 rfl ?_
  obtain ⟨I44, hc44, hf⟩ := fq_us hf
  refine ft_V1v cf_X5_35 (ws_43 hw) (t_X5_expect hw hc44) (Nat.le_of_ble_eq_true rfl) dX5_read_44 (fun J P' q => ?_)
  obtain ⟨rfl, rfl⟩ := q
  refine ft_aload_n dX5_read_47 rfl ?_
  refine ft_aload_n dX5_read_48 rfl ?_
  refine ft_getI fl_X5_23 rfl (ws_43 hw) (by decide) dX5_read_49 ?_
  refine ft_putI fl_X5_43 rfl (fun q h => by cases h; rfl) (ws_43 hw) (by decide) dX5_read_52 ?_
  refine ft_aload_n dX5_read_55 rfl ?_
  refine ft_bipush (v := 15) dX5_read_56 rfl ?_
  obtain ⟨I58, hc58, hf⟩ := fq_us hf
  refine ft_V1v cf_X5_35 (ws_43 hw) (t_X5_expect hw hc58) (Nat.le_of_ble_eq_true rfl) dX5_read_58 (fun J P' q => ?_)
  obtain ⟨rfl, rfl⟩ := q
  refine ft_aload_n dX5_read_61 rfl ?_
  refine ft_iconst (v := 0) dX5_read_62 rfl ?_
  refine ft_iconst (v := 0) dX5_read_63 rfl ?_
  obtain ⟨I64, hc64, hf⟩ := fq_us hf
  refine ft_V2v cf_X5_39 (ws_43 hw) (t_X5_readLevelF hw hwv hc64) (Nat.le_of_ble_eq_true rfl) dX5_read_64 (fun J P' q => ?_)
  obtain ⟨rfl, rfl⟩ := q
  refine ft_aload_n dX5_read_67 rfl ?_
  refine ft_bipush (v := 59) dX5_read_68 rfl ?_
  obtain ⟨I70, hc70, hf⟩ := fq_us hf
  refine ft_V1v cf_X5_35 (ws_43 hw) (t_X5_expect hw hc70) (Nat.le_of_ble_eq_true rfl) dX5_read_70 (fun J P' q => ?_)
  obtain ⟨rfl, rfl⟩ := q
  refine ft_aload_n dX5_read_73 rfl ?_
  refine ft_getI fl_X5_46 rfl (ws_43 hw) (by decide) dX5_read_74 ?_
  refine ft_bipush (v := 11) dX5_read_77 rfl ?_
  refine fk_icmp_eq (tgt := 86) dX5_read_79 (by decide) hf (fun hf => ?_) (fun hf => ?_)
  · refine ft_aload_n dX5_read_86 rfl ?_
    refine ft_getI fl_X5_29 rfl (ws_43 hw) (by decide) dX5_read_87 ?_
    exact fk_reti hf dX5_read_90 rfl rfl
  · refine ft_aload_n dX5_read_82 rfl ?_
    obtain ⟨I83, hc83, hf⟩ := fq_us hf
    refine ft_V0v cf_X5_49 (ws_43 hw) (t_X5_fail hw hc83) (Nat.le_of_ble_eq_true rfl) dX5_read_83 (fun J P' q => ?_)
    obtain ⟨rfl, rfl⟩ := q
    refine ft_aload_n dX5_read_86 rfl ?_
    refine ft_getI fl_X5_29 rfl (ws_43 hw) (by decide) dX5_read_87 ?_
    exact fk_reti hf dX5_read_90 rfl rfl
def f_X0_learn (I : fc_I) : Option (Int32 × fc_I) :=
if (I 31 7).toInt < (6 : Int32).toInt then (
fq_g 6 (I 31 7) (
fq_b (f_X5_read (34 + cn (I 31 7)) I (I 31 6)) fun r29 I29 =>
fq_l (fc_wI I29 31 6 0) fun I35 =>
if r29.toInt = ((-1) : Int32).toInt then (
fq_g 6 (I35 31 7) (fq_l (fc_wI I35 40 (cn (I35 31 7)) (I35 43 3)) fun I63 =>
fq_g 6 (I63 31 7) (fq_l (fc_wI I63 41 (cn (I63 31 7)) (I63 43 2)) fun I79 =>
fq_l (fc_wI I79 31 7 ((I79 31 7) + 1)) fun I88 =>
some ((I79 31 7), I88))))
else (
some ((((-100) : Int32) - r29), I35))))
else (
some ((-4), I))
set_option maxHeartbeats 4000000 in
set_option maxRecDepth 100000 in
theorem t_X0_learn {d : Nat} {sh : fc_Sh} {P : fc_P} {v : Nat} {r : Int32} {J : fc_I} {I : fc_I} (hw : fc_wd sh P v) (hf : f_X0_learn I = some (r, J)) : fc_Ci X0_learn (d + 92) [.ref 31] sh I P (fun r' I' P' => r' = r ∧ I' = J ∧ ((r = -4 ∧ P' = P) ∨ ∃ w, fc_v w ∧ P' = fc_wP P 43 1 w)) := by
  unfold f_X0_learn at hf
  refine fc_Ci.of (ls := [some (.ref 31), none]) ⟨rfl, rfl⟩ (Nat.le_of_ble_eq_true rfl) rfl ?_
  refine ft_aload_n dX0_learn_0 rfl ?_
  refine ft_getI fl_X0_53 rfl (ws_31 hw) (by decide) dX0_learn_1 ?_
  refine ft_bipush (v := 6) dX0_learn_4 rfl ?_
  refine fk_icmp_lt (tgt := 12) dX0_learn_6 (by decide) hf (fun hf => ?_) (fun hf => ?_)
  · refine ft_aload_n dX0_learn_12 rfl ?_
    refine ft_getR fl_X0_35 rfl (ws_31 hw) (by decide) (wp_31_5 hw) dX0_learn_13 ?_
    refine ft_aload_n dX0_learn_16 rfl ?_
    refine ft_getI fl_X0_45 rfl (ws_31 hw) (by decide) dX0_learn_17 ?_
    refine ft_aload_n dX0_learn_20 rfl ?_
    refine ft_getR fl_X0_17 rfl (ws_31 hw) (by decide) (wp_31_1 hw) dX0_learn_21 ?_
    refine ft_aload_n dX0_learn_24 rfl ?_
    refine ft_getI fl_X0_53 rfl (ws_31 hw) (by decide) dX0_learn_25 ?_
    refine fk_aald (ws_33 hw) hf (fun b => (wq_33 hw) b) dX0_learn_28 (fun hb28 hf => ?_)
    obtain ⟨r29, I29, hc29, hf⟩ := fq_bs hf
    refine ft_V2i cf_X0_56 (ws_43 hw) (t_X5_read hw (wv_33 hb28) hc29) (Nat.le_of_ble_eq_true rfl) dX0_learn_29 (fun r' J P' q => ?_)
    obtain ⟨rfl, rfl, rfl⟩ := q
    replace hw := wd_set hw (wv_33 hb28)
    refine ft_istore_n dX0_learn_32 (by decide) ?_
    refine ft_aload_n dX0_learn_33 rfl ?_
    refine ft_iconst (v := 0) dX0_learn_34 rfl ?_
    refine ft_putI fl_X0_45 rfl (fun q h => by cases h; rfl) (ws_31 hw) (by decide) dX0_learn_35 ?_
    refine ft_iload_n dX0_learn_38 rfl ?_
    refine ft_iconst (v := (-1)) dX0_learn_39 rfl ?_
    refine fk_icmp_eq (tgt := 48) dX0_learn_40 (by decide) hf (fun hf => ?_) (fun hf => ?_)
    · refine ft_aload_n dX0_learn_48 rfl ?_
      refine ft_getR fl_X0_20 rfl (ws_31 hw) (by decide) (wp_31_2 hw) dX0_learn_49 ?_
      refine ft_aload_n dX0_learn_52 rfl ?_
      refine ft_getI fl_X0_53 rfl (ws_31 hw) (by decide) dX0_learn_53 ?_
      refine ft_aload_n dX0_learn_56 rfl ?_
      refine ft_getR fl_X0_35 rfl (ws_31 hw) (by decide) (wp_31_5 hw) dX0_learn_57 ?_
      refine ft_getI fl_X0_60 rfl (ws_43 hw) (by decide) dX0_learn_60 ?_
      refine fk_iast (ws_40 hw) hf dX0_learn_63 (fun hf => ?_)
      refine ft_aload_n dX0_learn_64 rfl ?_
      refine ft_getR fl_X0_24 rfl (ws_31 hw) (by decide) (wp_31_3 hw) dX0_learn_65 ?_
      refine ft_aload_n dX0_learn_68 rfl ?_
      refine ft_getI fl_X0_53 rfl (ws_31 hw) (by decide) dX0_learn_69 ?_
      refine ft_aload_n dX0_learn_72 rfl ?_
      refine ft_getR fl_X0_35 rfl (ws_31 hw) (by decide) (wp_31_5 hw) dX0_learn_73 ?_
      refine ft_getI fl_X0_62 rfl (ws_43 hw) (by decide) dX0_learn_76 ?_
      refine fk_iast (ws_41 hw) hf dX0_learn_79 (fun hf => ?_)
      refine ft_aload_n dX0_learn_80 rfl ?_
      refine ft_dup dX0_learn_81 rfl ?_
      refine ft_getI fl_X0_53 rfl (ws_31 hw) (by decide) dX0_learn_82 ?_
      refine ft_dup_x1 dX0_learn_85 rfl rfl ?_
      refine ft_iconst (v := 1) dX0_learn_86 rfl ?_
      refine ft_iadd dX0_learn_87 ?_
      refine ft_putI fl_X0_53 rfl (fun q h => by cases h; rfl) (ws_31 hw) (by decide) dX0_learn_88 ?_
      exact fk_retL (Pp := fun P' => ((r = -4 ∧ P' = P) ∨ ∃ w, fc_v w ∧ P' = fc_wP P 43 1 w)) hf (Or.inr ⟨_, wv_33 hb28, rfl⟩) dX0_learn_91 rfl rfl
    · refine ft_bipush (v := (-100)) dX0_learn_43 rfl ?_
      refine ft_iload_n dX0_learn_45 rfl ?_
      refine ft_isub dX0_learn_46 ?_
      exact fk_retL (Pp := fun P' => ((r = -4 ∧ P' = P) ∨ ∃ w, fc_v w ∧ P' = fc_wP P 43 1 w)) hf (Or.inr ⟨_, wv_33 hb28, rfl⟩) dX0_learn_47 rfl rfl
  · refine ft_bipush (v := (-4)) dX0_learn_9 rfl ?_
    exact fk_retL (Pp := fun P' => ((r = -4 ∧ P' = P) ∨ ∃ w, fc_v w ∧ P' = fc_wP P 43 1 w)) hf (Or.inl ⟨by cases hf; rfl, rfl⟩) dX0_learn_11 rfl rfl
def f_X0_worth_171 (q3 : Nat) (x5 : Int32) (k63 : Int32 → Int32 → fc_I → Option (Int32 × fc_I)) (x6 : Int32) (x7 : Int32) (x8 : Int32) (I : fc_I) : Option (Int32 × fc_I) :=
if x8.toInt = ((-9) : Int32).toInt then (
if 0 < x6.toInt then (
fq_g 160 (x6 - 1) (
fq_g 160 (x6 - 1) (fq_l (fc_wI I 42 (cn (x6 - 1)) (-(I 42 (cn (x6 - 1))))) fun I201 =>
fq_l (x7 + 1) fun y244 =>
k63 x6 y244 I201)))
else (
if (1 : Int32).toInt < x6.toInt then (
fq_l (x6 + (-1)) fun y211 =>
fq_g 160 (y211 - 1) (
fq_g 160 y211 (
fq_v (f_X0_joined x8 (I 42 (cn (y211 - 1))) (I 42 (cn y211))) fun r240 =>
fq_g 160 (y211 - 1) (fq_l (fc_wI I 42 (cn (y211 - 1)) r240) fun I243 =>
fq_l (x7 + 1) fun y244 =>
k63 y211 y244 I243))))
else (
fq_l (x7 + 1) fun y244 =>
k63 x6 y244 I)))
else (
if (1 : Int32).toInt < x6.toInt then (
fq_l (x6 + (-1)) fun y211 =>
fq_g 160 (y211 - 1) (
fq_g 160 y211 (
fq_v (f_X0_joined x8 (I 42 (cn (y211 - 1))) (I 42 (cn y211))) fun r240 =>
fq_g 160 (y211 - 1) (fq_l (fc_wI I 42 (cn (y211 - 1)) r240) fun I243 =>
fq_l (x7 + 1) fun y244 =>
k63 y211 y244 I243))))
else (
fq_l (x7 + 1) fun y244 =>
k63 x6 y244 I))
def f_X0_worth_63_B (q3 : Nat) (x5 : Int32) (k63 : Int32 → Int32 → fc_I → Option (Int32 × fc_I)) (x6 : Int32) (x7 : Int32) (I : fc_I) : Option (Int32 × fc_I) :=
if x7.toInt < x5.toInt then (
if x6.toInt < (160 : Int32).toInt then (
fq_g 160 x7 (
fq_l ((I q3 (cn x7))) fun y82 =>
if y82.toInt < 0 then (
if y82.toInt < ((-6) : Int32).toInt then (
if y82.toInt = ((-18) : Int32).toInt then (
if 0 < x6.toInt then (
fq_g 160 (x6 - 1) (
if (I 42 (cn (x6 - 1))).toInt = 0 then (
fq_g 160 (x6 - 1) (fq_l (fc_wI I 42 (cn (x6 - 1)) 1) fun I167 =>
fq_l (x7 + 1) fun y244 =>
k63 x6 y244 I167))
else (
fq_g 160 (x6 - 1) (fq_l (fc_wI I 42 (cn (x6 - 1)) 0) fun I167 =>
fq_l (x7 + 1) fun y244 =>
k63 x6 y244 I167))))
else (
f_X0_worth_171 q3 x5 k63 x6 x7 y82 I))
else (
f_X0_worth_171 q3 x5 k63 x6 x7 y82 I))
else (
fq_l (x6 + 1) fun y117 =>
fq_g 6 (((-1) : Int32) - y82) (
fq_g 160 x6 (fq_l (fc_wI I 42 (cn x6) (I 55 (cn (((-1) : Int32) - y82)))) fun I126 =>
fq_l (x7 + 1) fun y244 =>
k63 y117 y244 I126))))
else (
fq_l (x6 + 1) fun y95 =>
fq_g 160 x6 (fq_l (fc_wI I 42 (cn x6) y82) fun I100 =>
fq_l (x7 + 1) fun y244 =>
k63 y95 y244 I100))))
else (
fq_g 160 0 (
some ((I 42 (cn 0)), I))))
else (
fq_g 160 0 (
some ((I 42 (cn 0)), I)))
def f_X0_worth_63 (q3 : Nat) (x5 : Int32) (n : Nat) : Int32 → Int32 → fc_I → Option (Int32 × fc_I) := lpm2 (f_X0_worth_63_B q3 x5 ) n
def f_X0_worth (I : fc_I) (x1 : Int32) : Option (Int32 × fc_I) :=
fq_g 6 (I 31 8) (
if x1.toInt = 0 then (
if x1.toInt = 0 then (
fq_g 6 (I 31 8) (
fq_l ((I 40 (cn (I 31 8)))) fun y54 =>
f_X0_worth_63 (34 + cn (I 31 8)) y54 4000 0 0 I))
else (
fq_g 6 (I 31 8) (
fq_l ((I 41 (cn (I 31 8)))) fun y54 =>
f_X0_worth_63 (34 + cn (I 31 8)) y54 4000 0 0 I)))
else (
fq_g 6 (I 31 8) (
fq_l ((I 40 (cn (I 31 8)))) fun y27 =>
if x1.toInt = 0 then (
fq_g 6 (I 31 8) (
fq_l ((I 40 (cn (I 31 8)))) fun y54 =>
f_X0_worth_63 (34 + cn (I 31 8)) y54 4000 0 y27 I))
else (
fq_g 6 (I 31 8) (
fq_l ((I 41 (cn (I 31 8)))) fun y54 =>
f_X0_worth_63 (34 + cn (I 31 8)) y54 4000 0 y27 I)))))
set_option maxHeartbeats 4000000 in
set_option maxRecDepth 100000 in
theorem t_X0_worth_171 {d : Nat} {v : Nat} {r : Int32} {J : fc_I} {q3 : Nat} {x5 : Int32} {k63 : Int32 → Int32 → fc_I → Option (Int32 × fc_I)} (hv : fc_v v) (hq3 : fc_SH[q3]? = some (0, 160)) (hk63 : ∀ (x6 : Int32) (x7 : Int32) (I : fc_I), k63 x6 x7 I = some (r, J) → fc_T X0_worth (d + 1) 0 0 63 [some (.ref 31), none, some (.ref 55), some (.ref q3), none, some (.int x5), some (.int x6), some (.int x7), none] [] fc_SH I (fc_PT v) (fc_Qi fc_SH (fun r' I' P' => r' = r ∧ I' = J ∧ P' = (fc_PT v)))) : ∀ (x6 : Int32) (x7 : Int32) (x8 : Int32) (I : fc_I) , f_X0_worth_171 q3 x5 k63  x6 x7 x8 I = some (r, J) → fc_T X0_worth (d + 1) 0 0 171 [some (.ref 31), none, some (.ref 55), some (.ref q3), none, some (.int x5), some (.int x6), some (.int x7), some (.int x8)] [] fc_SH I (fc_PT v) (fc_Qi fc_SH (fun r' I' P' => r' = r ∧ I' = J ∧ P' = (fc_PT v))) := by
  intro x6 x7 x8 I hf
  unfold f_X0_worth_171 at hf
  refine ft_iload dX0_worth_171 rfl ?_
  refine ft_bipush (v := (-9)) dX0_worth_173 rfl ?_
  refine fk_icmp_ne (tgt := 205) dX0_worth_175 (by decide) hf (fun hf => ?_) (fun hf => ?_)
  · refine ft_iload dX0_worth_205 rfl ?_
    refine ft_iconst (v := 1) dX0_worth_207 rfl ?_
    refine fk_icmp_le (tgt := 244) dX0_worth_208 (by decide) hf (fun hf => ?_) (fun hf => ?_)
    · refine fk_iinc (c := 1) dX0_worth_244 rfl (by decide) rfl ?_
      refine ft_goto (tgt := 63) dX0_worth_247 (by decide) ?_
      exact ft_forget (by simp [fc_le, fc_st1, fc_st2, fc_kill]) (hk63 _ _ _ hf)
    · refine fk_iinc (c := (-1)) dX0_worth_211 rfl (by decide) rfl ?_
      refine ft_aload_n dX0_worth_214 rfl ?_
      refine ft_getR fl_X0_27 rfl (sh_31) (by decide) pt_31_4 dX0_worth_215 ?_
      refine ft_iload dX0_worth_218 rfl ?_
      refine ft_iconst (v := 1) dX0_worth_220 rfl ?_
      refine ft_isub dX0_worth_221 ?_
      refine ft_iload dX0_worth_222 rfl ?_
      refine ft_aload_n dX0_worth_224 rfl ?_
      refine ft_getR fl_X0_27 rfl (sh_31) (by decide) pt_31_4 dX0_worth_225 ?_
      refine ft_iload dX0_worth_228 rfl ?_
      refine ft_iconst (v := 1) dX0_worth_230 rfl ?_
      refine ft_isub dX0_worth_231 ?_
      refine fk_iald (sh_42) hf dX0_worth_232 (fun hf => ?_)
      refine ft_aload_n dX0_worth_233 rfl ?_
      refine ft_getR fl_X0_27 rfl (sh_31) (by decide) pt_31_4 dX0_worth_234 ?_
      refine ft_iload dX0_worth_237 rfl ?_
      refine fk_iald (sh_42) hf dX0_worth_239 (fun hf => ?_)
      obtain ⟨r240, hc240, hf⟩ := fq_vs hf
      refine ft_S3p cf_X0_67 (t_X0_joined hc240) (Nat.le_of_ble_eq_true rfl) dX0_worth_240 ?_
      refine fk_iast (sh_42) hf dX0_worth_243 (fun hf => ?_)
      refine fk_iinc (c := 1) dX0_worth_244 rfl (by decide) rfl ?_
      refine ft_goto (tgt := 63) dX0_worth_247 (by decide) ?_
      exact ft_forget (by simp [fc_le, fc_st1, fc_st2, fc_kill]) (hk63 _ _ _ hf)
  · refine ft_iload dX0_worth_178 rfl ?_
    refine fk_if_le (tgt := 205) dX0_worth_180 (by decide) hf (fun hf => ?_) (fun hf => ?_)
    · refine ft_iload dX0_worth_205 rfl ?_
      refine ft_iconst (v := 1) dX0_worth_207 rfl ?_
      refine fk_icmp_le (tgt := 244) dX0_worth_208 (by decide) hf (fun hf => ?_) (fun hf => ?_)
      · refine fk_iinc (c := 1) dX0_worth_244 rfl (by decide) rfl ?_
        refine ft_goto (tgt := 63) dX0_worth_247 (by decide) ?_
        exact ft_forget (by simp [fc_le, fc_st1, fc_st2, fc_kill]) (hk63 _ _ _ hf)
      · refine fk_iinc (c := (-1)) dX0_worth_211 rfl (by decide) rfl ?_
        refine ft_aload_n dX0_worth_214 rfl ?_
        refine ft_getR fl_X0_27 rfl (sh_31) (by decide) pt_31_4 dX0_worth_215 ?_
        refine ft_iload dX0_worth_218 rfl ?_
        refine ft_iconst (v := 1) dX0_worth_220 rfl ?_
        refine ft_isub dX0_worth_221 ?_
        refine ft_iload dX0_worth_222 rfl ?_
        refine ft_aload_n dX0_worth_224 rfl ?_
        refine ft_getR fl_X0_27 rfl (sh_31) (by decide) pt_31_4 dX0_worth_225 ?_
        refine ft_iload dX0_worth_228 rfl ?_
        refine ft_iconst (v := 1) dX0_worth_230 rfl ?_
        refine ft_isub dX0_worth_231 ?_
        refine fk_iald (sh_42) hf dX0_worth_232 (fun hf => ?_)
        refine ft_aload_n dX0_worth_233 rfl ?_
        refine ft_getR fl_X0_27 rfl (sh_31) (by decide) pt_31_4 dX0_worth_234 ?_
        refine ft_iload dX0_worth_237 rfl ?_
        refine fk_iald (sh_42) hf dX0_worth_239 (fun hf => ?_)
        obtain ⟨r240, hc240, hf⟩ := fq_vs hf
        refine ft_S3p cf_X0_67 (t_X0_joined hc240) (Nat.le_of_ble_eq_true rfl) dX0_worth_240 ?_
        refine fk_iast (sh_42) hf dX0_worth_243 (fun hf => ?_)
        refine fk_iinc (c := 1) dX0_worth_244 rfl (by decide) rfl ?_
        refine ft_goto (tgt := 63) dX0_worth_247 (by decide) ?_
        exact ft_forget (by simp [fc_le, fc_st1, fc_st2, fc_kill]) (hk63 _ _ _ hf)
    · refine ft_aload_n dX0_worth_183 rfl ?_
      refine ft_getR fl_X0_27 rfl (sh_31) (by decide) pt_31_4 dX0_worth_184 ?_
      refine ft_iload dX0_worth_187 rfl ?_
      refine ft_iconst (v := 1) dX0_worth_189 rfl ?_
      refine ft_isub dX0_worth_190 ?_
      refine ft_aload_n dX0_worth_191 rfl ?_
      refine ft_getR fl_X0_27 rfl (sh_31) (by decide) pt_31_4 dX0_worth_192 ?_
      refine ft_iload dX0_worth_195 rfl ?_
      refine ft_iconst (v := 1) dX0_worth_197 rfl ?_
      refine ft_isub dX0_worth_198 ?_
      refine fk_iald (sh_42) hf dX0_worth_199 (fun hf => ?_)
      refine ft_ineg dX0_worth_200 ?_
      refine fk_iast (sh_42) hf dX0_worth_201 (fun hf => ?_)
      refine ft_goto (tgt := 244) dX0_worth_202 (by decide) ?_
      refine fk_iinc (c := 1) dX0_worth_244 rfl (by decide) rfl ?_
      refine ft_goto (tgt := 63) dX0_worth_247 (by decide) ?_
      exact ft_forget (by simp [fc_le, fc_st1, fc_st2, fc_kill]) (hk63 _ _ _ hf)
set_option maxHeartbeats 4000000 in
set_option maxRecDepth 100000 in
theorem t_X0_worth_63 {d : Nat} {v : Nat} {r : Int32} {J : fc_I} {q3 : Nat} {x5 : Int32} (hv : fc_v v) (hq3 : fc_SH[q3]? = some (0, 160)) : ∀ (n : Nat) (x6 : Int32) (x7 : Int32) (I : fc_I) , f_X0_worth_63 q3 x5 n x6 x7 I = some (r, J) → fc_T X0_worth (d + 1) 0 0 63 [some (.ref 31), none, some (.ref 55), some (.ref q3), none, some (.int x5), some (.int x6), some (.int x7), none] [] fc_SH I (fc_PT v) (fc_Qi fc_SH (fun r' I' P' => r' = r ∧ I' = J ∧ P' = (fc_PT v))) := by
  unfold f_X0_worth_63
  refine lpm2_T (fun k63 hk63 x6 x7 I hf => ?_)
  unfold f_X0_worth_63_B at hf
  refine ft_iload dX0_worth_63 rfl ?_
  refine ft_iload dX0_worth_65 rfl ?_
  refine fk_icmp_ge (tgt := 250) dX0_worth_67 (by decide) hf (fun hf => ?_) (fun hf => ?_)
  · refine ft_aload_n dX0_worth_250 rfl ?_
    refine ft_getR fl_X0_27 rfl (sh_31) (by decide) pt_31_4 dX0_worth_251 ?_
    refine ft_iconst (v := 0) dX0_worth_254 rfl ?_
    refine fk_iald (sh_42) hf dX0_worth_255 (fun hf => ?_)
    exact fk_reti hf dX0_worth_256 rfl rfl
  · refine ft_iload dX0_worth_70 rfl ?_
    refine ft_sipush (v := 160) dX0_worth_72 rfl ?_
    refine fk_icmp_ge (tgt := 250) dX0_worth_75 (by decide) hf (fun hf => ?_) (fun hf => ?_)
    · refine ft_aload_n dX0_worth_250 rfl ?_
      refine ft_getR fl_X0_27 rfl (sh_31) (by decide) pt_31_4 dX0_worth_251 ?_
      refine ft_iconst (v := 0) dX0_worth_254 rfl ?_
      refine fk_iald (sh_42) hf dX0_worth_255 (fun hf => ?_)
      exact fk_reti hf dX0_worth_256 rfl rfl
    · refine ft_aload_n dX0_worth_78 rfl ?_
      refine ft_iload dX0_worth_79 rfl ?_
      refine fk_iald (hq3) hf dX0_worth_81 (fun hf => ?_)
      refine ft_istore dX0_worth_82 (by decide) ?_
      refine ft_iload dX0_worth_84 rfl ?_
      refine fk_if_lt (tgt := 104) dX0_worth_86 (by decide) hf (fun hf => ?_) (fun hf => ?_)
      · refine ft_iload dX0_worth_104 rfl ?_
        refine ft_bipush (v := (-6)) dX0_worth_106 rfl ?_
        refine fk_icmp_lt (tgt := 130) dX0_worth_108 (by decide) hf (fun hf => ?_) (fun hf => ?_)
        · refine ft_iload dX0_worth_130 rfl ?_
          refine ft_bipush (v := (-18)) dX0_worth_132 rfl ?_
          refine fk_icmp_ne (tgt := 171) dX0_worth_134 (by decide) hf (fun hf => ?_) (fun hf => ?_)
          · exact ft_forget (by simp [fc_le, fc_st1, fc_st2, fc_kill]) (t_X0_worth_171 hv (hq3) hk63  _ _ _ _ hf)
          · refine ft_iload dX0_worth_137 rfl ?_
            refine fk_if_le (tgt := 171) dX0_worth_139 (by decide) hf (fun hf => ?_) (fun hf => ?_)
            · exact ft_forget (by simp [fc_le, fc_st1, fc_st2, fc_kill]) (t_X0_worth_171 hv (hq3) hk63  _ _ _ _ hf)
            · refine ft_aload_n dX0_worth_142 rfl ?_
              refine ft_getR fl_X0_27 rfl (sh_31) (by decide) pt_31_4 dX0_worth_143 ?_
              refine ft_iload dX0_worth_146 rfl ?_
              refine ft_iconst (v := 1) dX0_worth_148 rfl ?_
              refine ft_isub dX0_worth_149 ?_
              refine ft_aload_n dX0_worth_150 rfl ?_
              refine ft_getR fl_X0_27 rfl (sh_31) (by decide) pt_31_4 dX0_worth_151 ?_
              refine ft_iload dX0_worth_154 rfl ?_
              refine ft_iconst (v := 1) dX0_worth_156 rfl ?_
              refine ft_isub dX0_worth_157 ?_
              refine fk_iald (sh_42) hf dX0_worth_158 (fun hf => ?_)
              refine fk_if_ne (tgt := 166) dX0_worth_159 (by decide) hf (fun hf => ?_) (fun hf => ?_)
              · refine ft_iconst (v := 0) dX0_worth_166 rfl ?_
                refine fk_iast (sh_42) hf dX0_worth_167 (fun hf => ?_)
                refine ft_goto (tgt := 244) dX0_worth_168 (by decide) ?_
                refine fk_iinc (c := 1) dX0_worth_244 rfl (by decide) rfl ?_
                refine ft_goto (tgt := 63) dX0_worth_247 (by decide) ?_
                exact ft_forget (by simp [fc_le, fc_st1, fc_st2, fc_kill]) (hk63 _ _ _ hf)
              · refine ft_iconst (v := 1) dX0_worth_162 rfl ?_
                refine ft_goto (tgt := 167) dX0_worth_163 (by decide) ?_
                refine fk_iast (sh_42) hf dX0_worth_167 (fun hf => ?_)
                refine ft_goto (tgt := 244) dX0_worth_168 (by decide) ?_
                refine fk_iinc (c := 1) dX0_worth_244 rfl (by decide) rfl ?_
                refine ft_goto (tgt := 63) dX0_worth_247 (by decide) ?_
                exact ft_forget (by simp [fc_le, fc_st1, fc_st2, fc_kill]) (hk63 _ _ _ hf)
        · refine ft_aload_n dX0_worth_111 rfl ?_
          refine ft_getR fl_X0_27 rfl (sh_31) (by decide) pt_31_4 dX0_worth_112 ?_
          refine ft_iload dX0_worth_115 rfl ?_
          refine fk_iinc (c := 1) dX0_worth_117 rfl (by decide) rfl ?_
          refine ft_aload_n dX0_worth_120 rfl ?_
          refine ft_iconst (v := (-1)) dX0_worth_121 rfl ?_
          refine ft_iload dX0_worth_122 rfl ?_
          refine ft_isub dX0_worth_124 ?_
          refine fk_iald (sh_55) hf dX0_worth_125 (fun hf => ?_)
          refine fk_iast (sh_42) hf dX0_worth_126 (fun hf => ?_)
          refine ft_goto (tgt := 244) dX0_worth_127 (by decide) ?_
          refine fk_iinc (c := 1) dX0_worth_244 rfl (by decide) rfl ?_
          refine ft_goto (tgt := 63) dX0_worth_247 (by decide) ?_
          exact ft_forget (by simp [fc_le, fc_st1, fc_st2, fc_kill]) (hk63 _ _ _ hf)
      · refine ft_aload_n dX0_worth_89 rfl ?_
        refine ft_getR fl_X0_27 rfl (sh_31) (by decide) pt_31_4 dX0_worth_90 ?_
        refine ft_iload dX0_worth_93 rfl ?_
        refine fk_iinc (c := 1) dX0_worth_95 rfl (by decide) rfl ?_
        refine ft_iload dX0_worth_98 rfl ?_
        refine fk_iast (sh_42) hf dX0_worth_100 (fun hf => ?_)
        refine ft_goto (tgt := 244) dX0_worth_101 (by decide) ?_
        refine fk_iinc (c := 1) dX0_worth_244 rfl (by decide) rfl ?_
        refine ft_goto (tgt := 63) dX0_worth_247 (by decide) ?_
        exact ft_forget (by simp [fc_le, fc_st1, fc_st2, fc_kill]) (hk63 _ _ _ hf)
set_option maxHeartbeats 4000000 in
set_option maxRecDepth 100000 in
theorem t_X0_worth {d : Nat} {v : Nat} {r : Int32} {J : fc_I} {I : fc_I} {x1 : Int32} (hv : fc_v v) (hf : f_X0_worth I x1 = some (r, J)) : fc_Ci X0_worth (d + 1) [.ref 31, .int x1, .ref 55] fc_SH I (fc_PT v) (fun r' I' P' => r' = r ∧ I' = J ∧ P' = (fc_PT v)) := by
  unfold f_X0_worth at hf
  refine fc_Ci.of (ls := [some (.ref 31), some (.int x1), some (.ref 55), none, none, none, none, none, none]) ⟨rfl, rfl⟩ (Nat.le_of_ble_eq_true rfl) rfl ?_
  refine ft_aload_n dX0_worth_0 rfl ?_
  refine ft_getR fl_X0_17 rfl (sh_31) (by decide) pt_31_1 dX0_worth_1 ?_
  refine ft_aload_n dX0_worth_4 rfl ?_
  refine ft_getI fl_X0_64 rfl (sh_31) (by decide) dX0_worth_5 ?_
  refine fk_aald (sh_33) hf (fun b => (wq_33 (wd_full hv)) b) dX0_worth_8 (fun hb8 hf => ?_)
  refine ft_astore_n dX0_worth_9 (by decide) ?_
  refine ft_iload_n dX0_worth_10 rfl ?_
  refine fk_if_ne (tgt := 18) dX0_worth_11 (by decide) hf (fun hf => ?_) (fun hf => ?_)
  · refine ft_aload_n dX0_worth_18 rfl ?_
    refine ft_getR fl_X0_20 rfl (sh_31) (by decide) pt_31_2 dX0_worth_19 ?_
    refine ft_aload_n dX0_worth_22 rfl ?_
    refine ft_getI fl_X0_64 rfl (sh_31) (by decide) dX0_worth_23 ?_
    refine fk_iald (sh_40) hf dX0_worth_26 (fun hf => ?_)
    refine ft_istore dX0_worth_27 (by decide) ?_
    refine ft_iload_n dX0_worth_29 rfl ?_
    refine fk_if_ne (tgt := 45) dX0_worth_30 (by decide) hf (fun hf => ?_) (fun hf => ?_)
    · refine ft_aload_n dX0_worth_45 rfl ?_
      refine ft_getR fl_X0_24 rfl (sh_31) (by decide) pt_31_3 dX0_worth_46 ?_
      refine ft_aload_n dX0_worth_49 rfl ?_
      refine ft_getI fl_X0_64 rfl (sh_31) (by decide) dX0_worth_50 ?_
      refine fk_iald (sh_41) hf dX0_worth_53 (fun hf => ?_)
      refine ft_istore dX0_worth_54 (by decide) ?_
      refine ft_iconst (v := 0) dX0_worth_56 rfl ?_
      refine ft_istore dX0_worth_57 (by decide) ?_
      refine ft_iload dX0_worth_59 rfl ?_
      refine ft_istore dX0_worth_61 (by decide) ?_
      exact ft_forget (by simp [fc_le, fc_st1, fc_st2, fc_kill]) (t_X0_worth_63 hv ((wr_33 (wd_full hv) hb8))  _ _ _ _ hf)
    · refine ft_aload_n dX0_worth_33 rfl ?_
      refine ft_getR fl_X0_20 rfl (sh_31) (by decide) pt_31_2 dX0_worth_34 ?_
      refine ft_aload_n dX0_worth_37 rfl ?_
      refine ft_getI fl_X0_64 rfl (sh_31) (by decide) dX0_worth_38 ?_
      refine fk_iald (sh_40) hf dX0_worth_41 (fun hf => ?_)
      refine ft_goto (tgt := 54) dX0_worth_42 (by decide) ?_
      refine ft_istore dX0_worth_54 (by decide) ?_
      refine ft_iconst (v := 0) dX0_worth_56 rfl ?_
      refine ft_istore dX0_worth_57 (by decide) ?_
      refine ft_iload dX0_worth_59 rfl ?_
      refine ft_istore dX0_worth_61 (by decide) ?_
      exact ft_forget (by simp [fc_le, fc_st1, fc_st2, fc_kill]) (t_X0_worth_63 hv ((wr_33 (wd_full hv) hb8))  _ _ _ _ hf)
  · refine ft_iconst (v := 0) dX0_worth_14 rfl ?_
    refine ft_goto (tgt := 27) dX0_worth_15 (by decide) ?_
    refine ft_istore dX0_worth_27 (by decide) ?_
    refine ft_iload_n dX0_worth_29 rfl ?_
    refine fk_if_ne (tgt := 45) dX0_worth_30 (by decide) hf (fun hf => ?_) (fun hf => ?_)
    · refine ft_aload_n dX0_worth_45 rfl ?_
      refine ft_getR fl_X0_24 rfl (sh_31) (by decide) pt_31_3 dX0_worth_46 ?_
      refine ft_aload_n dX0_worth_49 rfl ?_
      refine ft_getI fl_X0_64 rfl (sh_31) (by decide) dX0_worth_50 ?_
      refine fk_iald (sh_41) hf dX0_worth_53 (fun hf => ?_)
      refine ft_istore dX0_worth_54 (by decide) ?_
      refine ft_iconst (v := 0) dX0_worth_56 rfl ?_
      refine ft_istore dX0_worth_57 (by decide) ?_
      refine ft_iload dX0_worth_59 rfl ?_
      refine ft_istore dX0_worth_61 (by decide) ?_
      exact ft_forget (by simp [fc_le, fc_st1, fc_st2, fc_kill]) (t_X0_worth_63 hv ((wr_33 (wd_full hv) hb8))  _ _ _ _ hf)
    · refine ft_aload_n dX0_worth_33 rfl ?_
      refine ft_getR fl_X0_20 rfl (sh_31) (by decide) pt_31_2 dX0_worth_34 ?_
      refine ft_aload_n dX0_worth_37 rfl ?_
      refine ft_getI fl_X0_64 rfl (sh_31) (by decide) dX0_worth_38 ?_
      refine fk_iald (sh_40) hf dX0_worth_41 (fun hf => ?_)
      refine ft_goto (tgt := 54) dX0_worth_42 (by decide) ?_
      refine ft_istore dX0_worth_54 (by decide) ?_
      refine ft_iconst (v := 0) dX0_worth_56 rfl ?_
      refine ft_istore dX0_worth_57 (by decide) ?_
      refine ft_iload dX0_worth_59 rfl ?_
      refine ft_istore dX0_worth_61 (by decide) ?_
      exact ft_forget (by simp [fc_le, fc_st1, fc_st2, fc_kill]) (t_X0_worth_63 hv ((wr_33 (wd_full hv) hb8))  _ _ _ _ hf)
def f_X0_write_2_B (k : Nat) (k2 : Int32 → fc_I → Option fc_I) (x2 : Int32) (I : fc_I) : Option fc_I :=
fq_v (f_J0_length_8abf5 k) fun r4 =>
if x2.toInt < r4.toInt then (
if (I 31 6).toInt < (160 : Int32).toInt then (
fq_l (fc_wI I 31 6 ((I 31 6) + 1)) fun I32 =>
fq_v (f_J0_charAt_5068e k x2) fun r37 =>
fq_g 160 (I 31 6) (fq_l (fc_wI I32 32 (cn (I 31 6)) (vp_nar .byte (Int8.toInt32 (Int32.toInt8 r37)))) fun I41 =>
fq_l (x2 + 1) fun y42 =>
k2 y42 I41))
else (
some I))
else (
some I)
def f_X0_write_2 (k : Nat) (n : Nat) : Int32 → fc_I → Option fc_I := lpm1 (f_X0_write_2_B k ) n
def f_X0_write (k : Nat) (I : fc_I) : Option fc_I :=
f_X0_write_2 k  4000 0 I
set_option maxHeartbeats 4000000 in
set_option maxRecDepth 100000 in
theorem t_X0_write_2 {d : Nat} {sh : fc_Sh} {P : fc_P} {v : Nat} {k : Nat} {J : fc_I} (hw : fc_wd sh P v) (hkk : k < 12) : ∀ (n : Nat) (x2 : Int32) (I : fc_I) , f_X0_write_2 k n x2 I = some J → fc_T X0_write (d + 4) 0 0 2 [some (.ref 31), some (.ref (1000 + k)), some (.int x2)] [] sh I P (fc_Qv sh (fun I' P' => I' = J ∧ P' = P)) := by
  unfold f_X0_write_2
  refine lpm1_T (fun k2 hk2 x2 I hf => ?_)
  unfold f_X0_write_2_B at hf
  refine ft_iload_n dX0_write_2 rfl ?_
  refine ft_aload_n dX0_write_3 rfl ?_
  obtain ⟨r4, hc4, hf⟩ := fq_vs hf
  refine ft_VS0p cf_X0_39 hkk (t_J0_length_8abf5 hkk hc4) (Nat.le_of_ble_eq_true rfl) dX0_write_4 ?_
  refine fk_icmp_ge (tgt := 48) dX0_write_7 (by decide) hf (fun hf => ?_) (fun hf => ?_)
  · exact fk_retv hf dX0_write_48 rfl
  · refine ft_aload_n dX0_write_10 rfl ?_
    refine ft_getI fl_X0_45 rfl (ws_31 hw) (by decide) dX0_write_11 ?_
    refine ft_sipush (v := 160) dX0_write_14 rfl ?_
    refine fk_icmp_ge (tgt := 48) dX0_write_17 (by decide) hf (fun hf => ?_) (fun hf => ?_)
    · exact fk_retv hf dX0_write_48 rfl
    · refine ft_aload_n dX0_write_20 rfl ?_
      refine ft_getR fl_X0_9 rfl (ws_31 hw) (by decide) (wp_31_0 hw) dX0_write_21 ?_
      refine ft_aload_n dX0_write_24 rfl ?_
      refine ft_dup dX0_write_25 rfl ?_
      refine ft_getI fl_X0_45 rfl (ws_31 hw) (by decide) dX0_write_26 ?_
      refine ft_dup_x1 dX0_write_29 rfl rfl ?_
      refine ft_iconst (v := 1) dX0_write_30 rfl ?_
      refine ft_iadd dX0_write_31 ?_
      refine ft_putI fl_X0_45 rfl (fun q h => by cases h; rfl) (ws_31 hw) (by decide) dX0_write_32 ?_
      refine ft_aload_n dX0_write_35 rfl ?_
      refine ft_iload_n dX0_write_36 rfl ?_
      obtain ⟨r37, hc37, hf⟩ := fq_vs hf
      refine ft_VS1p cf_X0_49 hkk (t_J0_charAt_5068e hkk hc37) (Nat.le_of_ble_eq_true rfl) dX0_write_37 ?_
      refine ft_i2b dX0_write_40 ?_
      refine fk_bast (ws_32 hw) hf dX0_write_41 (fun hf => ?_)
      refine fk_iinc (c := 1) dX0_write_42 rfl (by decide) rfl ?_
      refine ft_goto (tgt := 2) dX0_write_45 (by decide) ?_
      exact ft_forget (by simp [fc_le, fc_st1, fc_st2, fc_kill]) (hk2 _ _ hf)
set_option maxHeartbeats 4000000 in
set_option maxRecDepth 100000 in
theorem t_X0_write {d : Nat} {sh : fc_Sh} {P : fc_P} {v : Nat} {k : Nat} {J : fc_I} {I : fc_I} (hw : fc_wd sh P v) (hkk : k < 12) (hf : f_X0_write k I = some J) : fc_Cv X0_write (d + 4) [.ref 31, .ref (1000 + k)] sh I P (fun I' P' => I' = J ∧ P' = P) := by
  unfold f_X0_write at hf
  refine fc_Cv.of (ls := [some (.ref 31), some (.ref (1000 + k)), none]) ⟨rfl, rfl⟩ (Nat.le_of_ble_eq_true rfl) rfl ?_
  refine ft_iconst (v := 0) dX0_write_0 rfl ?_
  refine ft_istore_n dX0_write_1 (by decide) ?_
  exact ft_forget (by simp [fc_le, fc_st1, fc_st2, fc_kill]) (t_X0_write_2 hw hkk  _ _ _ hf)
