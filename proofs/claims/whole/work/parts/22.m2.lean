def f_X11_choose_71 (x1 : Int32) (x2 : Int32) (x3 : Int32) (k9 : Int32 → Int32 → Int32 → fc_I → Option (Int32 × fc_I)) (x4 : Int32) (x5 : Int32) (x6 : Int32) (x7 : Int32) (s1 : Int32) (s2 : Int32) (I : fc_I) : Option (Int32 × fc_I) :=
fq_g 6 s1 (fq_l (fc_wI I 125 (cn s1) s2) fun I71 =>
fq_g 6 x6 (
if (I71 125 (cn x6)).toInt = ((-1) : Int32).toInt then (
if x7.toInt = (3 : Int32).toInt then (
fq_l ((x4 + 0)) fun y118 =>
fq_l (x6 + 1) fun y120 =>
k9 y118 x5 y120 I71)
else (
fq_l ((x4 + 1)) fun y118 =>
fq_l (x6 + 1) fun y120 =>
k9 y118 x5 y120 I71))
else (
fq_g 6 x6 (
if (I71 78 1).toInt < ((I71 78 0) + (I71 125 (cn x6))).toInt then (
some ((-1), I71))
else (
if x7.toInt = (3 : Int32).toInt then (
fq_l ((x4 + 0)) fun y118 =>
fq_l (x6 + 1) fun y120 =>
k9 y118 x5 y120 I71)
else (
fq_l ((x4 + 1)) fun y118 =>
fq_l (x6 + 1) fun y120 =>
k9 y118 x5 y120 I71))))))
def f_X11_choose_9_B (x1 : Int32) (x2 : Int32) (x3 : Int32) (k9 : Int32 → Int32 → Int32 → fc_I → Option (Int32 × fc_I)) (x4 : Int32) (x5 : Int32) (x6 : Int32) (I : fc_I) : Option (Int32 × fc_I) :=
if x6.toInt < (6 : Int32).toInt then (
fq_g 6 x6 (fq_l (fc_wI I 125 (cn x6) (-1)) fun I23 =>
if ((x1 >>> (x6 &&& 31)) &&& 1).toInt = (1 : Int32).toInt then (
fq_l (((x3 >>> (((2 : Int32) * ((x2 - 1) - x5)) &&& 31)) &&& 3)) fun y46 =>
fq_l (x5 + 1) fun y48 =>
if y46.toInt = (3 : Int32).toInt then (
f_X11_choose_71 x1 x2 x3 k9 x4 y48 x6 y46 x6 (-1) I23)
else (
f_X11_choose_71 x1 x2 x3 k9 x4 y48 x6 y46 x6 ((4 : Int32) * y46) I23))
else (
fq_l (x6 + 1) fun y120 =>
k9 x4 x5 y120 I23)))
else (
some (x4, I))
def f_X11_choose_9 (x1 : Int32) (x2 : Int32) (x3 : Int32) (n : Nat) : Int32 → Int32 → Int32 → fc_I → Option (Int32 × fc_I) := lpm3 (f_X11_choose_9_B x1 x2 x3 ) n
def f_X11_choose (I : fc_I) (x1 : Int32) (x2 : Int32) (x3 : Int32) : Option (Int32 × fc_I) :=
f_X11_choose_9 x1 x2 x3 4000 0 0 0 I
set_option maxHeartbeats 4000000 in
set_option maxRecDepth 100000 in
theorem t_X11_choose_71 {d : Nat} {v : Nat} {r : Int32} {J : fc_I} {x1 : Int32} {x2 : Int32} {x3 : Int32} {k9 : Int32 → Int32 → Int32 → fc_I → Option (Int32 × fc_I)} (hk9 : ∀ (x4 : Int32) (x5 : Int32) (x6 : Int32) (I : fc_I), k9 x4 x5 x6 I = some (r, J) → fc_T X11_choose d 0 0 9 [some (.ref 78), some (.int x1), some (.int x2), some (.int x3), some (.int x4), some (.int x5), some (.int x6), none] [] fc_SH I (fc_PT v) (fc_Qi fc_SH (fun r' I' P' => r' = r ∧ I' = J ∧ P' = (fc_PT v)))) : ∀ (x4 : Int32) (x5 : Int32) (x6 : Int32) (x7 : Int32) (s1 : Int32) (s2 : Int32) (I : fc_I) , f_X11_choose_71 x1 x2 x3 k9  x4 x5 x6 x7 s1 s2 I = some (r, J) → fc_T X11_choose d 0 0 71 [some (.ref 78), some (.int x1), some (.int x2), some (.int x3), some (.int x4), some (.int x5), some (.int x6), some (.int x7)] [.int s2, .int s1, .ref 125] fc_SH I (fc_PT v) (fc_Qi fc_SH (fun r' I' P' => r' = r ∧ I' = J ∧ P' = (fc_PT v))) := by
  intro x4 x5 x6 x7 s1 s2 I hf
  unfold f_X11_choose_71 at hf
  refine fk_iast (sh_125) hf dX11_choose_71 (fun hf => ?_)
  refine ft_aload_n dX11_choose_72 rfl ?_
  refine ft_getR fl_X11_336 rfl (sh_78) (by decide) pt_78_69 dX11_choose_73 ?_
  refine ft_iload dX11_choose_76 rfl ?_
  refine fk_iald (sh_125) hf dX11_choose_78 (fun hf => ?_)
  refine ft_iconst (v := (-1)) dX11_choose_79 rfl ?_
  refine fk_icmp_eq (tgt := 104) dX11_choose_80 (by decide) hf (fun hf => ?_) (fun hf => ?_)
  · refine ft_iload dX11_choose_104 rfl ?_
    refine ft_iload dX11_choose_106 rfl ?_
    refine ft_iconst (v := 3) dX11_choose_108 rfl ?_
    refine fk_icmp_ne (tgt := 116) dX11_choose_109 (by decide) hf (fun hf => ?_) (fun hf => ?_)
    · refine ft_iconst (v := 1) dX11_choose_116 rfl ?_
      refine ft_iadd dX11_choose_117 ?_
      refine ft_istore dX11_choose_118 (by decide) ?_
      refine fk_iinc (c := 1) dX11_choose_120 rfl (by decide) rfl ?_
      refine ft_goto (tgt := 9) dX11_choose_123 (by decide) ?_
      exact ft_forget (by simp [fc_le, fc_st1, fc_st2, fc_kill]) (hk9 _ _ _ _ hf)
    · refine ft_iconst (v := 0) dX11_choose_112 rfl ?_
      refine ft_goto (tgt := 117) dX11_choose_113 (by decide) ?_
      refine ft_iadd dX11_choose_117 ?_
      refine ft_istore dX11_choose_118 (by decide) ?_
      refine fk_iinc (c := 1) dX11_choose_120 rfl (by decide) rfl ?_
      refine ft_goto (tgt := 9) dX11_choose_123 (by decide) ?_
      exact ft_forget (by simp [fc_le, fc_st1, fc_st2, fc_kill]) (hk9 _ _ _ _ hf)
  · refine ft_aload_n dX11_choose_83 rfl ?_
    refine ft_getI fl_X11_26 rfl (sh_78) (by decide) dX11_choose_84 ?_
    refine ft_aload_n dX11_choose_87 rfl ?_
    refine ft_getR fl_X11_336 rfl (sh_78) (by decide) pt_78_69 dX11_choose_88 ?_
    refine ft_iload dX11_choose_91 rfl ?_
    refine fk_iald (sh_125) hf dX11_choose_93 (fun hf => ?_)
    refine ft_iadd dX11_choose_94 ?_
    refine ft_aload_n dX11_choose_95 rfl ?_
    refine ft_getI fl_X11_136 rfl (sh_78) (by decide) dX11_choose_96 ?_
    refine fk_icmp_le (tgt := 104) dX11_choose_99 (by decide) hf (fun hf => ?_) (fun hf => ?_)
    · refine ft_iload dX11_choose_104 rfl ?_
      refine ft_iload dX11_choose_106 rfl ?_
      refine ft_iconst (v := 3) dX11_choose_108 rfl ?_
      refine fk_icmp_ne (tgt := 116) dX11_choose_109 (by decide) hf (fun hf => ?_) (fun hf => ?_)
      · refine ft_iconst (v := 1) dX11_choose_116 rfl ?_
        refine ft_iadd dX11_choose_117 ?_
        refine ft_istore dX11_choose_118 (by decide) ?_
        refine fk_iinc (c := 1) dX11_choose_120 rfl (by decide) rfl ?_
        refine ft_goto (tgt := 9) dX11_choose_123 (by decide) ?_
        exact ft_forget (by simp [fc_le, fc_st1, fc_st2, fc_kill]) (hk9 _ _ _ _ hf)
      · refine ft_iconst (v := 0) dX11_choose_112 rfl ?_
        refine ft_goto (tgt := 117) dX11_choose_113 (by decide) ?_
        refine ft_iadd dX11_choose_117 ?_
        refine ft_istore dX11_choose_118 (by decide) ?_
        refine fk_iinc (c := 1) dX11_choose_120 rfl (by decide) rfl ?_
        refine ft_goto (tgt := 9) dX11_choose_123 (by decide) ?_
        exact ft_forget (by simp [fc_le, fc_st1, fc_st2, fc_kill]) (hk9 _ _ _ _ hf)
    · refine ft_iconst (v := (-1)) dX11_choose_102 rfl ?_
      exact fk_reti hf dX11_choose_103 rfl rfl
set_option maxHeartbeats 4000000 in
set_option maxRecDepth 100000 in
theorem t_X11_choose_9 {d : Nat} {v : Nat} {r : Int32} {J : fc_I} {x1 : Int32} {x2 : Int32} {x3 : Int32} : ∀ (n : Nat) (x4 : Int32) (x5 : Int32) (x6 : Int32) (I : fc_I) , f_X11_choose_9 x1 x2 x3 n x4 x5 x6 I = some (r, J) → fc_T X11_choose d 0 0 9 [some (.ref 78), some (.int x1), some (.int x2), some (.int x3), some (.int x4), some (.int x5), some (.int x6), none] [] fc_SH I (fc_PT v) (fc_Qi fc_SH (fun r' I' P' => r' = r ∧ I' = J ∧ P' = (fc_PT v))) := by
  unfold f_X11_choose_9
  refine lpm3_T (fun k9 hk9 x4 x5 x6 I hf => ?_)
  unfold f_X11_choose_9_B at hf
  refine ft_iload dX11_choose_9 rfl ?_
  refine ft_bipush (v := 6) dX11_choose_11 rfl ?_
  refine fk_icmp_ge (tgt := 126) dX11_choose_13 (by decide) hf (fun hf => ?_) (fun hf => ?_)
  · refine ft_iload dX11_choose_126 rfl ?_
    exact fk_reti hf dX11_choose_128 rfl rfl
  · refine ft_aload_n dX11_choose_16 rfl ?_
    refine ft_getR fl_X11_336 rfl (sh_78) (by decide) pt_78_69 dX11_choose_17 ?_
    refine ft_iload dX11_choose_20 rfl ?_
    refine ft_iconst (v := (-1)) dX11_choose_22 rfl ?_
    refine fk_iast (sh_125) hf dX11_choose_23 (fun hf => ?_)
    refine ft_iload_n dX11_choose_24 rfl ?_
    refine ft_iload dX11_choose_25 rfl ?_
    refine ft_ishr dX11_choose_27 ?_
    refine ft_iconst (v := 1) dX11_choose_28 rfl ?_
    refine ft_iand dX11_choose_29 ?_
    refine ft_iconst (v := 1) dX11_choose_30 rfl ?_
    refine fk_icmp_ne (tgt := 120) dX11_choose_31 (by decide) hf (fun hf => ?_) (fun hf => ?_)
    · refine fk_iinc (c := 1) dX11_choose_120 rfl (by decide) rfl ?_
      refine ft_goto (tgt := 9) dX11_choose_123 (by decide) ?_
      exact ft_forget (by simp [fc_le, fc_st1, fc_st2, fc_kill]) (hk9 _ _ _ _ hf)
    · refine ft_iload_n dX11_choose_34 rfl ?_
      refine ft_iconst (v := 2) dX11_choose_35 rfl ?_
      refine ft_iload_n dX11_choose_36 rfl ?_
      refine ft_iconst (v := 1) dX11_choose_37 rfl ?_
      refine ft_isub dX11_choose_38 ?_
      refine ft_iload dX11_choose_39 rfl ?_
      refine ft_isub dX11_choose_41 ?_
      refine ft_imul dX11_choose_42 ?_
      refine ft_ishr dX11_choose_43 ?_
      refine ft_iconst (v := 3) dX11_choose_44 rfl ?_
      refine ft_iand dX11_choose_45 ?_
      refine ft_istore dX11_choose_46 (by decide) ?_
      refine fk_iinc (c := 1) dX11_choose_48 rfl (by decide) rfl ?_
      refine ft_aload_n dX11_choose_51 rfl ?_
      refine ft_getR fl_X11_336 rfl (sh_78) (by decide) pt_78_69 dX11_choose_52 ?_
      refine ft_iload dX11_choose_55 rfl ?_
      refine ft_iload dX11_choose_57 rfl ?_
      refine ft_iconst (v := 3) dX11_choose_59 rfl ?_
      refine fk_icmp_ne (tgt := 67) dX11_choose_60 (by decide) hf (fun hf => ?_) (fun hf => ?_)
      · refine ft_iconst (v := 4) dX11_choose_67 rfl ?_
        refine ft_iload dX11_choose_68 rfl ?_
        refine ft_imul dX11_choose_70 ?_
        exact ft_forget (by simp [fc_le, fc_st1, fc_st2, fc_kill]) (t_X11_choose_71  hk9  _ _ _ _ _ _ _ hf)
      · refine ft_iconst (v := (-1)) dX11_choose_63 rfl ?_
        refine ft_goto (tgt := 71) dX11_choose_64 (by decide) ?_
        exact ft_forget (by simp [fc_le, fc_st1, fc_st2, fc_kill]) (t_X11_choose_71  hk9  _ _ _ _ _ _ _ hf)
set_option maxHeartbeats 4000000 in
set_option maxRecDepth 100000 in
theorem t_X11_choose {d : Nat} {v : Nat} {r : Int32} {J : fc_I} {I : fc_I} {x1 : Int32} {x2 : Int32} {x3 : Int32} (hf : f_X11_choose I x1 x2 x3 = some (r, J)) : fc_Ci X11_choose d [.ref 78, .int x1, .int x2, .int x3] fc_SH I (fc_PT v) (fun r' I' P' => r' = r ∧ I' = J ∧ P' = (fc_PT v)) := by
  unfold f_X11_choose at hf
  refine fc_Ci.of (ls := [some (.ref 78), some (.int x1), some (.int x2), some (.int x3), none, none, none, none]) ⟨rfl, rfl⟩ (Nat.le_of_ble_eq_true rfl) rfl ?_
  refine ft_iconst (v := 0) dX11_choose_0 rfl ?_
  refine ft_istore dX11_choose_1 (by decide) ?_
  refine ft_iconst (v := 0) dX11_choose_3 rfl ?_
  refine ft_istore dX11_choose_4 (by decide) ?_
  refine ft_iconst (v := 0) dX11_choose_6 rfl ?_
  refine ft_istore dX11_choose_7 (by decide) ?_
  exact ft_forget (by simp [fc_le, fc_st1, fc_st2, fc_kill]) (t_X11_choose_9   _ _ _ _ _ hf)
def f_X11_countBits_4_B (x0 : Int32) (k4 : Int32 → Int32 → Option Int32) (x1 : Int32) (x2 : Int32) : Option Int32 :=
if x2.toInt < (6 : Int32).toInt then (
fq_l ((x1 + ((x0 >>> (x2 &&& 31)) &&& 1))) fun y17 =>
fq_l (x2 + 1) fun y18 =>
k4 y17 y18)
else (
some x1)
def f_X11_countBits_4 (x0 : Int32) (n : Nat) : Int32 → Int32 → Option Int32 := lpp2 (f_X11_countBits_4_B x0 ) n
def f_X11_countBits (x0 : Int32) : Option Int32 :=
f_X11_countBits_4 x0 4000 0 0
set_option maxHeartbeats 4000000 in
set_option maxRecDepth 100000 in
theorem t_X11_countBits_4 {d : Nat} {sh : fc_Sh} {P : fc_P} {r : Int32} {x0 : Int32} {I : fc_I} : ∀ (n : Nat) (x1 : Int32) (x2 : Int32) , f_X11_countBits_4 x0 n x1 x2 = some r → fc_T X11_countBits d 0 0 4 [some (.int x0), some (.int x1), some (.int x2)] [] sh I P (fc_Qi sh (fun r' I' P' => r' = r ∧ I' = I ∧ P' = P)) := by
  unfold f_X11_countBits_4
  refine lpp2_T (fun k4 hk4 x1 x2 hf => ?_)
  unfold f_X11_countBits_4_B at hf
  refine ft_iload_n dX11_countBits_4 rfl ?_
  refine ft_bipush (v := 6) dX11_countBits_5 rfl ?_
  refine fk_icmp_ge (tgt := 24) dX11_countBits_7 (by decide) hf (fun hf => ?_) (fun hf => ?_)
  · refine ft_iload_n dX11_countBits_24 rfl ?_
    exact fk_retp hf dX11_countBits_25 rfl rfl
  · refine ft_iload_n dX11_countBits_10 rfl ?_
    refine ft_iload_n dX11_countBits_11 rfl ?_
    refine ft_iload_n dX11_countBits_12 rfl ?_
    refine ft_ishr dX11_countBits_13 ?_
    refine ft_iconst (v := 1) dX11_countBits_14 rfl ?_
    refine ft_iand dX11_countBits_15 ?_
    refine ft_iadd dX11_countBits_16 ?_
    refine ft_istore_n dX11_countBits_17 (by decide) ?_
    refine fk_iinc (c := 1) dX11_countBits_18 rfl (by decide) rfl ?_
    refine ft_goto (tgt := 4) dX11_countBits_21 (by decide) ?_
    exact ft_forget (by simp [fc_le, fc_st1, fc_st2, fc_kill]) (hk4 _ _ hf)
set_option maxHeartbeats 4000000 in
set_option maxRecDepth 100000 in
theorem t_X11_countBits {d : Nat} {sh : fc_Sh} {P : fc_P} {r : Int32} {I : fc_I} {x0 : Int32} (hf : f_X11_countBits  x0 = some r) : fc_Cp X11_countBits d [.int x0] sh I P r := by
  unfold f_X11_countBits at hf
  refine fc_Cp.of (ls := [some (.int x0), none, none]) ⟨rfl, rfl⟩ (Nat.le_of_ble_eq_true rfl) rfl ?_
  refine ft_iconst (v := 0) dX11_countBits_0 rfl ?_
  refine ft_istore_n dX11_countBits_1 (by decide) ?_
  refine ft_iconst (v := 0) dX11_countBits_2 rfl ?_
  refine ft_istore_n dX11_countBits_3 (by decide) ?_
  exact ft_forget (by simp [fc_le, fc_st1, fc_st2, fc_kill]) (t_X11_countBits_4   _ _ _ hf)
def f_X11_mayAsk_27_B (I : fc_I) (x1 : Int32) (k27 : Int32 → Int32 → Int32 → Option Int32) (x2 : Int32) (x3 : Int32) (x4 : Int32) : Option Int32 :=
if x4.toInt < (I 78 2).toInt then (
if ((x1 >>> (x4 &&& 31)) &&& 1).toInt = (1 : Int32).toInt then (
fq_l ((x2 + 1)) fun y65 =>
if x3.toInt = 0 then (
fq_l (x4 + 1) fun y92 =>
k27 y65 0 y92)
else (
fq_g 6 x4 (
if (I 83 (cn x4)).toInt = ((-1) : Int32).toInt then (
fq_l (x4 + 1) fun y92 =>
k27 y65 1 y92)
else (
fq_l (x4 + 1) fun y92 =>
k27 y65 0 y92))))
else (
fq_l ((x2 + 0)) fun y65 =>
if x3.toInt = 0 then (
fq_l (x4 + 1) fun y92 =>
k27 y65 0 y92)
else (
fq_l (x4 + 1) fun y92 =>
k27 y65 1 y92)))
else (
if x3.toInt = 0 then (
some 0)
else (
if (4 : Int32).toInt < x2.toInt then (
some 0)
else (
some 1)))
def f_X11_mayAsk_27 (I : fc_I) (x1 : Int32) (n : Nat) : Int32 → Int32 → Int32 → Option Int32 := lpp3 (f_X11_mayAsk_27_B I x1 ) n
def f_X11_mayAsk (I : fc_I) (x1 : Int32) : Option Int32 :=
fq_v (f_X11_isIn (Int32.toInt64 x1) 0 (Int32.toInt64 (((1 : Int32) <<< ((I 78 2) &&& 31)) - 1))) fun r12 =>
if r12.toInt = 0 then (
some 0)
else (
f_X11_mayAsk_27 I x1 4000 0 1 0)
set_option maxHeartbeats 4000000 in
set_option maxRecDepth 100000 in
theorem t_X11_mayAsk_27 {d : Nat} {v : Nat} {r : Int32} {x1 : Int32} {I : fc_I} : ∀ (n : Nat) (x2 : Int32) (x3 : Int32) (x4 : Int32) , f_X11_mayAsk_27 I x1 n x2 x3 x4 = some r → fc_T X11_mayAsk (d + 1) 0 0 27 [some (.ref 78), some (.int x1), some (.int x2), some (.int x3), some (.int x4), none] [] fc_SH I (fc_PT v) (fc_Qi fc_SH (fun r' I' P' => r' = r ∧ I' = I ∧ P' = (fc_PT v))) := by
  unfold f_X11_mayAsk_27
  refine lpp3_T (fun k27 hk27 x2 x3 x4 hf => ?_)
  unfold f_X11_mayAsk_27_B at hf
  refine ft_iload dX11_mayAsk_27 rfl ?_
  refine ft_aload_n dX11_mayAsk_29 rfl ?_
  refine ft_getI fl_X11_1 rfl (sh_78) (by decide) dX11_mayAsk_30 ?_
  refine fk_icmp_ge (tgt := 98) dX11_mayAsk_33 (by decide) hf (fun hf => ?_) (fun hf => ?_)
  · refine ft_iload_n dX11_mayAsk_98 rfl ?_
    refine fk_if_eq (tgt := 111) dX11_mayAsk_99 (by decide) hf (fun hf => ?_) (fun hf => ?_)
    · refine ft_iconst (v := 0) dX11_mayAsk_111 rfl ?_
      exact fk_retp hf dX11_mayAsk_112 rfl rfl
    · refine ft_iload_n dX11_mayAsk_102 rfl ?_
      refine ft_iconst (v := 4) dX11_mayAsk_103 rfl ?_
      refine fk_icmp_gt (tgt := 111) dX11_mayAsk_104 (by decide) hf (fun hf => ?_) (fun hf => ?_)
      · refine ft_iconst (v := 0) dX11_mayAsk_111 rfl ?_
        exact fk_retp hf dX11_mayAsk_112 rfl rfl
      · refine ft_iconst (v := 1) dX11_mayAsk_107 rfl ?_
        refine ft_goto (tgt := 112) dX11_mayAsk_108 (by decide) ?_
        exact fk_retp hf dX11_mayAsk_112 rfl rfl
  · refine ft_iload_n dX11_mayAsk_36 rfl ?_
    refine ft_iload dX11_mayAsk_37 rfl ?_
    refine ft_ishr dX11_mayAsk_39 ?_
    refine ft_iconst (v := 1) dX11_mayAsk_40 rfl ?_
    refine ft_iand dX11_mayAsk_41 ?_
    refine ft_iconst (v := 1) dX11_mayAsk_42 rfl ?_
    refine fk_icmp_ne (tgt := 50) dX11_mayAsk_43 (by decide) hf (fun hf => ?_) (fun hf => ?_)
    · refine ft_iconst (v := 0) dX11_mayAsk_50 rfl ?_
      refine ft_istore dX11_mayAsk_51 (by decide) ?_
      refine ft_iload_n dX11_mayAsk_53 rfl ?_
      refine ft_iload dX11_mayAsk_54 rfl ?_
      refine fj_if_eq (tgt := 63) dX11_mayAsk_56 (by decide) (fun _ => ?_) (fun h => absurd h (by decide))
      refine ft_iconst (v := 0) dX11_mayAsk_63 rfl ?_
      refine ft_iadd dX11_mayAsk_64 ?_
      refine ft_istore_n dX11_mayAsk_65 (by decide) ?_
      refine ft_iload_n dX11_mayAsk_66 rfl ?_
      refine fk_if_eq (tgt := 90) dX11_mayAsk_67 (by decide) hf (fun hf => ?_) (fun hf => ?_)
      · refine ft_iconst (v := 0) dX11_mayAsk_90 rfl ?_
        refine ft_istore_n dX11_mayAsk_91 (by decide) ?_
        refine fk_iinc (c := 1) dX11_mayAsk_92 rfl (by decide) rfl ?_
        refine ft_goto (tgt := 27) dX11_mayAsk_95 (by decide) ?_
        exact ft_forget (by simp [fc_le, fc_st1, fc_st2, fc_kill]) (hk27 _ _ _ hf)
      · refine ft_iload dX11_mayAsk_70 rfl ?_
        refine fj_if_eq (tgt := 86) dX11_mayAsk_72 (by decide) (fun _ => ?_) (fun h => absurd h (by decide))
        refine ft_iconst (v := 1) dX11_mayAsk_86 rfl ?_
        refine ft_goto (tgt := 91) dX11_mayAsk_87 (by decide) ?_
        refine ft_istore_n dX11_mayAsk_91 (by decide) ?_
        refine fk_iinc (c := 1) dX11_mayAsk_92 rfl (by decide) rfl ?_
        refine ft_goto (tgt := 27) dX11_mayAsk_95 (by decide) ?_
        exact ft_forget (by simp [fc_le, fc_st1, fc_st2, fc_kill]) (hk27 _ _ _ hf)
    · refine ft_iconst (v := 1) dX11_mayAsk_46 rfl ?_
      refine ft_goto (tgt := 51) dX11_mayAsk_47 (by decide) ?_
      refine ft_istore dX11_mayAsk_51 (by decide) ?_
      refine ft_iload_n dX11_mayAsk_53 rfl ?_
      refine ft_iload dX11_mayAsk_54 rfl ?_
      refine fj_if_eq (tgt := 63) dX11_mayAsk_56 (by decide) (fun h => absurd h (by decide)) (fun _ => ?_)
      refine ft_iconst (v := 1) dX11_mayAsk_59 rfl ?_
      refine ft_goto (tgt := 64) dX11_mayAsk_60 (by decide) ?_
      refine ft_iadd dX11_mayAsk_64 ?_
      refine ft_istore_n dX11_mayAsk_65 (by decide) ?_
      refine ft_iload_n dX11_mayAsk_66 rfl ?_
      refine fk_if_eq (tgt := 90) dX11_mayAsk_67 (by decide) hf (fun hf => ?_) (fun hf => ?_)
      · refine ft_iconst (v := 0) dX11_mayAsk_90 rfl ?_
        refine ft_istore_n dX11_mayAsk_91 (by decide) ?_
        refine fk_iinc (c := 1) dX11_mayAsk_92 rfl (by decide) rfl ?_
        refine ft_goto (tgt := 27) dX11_mayAsk_95 (by decide) ?_
        exact ft_forget (by simp [fc_le, fc_st1, fc_st2, fc_kill]) (hk27 _ _ _ hf)
      · refine ft_iload dX11_mayAsk_70 rfl ?_
        refine fj_if_eq (tgt := 86) dX11_mayAsk_72 (by decide) (fun h => absurd h (by decide)) (fun _ => ?_)
        refine ft_aload_n dX11_mayAsk_75 rfl ?_
        refine ft_getR fl_X11_96 rfl (sh_78) (by decide) pt_78_7 dX11_mayAsk_76 ?_
        refine ft_iload dX11_mayAsk_79 rfl ?_
        refine fk_iald (sh_83) hf dX11_mayAsk_81 (fun hf => ?_)
        refine ft_iconst (v := (-1)) dX11_mayAsk_82 rfl ?_
        refine fk_icmp_ne (tgt := 90) dX11_mayAsk_83 (by decide) hf (fun hf => ?_) (fun hf => ?_)
        · refine ft_iconst (v := 0) dX11_mayAsk_90 rfl ?_
          refine ft_istore_n dX11_mayAsk_91 (by decide) ?_
          refine fk_iinc (c := 1) dX11_mayAsk_92 rfl (by decide) rfl ?_
          refine ft_goto (tgt := 27) dX11_mayAsk_95 (by decide) ?_
          exact ft_forget (by simp [fc_le, fc_st1, fc_st2, fc_kill]) (hk27 _ _ _ hf)
        · refine ft_iconst (v := 1) dX11_mayAsk_86 rfl ?_
          refine ft_goto (tgt := 91) dX11_mayAsk_87 (by decide) ?_
          refine ft_istore_n dX11_mayAsk_91 (by decide) ?_
          refine fk_iinc (c := 1) dX11_mayAsk_92 rfl (by decide) rfl ?_
          refine ft_goto (tgt := 27) dX11_mayAsk_95 (by decide) ?_
          exact ft_forget (by simp [fc_le, fc_st1, fc_st2, fc_kill]) (hk27 _ _ _ hf)
set_option maxHeartbeats 4000000 in
set_option maxRecDepth 100000 in
theorem t_X11_mayAsk {d : Nat} {v : Nat} {r : Int32} {I : fc_I} {x1 : Int32} (hf : f_X11_mayAsk I x1 = some r) : fc_Cp X11_mayAsk (d + 1) [.ref 78, .int x1] fc_SH I (fc_PT v) r := by
  unfold f_X11_mayAsk at hf
  refine fc_Cp.of (ls := [some (.ref 78), some (.int x1), none, none, none, none]) ⟨rfl, rfl⟩ (Nat.le_of_ble_eq_true rfl) rfl ?_
  refine ft_iload_n dX11_mayAsk_0 rfl ?_
  refine ft_i2l dX11_mayAsk_1 ?_
  refine ft_lconst (v := 0) dX11_mayAsk_2 rfl ?_
  refine ft_iconst (v := 1) dX11_mayAsk_3 rfl ?_
  refine ft_aload_n dX11_mayAsk_4 rfl ?_
  refine ft_getI fl_X11_1 rfl (sh_78) (by decide) dX11_mayAsk_5 ?_
  refine ft_ishl dX11_mayAsk_8 ?_
  refine ft_iconst (v := 1) dX11_mayAsk_9 rfl ?_
  refine ft_isub dX11_mayAsk_10 ?_
  refine ft_i2l dX11_mayAsk_11 ?_
  obtain ⟨r12, hc12, hf⟩ := fq_vs hf
  refine ft_S3p cf_X11_18 (t_X11_isIn hc12) (Nat.le_of_ble_eq_true rfl) dX11_mayAsk_12 ?_
  refine fk_if_ne (tgt := 20) dX11_mayAsk_15 (by decide) hf (fun hf => ?_) (fun hf => ?_)
  · refine ft_iconst (v := 0) dX11_mayAsk_20 rfl ?_
    refine ft_istore_n dX11_mayAsk_21 (by decide) ?_
    refine ft_iconst (v := 1) dX11_mayAsk_22 rfl ?_
    refine ft_istore_n dX11_mayAsk_23 (by decide) ?_
    refine ft_iconst (v := 0) dX11_mayAsk_24 rfl ?_
    refine ft_istore dX11_mayAsk_25 (by decide) ?_
    exact ft_forget (by simp [fc_le, fc_st1, fc_st2, fc_kill]) (t_X11_mayAsk_27   _ _ _ _ hf)
  · refine ft_iconst (v := 0) dX11_mayAsk_18 rfl ?_
    exact fk_retp hf dX11_mayAsk_19 rfl rfl
def f_X11_bringBack_101_B (k101 : Int32 → fc_I → Option fc_I) (x1 : Int32) (I : fc_I) : Option fc_I :=
if x1.toInt < (4 : Int32).toInt then (
fq_g 4 x1 (
fq_g 4 x1 (fq_l (fc_wI I 97 (cn x1) (I 123 (cn x1))) fun I117 =>
fq_g 4 x1 (
fq_g 4 x1 (fq_l (fc_wI I117 98 (cn x1) (I117 124 (cn x1))) fun I129 =>
fq_l (x1 + 1) fun y130 =>
k101 y130 I129)))))
else (
fq_l (fc_wI I 78 26 (I 78 67)) fun I141 =>
fq_l (fc_wI I141 78 0 (I141 78 68)) fun I149 =>
some I149)
def f_X11_bringBack_101 (n : Nat) : Int32 → fc_I → Option fc_I := lpm1 (f_X11_bringBack_101_B ) n
def f_X11_bringBack_64_B (k64 : Int32 → fc_I → Option fc_I) (x1 : Int32) (I : fc_I) : Option fc_I :=
if x1.toInt < (3 : Int32).toInt then (
fq_g 3 x1 (
fq_g 3 x1 (fq_l (fc_wI I 86 (cn x1) (I 121 (cn x1))) fun I80 =>
fq_g 3 x1 (
fq_g 3 x1 (fq_l (fc_wI I80 87 (cn x1) (I80 122 (cn x1))) fun I92 =>
fq_l (x1 + 1) fun y93 =>
k64 y93 I92)))))
else (
f_X11_bringBack_101  4000 0 I)
def f_X11_bringBack_64 (n : Nat) : Int32 → fc_I → Option fc_I := lpm1 (f_X11_bringBack_64_B ) n
def f_X11_bringBack_2_B (k2 : Int32 → fc_I → Option fc_I) (x1 : Int32) (I : fc_I) : Option fc_I :=
if x1.toInt < (6 : Int32).toInt then (
fq_g 6 x1 (
fq_g 6 x1 (fq_l (fc_wI I 80 (cn x1) (I 117 (cn x1))) fun I19 =>
fq_g 6 x1 (
fq_g 6 x1 (fq_l (fc_wI I19 81 (cn x1) (I19 118 (cn x1))) fun I31 =>
fq_g 6 x1 (
fq_g 6 x1 (fq_l (fc_wI I31 82 (cn x1) (I31 119 (cn x1))) fun I43 =>
fq_g 6 x1 (
fq_g 6 x1 (fq_l (fc_wI I43 83 (cn x1) (I43 120 (cn x1))) fun I55 =>
fq_l (x1 + 1) fun y56 =>
k2 y56 I55)))))))))
else (
f_X11_bringBack_64  4000 0 I)
def f_X11_bringBack_2 (n : Nat) : Int32 → fc_I → Option fc_I := lpm1 (f_X11_bringBack_2_B ) n
def f_X11_bringBack (I : fc_I) : Option fc_I :=
f_X11_bringBack_2  4000 0 I
set_option maxHeartbeats 4000000 in
set_option maxRecDepth 100000 in
theorem t_X11_bringBack_101 {d : Nat} {v : Nat} {J : fc_I} : ∀ (n : Nat) (x1 : Int32) (I : fc_I) , f_X11_bringBack_101 n x1 I = some J → fc_T X11_bringBack d 0 0 101 [some (.ref 78), some (.int x1)] [] fc_SH I (fc_PT v) (fc_Qv fc_SH (fun I' P' => I' = J ∧ P' = (fc_PT v))) := by
  unfold f_X11_bringBack_101
  refine lpm1_T (fun k101 hk101 x1 I hf => ?_)
  unfold f_X11_bringBack_101_B at hf
  refine ft_iload_n dX11_bringBack_101 rfl ?_
  refine ft_iconst (v := 4) dX11_bringBack_102 rfl ?_
  refine fk_icmp_ge (tgt := 136) dX11_bringBack_103 (by decide) hf (fun hf => ?_) (fun hf => ?_)
  · refine ft_aload_n dX11_bringBack_136 rfl ?_
    refine ft_aload_n dX11_bringBack_137 rfl ?_
    refine ft_getI fl_X11_384 rfl (sh_78) (by decide) dX11_bringBack_138 ?_
    refine ft_putI fl_X11_366 rfl (fun q h => by cases h; rfl) (sh_78) (by decide) dX11_bringBack_141 ?_
    refine ft_aload_n dX11_bringBack_144 rfl ?_
    refine ft_aload_n dX11_bringBack_145 rfl ?_
    refine ft_getI fl_X11_387 rfl (sh_78) (by decide) dX11_bringBack_146 ?_
    refine ft_putI fl_X11_26 rfl (fun q h => by cases h; rfl) (sh_78) (by decide) dX11_bringBack_149 ?_
    exact fk_retv hf dX11_bringBack_152 rfl
  · refine ft_aload_n dX11_bringBack_106 rfl ?_
    refine ft_getR fl_X11_125 rfl (sh_78) (by decide) pt_78_24 dX11_bringBack_107 ?_
    refine ft_iload_n dX11_bringBack_110 rfl ?_
    refine ft_aload_n dX11_bringBack_111 rfl ?_
    refine ft_getR fl_X11_330 rfl (sh_78) (by decide) pt_78_65 dX11_bringBack_112 ?_
    refine ft_iload_n dX11_bringBack_115 rfl ?_
    refine fk_iald (sh_123) hf dX11_bringBack_116 (fun hf => ?_)
    refine fk_iast (sh_97) hf dX11_bringBack_117 (fun hf => ?_)
    refine ft_aload_n dX11_bringBack_118 rfl ?_
    refine ft_getR fl_X11_128 rfl (sh_78) (by decide) pt_78_25 dX11_bringBack_119 ?_
    refine ft_iload_n dX11_bringBack_122 rfl ?_
    refine ft_aload_n dX11_bringBack_123 rfl ?_
    refine ft_getR fl_X11_333 rfl (sh_78) (by decide) pt_78_66 dX11_bringBack_124 ?_
    refine ft_iload_n dX11_bringBack_127 rfl ?_
    refine fk_iald (sh_124) hf dX11_bringBack_128 (fun hf => ?_)
    refine fk_iast (sh_98) hf dX11_bringBack_129 (fun hf => ?_)
    refine fk_iinc (c := 1) dX11_bringBack_130 rfl (by decide) rfl ?_
    refine ft_goto (tgt := 101) dX11_bringBack_133 (by decide) ?_
    exact ft_forget (by simp [fc_le, fc_st1, fc_st2, fc_kill]) (hk101 _ _ hf)
set_option maxHeartbeats 4000000 in
set_option maxRecDepth 100000 in
theorem t_X11_bringBack_64 {d : Nat} {v : Nat} {J : fc_I} : ∀ (n : Nat) (x1 : Int32) (I : fc_I) , f_X11_bringBack_64 n x1 I = some J → fc_T X11_bringBack d 0 0 64 [some (.ref 78), some (.int x1)] [] fc_SH I (fc_PT v) (fc_Qv fc_SH (fun I' P' => I' = J ∧ P' = (fc_PT v))) := by
  unfold f_X11_bringBack_64
  refine lpm1_T (fun k64 hk64 x1 I hf => ?_)
  unfold f_X11_bringBack_64_B at hf
  refine ft_iload_n dX11_bringBack_64 rfl ?_
  refine ft_iconst (v := 3) dX11_bringBack_65 rfl ?_
  refine fk_icmp_ge (tgt := 99) dX11_bringBack_66 (by decide) hf (fun hf => ?_) (fun hf => ?_)
  · refine ft_iconst (v := 0) dX11_bringBack_99 rfl ?_
    refine ft_istore_n dX11_bringBack_100 (by decide) ?_
    exact ft_forget (by simp [fc_le, fc_st1, fc_st2, fc_kill]) (t_X11_bringBack_101   _ _ _ hf)
  · refine ft_aload_n dX11_bringBack_69 rfl ?_
    refine ft_getR fl_X11_106 rfl (sh_78) (by decide) pt_78_11 dX11_bringBack_70 ?_
    refine ft_iload_n dX11_bringBack_73 rfl ?_
    refine ft_aload_n dX11_bringBack_74 rfl ?_
    refine ft_getR fl_X11_324 rfl (sh_78) (by decide) pt_78_63 dX11_bringBack_75 ?_
    refine ft_iload_n dX11_bringBack_78 rfl ?_
    refine fk_iald (sh_121) hf dX11_bringBack_79 (fun hf => ?_)
    refine fk_iast (sh_86) hf dX11_bringBack_80 (fun hf => ?_)
    refine ft_aload_n dX11_bringBack_81 rfl ?_
    refine ft_getR fl_X11_109 rfl (sh_78) (by decide) pt_78_12 dX11_bringBack_82 ?_
    refine ft_iload_n dX11_bringBack_85 rfl ?_
    refine ft_aload_n dX11_bringBack_86 rfl ?_
    refine ft_getR fl_X11_327 rfl (sh_78) (by decide) pt_78_64 dX11_bringBack_87 ?_
    refine ft_iload_n dX11_bringBack_90 rfl ?_
    refine fk_iald (sh_122) hf dX11_bringBack_91 (fun hf => ?_)
    refine fk_iast (sh_87) hf dX11_bringBack_92 (fun hf => ?_)
    refine fk_iinc (c := 1) dX11_bringBack_93 rfl (by decide) rfl ?_
    refine ft_goto (tgt := 64) dX11_bringBack_96 (by decide) ?_
    exact ft_forget (by simp [fc_le, fc_st1, fc_st2, fc_kill]) (hk64 _ _ hf)
set_option maxHeartbeats 4000000 in
set_option maxRecDepth 100000 in
theorem t_X11_bringBack_2 {d : Nat} {v : Nat} {J : fc_I} : ∀ (n : Nat) (x1 : Int32) (I : fc_I) , f_X11_bringBack_2 n x1 I = some J → fc_T X11_bringBack d 0 0 2 [some (.ref 78), some (.int x1)] [] fc_SH I (fc_PT v) (fc_Qv fc_SH (fun I' P' => I' = J ∧ P' = (fc_PT v))) := by
  unfold f_X11_bringBack_2
  refine lpm1_T (fun k2 hk2 x1 I hf => ?_)
  unfold f_X11_bringBack_2_B at hf
  refine ft_iload_n dX11_bringBack_2 rfl ?_
  refine ft_bipush (v := 6) dX11_bringBack_3 rfl ?_
  refine fk_icmp_ge (tgt := 62) dX11_bringBack_5 (by decide) hf (fun hf => ?_) (fun hf => ?_)
  · refine ft_iconst (v := 0) dX11_bringBack_62 rfl ?_
    refine ft_istore_n dX11_bringBack_63 (by decide) ?_
    exact ft_forget (by simp [fc_le, fc_st1, fc_st2, fc_kill]) (t_X11_bringBack_64   _ _ _ hf)
  · refine ft_aload_n dX11_bringBack_8 rfl ?_
    refine ft_getR fl_X11_33 rfl (sh_78) (by decide) pt_78_4 dX11_bringBack_9 ?_
    refine ft_iload_n dX11_bringBack_12 rfl ?_
    refine ft_aload_n dX11_bringBack_13 rfl ?_
    refine ft_getR fl_X11_312 rfl (sh_78) (by decide) pt_78_59 dX11_bringBack_14 ?_
    refine ft_iload_n dX11_bringBack_17 rfl ?_
    refine fk_iald (sh_117) hf dX11_bringBack_18 (fun hf => ?_)
    refine fk_iast (sh_80) hf dX11_bringBack_19 (fun hf => ?_)
    refine ft_aload_n dX11_bringBack_20 rfl ?_
    refine ft_getR fl_X11_93 rfl (sh_78) (by decide) pt_78_5 dX11_bringBack_21 ?_
    refine ft_iload_n dX11_bringBack_24 rfl ?_
    refine ft_aload_n dX11_bringBack_25 rfl ?_
    refine ft_getR fl_X11_315 rfl (sh_78) (by decide) pt_78_60 dX11_bringBack_26 ?_
    refine ft_iload_n dX11_bringBack_29 rfl ?_
    refine fk_iald (sh_118) hf dX11_bringBack_30 (fun hf => ?_)
    refine fk_iast (sh_81) hf dX11_bringBack_31 (fun hf => ?_)
    refine ft_aload_n dX11_bringBack_32 rfl ?_
    refine ft_getR fl_X11_36 rfl (sh_78) (by decide) pt_78_6 dX11_bringBack_33 ?_
    refine ft_iload_n dX11_bringBack_36 rfl ?_
    refine ft_aload_n dX11_bringBack_37 rfl ?_
    refine ft_getR fl_X11_318 rfl (sh_78) (by decide) pt_78_61 dX11_bringBack_38 ?_
    refine ft_iload_n dX11_bringBack_41 rfl ?_
    refine fk_iald (sh_119) hf dX11_bringBack_42 (fun hf => ?_)
    refine fk_iast (sh_82) hf dX11_bringBack_43 (fun hf => ?_)
    refine ft_aload_n dX11_bringBack_44 rfl ?_
    refine ft_getR fl_X11_96 rfl (sh_78) (by decide) pt_78_7 dX11_bringBack_45 ?_
    refine ft_iload_n dX11_bringBack_48 rfl ?_
    refine ft_aload_n dX11_bringBack_49 rfl ?_
    refine ft_getR fl_X11_321 rfl (sh_78) (by decide) pt_78_62 dX11_bringBack_50 ?_
    refine ft_iload_n dX11_bringBack_53 rfl ?_
    refine fk_iald (sh_120) hf dX11_bringBack_54 (fun hf => ?_)
    refine fk_iast (sh_83) hf dX11_bringBack_55 (fun hf => ?_)
    refine fk_iinc (c := 1) dX11_bringBack_56 rfl (by decide) rfl ?_
    refine ft_goto (tgt := 2) dX11_bringBack_59 (by decide) ?_
    exact ft_forget (by simp [fc_le, fc_st1, fc_st2, fc_kill]) (hk2 _ _ hf)
set_option maxHeartbeats 4000000 in
set_option maxRecDepth 100000 in
theorem t_X11_bringBack {d : Nat} {v : Nat} {J : fc_I} {I : fc_I} (hf : f_X11_bringBack I = some J) : fc_Cv X11_bringBack d [.ref 78] fc_SH I (fc_PT v) (fun I' P' => I' = J ∧ P' = (fc_PT v)) := by
  unfold f_X11_bringBack at hf
  refine fc_Cv.of (ls := [some (.ref 78), none]) ⟨rfl, rfl⟩ (Nat.le_of_ble_eq_true rfl) rfl ?_
  refine ft_iconst (v := 0) dX11_bringBack_0 rfl ?_
  refine ft_istore_n dX11_bringBack_1 (by decide) ?_
  exact ft_forget (by simp [fc_le, fc_st1, fc_st2, fc_kill]) (t_X11_bringBack_2   _ _ _ hf)
def f_X11_inWaterOf_4_B (I : fc_I) (x1 : Int32) (k4 : Int32 → Int32 → Option Int32) (x2 : Int32) (x3 : Int32) : Option Int32 :=
if x3.toInt < (I 78 2).toInt then (
fq_v (f_X11_isWet I x3 x1 (I 78 0)) fun r20 =>
if r20.toInt = 0 then (
fq_l ((x2 + 0)) fun y51 =>
fq_l (x3 + 1) fun y52 =>
k4 y51 y52)
else (
fq_g 6 x3 (
fq_g 6 x3 (
fq_g 6 x3 (
fq_l ((x2 + (((I 80 (cn x3)) + (I 81 (cn x3))) + (I 82 (cn x3))))) fun y51 =>
fq_l (x3 + 1) fun y52 =>
k4 y51 y52)))))
else (
some x2)
def f_X11_inWaterOf_4 (I : fc_I) (x1 : Int32) (n : Nat) : Int32 → Int32 → Option Int32 := lpp2 (f_X11_inWaterOf_4_B I x1 ) n
def f_X11_inWaterOf (I : fc_I) (x1 : Int32) : Option Int32 :=
f_X11_inWaterOf_4 I x1 4000 0 0
set_option maxHeartbeats 4000000 in
set_option maxRecDepth 100000 in
theorem t_X11_inWaterOf_4 {d : Nat} {v : Nat} {r : Int32} {x1 : Int32} {I : fc_I} : ∀ (n : Nat) (x2 : Int32) (x3 : Int32) , f_X11_inWaterOf_4 I x1 n x2 x3 = some r → fc_T X11_inWaterOf (d + 1) 0 0 4 [some (.ref 78), some (.int x1), some (.int x2), some (.int x3)] [] fc_SH I (fc_PT v) (fc_Qi fc_SH (fun r' I' P' => r' = r ∧ I' = I ∧ P' = (fc_PT v))) := by
  unfold f_X11_inWaterOf_4
  refine lpp2_T (fun k4 hk4 x2 x3 hf => ?_)
  unfold f_X11_inWaterOf_4_B at hf
  refine ft_iload_n dX11_inWaterOf_4 rfl ?_
  refine ft_aload_n dX11_inWaterOf_5 rfl ?_
  refine ft_getI fl_X11_1 rfl (sh_78) (by decide) dX11_inWaterOf_6 ?_
  refine fk_icmp_ge (tgt := 58) dX11_inWaterOf_9 (by decide) hf (fun hf => ?_) (fun hf => ?_)
  · refine ft_iload_n dX11_inWaterOf_58 rfl ?_
    exact fk_retp hf dX11_inWaterOf_59 rfl rfl
  · refine ft_iload_n dX11_inWaterOf_12 rfl ?_
    refine ft_aload_n dX11_inWaterOf_13 rfl ?_
    refine ft_iload_n dX11_inWaterOf_14 rfl ?_
    refine ft_iload_n dX11_inWaterOf_15 rfl ?_
    refine ft_aload_n dX11_inWaterOf_16 rfl ?_
    refine ft_getI fl_X11_26 rfl (sh_78) (by decide) dX11_inWaterOf_17 ?_
    obtain ⟨r20, hc20, hf⟩ := fq_vs hf
    refine ft_V3p cf_X11_102 (sh_78) (t_X11_isWet hc20) (Nat.le_of_ble_eq_true rfl) dX11_inWaterOf_20 ?_
    refine fk_if_eq (tgt := 49) dX11_inWaterOf_23 (by decide) hf (fun hf => ?_) (fun hf => ?_)
    · refine ft_iconst (v := 0) dX11_inWaterOf_49 rfl ?_
      refine ft_iadd dX11_inWaterOf_50 ?_
      refine ft_istore_n dX11_inWaterOf_51 (by decide) ?_
      refine fk_iinc (c := 1) dX11_inWaterOf_52 rfl (by decide) rfl ?_
      refine ft_goto (tgt := 4) dX11_inWaterOf_55 (by decide) ?_
      exact ft_forget (by simp [fc_le, fc_st1, fc_st2, fc_kill]) (hk4 _ _ hf)
    · refine ft_aload_n dX11_inWaterOf_26 rfl ?_
      refine ft_getR fl_X11_33 rfl (sh_78) (by decide) pt_78_4 dX11_inWaterOf_27 ?_
      refine ft_iload_n dX11_inWaterOf_30 rfl ?_
      refine fk_iald (sh_80) hf dX11_inWaterOf_31 (fun hf => ?_)
      refine ft_aload_n dX11_inWaterOf_32 rfl ?_
      refine ft_getR fl_X11_93 rfl (sh_78) (by decide) pt_78_5 dX11_inWaterOf_33 ?_
      refine ft_iload_n dX11_inWaterOf_36 rfl ?_
      refine fk_iald (sh_81) hf dX11_inWaterOf_37 (fun hf => ?_)
      refine ft_iadd dX11_inWaterOf_38 ?_
      refine ft_aload_n dX11_inWaterOf_39 rfl ?_
      refine ft_getR fl_X11_36 rfl (sh_78) (by decide) pt_78_6 dX11_inWaterOf_40 ?_
      refine ft_iload_n dX11_inWaterOf_43 rfl ?_
      refine fk_iald (sh_82) hf dX11_inWaterOf_44 (fun hf => ?_)
      refine ft_iadd dX11_inWaterOf_45 ?_
      refine ft_goto (tgt := 50) dX11_inWaterOf_46 (by decide) ?_
      refine ft_iadd dX11_inWaterOf_50 ?_
      refine ft_istore_n dX11_inWaterOf_51 (by decide) ?_
      refine fk_iinc (c := 1) dX11_inWaterOf_52 rfl (by decide) rfl ?_
      refine ft_goto (tgt := 4) dX11_inWaterOf_55 (by decide) ?_
      exact ft_forget (by simp [fc_le, fc_st1, fc_st2, fc_kill]) (hk4 _ _ hf)
set_option maxHeartbeats 4000000 in
set_option maxRecDepth 100000 in
theorem t_X11_inWaterOf {d : Nat} {v : Nat} {r : Int32} {I : fc_I} {x1 : Int32} (hf : f_X11_inWaterOf I x1 = some r) : fc_Cp X11_inWaterOf (d + 1) [.ref 78, .int x1] fc_SH I (fc_PT v) r := by
  unfold f_X11_inWaterOf at hf
  refine fc_Cp.of (ls := [some (.ref 78), some (.int x1), none, none]) ⟨rfl, rfl⟩ (Nat.le_of_ble_eq_true rfl) rfl ?_
  refine ft_iconst (v := 0) dX11_inWaterOf_0 rfl ?_
  refine ft_istore_n dX11_inWaterOf_1 (by decide) ?_
  refine ft_iconst (v := 0) dX11_inWaterOf_2 rfl ?_
  refine ft_istore_n dX11_inWaterOf_3 (by decide) ?_
  exact ft_forget (by simp [fc_le, fc_st1, fc_st2, fc_kill]) (t_X11_inWaterOf_4   _ _ _ hf)
def f_X11_keepAll_101_B (k101 : Int32 → fc_I → Option fc_I) (x1 : Int32) (I : fc_I) : Option fc_I :=
if x1.toInt < (4 : Int32).toInt then (
fq_g 4 x1 (
fq_g 4 x1 (fq_l (fc_wI I 123 (cn x1) (I 97 (cn x1))) fun I117 =>
fq_g 4 x1 (
fq_g 4 x1 (fq_l (fc_wI I117 124 (cn x1) (I117 98 (cn x1))) fun I129 =>
fq_l (x1 + 1) fun y130 =>
k101 y130 I129)))))
else (
fq_l (fc_wI I 78 67 (I 78 26)) fun I141 =>
fq_l (fc_wI I141 78 68 (I141 78 0)) fun I149 =>
some I149)
def f_X11_keepAll_101 (n : Nat) : Int32 → fc_I → Option fc_I := lpm1 (f_X11_keepAll_101_B ) n
def f_X11_keepAll_64_B (k64 : Int32 → fc_I → Option fc_I) (x1 : Int32) (I : fc_I) : Option fc_I :=
if x1.toInt < (3 : Int32).toInt then (
fq_g 3 x1 (
fq_g 3 x1 (fq_l (fc_wI I 121 (cn x1) (I 86 (cn x1))) fun I80 =>
fq_g 3 x1 (
fq_g 3 x1 (fq_l (fc_wI I80 122 (cn x1) (I80 87 (cn x1))) fun I92 =>
fq_l (x1 + 1) fun y93 =>
k64 y93 I92)))))
else (
f_X11_keepAll_101  4000 0 I)
def f_X11_keepAll_64 (n : Nat) : Int32 → fc_I → Option fc_I := lpm1 (f_X11_keepAll_64_B ) n
def f_X11_keepAll_2_B (k2 : Int32 → fc_I → Option fc_I) (x1 : Int32) (I : fc_I) : Option fc_I :=
if x1.toInt < (6 : Int32).toInt then (
fq_g 6 x1 (
fq_g 6 x1 (fq_l (fc_wI I 117 (cn x1) (I 80 (cn x1))) fun I19 =>
fq_g 6 x1 (
fq_g 6 x1 (fq_l (fc_wI I19 118 (cn x1) (I19 81 (cn x1))) fun I31 =>
fq_g 6 x1 (
fq_g 6 x1 (fq_l (fc_wI I31 119 (cn x1) (I31 82 (cn x1))) fun I43 =>
fq_g 6 x1 (
fq_g 6 x1 (fq_l (fc_wI I43 120 (cn x1) (I43 83 (cn x1))) fun I55 =>
fq_l (x1 + 1) fun y56 =>
k2 y56 I55)))))))))
else (
f_X11_keepAll_64  4000 0 I)
def f_X11_keepAll_2 (n : Nat) : Int32 → fc_I → Option fc_I := lpm1 (f_X11_keepAll_2_B ) n
def f_X11_keepAll (I : fc_I) : Option fc_I :=
f_X11_keepAll_2  4000 0 I
set_option maxHeartbeats 4000000 in
set_option maxRecDepth 100000 in
theorem t_X11_keepAll_101 {d : Nat} {v : Nat} {J : fc_I} : ∀ (n : Nat) (x1 : Int32) (I : fc_I) , f_X11_keepAll_101 n x1 I = some J → fc_T X11_keepAll d 0 0 101 [some (.ref 78), some (.int x1)] [] fc_SH I (fc_PT v) (fc_Qv fc_SH (fun I' P' => I' = J ∧ P' = (fc_PT v))) := by
  unfold f_X11_keepAll_101
  refine lpm1_T (fun k101 hk101 x1 I hf => ?_)
  unfold f_X11_keepAll_101_B at hf
  refine ft_iload_n dX11_keepAll_101 rfl ?_
  refine ft_iconst (v := 4) dX11_keepAll_102 rfl ?_
  refine fk_icmp_ge (tgt := 136) dX11_keepAll_103 (by decide) hf (fun hf => ?_) (fun hf => ?_)
  · refine ft_aload_n dX11_keepAll_136 rfl ?_
    refine ft_aload_n dX11_keepAll_137 rfl ?_
    refine ft_getI fl_X11_366 rfl (sh_78) (by decide) dX11_keepAll_138 ?_
    refine ft_putI fl_X11_384 rfl (fun q h => by cases h; rfl) (sh_78) (by decide) dX11_keepAll_141 ?_
    refine ft_aload_n dX11_keepAll_144 rfl ?_
    refine ft_aload_n dX11_keepAll_145 rfl ?_
    refine ft_getI fl_X11_26 rfl (sh_78) (by decide) dX11_keepAll_146 ?_
    refine ft_putI fl_X11_387 rfl (fun q h => by cases h; rfl) (sh_78) (by decide) dX11_keepAll_149 ?_
    exact fk_retv hf dX11_keepAll_152 rfl
  · refine ft_aload_n dX11_keepAll_106 rfl ?_
    refine ft_getR fl_X11_330 rfl (sh_78) (by decide) pt_78_65 dX11_keepAll_107 ?_
    refine ft_iload_n dX11_keepAll_110 rfl ?_
    refine ft_aload_n dX11_keepAll_111 rfl ?_
    refine ft_getR fl_X11_125 rfl (sh_78) (by decide) pt_78_24 dX11_keepAll_112 ?_
    refine ft_iload_n dX11_keepAll_115 rfl ?_
    refine fk_iald (sh_97) hf dX11_keepAll_116 (fun hf => ?_)
    refine fk_iast (sh_123) hf dX11_keepAll_117 (fun hf => ?_)
    refine ft_aload_n dX11_keepAll_118 rfl ?_
    refine ft_getR fl_X11_333 rfl (sh_78) (by decide) pt_78_66 dX11_keepAll_119 ?_
    refine ft_iload_n dX11_keepAll_122 rfl ?_
    refine ft_aload_n dX11_keepAll_123 rfl ?_
    refine ft_getR fl_X11_128 rfl (sh_78) (by decide) pt_78_25 dX11_keepAll_124 ?_
    refine ft_iload_n dX11_keepAll_127 rfl ?_
    refine fk_iald (sh_98) hf dX11_keepAll_128 (fun hf => ?_)
    refine fk_iast (sh_124) hf dX11_keepAll_129 (fun hf => ?_)
    refine fk_iinc (c := 1) dX11_keepAll_130 rfl (by decide) rfl ?_
    refine ft_goto (tgt := 101) dX11_keepAll_133 (by decide) ?_
    exact ft_forget (by simp [fc_le, fc_st1, fc_st2, fc_kill]) (hk101 _ _ hf)
set_option maxHeartbeats 4000000 in
set_option maxRecDepth 100000 in
theorem t_X11_keepAll_64 {d : Nat} {v : Nat} {J : fc_I} : ∀ (n : Nat) (x1 : Int32) (I : fc_I) , f_X11_keepAll_64 n x1 I = some J → fc_T X11_keepAll d 0 0 64 [some (.ref 78), some (.int x1)] [] fc_SH I (fc_PT v) (fc_Qv fc_SH (fun I' P' => I' = J ∧ P' = (fc_PT v))) := by
  unfold f_X11_keepAll_64
  refine lpm1_T (fun k64 hk64 x1 I hf => ?_)
  unfold f_X11_keepAll_64_B at hf
  refine ft_iload_n dX11_keepAll_64 rfl ?_
  refine ft_iconst (v := 3) dX11_keepAll_65 rfl ?_
  refine fk_icmp_ge (tgt := 99) dX11_keepAll_66 (by decide) hf (fun hf => ?_) (fun hf => ?_)
  · refine ft_iconst (v := 0) dX11_keepAll_99 rfl ?_
    refine ft_istore_n dX11_keepAll_100 (by decide) ?_
    exact ft_forget (by simp [fc_le, fc_st1, fc_st2, fc_kill]) (t_X11_keepAll_101   _ _ _ hf)
  · refine ft_aload_n dX11_keepAll_69 rfl ?_
    refine ft_getR fl_X11_324 rfl (sh_78) (by decide) pt_78_63 dX11_keepAll_70 ?_
    refine ft_iload_n dX11_keepAll_73 rfl ?_
    refine ft_aload_n dX11_keepAll_74 rfl ?_
    refine ft_getR fl_X11_106 rfl (sh_78) (by decide) pt_78_11 dX11_keepAll_75 ?_
    refine ft_iload_n dX11_keepAll_78 rfl ?_
    refine fk_iald (sh_86) hf dX11_keepAll_79 (fun hf => ?_)
    refine fk_iast (sh_121) hf dX11_keepAll_80 (fun hf => ?_)
    refine ft_aload_n dX11_keepAll_81 rfl ?_
    refine ft_getR fl_X11_327 rfl (sh_78) (by decide) pt_78_64 dX11_keepAll_82 ?_
    refine ft_iload_n dX11_keepAll_85 rfl ?_
    refine ft_aload_n dX11_keepAll_86 rfl ?_
    refine ft_getR fl_X11_109 rfl (sh_78) (by decide) pt_78_12 dX11_keepAll_87 ?_
    refine ft_iload_n dX11_keepAll_90 rfl ?_
    refine fk_iald (sh_87) hf dX11_keepAll_91 (fun hf => ?_)
    refine fk_iast (sh_122) hf dX11_keepAll_92 (fun hf => ?_)
    refine fk_iinc (c := 1) dX11_keepAll_93 rfl (by decide) rfl ?_
    refine ft_goto (tgt := 64) dX11_keepAll_96 (by decide) ?_
    exact ft_forget (by simp [fc_le, fc_st1, fc_st2, fc_kill]) (hk64 _ _ hf)
set_option maxHeartbeats 4000000 in
set_option maxRecDepth 100000 in
theorem t_X11_keepAll_2 {d : Nat} {v : Nat} {J : fc_I} : ∀ (n : Nat) (x1 : Int32) (I : fc_I) , f_X11_keepAll_2 n x1 I = some J → fc_T X11_keepAll d 0 0 2 [some (.ref 78), some (.int x1)] [] fc_SH I (fc_PT v) (fc_Qv fc_SH (fun I' P' => I' = J ∧ P' = (fc_PT v))) := by
  unfold f_X11_keepAll_2
  refine lpm1_T (fun k2 hk2 x1 I hf => ?_)
  unfold f_X11_keepAll_2_B at hf
  refine ft_iload_n dX11_keepAll_2 rfl ?_
  refine ft_bipush (v := 6) dX11_keepAll_3 rfl ?_
  refine fk_icmp_ge (tgt := 62) dX11_keepAll_5 (by decide) hf (fun hf => ?_) (fun hf => ?_)
  · refine ft_iconst (v := 0) dX11_keepAll_62 rfl ?_
    refine ft_istore_n dX11_keepAll_63 (by decide) ?_
    exact ft_forget (by simp [fc_le, fc_st1, fc_st2, fc_kill]) (t_X11_keepAll_64   _ _ _ hf)
  · refine ft_aload_n dX11_keepAll_8 rfl ?_
    refine ft_getR fl_X11_312 rfl (sh_78) (by decide) pt_78_59 dX11_keepAll_9 ?_
    refine ft_iload_n dX11_keepAll_12 rfl ?_
    refine ft_aload_n dX11_keepAll_13 rfl ?_
    refine ft_getR fl_X11_33 rfl (sh_78) (by decide) pt_78_4 dX11_keepAll_14 ?_
    refine ft_iload_n dX11_keepAll_17 rfl ?_
    refine fk_iald (sh_80) hf dX11_keepAll_18 (fun hf => ?_)
    refine fk_iast (sh_117) hf dX11_keepAll_19 (fun hf => ?_)
    refine ft_aload_n dX11_keepAll_20 rfl ?_
    refine ft_getR fl_X11_315 rfl (sh_78) (by decide) pt_78_60 dX11_keepAll_21 ?_
    refine ft_iload_n dX11_keepAll_24 rfl ?_
    refine ft_aload_n dX11_keepAll_25 rfl ?_
    refine ft_getR fl_X11_93 rfl (sh_78) (by decide) pt_78_5 dX11_keepAll_26 ?_
    refine ft_iload_n dX11_keepAll_29 rfl ?_
    refine fk_iald (sh_81) hf dX11_keepAll_30 (fun hf => ?_)
    refine fk_iast (sh_118) hf dX11_keepAll_31 (fun hf => ?_)
    refine ft_aload_n dX11_keepAll_32 rfl ?_
    refine ft_getR fl_X11_318 rfl (sh_78) (by decide) pt_78_61 dX11_keepAll_33 ?_
    refine ft_iload_n dX11_keepAll_36 rfl ?_
    refine ft_aload_n dX11_keepAll_37 rfl ?_
    refine ft_getR fl_X11_36 rfl (sh_78) (by decide) pt_78_6 dX11_keepAll_38 ?_
    refine ft_iload_n dX11_keepAll_41 rfl ?_
    refine fk_iald (sh_82) hf dX11_keepAll_42 (fun hf => ?_)
    refine fk_iast (sh_119) hf dX11_keepAll_43 (fun hf => ?_)
    refine ft_aload_n dX11_keepAll_44 rfl ?_
    refine ft_getR fl_X11_321 rfl (sh_78) (by decide) pt_78_62 dX11_keepAll_45 ?_
    refine ft_iload_n dX11_keepAll_48 rfl ?_
    refine ft_aload_n dX11_keepAll_49 rfl ?_
    refine ft_getR fl_X11_96 rfl (sh_78) (by decide) pt_78_7 dX11_keepAll_50 ?_
    refine ft_iload_n dX11_keepAll_53 rfl ?_
    refine fk_iald (sh_83) hf dX11_keepAll_54 (fun hf => ?_)
    refine fk_iast (sh_120) hf dX11_keepAll_55 (fun hf => ?_)
    refine fk_iinc (c := 1) dX11_keepAll_56 rfl (by decide) rfl ?_
    refine ft_goto (tgt := 2) dX11_keepAll_59 (by decide) ?_
    exact ft_forget (by simp [fc_le, fc_st1, fc_st2, fc_kill]) (hk2 _ _ hf)
set_option maxHeartbeats 4000000 in
set_option maxRecDepth 100000 in
theorem t_X11_keepAll {d : Nat} {v : Nat} {J : fc_I} {I : fc_I} (hf : f_X11_keepAll I = some J) : fc_Cv X11_keepAll d [.ref 78] fc_SH I (fc_PT v) (fun I' P' => I' = J ∧ P' = (fc_PT v)) := by
  unfold f_X11_keepAll at hf
  refine fc_Cv.of (ls := [some (.ref 78), none]) ⟨rfl, rfl⟩ (Nat.le_of_ble_eq_true rfl) rfl ?_
  refine ft_iconst (v := 0) dX11_keepAll_0 rfl ?_
  refine ft_istore_n dX11_keepAll_1 (by decide) ?_
  exact ft_forget (by simp [fc_le, fc_st1, fc_st2, fc_kill]) (t_X11_keepAll_2   _ _ _ hf)
def f_X11_leave_72 (x1 : Int32) (k2 : Int32 → fc_I → Option fc_I) (x2 : Int32) (s0 : Int32) (I : fc_I) : Option fc_I :=
if s0.toInt = 0 then (
fq_l (x2 + 1) fun y135 =>
k2 y135 I)
else (
fq_b (f_X11_worthOf I 0 x2 x1 (I 78 0)) fun r88 I88 =>
fq_l ((imax 0 (imin 100 r88))) fun y97 =>
fq_g 6 x2 (
fq_l ((((I88 80 (cn x2)) * y97) / 100)) fun y111 =>
fq_g 6 x2 (
fq_g 6 x2 (fq_l (fc_wI I88 80 (cn x2) ((I88 80 (cn x2)) - y111)) fun I123 =>
fq_g 6 x2 (
fq_g 6 x2 (fq_l (fc_wI I123 81 (cn x2) ((I123 81 (cn x2)) + y111)) fun I134 =>
fq_l (x2 + 1) fun y135 =>
k2 y135 I134))))))
def f_X11_leave_71 (x1 : Int32) (k2 : Int32 → fc_I → Option fc_I) (x2 : Int32) (I : fc_I) : Option fc_I :=
f_X11_leave_72 x1 k2 x2 0 I
def f_X11_leave_2_B (x1 : Int32) (k2 : Int32 → fc_I → Option fc_I) (x2 : Int32) (I : fc_I) : Option fc_I :=
if x2.toInt < (I 78 2).toInt then (
fq_g 6 x2 (fq_l (fc_wI I 116 (cn x2) 0) fun I16 =>
fq_g 6 x2 (
if (I16 83 (cn x2)).toInt = ((-1) : Int32).toInt then (
f_X11_leave_71 x1 k2 x2 I16)
else (
fq_g 6 x2 (
if (I16 78 0).toInt < (I16 83 (cn x2)).toInt then (
f_X11_leave_71 x1 k2 x2 I16)
else (
fq_v (f_X11_isWet I16 x2 x1 (I16 78 0)) fun r47 =>
if r47.toInt = 0 then (
fq_b (f_X11_worthOf I16 1 x2 x1 (I16 78 0)) fun r61 I61 =>
if r61.toInt = 0 then (
f_X11_leave_72 x1 k2 x2 1 I61)
else (
f_X11_leave_71 x1 k2 x2 I61))
else (
f_X11_leave_71 x1 k2 x2 I16)))))))
else (
some I)
def f_X11_leave_2 (x1 : Int32) (n : Nat) : Int32 → fc_I → Option fc_I := lpm1 (f_X11_leave_2_B x1 ) n
def f_X11_leave (I : fc_I) (x1 : Int32) : Option fc_I :=
f_X11_leave_2 x1 4000 0 I
set_option maxHeartbeats 4000000 in
set_option maxRecDepth 100000 in
theorem t_X11_leave_72 {d : Nat} {v : Nat} {J : fc_I} {x1 : Int32} {k2 : Int32 → fc_I → Option fc_I} (hk2 : ∀ (x2 : Int32) (I : fc_I), k2 x2 I = some J → fc_T X11_leave (d + 2) 0 0 2 [some (.ref 78), some (.int x1), some (.int x2), none, none, none] [] fc_SH I (fc_PT v) (fc_Qv fc_SH (fun I' P' => I' = J ∧ P' = (fc_PT v)))) : ∀ (x2 : Int32) (s0 : Int32) (I : fc_I) , f_X11_leave_72 x1 k2  x2 s0 I = some J → fc_T X11_leave (d + 2) 0 0 72 [some (.ref 78), some (.int x1), some (.int x2), none, none, none] [.int s0] fc_SH I (fc_PT v) (fc_Qv fc_SH (fun I' P' => I' = J ∧ P' = (fc_PT v))) := by
  intro x2 s0 I hf
  unfold f_X11_leave_72 at hf
  refine ft_istore_n dX11_leave_72 (by decide) ?_
  refine ft_iload_n dX11_leave_73 rfl ?_
  refine fk_if_eq (tgt := 135) dX11_leave_74 (by decide) hf (fun hf => ?_) (fun hf => ?_)
  · refine fk_iinc (c := 1) dX11_leave_135 rfl (by decide) rfl ?_
    refine ft_goto (tgt := 2) dX11_leave_138 (by decide) ?_
    exact ft_forget (by simp [fc_le, fc_st1, fc_st2, fc_kill]) (hk2 _ _ hf)
  · refine ft_iconst (v := 0) dX11_leave_77 rfl ?_
    refine ft_bipush (v := 100) dX11_leave_78 rfl ?_
    refine ft_aload_n dX11_leave_80 rfl ?_
    refine ft_iconst (v := 0) dX11_leave_81 rfl ?_
    refine ft_iload_n dX11_leave_82 rfl ?_
    refine ft_iload_n dX11_leave_83 rfl ?_
    refine ft_aload_n dX11_leave_84 rfl ?_
    refine ft_getI fl_X11_26 rfl (sh_78) (by decide) dX11_leave_85 ?_
    obtain ⟨r88, I88, hc88, hf⟩ := fq_bs hf
    refine ft_V4i cf_X11_299 (sh_78) (t_X11_worthOf hc88) (Nat.le_of_ble_eq_true rfl) dX11_leave_88 (fun r' J P' q => ?_)
    obtain ⟨rfl, rfl, rfl⟩ := q
    refine ft_mmin cf_X11_357 (Nat.le_of_ble_eq_true rfl) dX11_leave_91 ?_
    refine ft_mmax cf_X11_363 (Nat.le_of_ble_eq_true rfl) dX11_leave_94 ?_
    refine ft_istore dX11_leave_97 (by decide) ?_
    refine ft_aload_n dX11_leave_99 rfl ?_
    refine ft_getR fl_X11_33 rfl (sh_78) (by decide) pt_78_4 dX11_leave_100 ?_
    refine ft_iload_n dX11_leave_103 rfl ?_
    refine fk_iald (sh_80) hf dX11_leave_104 (fun hf => ?_)
    refine ft_iload dX11_leave_105 rfl ?_
    refine ft_imul dX11_leave_107 ?_
    refine ft_bipush (v := 100) dX11_leave_108 rfl ?_
    refine ft_idiv dX11_leave_110 (by decide) ?_
    refine ft_istore dX11_leave_111 (by decide) ?_
    refine ft_aload_n dX11_leave_113 rfl ?_
    refine ft_getR fl_X11_33 rfl (sh_78) (by decide) pt_78_4 dX11_leave_114 ?_
    refine ft_iload_n dX11_leave_117 rfl ?_
    refine ft_dup2 dX11_leave_118 rfl rfl ?_
    refine fk_iald (sh_80) hf dX11_leave_119 (fun hf => ?_)
    refine ft_iload dX11_leave_120 rfl ?_
    refine ft_isub dX11_leave_122 ?_
    refine fk_iast (sh_80) hf dX11_leave_123 (fun hf => ?_)
    refine ft_aload_n dX11_leave_124 rfl ?_
    refine ft_getR fl_X11_93 rfl (sh_78) (by decide) pt_78_5 dX11_leave_125 ?_
    refine ft_iload_n dX11_leave_128 rfl ?_
    refine ft_dup2 dX11_leave_129 rfl rfl ?_
    refine fk_iald (sh_81) hf dX11_leave_130 (fun hf => ?_)
    refine ft_iload dX11_leave_131 rfl ?_
    refine ft_iadd dX11_leave_133 ?_
    refine fk_iast (sh_81) hf dX11_leave_134 (fun hf => ?_)
    refine fk_iinc (c := 1) dX11_leave_135 rfl (by decide) rfl ?_
    refine ft_goto (tgt := 2) dX11_leave_138 (by decide) ?_
    exact ft_forget (by simp [fc_le, fc_st1, fc_st2, fc_kill]) (hk2 _ _ hf)
set_option maxHeartbeats 4000000 in
set_option maxRecDepth 100000 in
theorem t_X11_leave_71 {d : Nat} {v : Nat} {J : fc_I} {x1 : Int32} {k2 : Int32 → fc_I → Option fc_I} (hk2 : ∀ (x2 : Int32) (I : fc_I), k2 x2 I = some J → fc_T X11_leave (d + 2) 0 0 2 [some (.ref 78), some (.int x1), some (.int x2), none, none, none] [] fc_SH I (fc_PT v) (fc_Qv fc_SH (fun I' P' => I' = J ∧ P' = (fc_PT v)))) : ∀ (x2 : Int32) (I : fc_I) , f_X11_leave_71 x1 k2  x2 I = some J → fc_T X11_leave (d + 2) 0 0 71 [some (.ref 78), some (.int x1), some (.int x2), none, none, none] [] fc_SH I (fc_PT v) (fc_Qv fc_SH (fun I' P' => I' = J ∧ P' = (fc_PT v))) := by
  intro x2 I hf
  unfold f_X11_leave_71 at hf
  refine ft_iconst (v := 0) dX11_leave_71 rfl ?_
  exact ft_forget (by simp [fc_le, fc_st1, fc_st2, fc_kill]) (t_X11_leave_72  hk2  _ _ _ hf)
set_option maxHeartbeats 4000000 in
set_option maxRecDepth 100000 in
theorem t_X11_leave_2 {d : Nat} {v : Nat} {J : fc_I} {x1 : Int32} : ∀ (n : Nat) (x2 : Int32) (I : fc_I) , f_X11_leave_2 x1 n x2 I = some J → fc_T X11_leave (d + 2) 0 0 2 [some (.ref 78), some (.int x1), some (.int x2), none, none, none] [] fc_SH I (fc_PT v) (fc_Qv fc_SH (fun I' P' => I' = J ∧ P' = (fc_PT v))) := by
  unfold f_X11_leave_2
  refine lpm1_T (fun k2 hk2 x2 I hf => ?_)
  unfold f_X11_leave_2_B at hf
  refine ft_iload_n dX11_leave_2 rfl ?_
  refine ft_aload_n dX11_leave_3 rfl ?_
  refine ft_getI fl_X11_1 rfl (sh_78) (by decide) dX11_leave_4 ?_
  refine fk_icmp_ge (tgt := 141) dX11_leave_7 (by decide) hf (fun hf => ?_) (fun hf => ?_)
  · exact fk_retv hf dX11_leave_141 rfl
  · refine ft_aload_n dX11_leave_10 rfl ?_
    refine ft_getR fl_X11_309 rfl (sh_78) (by decide) pt_78_58 dX11_leave_11 ?_
    refine ft_iload_n dX11_leave_14 rfl ?_
    refine ft_iconst (v := 0) dX11_leave_15 rfl ?_
    refine fk_iast (sh_116) hf dX11_leave_16 (fun hf => ?_)
    refine ft_aload_n dX11_leave_17 rfl ?_
    refine ft_getR fl_X11_96 rfl (sh_78) (by decide) pt_78_7 dX11_leave_18 ?_
    refine ft_iload_n dX11_leave_21 rfl ?_
    refine fk_iald (sh_83) hf dX11_leave_22 (fun hf => ?_)
    refine ft_iconst (v := (-1)) dX11_leave_23 rfl ?_
    refine fk_icmp_eq (tgt := 71) dX11_leave_24 (by decide) hf (fun hf => ?_) (fun hf => ?_)
    · exact ft_forget (by simp [fc_le, fc_st1, fc_st2, fc_kill]) (t_X11_leave_71  hk2  _ _ hf)
    · refine ft_aload_n dX11_leave_27 rfl ?_
      refine ft_getR fl_X11_96 rfl (sh_78) (by decide) pt_78_7 dX11_leave_28 ?_
      refine ft_iload_n dX11_leave_31 rfl ?_
      refine fk_iald (sh_83) hf dX11_leave_32 (fun hf => ?_)
      refine ft_aload_n dX11_leave_33 rfl ?_
      refine ft_getI fl_X11_26 rfl (sh_78) (by decide) dX11_leave_34 ?_
      refine fk_icmp_gt (tgt := 71) dX11_leave_37 (by decide) hf (fun hf => ?_) (fun hf => ?_)
      · exact ft_forget (by simp [fc_le, fc_st1, fc_st2, fc_kill]) (t_X11_leave_71  hk2  _ _ hf)
      · refine ft_aload_n dX11_leave_40 rfl ?_
        refine ft_iload_n dX11_leave_41 rfl ?_
        refine ft_iload_n dX11_leave_42 rfl ?_
        refine ft_aload_n dX11_leave_43 rfl ?_
        refine ft_getI fl_X11_26 rfl (sh_78) (by decide) dX11_leave_44 ?_
        obtain ⟨r47, hc47, hf⟩ := fq_vs hf
        refine ft_V3p cf_X11_102 (sh_78) (t_X11_isWet hc47) (Nat.le_of_ble_eq_true rfl) dX11_leave_47 ?_
        refine fk_if_ne (tgt := 71) dX11_leave_50 (by decide) hf (fun hf => ?_) (fun hf => ?_)
        · exact ft_forget (by simp [fc_le, fc_st1, fc_st2, fc_kill]) (t_X11_leave_71  hk2  _ _ hf)
        · refine ft_aload_n dX11_leave_53 rfl ?_
          refine ft_iconst (v := 1) dX11_leave_54 rfl ?_
          refine ft_iload_n dX11_leave_55 rfl ?_
          refine ft_iload_n dX11_leave_56 rfl ?_
          refine ft_aload_n dX11_leave_57 rfl ?_
          refine ft_getI fl_X11_26 rfl (sh_78) (by decide) dX11_leave_58 ?_
          obtain ⟨r61, I61, hc61, hf⟩ := fq_bs hf
          refine ft_V4i cf_X11_299 (sh_78) (t_X11_worthOf hc61) (Nat.le_of_ble_eq_true rfl) dX11_leave_61 (fun r' J P' q => ?_)
          obtain ⟨rfl, rfl, rfl⟩ := q
          refine fk_if_ne (tgt := 71) dX11_leave_64 (by decide) hf (fun hf => ?_) (fun hf => ?_)
          · exact ft_forget (by simp [fc_le, fc_st1, fc_st2, fc_kill]) (t_X11_leave_71  hk2  _ _ hf)
          · refine ft_iconst (v := 1) dX11_leave_67 rfl ?_
            refine ft_goto (tgt := 72) dX11_leave_68 (by decide) ?_
            exact ft_forget (by simp [fc_le, fc_st1, fc_st2, fc_kill]) (t_X11_leave_72  hk2  _ _ _ hf)
set_option maxHeartbeats 4000000 in
set_option maxRecDepth 100000 in
theorem t_X11_leave {d : Nat} {v : Nat} {J : fc_I} {I : fc_I} {x1 : Int32} (hf : f_X11_leave I x1 = some J) : fc_Cv X11_leave (d + 2) [.ref 78, .int x1] fc_SH I (fc_PT v) (fun I' P' => I' = J ∧ P' = (fc_PT v)) := by
  unfold f_X11_leave at hf
  refine fc_Cv.of (ls := [some (.ref 78), some (.int x1), none, none, none, none]) ⟨rfl, rfl⟩ (Nat.le_of_ble_eq_true rfl) rfl ?_
  refine ft_iconst (v := 0) dX11_leave_0 rfl ?_
  refine ft_istore_n dX11_leave_1 (by decide) ?_
  exact ft_forget (by simp [fc_le, fc_st1, fc_st2, fc_kill]) (t_X11_leave_2   _ _ _ hf)
def f_X11_canTake_116 (I : fc_I) (x1 : Int32) (x4 : Int32) (x5 : Int32) (x6 : Int32) : Option Int32 :=
if x5.toInt = 1 then (
if x6.toInt = 0 then (
fq_g 14 x1 (
some (I 91 (cn x1))))
else (
fq_g 14 x1 (
some ((2 : Int32) * (I 91 (cn x1))))))
else if x5.toInt = 2 then (
if (40 : Int32).toInt < x4.toInt then (
some 0)
else (
fq_g 14 x1 (
some (I 91 (cn x1)))))
else if x5.toInt = 3 then (
if x6.toInt = 0 then (
fq_g 14 x1 (
some (I 91 (cn x1))))
else (
fq_g 14 x1 (
some ((2 : Int32) * (I 91 (cn x1))))))
else if x5.toInt = 4 then (
if (40 : Int32).toInt < x4.toInt then (
some 0)
else (
if (20 : Int32).toInt < x4.toInt then (
fq_g 14 x1 (
some ((I 91 (cn x1)) / 2)))
else (
fq_g 14 x1 (
some (I 91 (cn x1))))))
else if x5.toInt = 5 then (
fq_g 14 x1 (
some ((I 91 (cn x1)) / 3)))
else (
fq_g 14 x1 (
some (I 91 (cn x1))))
def f_X11_canTake_79 (I : fc_I) (x1 : Int32) (x3 : Int32) (x4 : Int32) (x5 : Int32) (s0 : Int32) : Option Int32 :=
if s0.toInt = 0 then (
f_X11_canTake_116 I  x1 x4 x5 s0)
else (
fq_g 14 x1 (
if x3.toInt = (I 92 (cn x1)).toInt then (
some 0)
else (
if x5.toInt = (3 : Int32).toInt then (
fq_g 14 x1 (
if x3.toInt = ((I 92 (cn x1)) + 1).toInt then (
some 0)
else (
f_X11_canTake_116 I  x1 x4 x5 s0)))
else (
f_X11_canTake_116 I  x1 x4 x5 s0))))
def f_X11_canTake_43 (I : fc_I) (x1 : Int32) (x2 : Int32) (x3 : Int32) : Option Int32 :=
fq_g 183 (((61 : Int32) * x2) + x3) (
fq_l ((I 107 (cn (((61 : Int32) * x2) + x3)))) fun y54 =>
fq_g 14 x1 (
fq_l ((I 88 (cn x1))) fun y62 =>
fq_g 14 x1 (
if (I 92 (cn x1)).toInt = ((-1) : Int32).toInt then (
f_X11_canTake_79 I  x1 x3 y54 y62 0)
else (
f_X11_canTake_79 I  x1 x3 y54 y62 1))))
def f_X11_canTake (I : fc_I) (x1 : Int32) (x2 : Int32) (x3 : Int32) : Option Int32 :=
fq_g 14 x1 (
fq_v (f_X11_isWet I (I 89 (cn x1)) x2 x3) fun r9 =>
if r9.toInt = 0 then (
fq_g 14 x1 (
if (I 90 (cn x1)).toInt < (6 : Int32).toInt then (
fq_g 14 x1 (
fq_v (f_X11_isWet I (I 90 (cn x1)) x2 x3) fun r35 =>
if r35.toInt = 0 then (
f_X11_canTake_43 I  x1 x2 x3)
else (
some 0)))
else (
f_X11_canTake_43 I  x1 x2 x3)))
else (
some 0))
set_option maxHeartbeats 4000000 in
set_option maxRecDepth 100000 in
theorem t_X11_canTake_116 {d : Nat} {v : Nat} {r : Int32} {I : fc_I} : ∀ (x1 : Int32) (x4 : Int32) (x5 : Int32) (x6 : Int32) , f_X11_canTake_116 I  x1 x4 x5 x6 = some r → fc_T X11_canTake (d + 1) 0 0 116 [some (.ref 78), some (.int x1), none, none, some (.int x4), some (.int x5), some (.int x6)] [] fc_SH I (fc_PT v) (fc_Qi fc_SH (fun r' I' P' => r' = r ∧ I' = I ∧ P' = (fc_PT v))) := by
  intro x1 x4 x5 x6 hf
  unfold f_X11_canTake_116 at hf
  refine ft_iload dX11_canTake_116 rfl ?_
  rcases fq_is hf with ⟨e_118_0, hf⟩ | ⟨e_118_0, hf⟩
  · refine ft_tsIn (tgt := 152) dX11_canTake_118 (by rw [e_118_0]; decide) (by rw [e_118_0]; decide) (by rw [e_118_0]; rfl) (by decide) ?_
    refine ft_iload dX11_canTake_152 rfl ?_
    refine fk_if_eq (tgt := 168) dX11_canTake_154 (by decide) hf (fun hf => ?_) (fun hf => ?_)
    · refine ft_aload_n dX11_canTake_168 rfl ?_
      refine ft_getR fl_X11_65 rfl (sh_78) (by decide) pt_78_17 dX11_canTake_169 ?_
      refine ft_iload_n dX11_canTake_172 rfl ?_
      refine fk_iald (sh_91) hf dX11_canTake_173 (fun hf => ?_)
      exact fk_retp hf dX11_canTake_174 rfl rfl
    · refine ft_iconst (v := 2) dX11_canTake_157 rfl ?_
      refine ft_aload_n dX11_canTake_158 rfl ?_
      refine ft_getR fl_X11_65 rfl (sh_78) (by decide) pt_78_17 dX11_canTake_159 ?_
      refine ft_iload_n dX11_canTake_162 rfl ?_
      refine fk_iald (sh_91) hf dX11_canTake_163 (fun hf => ?_)
      refine ft_imul dX11_canTake_164 ?_
      refine ft_goto (tgt := 174) dX11_canTake_165 (by decide) ?_
      exact fk_retp hf dX11_canTake_174 rfl rfl
  rcases fq_is hf with ⟨e_118_1, hf⟩ | ⟨e_118_1, hf⟩
  · refine ft_tsIn (tgt := 175) dX11_canTake_118 (by rw [e_118_1]; decide) (by rw [e_118_1]; decide) (by rw [e_118_1]; rfl) (by decide) ?_
    refine ft_iload dX11_canTake_175 rfl ?_
    refine ft_bipush (v := 40) dX11_canTake_177 rfl ?_
    refine fk_icmp_le (tgt := 186) dX11_canTake_179 (by decide) hf (fun hf => ?_) (fun hf => ?_)
    · refine ft_aload_n dX11_canTake_186 rfl ?_
      refine ft_getR fl_X11_65 rfl (sh_78) (by decide) pt_78_17 dX11_canTake_187 ?_
      refine ft_iload_n dX11_canTake_190 rfl ?_
      refine fk_iald (sh_91) hf dX11_canTake_191 (fun hf => ?_)
      exact fk_retp hf dX11_canTake_192 rfl rfl
    · refine ft_iconst (v := 0) dX11_canTake_182 rfl ?_
      refine ft_goto (tgt := 192) dX11_canTake_183 (by decide) ?_
      exact fk_retp hf dX11_canTake_192 rfl rfl
  rcases fq_is hf with ⟨e_118_2, hf⟩ | ⟨e_118_2, hf⟩
  · refine ft_tsIn (tgt := 152) dX11_canTake_118 (by rw [e_118_2]; decide) (by rw [e_118_2]; decide) (by rw [e_118_2]; rfl) (by decide) ?_
    refine ft_iload dX11_canTake_152 rfl ?_
    refine fk_if_eq (tgt := 168) dX11_canTake_154 (by decide) hf (fun hf => ?_) (fun hf => ?_)
    · refine ft_aload_n dX11_canTake_168 rfl ?_
      refine ft_getR fl_X11_65 rfl (sh_78) (by decide) pt_78_17 dX11_canTake_169 ?_
      refine ft_iload_n dX11_canTake_172 rfl ?_
      refine fk_iald (sh_91) hf dX11_canTake_173 (fun hf => ?_)
      exact fk_retp hf dX11_canTake_174 rfl rfl
    · refine ft_iconst (v := 2) dX11_canTake_157 rfl ?_
      refine ft_aload_n dX11_canTake_158 rfl ?_
      refine ft_getR fl_X11_65 rfl (sh_78) (by decide) pt_78_17 dX11_canTake_159 ?_
      refine ft_iload_n dX11_canTake_162 rfl ?_
      refine fk_iald (sh_91) hf dX11_canTake_163 (fun hf => ?_)
      refine ft_imul dX11_canTake_164 ?_
      refine ft_goto (tgt := 174) dX11_canTake_165 (by decide) ?_
      exact fk_retp hf dX11_canTake_174 rfl rfl
  rcases fq_is hf with ⟨e_118_3, hf⟩ | ⟨e_118_3, hf⟩
  · refine ft_tsIn (tgt := 193) dX11_canTake_118 (by rw [e_118_3]; decide) (by rw [e_118_3]; decide) (by rw [e_118_3]; rfl) (by decide) ?_
    refine ft_iload dX11_canTake_193 rfl ?_
    refine ft_bipush (v := 40) dX11_canTake_195 rfl ?_
    refine fk_icmp_le (tgt := 204) dX11_canTake_197 (by decide) hf (fun hf => ?_) (fun hf => ?_)
    · refine ft_iload dX11_canTake_204 rfl ?_
      refine ft_bipush (v := 20) dX11_canTake_206 rfl ?_
      refine fk_icmp_le (tgt := 222) dX11_canTake_208 (by decide) hf (fun hf => ?_) (fun hf => ?_)
      · refine ft_aload_n dX11_canTake_222 rfl ?_
        refine ft_getR fl_X11_65 rfl (sh_78) (by decide) pt_78_17 dX11_canTake_223 ?_
        refine ft_iload_n dX11_canTake_226 rfl ?_
        refine fk_iald (sh_91) hf dX11_canTake_227 (fun hf => ?_)
        exact fk_retp hf dX11_canTake_228 rfl rfl
      · refine ft_aload_n dX11_canTake_211 rfl ?_
        refine ft_getR fl_X11_65 rfl (sh_78) (by decide) pt_78_17 dX11_canTake_212 ?_
        refine ft_iload_n dX11_canTake_215 rfl ?_
        refine fk_iald (sh_91) hf dX11_canTake_216 (fun hf => ?_)
        refine ft_iconst (v := 2) dX11_canTake_217 rfl ?_
        refine ft_idiv dX11_canTake_218 (by decide) ?_
        refine ft_goto (tgt := 228) dX11_canTake_219 (by decide) ?_
        exact fk_retp hf dX11_canTake_228 rfl rfl
    · refine ft_iconst (v := 0) dX11_canTake_200 rfl ?_
      refine ft_goto (tgt := 228) dX11_canTake_201 (by decide) ?_
      exact fk_retp hf dX11_canTake_228 rfl rfl
  rcases fq_is hf with ⟨e_118_4, hf⟩ | ⟨e_118_4, hf⟩
  · refine ft_tsIn (tgt := 229) dX11_canTake_118 (by rw [e_118_4]; decide) (by rw [e_118_4]; decide) (by rw [e_118_4]; rfl) (by decide) ?_
    refine ft_aload_n dX11_canTake_229 rfl ?_
    refine ft_getR fl_X11_65 rfl (sh_78) (by decide) pt_78_17 dX11_canTake_230 ?_
    refine ft_iload_n dX11_canTake_233 rfl ?_
    refine fk_iald (sh_91) hf dX11_canTake_234 (fun hf => ?_)
    refine ft_iconst (v := 3) dX11_canTake_235 rfl ?_
    refine ft_idiv dX11_canTake_236 (by decide) ?_
    exact fk_retp hf dX11_canTake_237 rfl rfl
  refine ft_tsOut (tgt := 238) dX11_canTake_118 (by omega) (by decide) ?_
  refine ft_aload_n dX11_canTake_238 rfl ?_
  refine ft_getR fl_X11_65 rfl (sh_78) (by decide) pt_78_17 dX11_canTake_239 ?_
  refine ft_iload_n dX11_canTake_242 rfl ?_
  refine fk_iald (sh_91) hf dX11_canTake_243 (fun hf => ?_)
  exact fk_retp hf dX11_canTake_244 rfl rfl
set_option maxHeartbeats 4000000 in
set_option maxRecDepth 100000 in
theorem t_X11_canTake_79 {d : Nat} {v : Nat} {r : Int32} {I : fc_I} : ∀ (x1 : Int32) (x3 : Int32) (x4 : Int32) (x5 : Int32) (s0 : Int32) , f_X11_canTake_79 I  x1 x3 x4 x5 s0 = some r → fc_T X11_canTake (d + 1) 0 0 79 [some (.ref 78), some (.int x1), none, some (.int x3), some (.int x4), some (.int x5), none] [.int s0] fc_SH I (fc_PT v) (fc_Qi fc_SH (fun r' I' P' => r' = r ∧ I' = I ∧ P' = (fc_PT v))) := by
  intro x1 x3 x4 x5 s0 hf
  unfold f_X11_canTake_79 at hf
  refine ft_istore dX11_canTake_79 (by decide) ?_
  refine ft_iload dX11_canTake_81 rfl ?_
  refine fk_if_eq (tgt := 116) dX11_canTake_83 (by decide) hf (fun hf => ?_) (fun hf => ?_)
  · exact ft_forget (by simp [fc_le, fc_st1, fc_st2, fc_kill]) (t_X11_canTake_116    _ _ _ _ hf)
  · refine ft_iload_n dX11_canTake_86 rfl ?_
    refine ft_aload_n dX11_canTake_87 rfl ?_
    refine ft_getR fl_X11_68 rfl (sh_78) (by decide) pt_78_18 dX11_canTake_88 ?_
    refine ft_iload_n dX11_canTake_91 rfl ?_
    refine fk_iald (sh_92) hf dX11_canTake_92 (fun hf => ?_)
    refine fk_icmp_eq (tgt := 114) dX11_canTake_93 (by decide) hf (fun hf => ?_) (fun hf => ?_)
    · refine ft_iconst (v := 0) dX11_canTake_114 rfl ?_
      exact fk_retp hf dX11_canTake_115 rfl rfl
    · refine ft_iload dX11_canTake_96 rfl ?_
      refine ft_iconst (v := 3) dX11_canTake_98 rfl ?_
      refine fk_icmp_ne (tgt := 116) dX11_canTake_99 (by decide) hf (fun hf => ?_) (fun hf => ?_)
      · exact ft_forget (by simp [fc_le, fc_st1, fc_st2, fc_kill]) (t_X11_canTake_116    _ _ _ _ hf)
      · refine ft_iload_n dX11_canTake_102 rfl ?_
        refine ft_aload_n dX11_canTake_103 rfl ?_
        refine ft_getR fl_X11_68 rfl (sh_78) (by decide) pt_78_18 dX11_canTake_104 ?_
        refine ft_iload_n dX11_canTake_107 rfl ?_
        refine fk_iald (sh_92) hf dX11_canTake_108 (fun hf => ?_)
        refine ft_iconst (v := 1) dX11_canTake_109 rfl ?_
        refine ft_iadd dX11_canTake_110 ?_
        refine fk_icmp_ne (tgt := 116) dX11_canTake_111 (by decide) hf (fun hf => ?_) (fun hf => ?_)
        · exact ft_forget (by simp [fc_le, fc_st1, fc_st2, fc_kill]) (t_X11_canTake_116    _ _ _ _ hf)
        · refine ft_iconst (v := 0) dX11_canTake_114 rfl ?_
          exact fk_retp hf dX11_canTake_115 rfl rfl
set_option maxHeartbeats 4000000 in
set_option maxRecDepth 100000 in
theorem t_X11_canTake_43 {d : Nat} {v : Nat} {r : Int32} {I : fc_I} : ∀ (x1 : Int32) (x2 : Int32) (x3 : Int32) , f_X11_canTake_43 I  x1 x2 x3 = some r → fc_T X11_canTake (d + 1) 0 0 43 [some (.ref 78), some (.int x1), some (.int x2), some (.int x3), none, none, none] [] fc_SH I (fc_PT v) (fc_Qi fc_SH (fun r' I' P' => r' = r ∧ I' = I ∧ P' = (fc_PT v))) := by
  intro x1 x2 x3 hf
  unfold f_X11_canTake_43 at hf
  refine ft_aload_n dX11_canTake_43 rfl ?_
  refine ft_getR fl_X11_168 rfl (sh_78) (by decide) pt_78_37 dX11_canTake_44 ?_
  refine ft_bipush (v := 61) dX11_canTake_47 rfl ?_
  refine ft_iload_n dX11_canTake_49 rfl ?_
  refine ft_imul dX11_canTake_50 ?_
  refine ft_iload_n dX11_canTake_51 rfl ?_
  refine ft_iadd dX11_canTake_52 ?_
  refine fk_iald (sh_107) hf dX11_canTake_53 (fun hf => ?_)
  refine ft_istore dX11_canTake_54 (by decide) ?_
  refine ft_aload_n dX11_canTake_56 rfl ?_
  refine ft_getR fl_X11_56 rfl (sh_78) (by decide) pt_78_14 dX11_canTake_57 ?_
  refine ft_iload_n dX11_canTake_60 rfl ?_
  refine fk_iald (sh_88) hf dX11_canTake_61 (fun hf => ?_)
  refine ft_istore dX11_canTake_62 (by decide) ?_
  refine ft_aload_n dX11_canTake_64 rfl ?_
  refine ft_getR fl_X11_68 rfl (sh_78) (by decide) pt_78_18 dX11_canTake_65 ?_
  refine ft_iload_n dX11_canTake_68 rfl ?_
  refine fk_iald (sh_92) hf dX11_canTake_69 (fun hf => ?_)
  refine ft_iconst (v := (-1)) dX11_canTake_70 rfl ?_
  refine fk_icmp_eq (tgt := 78) dX11_canTake_71 (by decide) hf (fun hf => ?_) (fun hf => ?_)
  · refine ft_iconst (v := 0) dX11_canTake_78 rfl ?_
    exact ft_forget (by simp [fc_le, fc_st1, fc_st2, fc_kill]) (t_X11_canTake_79    _ _ _ _ _ hf)
  · refine ft_iconst (v := 1) dX11_canTake_74 rfl ?_
    refine ft_goto (tgt := 79) dX11_canTake_75 (by decide) ?_
    exact ft_forget (by simp [fc_le, fc_st1, fc_st2, fc_kill]) (t_X11_canTake_79    _ _ _ _ _ hf)
set_option maxHeartbeats 4000000 in
set_option maxRecDepth 100000 in
theorem t_X11_canTake {d : Nat} {v : Nat} {r : Int32} {I : fc_I} {x1 : Int32} {x2 : Int32} {x3 : Int32} (hf : f_X11_canTake I x1 x2 x3 = some r) : fc_Cp X11_canTake (d + 1) [.ref 78, .int x1, .int x2, .int x3] fc_SH I (fc_PT v) r := by
  unfold f_X11_canTake at hf
  refine fc_Cp.of (ls := [some (.ref 78), some (.int x1), some (.int x2), some (.int x3), none, none, none]) ⟨rfl, rfl⟩ (Nat.le_of_ble_eq_true rfl) rfl ?_
  refine ft_aload_n dX11_canTake_0 rfl ?_
  refine ft_aload_n dX11_canTake_1 rfl ?_
  refine ft_getR fl_X11_59 rfl (sh_78) (by decide) pt_78_15 dX11_canTake_2 ?_
  refine ft_iload_n dX11_canTake_5 rfl ?_
  refine fk_iald (sh_89) hf dX11_canTake_6 (fun hf => ?_)
  refine ft_iload_n dX11_canTake_7 rfl ?_
  refine ft_iload_n dX11_canTake_8 rfl ?_
  obtain ⟨r9, hc9, hf⟩ := fq_vs hf
  refine ft_V3p cf_X11_102 (sh_78) (t_X11_isWet hc9) (Nat.le_of_ble_eq_true rfl) dX11_canTake_9 ?_
  refine fk_if_ne (tgt := 41) dX11_canTake_12 (by decide) hf (fun hf => ?_) (fun hf => ?_)
  · refine ft_iconst (v := 0) dX11_canTake_41 rfl ?_
    exact fk_retp hf dX11_canTake_42 rfl rfl
  · refine ft_aload_n dX11_canTake_15 rfl ?_
    refine ft_getR fl_X11_62 rfl (sh_78) (by decide) pt_78_16 dX11_canTake_16 ?_
    refine ft_iload_n dX11_canTake_19 rfl ?_
    refine fk_iald (sh_90) hf dX11_canTake_20 (fun hf => ?_)
    refine ft_bipush (v := 6) dX11_canTake_21 rfl ?_
    refine fk_icmp_ge (tgt := 43) dX11_canTake_23 (by decide) hf (fun hf => ?_) (fun hf => ?_)
    · exact ft_forget (by simp [fc_le, fc_st1, fc_st2, fc_kill]) (t_X11_canTake_43    _ _ _ hf)
    · refine ft_aload_n dX11_canTake_26 rfl ?_
      refine ft_aload_n dX11_canTake_27 rfl ?_
      refine ft_getR fl_X11_62 rfl (sh_78) (by decide) pt_78_16 dX11_canTake_28 ?_
      refine ft_iload_n dX11_canTake_31 rfl ?_
      refine fk_iald (sh_90) hf dX11_canTake_32 (fun hf => ?_)
      refine ft_iload_n dX11_canTake_33 rfl ?_
      refine ft_iload_n dX11_canTake_34 rfl ?_
      obtain ⟨r35, hc35, hf⟩ := fq_vs hf
      refine ft_V3p cf_X11_102 (sh_78) (t_X11_isWet hc35) (Nat.le_of_ble_eq_true rfl) dX11_canTake_35 ?_
      refine fk_if_eq (tgt := 43) dX11_canTake_38 (by decide) hf (fun hf => ?_) (fun hf => ?_)
      · exact ft_forget (by simp [fc_le, fc_st1, fc_st2, fc_kill]) (t_X11_canTake_43    _ _ _ hf)
      · refine ft_iconst (v := 0) dX11_canTake_41 rfl ?_
        exact fk_retp hf dX11_canTake_42 rfl rfl
def f_X11_roomLeft (I : fc_I) (x1 : Int32) : Option Int32 :=
fq_g 3 x1 (
fq_g 3 x1 (
fq_g 3 x1 (
some (((I 85 (cn x1)) - (I 86 (cn x1))) - (I 87 (cn x1))))))
set_option maxHeartbeats 4000000 in
set_option maxRecDepth 100000 in
theorem t_X11_roomLeft {d : Nat} {v : Nat} {r : Int32} {I : fc_I} {x1 : Int32} (hf : f_X11_roomLeft I x1 = some r) : fc_Cp X11_roomLeft d [.ref 78, .int x1] fc_SH I (fc_PT v) r := by
  unfold f_X11_roomLeft at hf
  refine fc_Cp.of (ls := [some (.ref 78), some (.int x1)]) ⟨rfl, rfl⟩ (Nat.le_of_ble_eq_true rfl) rfl ?_
  refine ft_aload_n dX11_roomLeft_0 rfl ?_
  refine ft_getR fl_X11_39 rfl (sh_78) (by decide) pt_78_10 dX11_roomLeft_1 ?_
  refine ft_iload_n dX11_roomLeft_4 rfl ?_
  refine fk_iald (sh_85) hf dX11_roomLeft_5 (fun hf => ?_)
  refine ft_aload_n dX11_roomLeft_6 rfl ?_
  refine ft_getR fl_X11_106 rfl (sh_78) (by decide) pt_78_11 dX11_roomLeft_7 ?_
  refine ft_iload_n dX11_roomLeft_10 rfl ?_
  refine fk_iald (sh_86) hf dX11_roomLeft_11 (fun hf => ?_)
  refine ft_isub dX11_roomLeft_12 ?_
  refine ft_aload_n dX11_roomLeft_13 rfl ?_
  refine ft_getR fl_X11_109 rfl (sh_78) (by decide) pt_78_12 dX11_roomLeft_14 ?_
  refine ft_iload_n dX11_roomLeft_17 rfl ?_
  refine fk_iald (sh_87) hf dX11_roomLeft_18 (fun hf => ?_)
  refine ft_isub dX11_roomLeft_19 ?_
  exact fk_retp hf dX11_roomLeft_20 rfl rfl
def f_X11_move_176_B (k176 : Int32 → fc_I → Option fc_I) (x2 : Int32) (I : fc_I) : Option fc_I :=
if x2.toInt < (I 78 2).toInt then (
fq_g 6 x2 (
fq_g 6 x2 (
fq_g 6 x2 (fq_l (fc_wI I 81 (cn x2) ((I 81 (cn x2)) + (I 116 (cn x2)))) fun I198 =>
fq_l (x2 + 1) fun y199 =>
k176 y199 I198))))
else (
some I)
def f_X11_move_176 (n : Nat) : Int32 → fc_I → Option fc_I := lpm1 (f_X11_move_176_B ) n
def f_X11_move_114 (x1 : Int32) (k2 : Int32 → fc_I → Option fc_I) (x2 : Int32) (x3 : Int32) (I : fc_I) : Option fc_I :=
fq_g 14 x2 (
if (I 90 (cn x2)).toInt = (20 : Int32).toInt then (
fq_l (fc_wI I 78 26 ((I 78 26) + x3)) fun I132 =>
fq_g 14 x2 (
fq_g 6 (I132 89 (cn x2)) (
fq_g 6 (I132 89 (cn x2)) (fq_l (fc_wI I132 81 (cn (I132 89 (cn x2))) ((I132 81 (cn (I132 89 (cn x2)))) - x3)) fun I167 =>
fq_l (x2 + 1) fun y168 =>
k2 y168 I167))))
else (
fq_g 14 x2 (
fq_g 6 (I 90 (cn x2)) (
fq_g 6 (I 90 (cn x2)) (fq_l (fc_wI I 116 (cn (I 90 (cn x2))) ((I 116 (cn (I 90 (cn x2)))) + x3)) fun I152 =>
fq_g 14 x2 (
fq_g 6 (I152 89 (cn x2)) (
fq_g 6 (I152 89 (cn x2)) (fq_l (fc_wI I152 81 (cn (I152 89 (cn x2))) ((I152 81 (cn (I152 89 (cn x2)))) - x3)) fun I167 =>
fq_l (x2 + 1) fun y168 =>
k2 y168 I167))))))))
def f_X11_move_2_B (x1 : Int32) (k2 : Int32 → fc_I → Option fc_I) (x2 : Int32) (I : fc_I) : Option fc_I :=
if x2.toInt < (I 78 13).toInt then (
fq_g 14 x2 (
fq_g 6 (I 89 (cn x2)) (
if (I 84 (cn (I 89 (cn x2)))).toInt = x2.toInt then (
fq_v (f_X11_canTake I x2 x1 (I 78 0)) fun r35 =>
fq_g 14 x2 (
fq_g 6 (I 89 (cn x2)) (
fq_l ((imin r35 (I 81 (cn (I 89 (cn x2)))))) fun y52 =>
fq_g 14 x2 (
if (I 90 (cn x2)).toInt < (10 : Int32).toInt then (
f_X11_move_114 x1 k2 x2 y52 I)
else (
fq_g 14 x2 (
if (I 90 (cn x2)).toInt < (20 : Int32).toInt then (
fq_g 14 x2 (
fq_v (f_X11_roomLeft I ((I 90 (cn x2)) - 10)) fun r86 =>
fq_l ((imin y52 r86)) fun y92 =>
fq_g 14 x2 (
fq_g 3 ((I 90 (cn x2)) - 10) (
fq_g 3 ((I 90 (cn x2)) - 10) (fq_l (fc_wI I 86 (cn ((I 90 (cn x2)) - 10)) ((I 86 (cn ((I 90 (cn x2)) - 10))) + y92)) fun I110 =>
fq_g 14 x2 (
fq_g 6 (I110 89 (cn x2)) (
fq_g 6 (I110 89 (cn x2)) (fq_l (fc_wI I110 81 (cn (I110 89 (cn x2))) ((I110 81 (cn (I110 89 (cn x2)))) - y92)) fun I167 =>
fq_l (x2 + 1) fun y168 =>
k2 y168 I167))))))))
else (
f_X11_move_114 x1 k2 x2 y52 I)))))))
else (
fq_l (x2 + 1) fun y168 =>
k2 y168 I))))
else (
f_X11_move_176  4000 0 I)
def f_X11_move_2 (x1 : Int32) (n : Nat) : Int32 → fc_I → Option fc_I := lpm1 (f_X11_move_2_B x1 ) n
def f_X11_move (I : fc_I) (x1 : Int32) : Option fc_I :=
f_X11_move_2 x1 4000 0 I
set_option maxHeartbeats 4000000 in
set_option maxRecDepth 100000 in
theorem t_X11_move_176 {d : Nat} {v : Nat} {J : fc_I} : ∀ (n : Nat) (x2 : Int32) (I : fc_I) , f_X11_move_176 n x2 I = some J → fc_T X11_move (d + 2) 0 0 176 [some (.ref 78), none, some (.int x2), none] [] fc_SH I (fc_PT v) (fc_Qv fc_SH (fun I' P' => I' = J ∧ P' = (fc_PT v))) := by
  unfold f_X11_move_176
  refine lpm1_T (fun k176 hk176 x2 I hf => ?_)
  unfold f_X11_move_176_B at hf
  refine ft_iload_n dX11_move_176 rfl ?_
  refine ft_aload_n dX11_move_177 rfl ?_
  refine ft_getI fl_X11_1 rfl (sh_78) (by decide) dX11_move_178 ?_
  refine fk_icmp_ge (tgt := 205) dX11_move_181 (by decide) hf (fun hf => ?_) (fun hf => ?_)
  · exact fk_retv hf dX11_move_205 rfl
  · refine ft_aload_n dX11_move_184 rfl ?_
    refine ft_getR fl_X11_93 rfl (sh_78) (by decide) pt_78_5 dX11_move_185 ?_
    refine ft_iload_n dX11_move_188 rfl ?_
    refine ft_dup2 dX11_move_189 rfl rfl ?_
    refine fk_iald (sh_81) hf dX11_move_190 (fun hf => ?_)
    refine ft_aload_n dX11_move_191 rfl ?_
    refine ft_getR fl_X11_309 rfl (sh_78) (by decide) pt_78_58 dX11_move_192 ?_
    refine ft_iload_n dX11_move_195 rfl ?_
    refine fk_iald (sh_116) hf dX11_move_196 (fun hf => ?_)
    refine ft_iadd dX11_move_197 ?_
    refine fk_iast (sh_81) hf dX11_move_198 (fun hf => ?_)
    refine fk_iinc (c := 1) dX11_move_199 rfl (by decide) rfl ?_
    refine ft_goto (tgt := 176) dX11_move_202 (by decide) ?_
    exact ft_forget (by simp [fc_le, fc_st1, fc_st2, fc_kill]) (hk176 _ _ hf)
set_option maxHeartbeats 4000000 in
set_option maxRecDepth 100000 in
theorem t_X11_move_114 {d : Nat} {v : Nat} {J : fc_I} {x1 : Int32} {k2 : Int32 → fc_I → Option fc_I} (hk2 : ∀ (x2 : Int32) (I : fc_I), k2 x2 I = some J → fc_T X11_move (d + 2) 0 0 2 [some (.ref 78), some (.int x1), some (.int x2), none] [] fc_SH I (fc_PT v) (fc_Qv fc_SH (fun I' P' => I' = J ∧ P' = (fc_PT v)))) : ∀ (x2 : Int32) (x3 : Int32) (I : fc_I) , f_X11_move_114 x1 k2  x2 x3 I = some J → fc_T X11_move (d + 2) 0 0 114 [some (.ref 78), some (.int x1), some (.int x2), some (.int x3)] [] fc_SH I (fc_PT v) (fc_Qv fc_SH (fun I' P' => I' = J ∧ P' = (fc_PT v))) := by
  intro x2 x3 I hf
  unfold f_X11_move_114 at hf
  refine ft_aload_n dX11_move_114 rfl ?_
  refine ft_getR fl_X11_62 rfl (sh_78) (by decide) pt_78_16 dX11_move_115 ?_
  refine ft_iload_n dX11_move_118 rfl ?_
  refine fk_iald (sh_90) hf dX11_move_119 (fun hf => ?_)
  refine ft_bipush (v := 20) dX11_move_120 rfl ?_
  refine fk_icmp_ne (tgt := 138) dX11_move_122 (by decide) hf (fun hf => ?_) (fun hf => ?_)
  · refine ft_aload_n dX11_move_138 rfl ?_
    refine ft_getR fl_X11_309 rfl (sh_78) (by decide) pt_78_58 dX11_move_139 ?_
    refine ft_aload_n dX11_move_142 rfl ?_
    refine ft_getR fl_X11_62 rfl (sh_78) (by decide) pt_78_16 dX11_move_143 ?_
    refine ft_iload_n dX11_move_146 rfl ?_
    refine fk_iald (sh_90) hf dX11_move_147 (fun hf => ?_)
    refine ft_dup2 dX11_move_148 rfl rfl ?_
    refine fk_iald (sh_116) hf dX11_move_149 (fun hf => ?_)
    refine ft_iload_n dX11_move_150 rfl ?_
    refine ft_iadd dX11_move_151 ?_
    refine fk_iast (sh_116) hf dX11_move_152 (fun hf => ?_)
    refine ft_aload_n dX11_move_153 rfl ?_
    refine ft_getR fl_X11_93 rfl (sh_78) (by decide) pt_78_5 dX11_move_154 ?_
    refine ft_aload_n dX11_move_157 rfl ?_
    refine ft_getR fl_X11_59 rfl (sh_78) (by decide) pt_78_15 dX11_move_158 ?_
    refine ft_iload_n dX11_move_161 rfl ?_
    refine fk_iald (sh_89) hf dX11_move_162 (fun hf => ?_)
    refine ft_dup2 dX11_move_163 rfl rfl ?_
    refine fk_iald (sh_81) hf dX11_move_164 (fun hf => ?_)
    refine ft_iload_n dX11_move_165 rfl ?_
    refine ft_isub dX11_move_166 ?_
    refine fk_iast (sh_81) hf dX11_move_167 (fun hf => ?_)
    refine fk_iinc (c := 1) dX11_move_168 rfl (by decide) rfl ?_
    refine ft_goto (tgt := 2) dX11_move_171 (by decide) ?_
    exact ft_forget (by simp [fc_le, fc_st1, fc_st2, fc_kill]) (hk2 _ _ hf)
  · refine ft_aload_n dX11_move_125 rfl ?_
    refine ft_dup dX11_move_126 rfl ?_
    refine ft_getI fl_X11_366 rfl (sh_78) (by decide) dX11_move_127 ?_
    refine ft_iload_n dX11_move_130 rfl ?_
    refine ft_iadd dX11_move_131 ?_
    refine ft_putI fl_X11_366 rfl (fun q h => by cases h; rfl) (sh_78) (by decide) dX11_move_132 ?_
    refine ft_goto (tgt := 153) dX11_move_135 (by decide) ?_
    refine ft_aload_n dX11_move_153 rfl ?_
    refine ft_getR fl_X11_93 rfl (sh_78) (by decide) pt_78_5 dX11_move_154 ?_
    refine ft_aload_n dX11_move_157 rfl ?_
    refine ft_getR fl_X11_59 rfl (sh_78) (by decide) pt_78_15 dX11_move_158 ?_
    refine ft_iload_n dX11_move_161 rfl ?_
    refine fk_iald (sh_89) hf dX11_move_162 (fun hf => ?_)
    refine ft_dup2 dX11_move_163 rfl rfl ?_
    refine fk_iald (sh_81) hf dX11_move_164 (fun hf => ?_)
    refine ft_iload_n dX11_move_165 rfl ?_
    refine ft_isub dX11_move_166 ?_
    refine fk_iast (sh_81) hf dX11_move_167 (fun hf => ?_)
    refine fk_iinc (c := 1) dX11_move_168 rfl (by decide) rfl ?_
    refine ft_goto (tgt := 2) dX11_move_171 (by decide) ?_
    exact ft_forget (by simp [fc_le, fc_st1, fc_st2, fc_kill]) (hk2 _ _ hf)
set_option maxHeartbeats 4000000 in
set_option maxRecDepth 100000 in
theorem t_X11_move_2 {d : Nat} {v : Nat} {J : fc_I} {x1 : Int32} : ∀ (n : Nat) (x2 : Int32) (I : fc_I) , f_X11_move_2 x1 n x2 I = some J → fc_T X11_move (d + 2) 0 0 2 [some (.ref 78), some (.int x1), some (.int x2), none] [] fc_SH I (fc_PT v) (fc_Qv fc_SH (fun I' P' => I' = J ∧ P' = (fc_PT v))) := by
  unfold f_X11_move_2
  refine lpm1_T (fun k2 hk2 x2 I hf => ?_)
  unfold f_X11_move_2_B at hf
  refine ft_iload_n dX11_move_2 rfl ?_
  refine ft_aload_n dX11_move_3 rfl ?_
  refine ft_getI fl_X11_10 rfl (sh_78) (by decide) dX11_move_4 ?_
  refine fk_icmp_ge (tgt := 174) dX11_move_7 (by decide) hf (fun hf => ?_) (fun hf => ?_)
  · refine ft_iconst (v := 0) dX11_move_174 rfl ?_
    refine ft_istore_n dX11_move_175 (by decide) ?_
    exact ft_forget (by simp [fc_le, fc_st1, fc_st2, fc_kill]) (t_X11_move_176   _ _ _ hf)
  · refine ft_aload_n dX11_move_10 rfl ?_
    refine ft_getR fl_X11_74 rfl (sh_78) (by decide) pt_78_8 dX11_move_11 ?_
    refine ft_aload_n dX11_move_14 rfl ?_
    refine ft_getR fl_X11_59 rfl (sh_78) (by decide) pt_78_15 dX11_move_15 ?_
    refine ft_iload_n dX11_move_18 rfl ?_
    refine fk_iald (sh_89) hf dX11_move_19 (fun hf => ?_)
    refine fk_iald (sh_84) hf dX11_move_20 (fun hf => ?_)
    refine ft_iload_n dX11_move_21 rfl ?_
    refine fk_icmp_eq (tgt := 28) dX11_move_22 (by decide) hf (fun hf => ?_) (fun hf => ?_)
    · refine ft_aload_n dX11_move_28 rfl ?_
      refine ft_iload_n dX11_move_29 rfl ?_
      refine ft_iload_n dX11_move_30 rfl ?_
      refine ft_aload_n dX11_move_31 rfl ?_
      refine ft_getI fl_X11_26 rfl (sh_78) (by decide) dX11_move_32 ?_
      obtain ⟨r35, hc35, hf⟩ := fq_vs hf
      refine ft_V3p cf_X11_116 (sh_78) (t_X11_canTake hc35) (Nat.le_of_ble_eq_true rfl) dX11_move_35 ?_
      refine ft_aload_n dX11_move_38 rfl ?_
      refine ft_getR fl_X11_93 rfl (sh_78) (by decide) pt_78_5 dX11_move_39 ?_
      refine ft_aload_n dX11_move_42 rfl ?_
      refine ft_getR fl_X11_59 rfl (sh_78) (by decide) pt_78_15 dX11_move_43 ?_
      refine ft_iload_n dX11_move_46 rfl ?_
      refine fk_iald (sh_89) hf dX11_move_47 (fun hf => ?_)
      refine fk_iald (sh_81) hf dX11_move_48 (fun hf => ?_)
      refine ft_mmin cf_X11_357 (Nat.le_of_ble_eq_true rfl) dX11_move_49 ?_
      refine ft_istore_n dX11_move_52 (by decide) ?_
      refine ft_aload_n dX11_move_53 rfl ?_
      refine ft_getR fl_X11_62 rfl (sh_78) (by decide) pt_78_16 dX11_move_54 ?_
      refine ft_iload_n dX11_move_57 rfl ?_
      refine fk_iald (sh_90) hf dX11_move_58 (fun hf => ?_)
      refine ft_bipush (v := 10) dX11_move_59 rfl ?_
      refine fk_icmp_lt (tgt := 114) dX11_move_61 (by decide) hf (fun hf => ?_) (fun hf => ?_)
      · exact ft_forget (by simp [fc_le, fc_st1, fc_st2, fc_kill]) (t_X11_move_114  hk2  _ _ _ hf)
      · refine ft_aload_n dX11_move_64 rfl ?_
        refine ft_getR fl_X11_62 rfl (sh_78) (by decide) pt_78_16 dX11_move_65 ?_
        refine ft_iload_n dX11_move_68 rfl ?_
        refine fk_iald (sh_90) hf dX11_move_69 (fun hf => ?_)
        refine ft_bipush (v := 20) dX11_move_70 rfl ?_
        refine fk_icmp_ge (tgt := 114) dX11_move_72 (by decide) hf (fun hf => ?_) (fun hf => ?_)
        · exact ft_forget (by simp [fc_le, fc_st1, fc_st2, fc_kill]) (t_X11_move_114  hk2  _ _ _ hf)
        · refine ft_iload_n dX11_move_75 rfl ?_
          refine ft_aload_n dX11_move_76 rfl ?_
          refine ft_aload_n dX11_move_77 rfl ?_
          refine ft_getR fl_X11_62 rfl (sh_78) (by decide) pt_78_16 dX11_move_78 ?_
          refine ft_iload_n dX11_move_81 rfl ?_
          refine fk_iald (sh_90) hf dX11_move_82 (fun hf => ?_)
          refine ft_bipush (v := 10) dX11_move_83 rfl ?_
          refine ft_isub dX11_move_85 ?_
          obtain ⟨r86, hc86, hf⟩ := fq_vs hf
          refine ft_V1p cf_X11_112 (sh_78) (t_X11_roomLeft hc86) (Nat.le_of_ble_eq_true rfl) dX11_move_86 ?_
          refine ft_mmin cf_X11_357 (Nat.le_of_ble_eq_true rfl) dX11_move_89 ?_
          refine ft_istore_n dX11_move_92 (by decide) ?_
          refine ft_aload_n dX11_move_93 rfl ?_
          refine ft_getR fl_X11_106 rfl (sh_78) (by decide) pt_78_11 dX11_move_94 ?_
          refine ft_aload_n dX11_move_97 rfl ?_
          refine ft_getR fl_X11_62 rfl (sh_78) (by decide) pt_78_16 dX11_move_98 ?_
          refine ft_iload_n dX11_move_101 rfl ?_
          refine fk_iald (sh_90) hf dX11_move_102 (fun hf => ?_)
          refine ft_bipush (v := 10) dX11_move_103 rfl ?_
          refine ft_isub dX11_move_105 ?_
          refine ft_dup2 dX11_move_106 rfl rfl ?_
          refine fk_iald (sh_86) hf dX11_move_107 (fun hf => ?_)
          refine ft_iload_n dX11_move_108 rfl ?_
          refine ft_iadd dX11_move_109 ?_
          refine fk_iast (sh_86) hf dX11_move_110 (fun hf => ?_)
          refine ft_goto (tgt := 153) dX11_move_111 (by decide) ?_
          refine ft_aload_n dX11_move_153 rfl ?_
          refine ft_getR fl_X11_93 rfl (sh_78) (by decide) pt_78_5 dX11_move_154 ?_
          refine ft_aload_n dX11_move_157 rfl ?_
          refine ft_getR fl_X11_59 rfl (sh_78) (by decide) pt_78_15 dX11_move_158 ?_
          refine ft_iload_n dX11_move_161 rfl ?_
          refine fk_iald (sh_89) hf dX11_move_162 (fun hf => ?_)
          refine ft_dup2 dX11_move_163 rfl rfl ?_
          refine fk_iald (sh_81) hf dX11_move_164 (fun hf => ?_)
          refine ft_iload_n dX11_move_165 rfl ?_
          refine ft_isub dX11_move_166 ?_
          refine fk_iast (sh_81) hf dX11_move_167 (fun hf => ?_)
          refine fk_iinc (c := 1) dX11_move_168 rfl (by decide) rfl ?_
          refine ft_goto (tgt := 2) dX11_move_171 (by decide) ?_
          exact ft_forget (by simp [fc_le, fc_st1, fc_st2, fc_kill]) (hk2 _ _ hf)
    · refine ft_goto (tgt := 168) dX11_move_25 (by decide) ?_
      refine fk_iinc (c := 1) dX11_move_168 rfl (by decide) rfl ?_
      refine ft_goto (tgt := 2) dX11_move_171 (by decide) ?_
      exact ft_forget (by simp [fc_le, fc_st1, fc_st2, fc_kill]) (hk2 _ _ hf)
set_option maxHeartbeats 4000000 in
set_option maxRecDepth 100000 in
theorem t_X11_move {d : Nat} {v : Nat} {J : fc_I} {I : fc_I} {x1 : Int32} (hf : f_X11_move I x1 = some J) : fc_Cv X11_move (d + 2) [.ref 78, .int x1] fc_SH I (fc_PT v) (fun I' P' => I' = J ∧ P' = (fc_PT v)) := by
  unfold f_X11_move at hf
  refine fc_Cv.of (ls := [some (.ref 78), some (.int x1), none, none]) ⟨rfl, rfl⟩ (Nat.le_of_ble_eq_true rfl) rfl ?_
  refine ft_iconst (v := 0) dX11_move_0 rfl ?_
  refine ft_istore_n dX11_move_1 (by decide) ?_
  exact ft_forget (by simp [fc_le, fc_st1, fc_st2, fc_kill]) (t_X11_move_2   _ _ _ hf)
def f_X11_ride_2_B (x1 : Int32) (k2 : Int32 → fc_I → Option fc_I) (x2 : Int32) (I : fc_I) : Option fc_I :=
if x2.toInt < (I 78 19).toInt then (
fq_g 4 x2 (
fq_l ((I 93 (cn x2))) fun y16 =>
fq_g 4 x2 (
if (I 97 (cn x2)).toInt = ((-1) : Int32).toInt then (
fq_v (f_X11_isWet I y16 x1 (I 78 0)) fun r34 =>
if r34.toInt = 0 then (
fq_b (f_X11_worthOf I 1 y16 x1 (I 78 0)) fun r48 I48 =>
if r48.toInt = 0 then (
fq_g 6 y16 (
fq_g 4 x2 (
fq_g 4 x2 (
fq_v (f_X11_roomLeft I48 (I48 94 (cn x2))) fun r76 =>
fq_l ((imin (I48 82 (cn y16)) (imin (I48 95 (cn x2)) r76))) fun y85 =>
if 0 < y85.toInt then (
fq_g 6 y16 (
fq_g 6 y16 (fq_l (fc_wI I48 82 (cn y16) ((I48 82 (cn y16)) - y85)) fun I102 =>
fq_g 4 x2 (fq_l (fc_wI I102 98 (cn x2) y85) fun I110 =>
fq_g 4 x2 (
fq_g 3 (I110 94 (cn x2)) (
fq_g 3 (I110 94 (cn x2)) (fq_l (fc_wI I110 87 (cn (I110 94 (cn x2))) ((I110 87 (cn (I110 94 (cn x2)))) + y85)) fun I126 =>
fq_g 4 x2 (
fq_g 4 x2 (fq_l (fc_wI I126 97 (cn x2) ((I126 78 0) + (I126 96 (cn x2)))) fun I143 =>
fq_l (x2 + 1) fun y144 =>
k2 y144 I143)))))))))
else (
fq_l (x2 + 1) fun y144 =>
k2 y144 I48)))))
else (
fq_l (x2 + 1) fun y144 =>
k2 y144 I48))
else (
fq_l (x2 + 1) fun y144 =>
k2 y144 I))
else (
fq_l (x2 + 1) fun y144 =>
k2 y144 I))))
else (
some I)
def f_X11_ride_2 (x1 : Int32) (n : Nat) : Int32 → fc_I → Option fc_I := lpm1 (f_X11_ride_2_B x1 ) n
def f_X11_ride (I : fc_I) (x1 : Int32) : Option fc_I :=
f_X11_ride_2 x1 4000 0 I
set_option maxHeartbeats 4000000 in
set_option maxRecDepth 100000 in
theorem t_X11_ride_2 {d : Nat} {v : Nat} {J : fc_I} {x1 : Int32} : ∀ (n : Nat) (x2 : Int32) (I : fc_I) , f_X11_ride_2 x1 n x2 I = some J → fc_T X11_ride (d + 2) 0 0 2 [some (.ref 78), some (.int x1), some (.int x2), none, none] [] fc_SH I (fc_PT v) (fc_Qv fc_SH (fun I' P' => I' = J ∧ P' = (fc_PT v))) := by
  unfold f_X11_ride_2
  refine lpm1_T (fun k2 hk2 x2 I hf => ?_)
  unfold f_X11_ride_2_B at hf
  refine ft_iload_n dX11_ride_2 rfl ?_
  refine ft_aload_n dX11_ride_3 rfl ?_
  refine ft_getI fl_X11_13 rfl (sh_78) (by decide) dX11_ride_4 ?_
  refine fk_icmp_ge (tgt := 150) dX11_ride_7 (by decide) hf (fun hf => ?_) (fun hf => ?_)
  · exact fk_retv hf dX11_ride_150 rfl
  · refine ft_aload_n dX11_ride_10 rfl ?_
    refine ft_getR fl_X11_79 rfl (sh_78) (by decide) pt_78_20 dX11_ride_11 ?_
    refine ft_iload_n dX11_ride_14 rfl ?_
    refine fk_iald (sh_93) hf dX11_ride_15 (fun hf => ?_)
    refine ft_istore_n dX11_ride_16 (by decide) ?_
    refine ft_aload_n dX11_ride_17 rfl ?_
    refine ft_getR fl_X11_125 rfl (sh_78) (by decide) pt_78_24 dX11_ride_18 ?_
    refine ft_iload_n dX11_ride_21 rfl ?_
    refine fk_iald (sh_97) hf dX11_ride_22 (fun hf => ?_)
    refine ft_iconst (v := (-1)) dX11_ride_23 rfl ?_
    refine fk_icmp_ne (tgt := 144) dX11_ride_24 (by decide) hf (fun hf => ?_) (fun hf => ?_)
    · refine fk_iinc (c := 1) dX11_ride_144 rfl (by decide) rfl ?_
      refine ft_goto (tgt := 2) dX11_ride_147 (by decide) ?_
      exact ft_forget (by simp [fc_le, fc_st1, fc_st2, fc_kill]) (hk2 _ _ hf)
    · refine ft_aload_n dX11_ride_27 rfl ?_
      refine ft_iload_n dX11_ride_28 rfl ?_
      refine ft_iload_n dX11_ride_29 rfl ?_
      refine ft_aload_n dX11_ride_30 rfl ?_
      refine ft_getI fl_X11_26 rfl (sh_78) (by decide) dX11_ride_31 ?_
      obtain ⟨r34, hc34, hf⟩ := fq_vs hf
      refine ft_V3p cf_X11_102 (sh_78) (t_X11_isWet hc34) (Nat.le_of_ble_eq_true rfl) dX11_ride_34 ?_
      refine fk_if_ne (tgt := 144) dX11_ride_37 (by decide) hf (fun hf => ?_) (fun hf => ?_)
      · refine fk_iinc (c := 1) dX11_ride_144 rfl (by decide) rfl ?_
        refine ft_goto (tgt := 2) dX11_ride_147 (by decide) ?_
        exact ft_forget (by simp [fc_le, fc_st1, fc_st2, fc_kill]) (hk2 _ _ hf)
      · refine ft_aload_n dX11_ride_40 rfl ?_
        refine ft_iconst (v := 1) dX11_ride_41 rfl ?_
        refine ft_iload_n dX11_ride_42 rfl ?_
        refine ft_iload_n dX11_ride_43 rfl ?_
        refine ft_aload_n dX11_ride_44 rfl ?_
        refine ft_getI fl_X11_26 rfl (sh_78) (by decide) dX11_ride_45 ?_
        obtain ⟨r48, I48, hc48, hf⟩ := fq_bs hf
        refine ft_V4i cf_X11_299 (sh_78) (t_X11_worthOf hc48) (Nat.le_of_ble_eq_true rfl) dX11_ride_48 (fun r' J P' q => ?_)
        obtain ⟨rfl, rfl, rfl⟩ := q
        refine fk_if_eq (tgt := 57) dX11_ride_51 (by decide) hf (fun hf => ?_) (fun hf => ?_)
        · refine ft_aload_n dX11_ride_57 rfl ?_
          refine ft_getR fl_X11_36 rfl (sh_78) (by decide) pt_78_6 dX11_ride_58 ?_
          refine ft_iload_n dX11_ride_61 rfl ?_
          refine fk_iald (sh_82) hf dX11_ride_62 (fun hf => ?_)
          refine ft_aload_n dX11_ride_63 rfl ?_
          refine ft_getR fl_X11_85 rfl (sh_78) (by decide) pt_78_22 dX11_ride_64 ?_
          refine ft_iload_n dX11_ride_67 rfl ?_
          refine fk_iald (sh_95) hf dX11_ride_68 (fun hf => ?_)
          refine ft_aload_n dX11_ride_69 rfl ?_
          refine ft_aload_n dX11_ride_70 rfl ?_
          refine ft_getR fl_X11_82 rfl (sh_78) (by decide) pt_78_21 dX11_ride_71 ?_
          refine ft_iload_n dX11_ride_74 rfl ?_
          refine fk_iald (sh_94) hf dX11_ride_75 (fun hf => ?_)
          obtain ⟨r76, hc76, hf⟩ := fq_vs hf
          refine ft_V1p cf_X11_112 (sh_78) (t_X11_roomLeft hc76) (Nat.le_of_ble_eq_true rfl) dX11_ride_76 ?_
          refine ft_mmin cf_X11_357 (Nat.le_of_ble_eq_true rfl) dX11_ride_79 ?_
          refine ft_mmin cf_X11_357 (Nat.le_of_ble_eq_true rfl) dX11_ride_82 ?_
          refine ft_istore dX11_ride_85 (by decide) ?_
          refine ft_iload dX11_ride_87 rfl ?_
          refine fk_if_le (tgt := 144) dX11_ride_89 (by decide) hf (fun hf => ?_) (fun hf => ?_)
          · refine fk_iinc (c := 1) dX11_ride_144 rfl (by decide) rfl ?_
            refine ft_goto (tgt := 2) dX11_ride_147 (by decide) ?_
            exact ft_forget (by simp [fc_le, fc_st1, fc_st2, fc_kill]) (hk2 _ _ hf)
          · refine ft_aload_n dX11_ride_92 rfl ?_
            refine ft_getR fl_X11_36 rfl (sh_78) (by decide) pt_78_6 dX11_ride_93 ?_
            refine ft_iload_n dX11_ride_96 rfl ?_
            refine ft_dup2 dX11_ride_97 rfl rfl ?_
            refine fk_iald (sh_82) hf dX11_ride_98 (fun hf => ?_)
            refine ft_iload dX11_ride_99 rfl ?_
            refine ft_isub dX11_ride_101 ?_
            refine fk_iast (sh_82) hf dX11_ride_102 (fun hf => ?_)
            refine ft_aload_n dX11_ride_103 rfl ?_
            refine ft_getR fl_X11_128 rfl (sh_78) (by decide) pt_78_25 dX11_ride_104 ?_
            refine ft_iload_n dX11_ride_107 rfl ?_
            refine ft_iload dX11_ride_108 rfl ?_
            refine fk_iast (sh_98) hf dX11_ride_110 (fun hf => ?_)
            refine ft_aload_n dX11_ride_111 rfl ?_
            refine ft_getR fl_X11_109 rfl (sh_78) (by decide) pt_78_12 dX11_ride_112 ?_
            refine ft_aload_n dX11_ride_115 rfl ?_
            refine ft_getR fl_X11_82 rfl (sh_78) (by decide) pt_78_21 dX11_ride_116 ?_
            refine ft_iload_n dX11_ride_119 rfl ?_
            refine fk_iald (sh_94) hf dX11_ride_120 (fun hf => ?_)
            refine ft_dup2 dX11_ride_121 rfl rfl ?_
            refine fk_iald (sh_87) hf dX11_ride_122 (fun hf => ?_)
            refine ft_iload dX11_ride_123 rfl ?_
            refine ft_iadd dX11_ride_125 ?_
            refine fk_iast (sh_87) hf dX11_ride_126 (fun hf => ?_)
            refine ft_aload_n dX11_ride_127 rfl ?_
            refine ft_getR fl_X11_125 rfl (sh_78) (by decide) pt_78_24 dX11_ride_128 ?_
            refine ft_iload_n dX11_ride_131 rfl ?_
            refine ft_aload_n dX11_ride_132 rfl ?_
            refine ft_getI fl_X11_26 rfl (sh_78) (by decide) dX11_ride_133 ?_
            refine ft_aload_n dX11_ride_136 rfl ?_
            refine ft_getR fl_X11_88 rfl (sh_78) (by decide) pt_78_23 dX11_ride_137 ?_
            refine ft_iload_n dX11_ride_140 rfl ?_
            refine fk_iald (sh_96) hf dX11_ride_141 (fun hf => ?_)
            refine ft_iadd dX11_ride_142 ?_
            refine fk_iast (sh_97) hf dX11_ride_143 (fun hf => ?_)
            refine fk_iinc (c := 1) dX11_ride_144 rfl (by decide) rfl ?_
            refine ft_goto (tgt := 2) dX11_ride_147 (by decide) ?_
            exact ft_forget (by simp [fc_le, fc_st1, fc_st2, fc_kill]) (hk2 _ _ hf)
        · refine ft_goto (tgt := 144) dX11_ride_54 (by decide) ?_
          refine fk_iinc (c := 1) dX11_ride_144 rfl (by decide) rfl ?_
          refine ft_goto (tgt := 2) dX11_ride_147 (by decide) ?_
          exact ft_forget (by simp [fc_le, fc_st1, fc_st2, fc_kill]) (hk2 _ _ hf)
set_option maxHeartbeats 4000000 in
set_option maxRecDepth 100000 in
theorem t_X11_ride {d : Nat} {v : Nat} {J : fc_I} {I : fc_I} {x1 : Int32} (hf : f_X11_ride I x1 = some J) : fc_Cv X11_ride (d + 2) [.ref 78, .int x1] fc_SH I (fc_PT v) (fun I' P' => I' = J ∧ P' = (fc_PT v)) := by
  unfold f_X11_ride at hf
  refine fc_Cv.of (ls := [some (.ref 78), some (.int x1), none, none, none]) ⟨rfl, rfl⟩ (Nat.le_of_ble_eq_true rfl) rfl ?_
  refine ft_iconst (v := 0) dX11_ride_0 rfl ?_
  refine ft_istore_n dX11_ride_1 (by decide) ?_
  exact ft_forget (by simp [fc_le, fc_st1, fc_st2, fc_kill]) (t_X11_ride_2   _ _ _ hf)
def f_X11_step_27_B (k27 : Int32 → fc_I → Option fc_I) (x2 : Int32) (I : fc_I) : Option fc_I :=
if x2.toInt < (I 78 19).toInt then (
fq_g 4 x2 (
if (I 97 (cn x2)).toInt = ((-1) : Int32).toInt then (
fq_l (x2 + 1) fun y112 =>
k27 y112 I)
else (
fq_g 4 x2 (
if (I 78 0).toInt < (I 97 (cn x2)).toInt then (
fq_l (x2 + 1) fun y112 =>
k27 y112 I)
else (
fq_g 4 x2 (
fq_g 3 (I 94 (cn x2)) (
fq_g 4 x2 (
fq_g 3 (I 94 (cn x2)) (fq_l (fc_wI I 86 (cn (I 94 (cn x2))) ((I 86 (cn (I 94 (cn x2)))) + (I 98 (cn x2)))) fun I77 =>
fq_g 4 x2 (
fq_g 3 (I77 94 (cn x2)) (
fq_g 4 x2 (
fq_g 3 (I77 94 (cn x2)) (fq_l (fc_wI I77 87 (cn (I77 94 (cn x2))) ((I77 87 (cn (I77 94 (cn x2)))) - (I77 98 (cn x2)))) fun I97 =>
fq_g 4 x2 (fq_l (fc_wI I97 98 (cn x2) 0) fun I104 =>
fq_g 4 x2 (fq_l (fc_wI I104 97 (cn x2) (-1)) fun I111 =>
fq_l (x2 + 1) fun y112 =>
k27 y112 I111)))))))))))))))
else (
some I)
def f_X11_step_27 (n : Nat) : Int32 → fc_I → Option fc_I := lpm1 (f_X11_step_27_B ) n
def f_X11_step (I : fc_I) (x1 : Int32) : Option fc_I :=
fq_u (f_X11_leave I x1) fun I2 =>
fq_u (f_X11_move I2 x1) fun I7 =>
fq_u (f_X11_ride I7 x1) fun I12 =>
fq_l (fc_wI I12 78 0 ((I12 78 0) + 1)) fun I22 =>
f_X11_step_27  4000 0 I22
set_option maxHeartbeats 4000000 in
set_option maxRecDepth 100000 in
theorem t_X11_step_27 {d : Nat} {v : Nat} {J : fc_I} : ∀ (n : Nat) (x2 : Int32) (I : fc_I) , f_X11_step_27 n x2 I = some J → fc_T X11_step (d + 3) 0 0 27 [some (.ref 78), none, some (.int x2)] [] fc_SH I (fc_PT v) (fc_Qv fc_SH (fun I' P' => I' = J ∧ P' = (fc_PT v))) := by
  unfold f_X11_step_27
  refine lpm1_T (fun k27 hk27 x2 I hf => ?_)
  unfold f_X11_step_27_B at hf
  refine ft_iload_n dX11_step_27 rfl ?_
  refine ft_aload_n dX11_step_28 rfl ?_
  refine ft_getI fl_X11_13 rfl (sh_78) (by decide) dX11_step_29 ?_
  refine fk_icmp_ge (tgt := 118) dX11_step_32 (by decide) hf (fun hf => ?_) (fun hf => ?_)
  · exact fk_retv hf dX11_step_118 rfl
  · refine ft_aload_n dX11_step_35 rfl ?_
    refine ft_getR fl_X11_125 rfl (sh_78) (by decide) pt_78_24 dX11_step_36 ?_
    refine ft_iload_n dX11_step_39 rfl ?_
    refine fk_iald (sh_97) hf dX11_step_40 (fun hf => ?_)
    refine ft_iconst (v := (-1)) dX11_step_41 rfl ?_
    refine fk_icmp_eq (tgt := 112) dX11_step_42 (by decide) hf (fun hf => ?_) (fun hf => ?_)
    · refine fk_iinc (c := 1) dX11_step_112 rfl (by decide) rfl ?_
      refine ft_goto (tgt := 27) dX11_step_115 (by decide) ?_
      exact ft_forget (by simp [fc_le, fc_st1, fc_st2, fc_kill]) (hk27 _ _ hf)
    · refine ft_aload_n dX11_step_45 rfl ?_
      refine ft_getR fl_X11_125 rfl (sh_78) (by decide) pt_78_24 dX11_step_46 ?_
      refine ft_iload_n dX11_step_49 rfl ?_
      refine fk_iald (sh_97) hf dX11_step_50 (fun hf => ?_)
      refine ft_aload_n dX11_step_51 rfl ?_
      refine ft_getI fl_X11_26 rfl (sh_78) (by decide) dX11_step_52 ?_
      refine fk_icmp_gt (tgt := 112) dX11_step_55 (by decide) hf (fun hf => ?_) (fun hf => ?_)
      · refine fk_iinc (c := 1) dX11_step_112 rfl (by decide) rfl ?_
        refine ft_goto (tgt := 27) dX11_step_115 (by decide) ?_
        exact ft_forget (by simp [fc_le, fc_st1, fc_st2, fc_kill]) (hk27 _ _ hf)
      · refine ft_aload_n dX11_step_58 rfl ?_
        refine ft_getR fl_X11_106 rfl (sh_78) (by decide) pt_78_11 dX11_step_59 ?_
        refine ft_aload_n dX11_step_62 rfl ?_
        refine ft_getR fl_X11_82 rfl (sh_78) (by decide) pt_78_21 dX11_step_63 ?_
        refine ft_iload_n dX11_step_66 rfl ?_
        refine fk_iald (sh_94) hf dX11_step_67 (fun hf => ?_)
        refine ft_dup2 dX11_step_68 rfl rfl ?_
        refine fk_iald (sh_86) hf dX11_step_69 (fun hf => ?_)
        refine ft_aload_n dX11_step_70 rfl ?_
        refine ft_getR fl_X11_128 rfl (sh_78) (by decide) pt_78_25 dX11_step_71 ?_
        refine ft_iload_n dX11_step_74 rfl ?_
        refine fk_iald (sh_98) hf dX11_step_75 (fun hf => ?_)
        refine ft_iadd dX11_step_76 ?_
        refine fk_iast (sh_86) hf dX11_step_77 (fun hf => ?_)
        refine ft_aload_n dX11_step_78 rfl ?_
        refine ft_getR fl_X11_109 rfl (sh_78) (by decide) pt_78_12 dX11_step_79 ?_
        refine ft_aload_n dX11_step_82 rfl ?_
        refine ft_getR fl_X11_82 rfl (sh_78) (by decide) pt_78_21 dX11_step_83 ?_
        refine ft_iload_n dX11_step_86 rfl ?_
        refine fk_iald (sh_94) hf dX11_step_87 (fun hf => ?_)
        refine ft_dup2 dX11_step_88 rfl rfl ?_
        refine fk_iald (sh_87) hf dX11_step_89 (fun hf => ?_)
        refine ft_aload_n dX11_step_90 rfl ?_
        refine ft_getR fl_X11_128 rfl (sh_78) (by decide) pt_78_25 dX11_step_91 ?_
        refine ft_iload_n dX11_step_94 rfl ?_
        refine fk_iald (sh_98) hf dX11_step_95 (fun hf => ?_)
        refine ft_isub dX11_step_96 ?_
        refine fk_iast (sh_87) hf dX11_step_97 (fun hf => ?_)
        refine ft_aload_n dX11_step_98 rfl ?_
        refine ft_getR fl_X11_128 rfl (sh_78) (by decide) pt_78_25 dX11_step_99 ?_
        refine ft_iload_n dX11_step_102 rfl ?_
        refine ft_iconst (v := 0) dX11_step_103 rfl ?_
        refine fk_iast (sh_98) hf dX11_step_104 (fun hf => ?_)
        refine ft_aload_n dX11_step_105 rfl ?_
        refine ft_getR fl_X11_125 rfl (sh_78) (by decide) pt_78_24 dX11_step_106 ?_
        refine ft_iload_n dX11_step_109 rfl ?_
        refine ft_iconst (v := (-1)) dX11_step_110 rfl ?_
        refine fk_iast (sh_97) hf dX11_step_111 (fun hf => ?_)
        refine fk_iinc (c := 1) dX11_step_112 rfl (by decide) rfl ?_
        refine ft_goto (tgt := 27) dX11_step_115 (by decide) ?_
        exact ft_forget (by simp [fc_le, fc_st1, fc_st2, fc_kill]) (hk27 _ _ hf)
set_option maxHeartbeats 4000000 in
set_option maxRecDepth 100000 in
theorem t_X11_step {d : Nat} {v : Nat} {J : fc_I} {I : fc_I} {x1 : Int32} (hf : f_X11_step I x1 = some J) : fc_Cv X11_step (d + 3) [.ref 78, .int x1] fc_SH I (fc_PT v) (fun I' P' => I' = J ∧ P' = (fc_PT v)) := by
  unfold f_X11_step at hf
  refine fc_Cv.of (ls := [some (.ref 78), some (.int x1), none]) ⟨rfl, rfl⟩ (Nat.le_of_ble_eq_true rfl) rfl ?_
  refine ft_aload_n dX11_step_0 rfl ?_
  refine ft_iload_n dX11_step_1 rfl ?_
  obtain ⟨I2, hc2, hf⟩ := fq_us hf
  refine ft_V1v cf_X11_369 (sh_78) (t_X11_leave hc2) (Nat.le_of_ble_eq_true rfl) dX11_step_2 (fun J P' q => ?_)
  obtain ⟨rfl, rfl⟩ := q
  refine ft_aload_n dX11_step_5 rfl ?_
  refine ft_iload_n dX11_step_6 rfl ?_
  obtain ⟨I7, hc7, hf⟩ := fq_us hf
  refine ft_V1v cf_X11_372 (sh_78) (t_X11_move hc7) (Nat.le_of_ble_eq_true rfl) dX11_step_7 (fun J P' q => ?_)
  obtain ⟨rfl, rfl⟩ := q
  refine ft_aload_n dX11_step_10 rfl ?_
  refine ft_iload_n dX11_step_11 rfl ?_
  obtain ⟨I12, hc12, hf⟩ := fq_us hf
  refine ft_V1v cf_X11_375 (sh_78) (t_X11_ride hc12) (Nat.le_of_ble_eq_true rfl) dX11_step_12 (fun J P' q => ?_)
  obtain ⟨rfl, rfl⟩ := q
  refine ft_aload_n dX11_step_15 rfl ?_
  refine ft_dup dX11_step_16 rfl ?_
  refine ft_getI fl_X11_26 rfl (sh_78) (by decide) dX11_step_17 ?_
  refine ft_iconst (v := 1) dX11_step_20 rfl ?_
  refine ft_iadd dX11_step_21 ?_
  refine ft_putI fl_X11_26 rfl (fun q h => by cases h; rfl) (sh_78) (by decide) dX11_step_22 ?_
  refine ft_iconst (v := 0) dX11_step_25 rfl ?_
  refine ft_istore_n dX11_step_26 (by decide) ?_
  exact ft_forget (by simp [fc_le, fc_st1, fc_st2, fc_kill]) (t_X11_step_27   _ _ _ hf)
def f_X11_played_17_B (x1 : Int32) (k4 : fc_I → Option (Int32 × fc_I)) (k17 : Int32 → fc_I → Option (Int32 × fc_I)) (x2 : Int32) (I : fc_I) : Option (Int32 × fc_I) :=
if x2.toInt < (I 78 2).toInt then (
fq_g 6 x2 (
if (I 83 (cn x2)).toInt = ((-1) : Int32).toInt then (
fq_g 6 x2 (
if (I 125 (cn x2)).toInt = ((-1) : Int32).toInt then (
fq_g 6 x2 (
fq_g 6 x2 (fq_l (fc_wI I 83 (cn x2) (I 83 (cn x2))) fun I81 =>
fq_l (x2 + 1) fun y82 =>
k17 y82 I81)))
else (
fq_g 6 x2 (
if ((I 78 68) + (I 125 (cn x2))).toInt = (I 78 0).toInt then (
fq_g 6 x2 (fq_l (fc_wI I 83 (cn x2) (I 78 0)) fun I81 =>
fq_l (x2 + 1) fun y82 =>
k17 y82 I81))
else (
fq_g 6 x2 (
fq_g 6 x2 (fq_l (fc_wI I 83 (cn x2) (I 83 (cn x2))) fun I81 =>
fq_l (x2 + 1) fun y82 =>
k17 y82 I81)))))))
else (
fq_g 6 x2 (
fq_g 6 x2 (fq_l (fc_wI I 83 (cn x2) (I 83 (cn x2))) fun I81 =>
fq_l (x2 + 1) fun y82 =>
k17 y82 I81)))))
else (
fq_u (f_X11_step I x1) fun I90 =>
k4 I90)
def f_X11_played_17 (x1 : Int32) (k4 : fc_I → Option (Int32 × fc_I)) (n : Nat) : Int32 → fc_I → Option (Int32 × fc_I) := lpm1 (f_X11_played_17_B x1 k4 ) n
def f_X11_played_4_B (x1 : Int32) (k4 : fc_I → Option (Int32 × fc_I)) (I : fc_I) : Option (Int32 × fc_I) :=
if (I 78 0).toInt < (I 78 1).toInt then (
f_X11_played_17 x1 k4 4000 0 I)
else (
fq_v (f_X11_inWaterOf I x1) fun r98 =>
fq_u (f_X11_bringBack I) fun I103 =>
some (r98, I103))
def f_X11_played_4 (x1 : Int32) (n : Nat) : fc_I → Option (Int32 × fc_I) := lpm0 (f_X11_played_4_B x1 ) n
def f_X11_played (I : fc_I) (x1 : Int32) : Option (Int32 × fc_I) :=
fq_u (f_X11_keepAll I) fun I1 =>
f_X11_played_4 x1 4000 I1
set_option maxHeartbeats 4000000 in
set_option maxRecDepth 100000 in
theorem t_X11_played_17 {d : Nat} {v : Nat} {r : Int32} {J : fc_I} {x1 : Int32} {k4 : fc_I → Option (Int32 × fc_I)} (hk4 : ∀ (I : fc_I), k4  I = some (r, J) → fc_T X11_played (d + 4) 0 0 4 [some (.ref 78), some (.int x1), none] [] fc_SH I (fc_PT v) (fc_Qi fc_SH (fun r' I' P' => r' = r ∧ I' = J ∧ P' = (fc_PT v)))) : ∀ (n : Nat) (x2 : Int32) (I : fc_I) , f_X11_played_17 x1 k4 n x2 I = some (r, J) → fc_T X11_played (d + 4) 0 0 17 [some (.ref 78), some (.int x1), some (.int x2)] [] fc_SH I (fc_PT v) (fc_Qi fc_SH (fun r' I' P' => r' = r ∧ I' = J ∧ P' = (fc_PT v))) := by
  unfold f_X11_played_17
  refine lpm1_T (fun k17 hk17 x2 I hf => ?_)
  unfold f_X11_played_17_B at hf
  refine ft_iload_n dX11_played_17 rfl ?_
  refine ft_aload_n dX11_played_18 rfl ?_
  refine ft_getI fl_X11_1 rfl (sh_78) (by decide) dX11_played_19 ?_
  refine fk_icmp_ge (tgt := 88) dX11_played_22 (by decide) hf (fun hf => ?_) (fun hf => ?_)
  · refine ft_aload_n dX11_played_88 rfl ?_
    refine ft_iload_n dX11_played_89 rfl ?_
    obtain ⟨I90, hc90, hf⟩ := fq_us hf
    refine ft_V1v cf_X11_378 (sh_78) (t_X11_step hc90) (Nat.le_of_ble_eq_true rfl) dX11_played_90 (fun J P' q => ?_)
    obtain ⟨rfl, rfl⟩ := q
    refine ft_goto (tgt := 4) dX11_played_93 (by decide) ?_
    exact ft_forget (by simp [fc_le, fc_st1, fc_st2, fc_kill]) (hk4 _ hf)
  · refine ft_aload_n dX11_played_25 rfl ?_
    refine ft_getR fl_X11_96 rfl (sh_78) (by decide) pt_78_7 dX11_played_26 ?_
    refine ft_iload_n dX11_played_29 rfl ?_
    refine ft_aload_n dX11_played_30 rfl ?_
    refine ft_getR fl_X11_96 rfl (sh_78) (by decide) pt_78_7 dX11_played_31 ?_
    refine ft_iload_n dX11_played_34 rfl ?_
    refine fk_iald (sh_83) hf dX11_played_35 (fun hf => ?_)
    refine ft_iconst (v := (-1)) dX11_played_36 rfl ?_
    refine fk_icmp_ne (tgt := 75) dX11_played_37 (by decide) hf (fun hf => ?_) (fun hf => ?_)
    · refine ft_aload_n dX11_played_75 rfl ?_
      refine ft_getR fl_X11_96 rfl (sh_78) (by decide) pt_78_7 dX11_played_76 ?_
      refine ft_iload_n dX11_played_79 rfl ?_
      refine fk_iald (sh_83) hf dX11_played_80 (fun hf => ?_)
      refine fk_iast (sh_83) hf dX11_played_81 (fun hf => ?_)
      refine fk_iinc (c := 1) dX11_played_82 rfl (by decide) rfl ?_
      refine ft_goto (tgt := 17) dX11_played_85 (by decide) ?_
      exact ft_forget (by simp [fc_le, fc_st1, fc_st2, fc_kill]) (hk17 _ _ hf)
    · refine ft_aload_n dX11_played_40 rfl ?_
      refine ft_getR fl_X11_336 rfl (sh_78) (by decide) pt_78_69 dX11_played_41 ?_
      refine ft_iload_n dX11_played_44 rfl ?_
      refine fk_iald (sh_125) hf dX11_played_45 (fun hf => ?_)
      refine ft_iconst (v := (-1)) dX11_played_46 rfl ?_
      refine fk_icmp_eq (tgt := 75) dX11_played_47 (by decide) hf (fun hf => ?_) (fun hf => ?_)
      · refine ft_aload_n dX11_played_75 rfl ?_
        refine ft_getR fl_X11_96 rfl (sh_78) (by decide) pt_78_7 dX11_played_76 ?_
        refine ft_iload_n dX11_played_79 rfl ?_
        refine fk_iald (sh_83) hf dX11_played_80 (fun hf => ?_)
        refine fk_iast (sh_83) hf dX11_played_81 (fun hf => ?_)
        refine fk_iinc (c := 1) dX11_played_82 rfl (by decide) rfl ?_
        refine ft_goto (tgt := 17) dX11_played_85 (by decide) ?_
        exact ft_forget (by simp [fc_le, fc_st1, fc_st2, fc_kill]) (hk17 _ _ hf)
      · refine ft_aload_n dX11_played_50 rfl ?_
        refine ft_getI fl_X11_387 rfl (sh_78) (by decide) dX11_played_51 ?_
        refine ft_aload_n dX11_played_54 rfl ?_
        refine ft_getR fl_X11_336 rfl (sh_78) (by decide) pt_78_69 dX11_played_55 ?_
        refine ft_iload_n dX11_played_58 rfl ?_
        refine fk_iald (sh_125) hf dX11_played_59 (fun hf => ?_)
        refine ft_iadd dX11_played_60 ?_
        refine ft_aload_n dX11_played_61 rfl ?_
        refine ft_getI fl_X11_26 rfl (sh_78) (by decide) dX11_played_62 ?_
        refine fk_icmp_ne (tgt := 75) dX11_played_65 (by decide) hf (fun hf => ?_) (fun hf => ?_)
        · refine ft_aload_n dX11_played_75 rfl ?_
          refine ft_getR fl_X11_96 rfl (sh_78) (by decide) pt_78_7 dX11_played_76 ?_
          refine ft_iload_n dX11_played_79 rfl ?_
          refine fk_iald (sh_83) hf dX11_played_80 (fun hf => ?_)
          refine fk_iast (sh_83) hf dX11_played_81 (fun hf => ?_)
          refine fk_iinc (c := 1) dX11_played_82 rfl (by decide) rfl ?_
          refine ft_goto (tgt := 17) dX11_played_85 (by decide) ?_
          exact ft_forget (by simp [fc_le, fc_st1, fc_st2, fc_kill]) (hk17 _ _ hf)
        · refine ft_aload_n dX11_played_68 rfl ?_
          refine ft_getI fl_X11_26 rfl (sh_78) (by decide) dX11_played_69 ?_
          refine ft_goto (tgt := 81) dX11_played_72 (by decide) ?_
          refine fk_iast (sh_83) hf dX11_played_81 (fun hf => ?_)
          refine fk_iinc (c := 1) dX11_played_82 rfl (by decide) rfl ?_
          refine ft_goto (tgt := 17) dX11_played_85 (by decide) ?_
          exact ft_forget (by simp [fc_le, fc_st1, fc_st2, fc_kill]) (hk17 _ _ hf)
set_option maxHeartbeats 4000000 in
set_option maxRecDepth 100000 in
theorem t_X11_played_4 {d : Nat} {v : Nat} {r : Int32} {J : fc_I} {x1 : Int32} : ∀ (n : Nat) (I : fc_I) , f_X11_played_4 x1 n I = some (r, J) → fc_T X11_played (d + 4) 0 0 4 [some (.ref 78), some (.int x1), none] [] fc_SH I (fc_PT v) (fc_Qi fc_SH (fun r' I' P' => r' = r ∧ I' = J ∧ P' = (fc_PT v))) := by
  unfold f_X11_played_4
  refine lpm0_T (fun k4 hk4 I hf => ?_)
  unfold f_X11_played_4_B at hf
  refine ft_aload_n dX11_played_4 rfl ?_
  refine ft_getI fl_X11_26 rfl (sh_78) (by decide) dX11_played_5 ?_
  refine ft_aload_n dX11_played_8 rfl ?_
  refine ft_getI fl_X11_136 rfl (sh_78) (by decide) dX11_played_9 ?_
  refine fk_icmp_ge (tgt := 96) dX11_played_12 (by decide) hf (fun hf => ?_) (fun hf => ?_)
  · refine ft_aload_n dX11_played_96 rfl ?_
    refine ft_iload_n dX11_played_97 rfl ?_
    obtain ⟨r98, hc98, hf⟩ := fq_vs hf
    refine ft_V1p cf_X11_381 (sh_78) (t_X11_inWaterOf hc98) (Nat.le_of_ble_eq_true rfl) dX11_played_98 ?_
    refine ft_istore_n dX11_played_101 (by decide) ?_
    refine ft_aload_n dX11_played_102 rfl ?_
    obtain ⟨I103, hc103, hf⟩ := fq_us hf
    refine ft_V0v cf_X11_393 (sh_78) (t_X11_bringBack hc103) (Nat.le_of_ble_eq_true rfl) dX11_played_103 (fun J P' q => ?_)
    obtain ⟨rfl, rfl⟩ := q
    refine ft_iload_n dX11_played_106 rfl ?_
    exact fk_reti hf dX11_played_107 rfl rfl
  · refine ft_iconst (v := 0) dX11_played_15 rfl ?_
    refine ft_istore_n dX11_played_16 (by decide) ?_
    exact ft_forget (by simp [fc_le, fc_st1, fc_st2, fc_kill]) (t_X11_played_17  hk4 _ _ _ hf)
set_option maxHeartbeats 4000000 in
set_option maxRecDepth 100000 in
theorem t_X11_played {d : Nat} {v : Nat} {r : Int32} {J : fc_I} {I : fc_I} {x1 : Int32} (hf : f_X11_played I x1 = some (r, J)) : fc_Ci X11_played (d + 4) [.ref 78, .int x1] fc_SH I (fc_PT v) (fun r' I' P' => r' = r ∧ I' = J ∧ P' = (fc_PT v)) := by
  unfold f_X11_played at hf
  refine fc_Ci.of (ls := [some (.ref 78), some (.int x1), none]) ⟨rfl, rfl⟩ (Nat.le_of_ble_eq_true rfl) rfl ?_
  refine ft_aload_n dX11_played_0 rfl ?_
  obtain ⟨I1, hc1, hf⟩ := fq_us hf
  refine ft_V0v cf_X11_390 (sh_78) (t_X11_keepAll hc1) (Nat.le_of_ble_eq_true rfl) dX11_played_1 (fun J P' q => ?_)
  obtain ⟨rfl, rfl⟩ := q
  exact ft_forget (by simp [fc_le, fc_st1, fc_st2, fc_kill]) (t_X11_played_4   _ _ hf)
def f_X11_worst_4_B (k4 : Int32 → Int32 → fc_I → Option (Int32 × fc_I)) (x1 : Int32) (x2 : Int32) (I : fc_I) : Option (Int32 × fc_I) :=
if x2.toInt < (3 : Int32).toInt then (
fq_g 3 x2 (
if (I 99 (cn x2)).toInt = (1 : Int32).toInt then (
fq_b (f_X11_played I x2) fun r22 I22 =>
fq_l ((imax x1 r22)) fun y32 =>
fq_l (x2 + 1) fun y33 =>
k4 y32 y33 I22)
else (
fq_l (x2 + 1) fun y33 =>
k4 x1 y33 I)))
else (
some (x1, I))
def f_X11_worst_4 (n : Nat) : Int32 → Int32 → fc_I → Option (Int32 × fc_I) := lpm2 (f_X11_worst_4_B ) n
def f_X11_worst (I : fc_I) : Option (Int32 × fc_I) :=
f_X11_worst_4  4000 0 0 I
set_option maxHeartbeats 4000000 in
set_option maxRecDepth 100000 in
theorem t_X11_worst_4 {d : Nat} {v : Nat} {r : Int32} {J : fc_I} : ∀ (n : Nat) (x1 : Int32) (x2 : Int32) (I : fc_I) , f_X11_worst_4 n x1 x2 I = some (r, J) → fc_T X11_worst (d + 5) 0 0 4 [some (.ref 78), some (.int x1), some (.int x2)] [] fc_SH I (fc_PT v) (fc_Qi fc_SH (fun r' I' P' => r' = r ∧ I' = J ∧ P' = (fc_PT v))) := by
  unfold f_X11_worst_4
  refine lpm2_T (fun k4 hk4 x1 x2 I hf => ?_)
  unfold f_X11_worst_4_B at hf
  refine ft_iload_n dX11_worst_4 rfl ?_
  refine ft_iconst (v := 3) dX11_worst_5 rfl ?_
  refine fk_icmp_ge (tgt := 39) dX11_worst_6 (by decide) hf (fun hf => ?_) (fun hf => ?_)
  · refine ft_iload_n dX11_worst_39 rfl ?_
    exact fk_reti hf dX11_worst_40 rfl rfl
  · refine ft_aload_n dX11_worst_9 rfl ?_
    refine ft_getR fl_X11_142 rfl (sh_78) (by decide) pt_78_27 dX11_worst_10 ?_
    refine ft_iload_n dX11_worst_13 rfl ?_
    refine fk_iald (sh_99) hf dX11_worst_14 (fun hf => ?_)
    refine ft_iconst (v := 1) dX11_worst_15 rfl ?_
    refine fk_icmp_ne (tgt := 31) dX11_worst_16 (by decide) hf (fun hf => ?_) (fun hf => ?_)
    · refine ft_iload_n dX11_worst_31 rfl ?_
      refine ft_istore_n dX11_worst_32 (by decide) ?_
      refine fk_iinc (c := 1) dX11_worst_33 rfl (by decide) rfl ?_
      refine ft_goto (tgt := 4) dX11_worst_36 (by decide) ?_
      exact ft_forget (by simp [fc_le, fc_st1, fc_st2, fc_kill]) (hk4 _ _ _ hf)
    · refine ft_iload_n dX11_worst_19 rfl ?_
      refine ft_aload_n dX11_worst_20 rfl ?_
      refine ft_iload_n dX11_worst_21 rfl ?_
      obtain ⟨r22, I22, hc22, hf⟩ := fq_bs hf
      refine ft_V1i cf_X11_402 (sh_78) (t_X11_played hc22) (Nat.le_of_ble_eq_true rfl) dX11_worst_22 (fun r' J P' q => ?_)
      obtain ⟨rfl, rfl, rfl⟩ := q
      refine ft_mmax cf_X11_363 (Nat.le_of_ble_eq_true rfl) dX11_worst_25 ?_
      refine ft_goto (tgt := 32) dX11_worst_28 (by decide) ?_
      refine ft_istore_n dX11_worst_32 (by decide) ?_
      refine fk_iinc (c := 1) dX11_worst_33 rfl (by decide) rfl ?_
      refine ft_goto (tgt := 4) dX11_worst_36 (by decide) ?_
      exact ft_forget (by simp [fc_le, fc_st1, fc_st2, fc_kill]) (hk4 _ _ _ hf)
set_option maxHeartbeats 4000000 in
set_option maxRecDepth 100000 in
theorem t_X11_worst {d : Nat} {v : Nat} {r : Int32} {J : fc_I} {I : fc_I} (hf : f_X11_worst I = some (r, J)) : fc_Ci X11_worst (d + 5) [.ref 78] fc_SH I (fc_PT v) (fun r' I' P' => r' = r ∧ I' = J ∧ P' = (fc_PT v)) := by
  unfold f_X11_worst at hf
  refine fc_Ci.of (ls := [some (.ref 78), none, none]) ⟨rfl, rfl⟩ (Nat.le_of_ble_eq_true rfl) rfl ?_
  refine ft_iconst (v := 0) dX11_worst_0 rfl ?_
  refine ft_istore_n dX11_worst_1 (by decide) ?_
  refine ft_iconst (v := 0) dX11_worst_2 rfl ?_
  refine ft_istore_n dX11_worst_3 (by decide) ?_
  exact ft_forget (by simp [fc_le, fc_st1, fc_st2, fc_kill]) (t_X11_worst_4   _ _ _ _ hf)
def f_X11_best_117_B (x3 : Int32) (k117 : Int32 → fc_I → Option (Int64 × fc_I)) (x7 : Int32) (I : fc_I) : Option (Int64 × fc_I) :=
if x7.toInt < (6 : Int32).toInt then (
fq_g 6 x7 (
fq_g 6 x7 (fq_l (fc_wI I 126 (cn x7) (I 125 (cn x7))) fun I137 =>
fq_l (x7 + 1) fun y138 =>
k117 y138 I137)))
else (
some ((Int32.toInt64 x3), I))
def f_X11_best_117 (x3 : Int32) (n : Nat) : Int32 → fc_I → Option (Int64 × fc_I) := lpm1 (f_X11_best_117_B x3 ) n
def f_X11_best_28_B (x1 : Int32) (x2 : Int32) (k28 : Int32 → Int32 → Int32 → Int32 → fc_I → Option (Int64 × fc_I)) (x3 : Int32) (x4 : Int32) (x5 : Int32) (x6 : Int32) (I : fc_I) : Option (Int64 × fc_I) :=
if x6.toInt < ((1 : Int32) <<< (((2 : Int32) * x2) &&& 31)).toInt then (
fq_b (f_X11_choose I x1 x2 x6) fun r43 I43 =>
if r43.toInt = ((-1) : Int32).toInt then (
fq_l (x6 + 1) fun y98 =>
k28 x3 x4 x5 y98 I43)
else (
fq_b (f_X11_worst I43) fun r58 I58 =>
if x3.toInt = ((-1) : Int32).toInt then (
fq_l (x6 + 1) fun y98 =>
k28 r58 r43 x6 y98 I58)
else (
if r58.toInt < x3.toInt then (
fq_l (x6 + 1) fun y98 =>
k28 r58 r43 x6 y98 I58)
else (
if r58.toInt = x3.toInt then (
if r43.toInt < x4.toInt then (
fq_l (x6 + 1) fun y98 =>
k28 r58 r43 x6 y98 I58)
else (
fq_l (x6 + 1) fun y98 =>
k28 x3 x4 x5 y98 I58))
else (
fq_l (x6 + 1) fun y98 =>
k28 x3 x4 x5 y98 I58)))))
else (
fq_b (f_X11_choose I x1 x2 x5) fun r109 I109 =>
f_X11_best_117 x3 4000 0 I109)
def f_X11_best_28 (x1 : Int32) (x2 : Int32) (n : Nat) : Int32 → Int32 → Int32 → Int32 → fc_I → Option (Int64 × fc_I) := lpm4 (f_X11_best_28_B x1 x2 ) n
def f_X11_best (I : fc_I) (x1 : Int32) : Option (Int64 × fc_I) :=
fq_v (f_X11_mayAsk I x1) fun r2 =>
if r2.toInt = 0 then (
some ((-4611686018427387904), I))
else (
fq_v (f_X11_countBits x1) fun r13 =>
f_X11_best_28 x1 r13 4000 (-1) (-1) 0 0 I)
set_option maxHeartbeats 4000000 in
set_option maxRecDepth 100000 in
theorem t_X11_best_117 {d : Nat} {v : Nat} {r : Int64} {J : fc_I} {x3 : Int32} : ∀ (n : Nat) (x7 : Int32) (I : fc_I) , f_X11_best_117 x3 n x7 I = some (r, J) → fc_T X11_best (d + 6) 0 0 117 [some (.ref 78), none, none, some (.int x3), none, none, none, some (.int x7), none] [] fc_SH I (fc_PT v) (fc_Ql fc_SH (fun r' I' P' => r' = r ∧ I' = J ∧ P' = (fc_PT v))) := by
  unfold f_X11_best_117
  refine lpm1_T (fun k117 hk117 x7 I hf => ?_)
  unfold f_X11_best_117_B at hf
  refine ft_iload dX11_best_117 rfl ?_
  refine ft_bipush (v := 6) dX11_best_119 rfl ?_
  refine fk_icmp_ge (tgt := 144) dX11_best_121 (by decide) hf (fun hf => ?_) (fun hf => ?_)
  · refine ft_iload_n dX11_best_144 rfl ?_
    refine ft_i2l dX11_best_145 ?_
    exact fk_retl hf dX11_best_146 rfl
  · refine ft_aload_n dX11_best_124 rfl ?_
    refine ft_getR fl_X11_339 rfl (sh_78) (by decide) pt_78_70 dX11_best_125 ?_
    refine ft_iload dX11_best_128 rfl ?_
    refine ft_aload_n dX11_best_130 rfl ?_
    refine ft_getR fl_X11_336 rfl (sh_78) (by decide) pt_78_69 dX11_best_131 ?_
    refine ft_iload dX11_best_134 rfl ?_
    refine fk_iald (sh_125) hf dX11_best_136 (fun hf => ?_)
    refine fk_iast (sh_126) hf dX11_best_137 (fun hf => ?_)
    refine fk_iinc (c := 1) dX11_best_138 rfl (by decide) rfl ?_
    refine ft_goto (tgt := 117) dX11_best_141 (by decide) ?_
    exact ft_forget (by simp [fc_le, fc_st1, fc_st2, fc_kill]) (hk117 _ _ hf)
set_option maxHeartbeats 4000000 in
set_option maxRecDepth 100000 in
theorem t_X11_best_28 {d : Nat} {v : Nat} {r : Int64} {J : fc_I} {x1 : Int32} {x2 : Int32} : ∀ (n : Nat) (x3 : Int32) (x4 : Int32) (x5 : Int32) (x6 : Int32) (I : fc_I) , f_X11_best_28 x1 x2 n x3 x4 x5 x6 I = some (r, J) → fc_T X11_best (d + 6) 0 0 28 [some (.ref 78), some (.int x1), some (.int x2), some (.int x3), some (.int x4), some (.int x5), some (.int x6), none, none] [] fc_SH I (fc_PT v) (fc_Ql fc_SH (fun r' I' P' => r' = r ∧ I' = J ∧ P' = (fc_PT v))) := by
  unfold f_X11_best_28
  refine lpm4_T (fun k28 hk28 x3 x4 x5 x6 I hf => ?_)
  unfold f_X11_best_28_B at hf
  refine ft_iload dX11_best_28 rfl ?_
  refine ft_iconst (v := 1) dX11_best_30 rfl ?_
  refine ft_iconst (v := 2) dX11_best_31 rfl ?_
  refine ft_iload_n dX11_best_32 rfl ?_
  refine ft_imul dX11_best_33 ?_
  refine ft_ishl dX11_best_34 ?_
  refine fk_icmp_ge (tgt := 104) dX11_best_35 (by decide) hf (fun hf => ?_) (fun hf => ?_)
  · refine ft_aload_n dX11_best_104 rfl ?_
    refine ft_iload_n dX11_best_105 rfl ?_
    refine ft_iload_n dX11_best_106 rfl ?_
    refine ft_iload dX11_best_107 rfl ?_
    obtain ⟨r109, I109, hc109, hf⟩ := fq_bs hf
    refine ft_V3i cf_X11_411 (sh_78) (t_X11_choose hc109) (Nat.le_of_ble_eq_true rfl) dX11_best_109 (fun r' J P' q => ?_)
    obtain ⟨rfl, rfl, rfl⟩ := q
    refine ft_istore dX11_best_112 (by decide) ?_
    refine ft_iconst (v := 0) dX11_best_114 rfl ?_
    refine ft_istore dX11_best_115 (by decide) ?_
    exact ft_forget (by simp [fc_le, fc_st1, fc_st2, fc_kill]) (t_X11_best_117   _ _ _ hf)
  · refine ft_aload_n dX11_best_38 rfl ?_
    refine ft_iload_n dX11_best_39 rfl ?_
    refine ft_iload_n dX11_best_40 rfl ?_
    refine ft_iload dX11_best_41 rfl ?_
    obtain ⟨r43, I43, hc43, hf⟩ := fq_bs hf
    refine ft_V3i cf_X11_411 (sh_78) (t_X11_choose hc43) (Nat.le_of_ble_eq_true rfl) dX11_best_43 (fun r' J P' q => ?_)
    obtain ⟨rfl, rfl, rfl⟩ := q
    refine ft_istore dX11_best_46 (by decide) ?_
    refine ft_iload dX11_best_48 rfl ?_
    refine ft_iconst (v := (-1)) dX11_best_50 rfl ?_
    refine fk_icmp_ne (tgt := 57) dX11_best_51 (by decide) hf (fun hf => ?_) (fun hf => ?_)
    · refine ft_aload_n dX11_best_57 rfl ?_
      obtain ⟨r58, I58, hc58, hf⟩ := fq_bs hf
      refine ft_V0i cf_X11_414 (sh_78) (t_X11_worst hc58) (Nat.le_of_ble_eq_true rfl) dX11_best_58 (fun r' J P' q => ?_)
      obtain ⟨rfl, rfl, rfl⟩ := q
      refine ft_istore dX11_best_61 (by decide) ?_
      refine ft_iload_n dX11_best_63 rfl ?_
      refine ft_iconst (v := (-1)) dX11_best_64 rfl ?_
      refine fk_icmp_eq (tgt := 87) dX11_best_65 (by decide) hf (fun hf => ?_) (fun hf => ?_)
      · refine ft_iload dX11_best_87 rfl ?_
        refine ft_istore_n dX11_best_89 (by decide) ?_
        refine ft_iload dX11_best_90 rfl ?_
        refine ft_istore dX11_best_92 (by decide) ?_
        refine ft_iload dX11_best_94 rfl ?_
        refine ft_istore dX11_best_96 (by decide) ?_
        refine fk_iinc (c := 1) dX11_best_98 rfl (by decide) rfl ?_
        refine ft_goto (tgt := 28) dX11_best_101 (by decide) ?_
        exact ft_forget (by simp [fc_le, fc_st1, fc_st2, fc_kill]) (hk28 _ _ _ _ _ hf)
      · refine ft_iload dX11_best_68 rfl ?_
        refine ft_iload_n dX11_best_70 rfl ?_
        refine fk_icmp_lt (tgt := 87) dX11_best_71 (by decide) hf (fun hf => ?_) (fun hf => ?_)
        · refine ft_iload dX11_best_87 rfl ?_
          refine ft_istore_n dX11_best_89 (by decide) ?_
          refine ft_iload dX11_best_90 rfl ?_
          refine ft_istore dX11_best_92 (by decide) ?_
          refine ft_iload dX11_best_94 rfl ?_
          refine ft_istore dX11_best_96 (by decide) ?_
          refine fk_iinc (c := 1) dX11_best_98 rfl (by decide) rfl ?_
          refine ft_goto (tgt := 28) dX11_best_101 (by decide) ?_
          exact ft_forget (by simp [fc_le, fc_st1, fc_st2, fc_kill]) (hk28 _ _ _ _ _ hf)
        · refine ft_iload dX11_best_74 rfl ?_
          refine ft_iload_n dX11_best_76 rfl ?_
          refine fk_icmp_ne (tgt := 98) dX11_best_77 (by decide) hf (fun hf => ?_) (fun hf => ?_)
          · refine fk_iinc (c := 1) dX11_best_98 rfl (by decide) rfl ?_
            refine ft_goto (tgt := 28) dX11_best_101 (by decide) ?_
            exact ft_forget (by simp [fc_le, fc_st1, fc_st2, fc_kill]) (hk28 _ _ _ _ _ hf)
          · refine ft_iload dX11_best_80 rfl ?_
            refine ft_iload dX11_best_82 rfl ?_
            refine fk_icmp_ge (tgt := 98) dX11_best_84 (by decide) hf (fun hf => ?_) (fun hf => ?_)
            · refine fk_iinc (c := 1) dX11_best_98 rfl (by decide) rfl ?_
              refine ft_goto (tgt := 28) dX11_best_101 (by decide) ?_
              exact ft_forget (by simp [fc_le, fc_st1, fc_st2, fc_kill]) (hk28 _ _ _ _ _ hf)
            · refine ft_iload dX11_best_87 rfl ?_
              refine ft_istore_n dX11_best_89 (by decide) ?_
              refine ft_iload dX11_best_90 rfl ?_
              refine ft_istore dX11_best_92 (by decide) ?_
              refine ft_iload dX11_best_94 rfl ?_
              refine ft_istore dX11_best_96 (by decide) ?_
              refine fk_iinc (c := 1) dX11_best_98 rfl (by decide) rfl ?_
              refine ft_goto (tgt := 28) dX11_best_101 (by decide) ?_
              exact ft_forget (by simp [fc_le, fc_st1, fc_st2, fc_kill]) (hk28 _ _ _ _ _ hf)
    · refine ft_goto (tgt := 98) dX11_best_54 (by decide) ?_
      refine fk_iinc (c := 1) dX11_best_98 rfl (by decide) rfl ?_
      refine ft_goto (tgt := 28) dX11_best_101 (by decide) ?_
      exact ft_forget (by simp [fc_le, fc_st1, fc_st2, fc_kill]) (hk28 _ _ _ _ _ hf)
set_option maxHeartbeats 4000000 in
set_option maxRecDepth 100000 in
theorem t_X11_best {d : Nat} {v : Nat} {r : Int64} {J : fc_I} {I : fc_I} {x1 : Int32} (hf : f_X11_best I x1 = some (r, J)) : fc_Cl X11_best (d + 6) [.ref 78, .int x1] fc_SH I (fc_PT v) (fun r' I' P' => r' = r ∧ I' = J ∧ P' = (fc_PT v)) := by
  unfold f_X11_best at hf
  refine fc_Cl.of (ls := [some (.ref 78), some (.int x1), none, none, none, none, none, none, none]) ⟨rfl, rfl⟩ (Nat.le_of_ble_eq_true rfl) rfl ?_
  refine ft_aload_n dX11_best_0 rfl ?_
  refine ft_iload_n dX11_best_1 rfl ?_
  obtain ⟨r2, hc2, hf⟩ := fq_vs hf
  refine ft_V1p cf_X11_405 (sh_78) (t_X11_mayAsk hc2) (Nat.le_of_ble_eq_true rfl) dX11_best_2 ?_
  refine fk_if_ne (tgt := 12) dX11_best_5 (by decide) hf (fun hf => ?_) (fun hf => ?_)
  · refine ft_iload_n dX11_best_12 rfl ?_
    obtain ⟨r13, hc13, hf⟩ := fq_vs hf
    refine ft_S1p cf_X11_408 (t_X11_countBits hc13) (Nat.le_of_ble_eq_true rfl) dX11_best_13 ?_
    refine ft_istore_n dX11_best_16 (by decide) ?_
    refine ft_iconst (v := (-1)) dX11_best_17 rfl ?_
    refine ft_istore_n dX11_best_18 (by decide) ?_
    refine ft_iconst (v := (-1)) dX11_best_19 rfl ?_
    refine ft_istore dX11_best_20 (by decide) ?_
    refine ft_iconst (v := 0) dX11_best_22 rfl ?_
    refine ft_istore dX11_best_23 (by decide) ?_
    refine ft_iconst (v := 0) dX11_best_25 rfl ?_
    refine ft_istore dX11_best_26 (by decide) ?_
    exact ft_forget (by simp [fc_le, fc_st1, fc_st2, fc_kill]) (t_X11_best_28   _ _ _ _ _ _ hf)
  · refine ft_ldc2 dX11_best_8 kc_X11_302 ?_
    exact fk_retl hf dX11_best_11 rfl
def f_X11_bestCall (I : fc_I) (x1 : Int32) : Option Int32 :=
fq_v (f_X11_isIn (Int32.toInt64 x1) 0 5) fun r6 =>
if r6.toInt = 0 then (
some (-1))
else (
fq_g 6 x1 (
some (I 126 (cn x1))))
set_option maxHeartbeats 4000000 in
set_option maxRecDepth 100000 in
theorem t_X11_bestCall {d : Nat} {v : Nat} {r : Int32} {I : fc_I} {x1 : Int32} (hf : f_X11_bestCall I x1 = some r) : fc_Cp X11_bestCall (d + 1) [.ref 78, .int x1] fc_SH I (fc_PT v) r := by
  unfold f_X11_bestCall at hf
  refine fc_Cp.of (ls := [some (.ref 78), some (.int x1)]) ⟨rfl, rfl⟩ (Nat.le_of_ble_eq_true rfl) rfl ?_
  refine ft_iload_n dX11_bestCall_0 rfl ?_
  refine ft_i2l dX11_bestCall_1 ?_
  refine ft_lconst (v := 0) dX11_bestCall_2 rfl ?_
  refine ft_ldc2 dX11_bestCall_3 kc_X11_49 ?_
  obtain ⟨r6, hc6, hf⟩ := fq_vs hf
  refine ft_S3p cf_X11_18 (t_X11_isIn hc6) (Nat.le_of_ble_eq_true rfl) dX11_bestCall_6 ?_
  refine fk_if_eq (tgt := 21) dX11_bestCall_9 (by decide) hf (fun hf => ?_) (fun hf => ?_)
  · refine ft_iconst (v := (-1)) dX11_bestCall_21 rfl ?_
    exact fk_retp hf dX11_bestCall_22 rfl rfl
  · refine ft_aload_n dX11_bestCall_12 rfl ?_
    refine ft_getR fl_X11_339 rfl (sh_78) (by decide) pt_78_70 dX11_bestCall_13 ?_
    refine ft_iload_n dX11_bestCall_16 rfl ?_
    refine fk_iald (sh_126) hf dX11_bestCall_17 (fun hf => ?_)
    refine ft_goto (tgt := 22) dX11_bestCall_18 (by decide) ?_
    exact fk_retp hf dX11_bestCall_22 rfl rfl
def f_X11_bus (I : fc_I) (x1 : Int32) (x2 : Int32) (x3 : Int32) (x4 : Int32) : Option (Int32 × fc_I) :=
fq_v (f_X11_isZone I x1) fun r2 =>
if r2.toInt = 0 then (
some ((-2), I))
else (
fq_v (f_X11_isShelter I x2) fun r10 =>
if r10.toInt = 0 then (
some ((-2), I))
else (
fq_v (f_X11_isIn (Int32.toInt64 x3) 1 99) fun r22 =>
if r22.toInt = 0 then (
some ((-2), I))
else (
fq_v (f_X11_isIn (Int32.toInt64 x4) 1 9) fun r35 =>
if r35.toInt = 0 then (
some ((-2), I))
else (
if (I 78 19).toInt = (4 : Int32).toInt then (
some ((-4), I))
else (
fq_g 4 (I 78 19) (fq_l (fc_wI I 93 (cn (I 78 19)) x1) fun I64 =>
fq_g 4 (I64 78 19) (fq_l (fc_wI I64 94 (cn (I64 78 19)) x2) fun I74 =>
fq_g 4 (I74 78 19) (fq_l (fc_wI I74 95 (cn (I74 78 19)) x3) fun I84 =>
fq_g 4 (I84 78 19) (fq_l (fc_wI I84 96 (cn (I84 78 19)) x4) fun I95 =>
fq_l (fc_wI I95 78 19 ((I95 78 19) + 1)) fun I103 =>
some (((I103 78 19) - 1), I103))))))))))
set_option maxHeartbeats 4000000 in
set_option maxRecDepth 100000 in
theorem t_X11_bus {d : Nat} {v : Nat} {r : Int32} {J : fc_I} {I : fc_I} {x1 : Int32} {x2 : Int32} {x3 : Int32} {x4 : Int32} (hf : f_X11_bus I x1 x2 x3 x4 = some (r, J)) : fc_Ci X11_bus (d + 1) [.ref 78, .int x1, .int x2, .int x3, .int x4] fc_SH I (fc_PT v) (fun r' I' P' => r' = r ∧ I' = J ∧ P' = (fc_PT v)) := by
  unfold f_X11_bus at hf
  refine fc_Ci.of (ls := [some (.ref 78), some (.int x1), some (.int x2), some (.int x3), some (.int x4)]) ⟨rfl, rfl⟩ (Nat.le_of_ble_eq_true rfl) rfl ?_
  refine ft_aload_n dX11_bus_0 rfl ?_
  refine ft_iload_n dX11_bus_1 rfl ?_
  obtain ⟨r2, hc2, hf⟩ := fq_vs hf
  refine ft_V1p cf_X11_42 (sh_78) (t_X11_isZone hc2) (Nat.le_of_ble_eq_true rfl) dX11_bus_2 ?_
  refine fk_if_eq (tgt := 41) dX11_bus_5 (by decide) hf (fun hf => ?_) (fun hf => ?_)
  · refine ft_bipush (v := (-2)) dX11_bus_41 rfl ?_
    exact fk_reti hf dX11_bus_43 rfl rfl
  · refine ft_aload_n dX11_bus_8 rfl ?_
    refine ft_iload_n dX11_bus_9 rfl ?_
    obtain ⟨r10, hc10, hf⟩ := fq_vs hf
    refine ft_V1p cf_X11_46 (sh_78) (t_X11_isShelter hc10) (Nat.le_of_ble_eq_true rfl) dX11_bus_10 ?_
    refine fk_if_eq (tgt := 41) dX11_bus_13 (by decide) hf (fun hf => ?_) (fun hf => ?_)
    · refine ft_bipush (v := (-2)) dX11_bus_41 rfl ?_
      exact fk_reti hf dX11_bus_43 rfl rfl
    · refine ft_iload_n dX11_bus_16 rfl ?_
      refine ft_i2l dX11_bus_17 ?_
      refine ft_lconst (v := 1) dX11_bus_18 rfl ?_
      refine ft_ldc2 dX11_bus_19 kc_X11_16 ?_
      obtain ⟨r22, hc22, hf⟩ := fq_vs hf
      refine ft_S3p cf_X11_18 (t_X11_isIn hc22) (Nat.le_of_ble_eq_true rfl) dX11_bus_22 ?_
      refine fk_if_eq (tgt := 41) dX11_bus_25 (by decide) hf (fun hf => ?_) (fun hf => ?_)
      · refine ft_bipush (v := (-2)) dX11_bus_41 rfl ?_
        exact fk_reti hf dX11_bus_43 rfl rfl
      · refine ft_iload dX11_bus_28 rfl ?_
        refine ft_i2l dX11_bus_30 ?_
        refine ft_lconst (v := 1) dX11_bus_31 rfl ?_
        refine ft_ldc2 dX11_bus_32 kc_X11_77 ?_
        obtain ⟨r35, hc35, hf⟩ := fq_vs hf
        refine ft_S3p cf_X11_18 (t_X11_isIn hc35) (Nat.le_of_ble_eq_true rfl) dX11_bus_35 ?_
        refine fk_if_ne (tgt := 44) dX11_bus_38 (by decide) hf (fun hf => ?_) (fun hf => ?_)
        · refine ft_aload_n dX11_bus_44 rfl ?_
          refine ft_getI fl_X11_13 rfl (sh_78) (by decide) dX11_bus_45 ?_
          refine ft_iconst (v := 4) dX11_bus_48 rfl ?_
          refine fk_icmp_ne (tgt := 55) dX11_bus_49 (by decide) hf (fun hf => ?_) (fun hf => ?_)
          · refine ft_aload_n dX11_bus_55 rfl ?_
            refine ft_getR fl_X11_79 rfl (sh_78) (by decide) pt_78_20 dX11_bus_56 ?_
            refine ft_aload_n dX11_bus_59 rfl ?_
            refine ft_getI fl_X11_13 rfl (sh_78) (by decide) dX11_bus_60 ?_
            refine ft_iload_n dX11_bus_63 rfl ?_
            refine fk_iast (sh_93) hf dX11_bus_64 (fun hf => ?_)
            refine ft_aload_n dX11_bus_65 rfl ?_
            refine ft_getR fl_X11_82 rfl (sh_78) (by decide) pt_78_21 dX11_bus_66 ?_
            refine ft_aload_n dX11_bus_69 rfl ?_
            refine ft_getI fl_X11_13 rfl (sh_78) (by decide) dX11_bus_70 ?_
            refine ft_iload_n dX11_bus_73 rfl ?_
            refine fk_iast (sh_94) hf dX11_bus_74 (fun hf => ?_)
            refine ft_aload_n dX11_bus_75 rfl ?_
            refine ft_getR fl_X11_85 rfl (sh_78) (by decide) pt_78_22 dX11_bus_76 ?_
            refine ft_aload_n dX11_bus_79 rfl ?_
            refine ft_getI fl_X11_13 rfl (sh_78) (by decide) dX11_bus_80 ?_
            refine ft_iload_n dX11_bus_83 rfl ?_
            refine fk_iast (sh_95) hf dX11_bus_84 (fun hf => ?_)
            refine ft_aload_n dX11_bus_85 rfl ?_
            refine ft_getR fl_X11_88 rfl (sh_78) (by decide) pt_78_23 dX11_bus_86 ?_
            refine ft_aload_n dX11_bus_89 rfl ?_
            refine ft_getI fl_X11_13 rfl (sh_78) (by decide) dX11_bus_90 ?_
            refine ft_iload dX11_bus_93 rfl ?_
            refine fk_iast (sh_96) hf dX11_bus_95 (fun hf => ?_)
            refine ft_aload_n dX11_bus_96 rfl ?_
            refine ft_dup dX11_bus_97 rfl ?_
            refine ft_getI fl_X11_13 rfl (sh_78) (by decide) dX11_bus_98 ?_
            refine ft_iconst (v := 1) dX11_bus_101 rfl ?_
            refine ft_iadd dX11_bus_102 ?_
            refine ft_putI fl_X11_13 rfl (fun q h => by cases h; rfl) (sh_78) (by decide) dX11_bus_103 ?_
            refine ft_aload_n dX11_bus_106 rfl ?_
            refine ft_getI fl_X11_13 rfl (sh_78) (by decide) dX11_bus_107 ?_
            refine ft_iconst (v := 1) dX11_bus_110 rfl ?_
            refine ft_isub dX11_bus_111 ?_
            exact fk_reti hf dX11_bus_112 rfl rfl
          · refine ft_bipush (v := (-4)) dX11_bus_52 rfl ?_
            exact fk_reti hf dX11_bus_54 rfl rfl
        · refine ft_bipush (v := (-2)) dX11_bus_41 rfl ?_
          exact fk_reti hf dX11_bus_43 rfl rfl
def f_X11_busTold (I : fc_I) (x1 : Int32) (x2 : Int32) : Option Int32 :=
fq_v (f_X11_isBus I x1) fun r2 =>
if r2.toInt = 0 then (
some (-2))
else (
fq_v (f_X11_isIn (Int32.toInt64 x2) 0 2) fun r14 =>
if r14.toInt = 0 then (
some (-2))
else (
if x2.toInt = 0 then (
fq_g 4 x1 (
if (I 97 (cn x1)).toInt = ((-1) : Int32).toInt then (
some 1)
else (
some 0)))
else (
if x2.toInt = (1 : Int32).toInt then (
fq_g 4 x1 (
some (I 98 (cn x1))))
else (
fq_g 4 x1 (
some (I 97 (cn x1)))))))
set_option maxHeartbeats 4000000 in
set_option maxRecDepth 100000 in
theorem t_X11_busTold {d : Nat} {v : Nat} {r : Int32} {I : fc_I} {x1 : Int32} {x2 : Int32} (hf : f_X11_busTold I x1 x2 = some r) : fc_Cp X11_busTold (d + 1) [.ref 78, .int x1, .int x2] fc_SH I (fc_PT v) r := by
  unfold f_X11_busTold at hf
  refine fc_Cp.of (ls := [some (.ref 78), some (.int x1), some (.int x2)]) ⟨rfl, rfl⟩ (Nat.le_of_ble_eq_true rfl) rfl ?_
  refine ft_aload_n dX11_busTold_0 rfl ?_
  refine ft_iload_n dX11_busTold_1 rfl ?_
  obtain ⟨r2, hc2, hf⟩ := fq_vs hf
  refine ft_V1p cf_X11_120 (sh_78) (t_X11_isBus hc2) (Nat.le_of_ble_eq_true rfl) dX11_busTold_2 ?_
  refine fk_if_eq (tgt := 20) dX11_busTold_5 (by decide) hf (fun hf => ?_) (fun hf => ?_)
  · refine ft_bipush (v := (-2)) dX11_busTold_20 rfl ?_
    exact fk_retp hf dX11_busTold_22 rfl rfl
  · refine ft_iload_n dX11_busTold_8 rfl ?_
    refine ft_i2l dX11_busTold_9 ?_
    refine ft_lconst (v := 0) dX11_busTold_10 rfl ?_
    refine ft_ldc2 dX11_busTold_11 kc_X11_123 ?_
    obtain ⟨r14, hc14, hf⟩ := fq_vs hf
    refine ft_S3p cf_X11_18 (t_X11_isIn hc14) (Nat.le_of_ble_eq_true rfl) dX11_busTold_14 ?_
    refine fk_if_ne (tgt := 23) dX11_busTold_17 (by decide) hf (fun hf => ?_) (fun hf => ?_)
    · refine ft_iload_n dX11_busTold_23 rfl ?_
      refine fk_if_ne (tgt := 45) dX11_busTold_24 (by decide) hf (fun hf => ?_) (fun hf => ?_)
      · refine ft_iload_n dX11_busTold_45 rfl ?_
        refine ft_iconst (v := 1) dX11_busTold_46 rfl ?_
        refine fk_icmp_ne (tgt := 59) dX11_busTold_47 (by decide) hf (fun hf => ?_) (fun hf => ?_)
        · refine ft_aload_n dX11_busTold_59 rfl ?_
          refine ft_getR fl_X11_125 rfl (sh_78) (by decide) pt_78_24 dX11_busTold_60 ?_
          refine ft_iload_n dX11_busTold_63 rfl ?_
          refine fk_iald (sh_97) hf dX11_busTold_64 (fun hf => ?_)
          exact fk_retp hf dX11_busTold_65 rfl rfl
        · refine ft_aload_n dX11_busTold_50 rfl ?_
          refine ft_getR fl_X11_128 rfl (sh_78) (by decide) pt_78_25 dX11_busTold_51 ?_
          refine ft_iload_n dX11_busTold_54 rfl ?_
          refine fk_iald (sh_98) hf dX11_busTold_55 (fun hf => ?_)
          refine ft_goto (tgt := 65) dX11_busTold_56 (by decide) ?_
          exact fk_retp hf dX11_busTold_65 rfl rfl
      · refine ft_aload_n dX11_busTold_27 rfl ?_
        refine ft_getR fl_X11_125 rfl (sh_78) (by decide) pt_78_24 dX11_busTold_28 ?_
        refine ft_iload_n dX11_busTold_31 rfl ?_
        refine fk_iald (sh_97) hf dX11_busTold_32 (fun hf => ?_)
        refine ft_iconst (v := (-1)) dX11_busTold_33 rfl ?_
        refine fk_icmp_ne (tgt := 41) dX11_busTold_34 (by decide) hf (fun hf => ?_) (fun hf => ?_)
        · refine ft_iconst (v := 0) dX11_busTold_41 rfl ?_
          refine ft_goto (tgt := 65) dX11_busTold_42 (by decide) ?_
          exact fk_retp hf dX11_busTold_65 rfl rfl
        · refine ft_iconst (v := 1) dX11_busTold_37 rfl ?_
          refine ft_goto (tgt := 65) dX11_busTold_38 (by decide) ?_
          exact fk_retp hf dX11_busTold_65 rfl rfl
    · refine ft_bipush (v := (-2)) dX11_busTold_20 rfl ?_
      exact fk_retp hf dX11_busTold_22 rfl rfl
def f_X11_call (I : fc_I) (x1 : Int32) : Option (Int32 × fc_I) :=
fq_v (f_X11_isZone I x1) fun r2 =>
if r2.toInt = 0 then (
some ((-2), I))
else (
fq_g 6 x1 (
if (I 83 (cn x1)).toInt = ((-1) : Int32).toInt then (
if (I 78 0).toInt = (I 78 1).toInt then (
some ((-3), I))
else (
fq_g 6 x1 (fq_l (fc_wI I 83 (cn x1) (I 78 0)) fun I44 =>
some ((I44 78 0), I44))))
else (
some ((-3), I))))
set_option maxHeartbeats 4000000 in
set_option maxRecDepth 100000 in
theorem t_X11_call {d : Nat} {v : Nat} {r : Int32} {J : fc_I} {I : fc_I} {x1 : Int32} (hf : f_X11_call I x1 = some (r, J)) : fc_Ci X11_call (d + 1) [.ref 78, .int x1] fc_SH I (fc_PT v) (fun r' I' P' => r' = r ∧ I' = J ∧ P' = (fc_PT v)) := by
  unfold f_X11_call at hf
  refine fc_Ci.of (ls := [some (.ref 78), some (.int x1)]) ⟨rfl, rfl⟩ (Nat.le_of_ble_eq_true rfl) rfl ?_
  refine ft_aload_n dX11_call_0 rfl ?_
  refine ft_iload_n dX11_call_1 rfl ?_
  obtain ⟨r2, hc2, hf⟩ := fq_vs hf
  refine ft_V1p cf_X11_42 (sh_78) (t_X11_isZone hc2) (Nat.le_of_ble_eq_true rfl) dX11_call_2 ?_
  refine fk_if_ne (tgt := 11) dX11_call_5 (by decide) hf (fun hf => ?_) (fun hf => ?_)
  · refine ft_aload_n dX11_call_11 rfl ?_
    refine ft_getR fl_X11_96 rfl (sh_78) (by decide) pt_78_7 dX11_call_12 ?_
    refine ft_iload_n dX11_call_15 rfl ?_
    refine fk_iald (sh_83) hf dX11_call_16 (fun hf => ?_)
    refine ft_iconst (v := (-1)) dX11_call_17 rfl ?_
    refine fk_icmp_ne (tgt := 32) dX11_call_18 (by decide) hf (fun hf => ?_) (fun hf => ?_)
    · refine ft_bipush (v := (-3)) dX11_call_32 rfl ?_
      exact fk_reti hf dX11_call_34 rfl rfl
    · refine ft_aload_n dX11_call_21 rfl ?_
      refine ft_getI fl_X11_26 rfl (sh_78) (by decide) dX11_call_22 ?_
      refine ft_aload_n dX11_call_25 rfl ?_
      refine ft_getI fl_X11_136 rfl (sh_78) (by decide) dX11_call_26 ?_
      refine fk_icmp_ne (tgt := 35) dX11_call_29 (by decide) hf (fun hf => ?_) (fun hf => ?_)
      · refine ft_aload_n dX11_call_35 rfl ?_
        refine ft_getR fl_X11_96 rfl (sh_78) (by decide) pt_78_7 dX11_call_36 ?_
        refine ft_iload_n dX11_call_39 rfl ?_
        refine ft_aload_n dX11_call_40 rfl ?_
        refine ft_getI fl_X11_26 rfl (sh_78) (by decide) dX11_call_41 ?_
        refine fk_iast (sh_83) hf dX11_call_44 (fun hf => ?_)
        refine ft_aload_n dX11_call_45 rfl ?_
        refine ft_getI fl_X11_26 rfl (sh_78) (by decide) dX11_call_46 ?_
        exact fk_reti hf dX11_call_49 rfl rfl
      · refine ft_bipush (v := (-3)) dX11_call_32 rfl ?_
        exact fk_reti hf dX11_call_34 rfl rfl
  · refine ft_bipush (v := (-2)) dX11_call_8 rfl ?_
    exact fk_reti hf dX11_call_10 rfl rfl
def f_X11_cutTo (x0 : Int32) (x1 : Int32) : Option Int32 :=
if x0.toInt = 0 then (
some (Int8.toInt32 (Int32.toInt8 x1)))
else (
if x0.toInt = (1 : Int32).toInt then (
some (Int16.toInt32 (Int32.toInt16 x1)))
else (
some x1))
set_option maxHeartbeats 4000000 in
set_option maxRecDepth 100000 in
theorem t_X11_cutTo {d : Nat} {sh : fc_Sh} {P : fc_P} {r : Int32} {I : fc_I} {x0 : Int32} {x1 : Int32} (hf : f_X11_cutTo  x0 x1 = some r) : fc_Cp X11_cutTo d [.int x0, .int x1] sh I P r := by
  unfold f_X11_cutTo at hf
  refine fc_Cp.of (ls := [some (.int x0), some (.int x1)]) ⟨rfl, rfl⟩ (Nat.le_of_ble_eq_true rfl) rfl ?_
  refine ft_iload_n dX11_cutTo_0 rfl ?_
  refine fk_if_ne (tgt := 9) dX11_cutTo_1 (by decide) hf (fun hf => ?_) (fun hf => ?_)
  · refine ft_iload_n dX11_cutTo_9 rfl ?_
    refine ft_iconst (v := 1) dX11_cutTo_10 rfl ?_
    refine fk_icmp_ne (tgt := 19) dX11_cutTo_11 (by decide) hf (fun hf => ?_) (fun hf => ?_)
    · refine ft_iload_n dX11_cutTo_19 rfl ?_
      exact fk_retp hf dX11_cutTo_20 rfl rfl
    · refine ft_iload_n dX11_cutTo_14 rfl ?_
      refine ft_i2s dX11_cutTo_15 ?_
      refine ft_goto (tgt := 20) dX11_cutTo_16 (by decide) ?_
      exact fk_retp hf dX11_cutTo_20 rfl rfl
  · refine ft_iload_n dX11_cutTo_4 rfl ?_
    refine ft_i2b dX11_cutTo_5 ?_
    refine ft_goto (tgt := 20) dX11_cutTo_6 (by decide) ?_
    exact fk_retp hf dX11_cutTo_20 rfl rfl
def f_X11_cell (I : fc_I) (x1 : Int32) (x2 : Int32) (x3 : Int32) : Option (Int32 × fc_I) :=
fq_v (f_X11_isSheet x1) fun r1 =>
if r1.toInt = 0 then (
some ((-2), I))
else (
fq_g 4 x1 (
if (I 127 (cn x1)).toInt < 0 then (
some ((-11), I))
else (
fq_g 4 x1 (
fq_v (f_X11_isIn (Int32.toInt64 x2) 0 (Int32.toInt64 ((I 128 (cn x1)) - 1))) fun r34 =>
if r34.toInt = 0 then (
some ((-12), I))
else (
fq_g 4 x1 (
fq_v (f_X11_cutTo (I 127 (cn x1)) x3) fun r60 =>
fq_g 160 (((40 : Int32) * x1) + x2) (fq_l (fc_wI I 129 (cn (((40 : Int32) * x1) + x2)) r60) fun I63 =>
some (1, I63))))))))
set_option maxHeartbeats 4000000 in
set_option maxRecDepth 100000 in
theorem t_X11_cell {d : Nat} {v : Nat} {r : Int32} {J : fc_I} {I : fc_I} {x1 : Int32} {x2 : Int32} {x3 : Int32} (hf : f_X11_cell I x1 x2 x3 = some (r, J)) : fc_Ci X11_cell (d + 2) [.ref 78, .int x1, .int x2, .int x3] fc_SH I (fc_PT v) (fun r' I' P' => r' = r ∧ I' = J ∧ P' = (fc_PT v)) := by
  unfold f_X11_cell at hf
  refine fc_Ci.of (ls := [some (.ref 78), some (.int x1), some (.int x2), some (.int x3)]) ⟨rfl, rfl⟩ (Nat.le_of_ble_eq_true rfl) rfl ?_
  refine ft_iload_n dX11_cell_0 rfl ?_
  obtain ⟨r1, hc1, hf⟩ := fq_vs hf
  refine ft_S1p cf_X11_424 (t_X11_isSheet hc1) (Nat.le_of_ble_eq_true rfl) dX11_cell_1 ?_
  refine fk_if_ne (tgt := 10) dX11_cell_4 (by decide) hf (fun hf => ?_) (fun hf => ?_)
  · refine ft_aload_n dX11_cell_10 rfl ?_
    refine ft_getR fl_X11_342 rfl (sh_78) (by decide) pt_78_71 dX11_cell_11 ?_
    refine ft_iload_n dX11_cell_14 rfl ?_
    refine fk_iald (sh_127) hf dX11_cell_15 (fun hf => ?_)
    refine fk_if_ge (tgt := 22) dX11_cell_16 (by decide) hf (fun hf => ?_) (fun hf => ?_)
    · refine ft_iload_n dX11_cell_22 rfl ?_
      refine ft_i2l dX11_cell_23 ?_
      refine ft_lconst (v := 0) dX11_cell_24 rfl ?_
      refine ft_aload_n dX11_cell_25 rfl ?_
      refine ft_getR fl_X11_345 rfl (sh_78) (by decide) pt_78_72 dX11_cell_26 ?_
      refine ft_iload_n dX11_cell_29 rfl ?_
      refine fk_iald (sh_128) hf dX11_cell_30 (fun hf => ?_)
      refine ft_iconst (v := 1) dX11_cell_31 rfl ?_
      refine ft_isub dX11_cell_32 ?_
      refine ft_i2l dX11_cell_33 ?_
      obtain ⟨r34, hc34, hf⟩ := fq_vs hf
      refine ft_S3p cf_X11_18 (t_X11_isIn hc34) (Nat.le_of_ble_eq_true rfl) dX11_cell_34 ?_
      refine fk_if_ne (tgt := 43) dX11_cell_37 (by decide) hf (fun hf => ?_) (fun hf => ?_)
      · refine ft_aload_n dX11_cell_43 rfl ?_
        refine ft_getR fl_X11_348 rfl (sh_78) (by decide) pt_78_73 dX11_cell_44 ?_
        refine ft_bipush (v := 40) dX11_cell_47 rfl ?_
        refine ft_iload_n dX11_cell_49 rfl ?_
        refine ft_imul dX11_cell_50 ?_
        refine ft_iload_n dX11_cell_51 rfl ?_
        refine ft_iadd dX11_cell_52 ?_
        refine ft_aload_n dX11_cell_53 rfl ?_
        refine ft_getR fl_X11_342 rfl (sh_78) (by decide) pt_78_71 dX11_cell_54 ?_
        refine ft_iload_n dX11_cell_57 rfl ?_
        refine fk_iald (sh_127) hf dX11_cell_58 (fun hf => ?_)
        refine ft_iload_n dX11_cell_59 rfl ?_
        obtain ⟨r60, hc60, hf⟩ := fq_vs hf
        refine ft_S2p cf_X11_429 (t_X11_cutTo hc60) (Nat.le_of_ble_eq_true rfl) dX11_cell_60 ?_
        refine fk_iast (sh_129) hf dX11_cell_63 (fun hf => ?_)
        refine ft_iconst (v := 1) dX11_cell_64 rfl ?_
        exact fk_reti hf dX11_cell_65 rfl rfl
      · refine ft_bipush (v := (-12)) dX11_cell_40 rfl ?_
        exact fk_reti hf dX11_cell_42 rfl rfl
    · refine ft_bipush (v := (-11)) dX11_cell_19 rfl ?_
      exact fk_reti hf dX11_cell_21 rfl rfl
  · refine ft_bipush (v := (-2)) dX11_cell_7 rfl ?_
    exact fk_reti hf dX11_cell_9 rfl rfl
def f_X11_copy_140_B (x3 : Int32) (x4 : Int32) (x5 : Int32) (k140 : Int32 → fc_I → Option (Int32 × fc_I)) (x6 : Int32) (I : fc_I) : Option (Int32 × fc_I) :=
if x6.toInt < x5.toInt then (
fq_g 40 x6 (
fq_g 160 ((((40 : Int32) * x3) + x4) + x6) (fq_l (fc_wI I 129 (cn ((((40 : Int32) * x3) + x4) + x6)) (I 130 (cn x6))) fun I168 =>
fq_l (x6 + 1) fun y169 =>
k140 y169 I168)))
else (
some (x5, I))
def f_X11_copy_140 (x3 : Int32) (x4 : Int32) (x5 : Int32) (n : Nat) : Int32 → fc_I → Option (Int32 × fc_I) := lpm1 (f_X11_copy_140_B x3 x4 x5 ) n
def f_X11_copy_103_B (x1 : Int32) (x2 : Int32) (x3 : Int32) (x4 : Int32) (x5 : Int32) (k103 : Int32 → fc_I → Option (Int32 × fc_I)) (x6 : Int32) (I : fc_I) : Option (Int32 × fc_I) :=
if x6.toInt < x5.toInt then (
fq_g 160 ((((40 : Int32) * x1) + x2) + x6) (
fq_g 40 x6 (fq_l (fc_wI I 130 (cn x6) (I 129 (cn ((((40 : Int32) * x1) + x2) + x6)))) fun I130 =>
fq_l (x6 + 1) fun y131 =>
k103 y131 I130)))
else (
f_X11_copy_140 x3 x4 x5 4000 0 I)
def f_X11_copy_103 (x1 : Int32) (x2 : Int32) (x3 : Int32) (x4 : Int32) (x5 : Int32) (n : Nat) : Int32 → fc_I → Option (Int32 × fc_I) := lpm1 (f_X11_copy_103_B x1 x2 x3 x4 x5 ) n
def f_X11_copy (I : fc_I) (x1 : Int32) (x2 : Int32) (x3 : Int32) (x4 : Int32) (x5 : Int32) : Option (Int32 × fc_I) :=
fq_v (f_X11_isSheet x1) fun r1 =>
if r1.toInt = 0 then (
some ((-2), I))
else (
fq_v (f_X11_isSheet x3) fun r8 =>
if r8.toInt = 0 then (
some ((-2), I))
else (
fq_g 4 x1 (
if (I 127 (cn x1)).toInt < 0 then (
some ((-11), I))
else (
fq_g 4 x3 (
if (I 127 (cn x3)).toInt < 0 then (
some ((-11), I))
else (
fq_g 4 x1 (
fq_g 4 x3 (
if (I 127 (cn x1)).toInt = (I 127 (cn x3)).toInt then (
if x5.toInt < 0 then (
some ((-12), I))
else (
if x2.toInt < 0 then (
some ((-12), I))
else (
if x4.toInt < 0 then (
some ((-12), I))
else (
fq_g 4 x1 (
if ((I 128 (cn x1)) - x2).toInt < x5.toInt then (
some ((-12), I))
else (
fq_g 4 x3 (
if ((I 128 (cn x3)) - x4).toInt < x5.toInt then (
some ((-12), I))
else (
f_X11_copy_103 x1 x2 x3 x4 x5 4000 0 I))))))))
else (
some ((-13), I))))))))))
set_option maxHeartbeats 4000000 in
set_option maxRecDepth 100000 in
theorem t_X11_copy_140 {d : Nat} {v : Nat} {r : Int32} {J : fc_I} {x3 : Int32} {x4 : Int32} {x5 : Int32} : ∀ (n : Nat) (x6 : Int32) (I : fc_I) , f_X11_copy_140 x3 x4 x5 n x6 I = some (r, J) → fc_T X11_copy (d + 2) 0 0 140 [some (.ref 78), none, none, some (.int x3), some (.int x4), some (.int x5), some (.int x6)] [] fc_SH I (fc_PT v) (fc_Qi fc_SH (fun r' I' P' => r' = r ∧ I' = J ∧ P' = (fc_PT v))) := by
  unfold f_X11_copy_140
  refine lpm1_T (fun k140 hk140 x6 I hf => ?_)
  unfold f_X11_copy_140_B at hf
  refine ft_iload dX11_copy_140 rfl ?_
  refine ft_iload dX11_copy_142 rfl ?_
  refine fk_icmp_ge (tgt := 175) dX11_copy_144 (by decide) hf (fun hf => ?_) (fun hf => ?_)
  · refine ft_iload dX11_copy_175 rfl ?_
    exact fk_reti hf dX11_copy_177 rfl rfl
  · refine ft_aload_n dX11_copy_147 rfl ?_
    refine ft_getR fl_X11_348 rfl (sh_78) (by decide) pt_78_73 dX11_copy_148 ?_
    refine ft_bipush (v := 40) dX11_copy_151 rfl ?_
    refine ft_iload_n dX11_copy_153 rfl ?_
    refine ft_imul dX11_copy_154 ?_
    refine ft_iload dX11_copy_155 rfl ?_
    refine ft_iadd dX11_copy_157 ?_
    refine ft_iload dX11_copy_158 rfl ?_
    refine ft_iadd dX11_copy_160 ?_
    refine ft_aload_n dX11_copy_161 rfl ?_
    refine ft_getR fl_X11_351 rfl (sh_78) (by decide) pt_78_74 dX11_copy_162 ?_
    refine ft_iload dX11_copy_165 rfl ?_
    refine fk_iald (sh_130) hf dX11_copy_167 (fun hf => ?_)
    refine fk_iast (sh_129) hf dX11_copy_168 (fun hf => ?_)
    refine fk_iinc (c := 1) dX11_copy_169 rfl (by decide) rfl ?_
    refine ft_goto (tgt := 140) dX11_copy_172 (by decide) ?_
    exact ft_forget (by simp [fc_le, fc_st1, fc_st2, fc_kill]) (hk140 _ _ hf)
set_option maxHeartbeats 4000000 in
set_option maxRecDepth 100000 in
theorem t_X11_copy_103 {d : Nat} {v : Nat} {r : Int32} {J : fc_I} {x1 : Int32} {x2 : Int32} {x3 : Int32} {x4 : Int32} {x5 : Int32} : ∀ (n : Nat) (x6 : Int32) (I : fc_I) , f_X11_copy_103 x1 x2 x3 x4 x5 n x6 I = some (r, J) → fc_T X11_copy (d + 2) 0 0 103 [some (.ref 78), some (.int x1), some (.int x2), some (.int x3), some (.int x4), some (.int x5), some (.int x6)] [] fc_SH I (fc_PT v) (fc_Qi fc_SH (fun r' I' P' => r' = r ∧ I' = J ∧ P' = (fc_PT v))) := by
  unfold f_X11_copy_103
  refine lpm1_T (fun k103 hk103 x6 I hf => ?_)
  unfold f_X11_copy_103_B at hf
  refine ft_iload dX11_copy_103 rfl ?_
  refine ft_iload dX11_copy_105 rfl ?_
  refine fk_icmp_ge (tgt := 137) dX11_copy_107 (by decide) hf (fun hf => ?_) (fun hf => ?_)
  · refine ft_iconst (v := 0) dX11_copy_137 rfl ?_
    refine ft_istore dX11_copy_138 (by decide) ?_
    exact ft_forget (by simp [fc_le, fc_st1, fc_st2, fc_kill]) (t_X11_copy_140   _ _ _ hf)
  · refine ft_aload_n dX11_copy_110 rfl ?_
    refine ft_getR fl_X11_351 rfl (sh_78) (by decide) pt_78_74 dX11_copy_111 ?_
    refine ft_iload dX11_copy_114 rfl ?_
    refine ft_aload_n dX11_copy_116 rfl ?_
    refine ft_getR fl_X11_348 rfl (sh_78) (by decide) pt_78_73 dX11_copy_117 ?_
    refine ft_bipush (v := 40) dX11_copy_120 rfl ?_
    refine ft_iload_n dX11_copy_122 rfl ?_
    refine ft_imul dX11_copy_123 ?_
    refine ft_iload_n dX11_copy_124 rfl ?_
    refine ft_iadd dX11_copy_125 ?_
    refine ft_iload dX11_copy_126 rfl ?_
    refine ft_iadd dX11_copy_128 ?_
    refine fk_iald (sh_129) hf dX11_copy_129 (fun hf => ?_)
    refine fk_iast (sh_130) hf dX11_copy_130 (fun hf => ?_)
    refine fk_iinc (c := 1) dX11_copy_131 rfl (by decide) rfl ?_
    refine ft_goto (tgt := 103) dX11_copy_134 (by decide) ?_
    exact ft_forget (by simp [fc_le, fc_st1, fc_st2, fc_kill]) (hk103 _ _ hf)
set_option maxHeartbeats 4000000 in
set_option maxRecDepth 100000 in
theorem t_X11_copy {d : Nat} {v : Nat} {r : Int32} {J : fc_I} {I : fc_I} {x1 : Int32} {x2 : Int32} {x3 : Int32} {x4 : Int32} {x5 : Int32} (hf : f_X11_copy I x1 x2 x3 x4 x5 = some (r, J)) : fc_Ci X11_copy (d + 2) [.ref 78, .int x1, .int x2, .int x3, .int x4, .int x5] fc_SH I (fc_PT v) (fun r' I' P' => r' = r ∧ I' = J ∧ P' = (fc_PT v)) := by
  unfold f_X11_copy at hf
  refine fc_Ci.of (ls := [some (.ref 78), some (.int x1), some (.int x2), some (.int x3), some (.int x4), some (.int x5), none]) ⟨rfl, rfl⟩ (Nat.le_of_ble_eq_true rfl) rfl ?_
  refine ft_iload_n dX11_copy_0 rfl ?_
  obtain ⟨r1, hc1, hf⟩ := fq_vs hf
  refine ft_S1p cf_X11_424 (t_X11_isSheet hc1) (Nat.le_of_ble_eq_true rfl) dX11_copy_1 ?_
  refine fk_if_eq (tgt := 14) dX11_copy_4 (by decide) hf (fun hf => ?_) (fun hf => ?_)
  · refine ft_bipush (v := (-2)) dX11_copy_14 rfl ?_
    exact fk_reti hf dX11_copy_16 rfl rfl
  · refine ft_iload_n dX11_copy_7 rfl ?_
    obtain ⟨r8, hc8, hf⟩ := fq_vs hf
    refine ft_S1p cf_X11_424 (t_X11_isSheet hc8) (Nat.le_of_ble_eq_true rfl) dX11_copy_8 ?_
    refine fk_if_ne (tgt := 17) dX11_copy_11 (by decide) hf (fun hf => ?_) (fun hf => ?_)
    · refine ft_aload_n dX11_copy_17 rfl ?_
      refine ft_getR fl_X11_342 rfl (sh_78) (by decide) pt_78_71 dX11_copy_18 ?_
      refine ft_iload_n dX11_copy_21 rfl ?_
      refine fk_iald (sh_127) hf dX11_copy_22 (fun hf => ?_)
      refine fk_if_lt (tgt := 35) dX11_copy_23 (by decide) hf (fun hf => ?_) (fun hf => ?_)
      · refine ft_bipush (v := (-11)) dX11_copy_35 rfl ?_
        exact fk_reti hf dX11_copy_37 rfl rfl
      · refine ft_aload_n dX11_copy_26 rfl ?_
        refine ft_getR fl_X11_342 rfl (sh_78) (by decide) pt_78_71 dX11_copy_27 ?_
        refine ft_iload_n dX11_copy_30 rfl ?_
        refine fk_iald (sh_127) hf dX11_copy_31 (fun hf => ?_)
        refine fk_if_ge (tgt := 38) dX11_copy_32 (by decide) hf (fun hf => ?_) (fun hf => ?_)
        · refine ft_aload_n dX11_copy_38 rfl ?_
          refine ft_getR fl_X11_342 rfl (sh_78) (by decide) pt_78_71 dX11_copy_39 ?_
          refine ft_iload_n dX11_copy_42 rfl ?_
          refine fk_iald (sh_127) hf dX11_copy_43 (fun hf => ?_)
          refine ft_aload_n dX11_copy_44 rfl ?_
          refine ft_getR fl_X11_342 rfl (sh_78) (by decide) pt_78_71 dX11_copy_45 ?_
          refine ft_iload_n dX11_copy_48 rfl ?_
          refine fk_iald (sh_127) hf dX11_copy_49 (fun hf => ?_)
          refine fk_icmp_eq (tgt := 56) dX11_copy_50 (by decide) hf (fun hf => ?_) (fun hf => ?_)
          · refine ft_iload dX11_copy_56 rfl ?_
            refine fk_if_lt (tgt := 97) dX11_copy_58 (by decide) hf (fun hf => ?_) (fun hf => ?_)
            · refine ft_bipush (v := (-12)) dX11_copy_97 rfl ?_
              exact fk_reti hf dX11_copy_99 rfl rfl
            · refine ft_iload_n dX11_copy_61 rfl ?_
              refine fk_if_lt (tgt := 97) dX11_copy_62 (by decide) hf (fun hf => ?_) (fun hf => ?_)
              · refine ft_bipush (v := (-12)) dX11_copy_97 rfl ?_
                exact fk_reti hf dX11_copy_99 rfl rfl
              · refine ft_iload dX11_copy_65 rfl ?_
                refine fk_if_lt (tgt := 97) dX11_copy_67 (by decide) hf (fun hf => ?_) (fun hf => ?_)
                · refine ft_bipush (v := (-12)) dX11_copy_97 rfl ?_
                  exact fk_reti hf dX11_copy_99 rfl rfl
                · refine ft_iload dX11_copy_70 rfl ?_
                  refine ft_aload_n dX11_copy_72 rfl ?_
                  refine ft_getR fl_X11_345 rfl (sh_78) (by decide) pt_78_72 dX11_copy_73 ?_
                  refine ft_iload_n dX11_copy_76 rfl ?_
                  refine fk_iald (sh_128) hf dX11_copy_77 (fun hf => ?_)
                  refine ft_iload_n dX11_copy_78 rfl ?_
                  refine ft_isub dX11_copy_79 ?_
                  refine fk_icmp_gt (tgt := 97) dX11_copy_80 (by decide) hf (fun hf => ?_) (fun hf => ?_)
                  · refine ft_bipush (v := (-12)) dX11_copy_97 rfl ?_
                    exact fk_reti hf dX11_copy_99 rfl rfl
                  · refine ft_iload dX11_copy_83 rfl ?_
                    refine ft_aload_n dX11_copy_85 rfl ?_
                    refine ft_getR fl_X11_345 rfl (sh_78) (by decide) pt_78_72 dX11_copy_86 ?_
                    refine ft_iload_n dX11_copy_89 rfl ?_
                    refine fk_iald (sh_128) hf dX11_copy_90 (fun hf => ?_)
                    refine ft_iload dX11_copy_91 rfl ?_
                    refine ft_isub dX11_copy_93 ?_
                    refine fk_icmp_le (tgt := 100) dX11_copy_94 (by decide) hf (fun hf => ?_) (fun hf => ?_)
                    · refine ft_iconst (v := 0) dX11_copy_100 rfl ?_
                      refine ft_istore dX11_copy_101 (by decide) ?_
                      exact ft_forget (by simp [fc_le, fc_st1, fc_st2, fc_kill]) (t_X11_copy_103   _ _ _ hf)
                    · refine ft_bipush (v := (-12)) dX11_copy_97 rfl ?_
                      exact fk_reti hf dX11_copy_99 rfl rfl
          · refine ft_bipush (v := (-13)) dX11_copy_53 rfl ?_
            exact fk_reti hf dX11_copy_55 rfl rfl
        · refine ft_bipush (v := (-11)) dX11_copy_35 rfl ?_
          exact fk_reti hf dX11_copy_37 rfl rfl
    · refine ft_bipush (v := (-2)) dX11_copy_14 rfl ?_
      exact fk_reti hf dX11_copy_16 rfl rfl
def f_X11_sumOf_4_B (c : Nat) (N : Nat) (I : fc_I) (x1 : Int32) (k4 : Int32 → Int32 → Option Int32) (x2 : Int32) (x3 : Int32) : Option Int32 :=
if x3.toInt < x1.toInt then (
fq_g N x3 (
fq_l ((x2 + (I c (cn x3)))) fun y14 =>
fq_l (x3 + 1) fun y15 =>
k4 y14 y15))
else (
some x2)
def f_X11_sumOf_4 (c : Nat) (N : Nat) (I : fc_I) (x1 : Int32) (n : Nat) : Int32 → Int32 → Option Int32 := lpp2 (f_X11_sumOf_4_B c N I x1 ) n
def f_X11_sumOf (c : Nat) (N : Nat) (I : fc_I) (x1 : Int32) : Option Int32 :=
f_X11_sumOf_4 c N I x1 4000 0 0
set_option maxHeartbeats 4000000 in
set_option maxRecDepth 100000 in
theorem t_X11_sumOf_4 {d : Nat} {v : Nat} {c : Nat} {N : Nat} {r : Int32} {x1 : Int32} {I : fc_I} (hc : fc_SH[c]? = some (0, N)) (hN : N < 2147483648) : ∀ (n : Nat) (x2 : Int32) (x3 : Int32) , f_X11_sumOf_4 c N I x1 n x2 x3 = some r → fc_T X11_sumOf d 0 0 4 [some (.ref c), some (.int x1), some (.int x2), some (.int x3)] [] fc_SH I (fc_PT v) (fc_Qi fc_SH (fun r' I' P' => r' = r ∧ I' = I ∧ P' = (fc_PT v))) := by
  unfold f_X11_sumOf_4
  refine lpp2_T (fun k4 hk4 x2 x3 hf => ?_)
  unfold f_X11_sumOf_4_B at hf
  refine ft_iload_n dX11_sumOf_4 rfl ?_
  refine ft_iload_n dX11_sumOf_5 rfl ?_
  refine fk_icmp_ge (tgt := 21) dX11_sumOf_6 (by decide) hf (fun hf => ?_) (fun hf => ?_)
  · refine ft_iload_n dX11_sumOf_21 rfl ?_
    exact fk_retp hf dX11_sumOf_22 rfl rfl
  · refine ft_iload_n dX11_sumOf_9 rfl ?_
    refine ft_aload_n dX11_sumOf_10 rfl ?_
    refine ft_iload_n dX11_sumOf_11 rfl ?_
    refine fk_iald (hc) hf dX11_sumOf_12 (fun hf => ?_)
    refine ft_iadd dX11_sumOf_13 ?_
    refine ft_istore_n dX11_sumOf_14 (by decide) ?_
    refine fk_iinc (c := 1) dX11_sumOf_15 rfl (by decide) rfl ?_
    refine ft_goto (tgt := 4) dX11_sumOf_18 (by decide) ?_
    exact ft_forget (by simp [fc_le, fc_st1, fc_st2, fc_kill]) (hk4 _ _ hf)
set_option maxHeartbeats 4000000 in
set_option maxRecDepth 100000 in
theorem t_X11_sumOf {d : Nat} {v : Nat} {c : Nat} {N : Nat} {r : Int32} {I : fc_I} {x1 : Int32} (hc : fc_SH[c]? = some (0, N)) (hN : N < 2147483648) (hf : f_X11_sumOf c N I x1 = some r) : fc_Cp X11_sumOf d [.ref c, .int x1] fc_SH I (fc_PT v) r := by
  unfold f_X11_sumOf at hf
  refine fc_Cp.of (ls := [some (.ref c), some (.int x1), none, none]) ⟨rfl, rfl⟩ (Nat.le_of_ble_eq_true rfl) rfl ?_
  refine ft_iconst (v := 0) dX11_sumOf_0 rfl ?_
  refine ft_istore_n dX11_sumOf_1 (by decide) ?_
  refine ft_iconst (v := 0) dX11_sumOf_2 rfl ?_
  refine ft_istore_n dX11_sumOf_3 (by decide) ?_
  exact ft_forget (by simp [fc_le, fc_st1, fc_st2, fc_kill]) (t_X11_sumOf_4 hc hN  _ _ _ hf)
def f_X11_count (I : fc_I) (x1 : Int32) : Option Int32 :=
if x1.toInt = 0 then (
some (I 78 0))
else if x1.toInt = 1 then (
some (I 78 2))
else if x1.toInt = 2 then (
some (I 78 9))
else if x1.toInt = 3 then (
some (I 78 13))
else if x1.toInt = 4 then (
some (I 78 19))
else if x1.toInt = 5 then (
some (I 78 29))
else if x1.toInt = 6 then (
some (I 78 1))
else if x1.toInt = 7 then (
fq_v (f_X11_sumOf 80 6 I 6) fun r121 =>
some r121)
else if x1.toInt = 8 then (
fq_v (f_X11_sumOf 81 6 I 6) fun r131 =>
some r131)
else if x1.toInt = 9 then (
fq_v (f_X11_sumOf 82 6 I 6) fun r141 =>
some r141)
else if x1.toInt = 10 then (
fq_v (f_X11_sumOf 98 4 I 4) fun r150 =>
some r150)
else if x1.toInt = 11 then (
fq_v (f_X11_sumOf 86 3 I 3) fun r159 =>
some r159)
else if x1.toInt = 12 then (
some (I 78 26))
else if x1.toInt = 13 then (
some (I 78 40))
else if x1.toInt = 14 then (
some (I 78 39))
else if x1.toInt = 15 then (
some (I 78 41))
else (
some (-2))
set_option maxHeartbeats 4000000 in
set_option maxRecDepth 100000 in
theorem t_X11_count {d : Nat} {v : Nat} {r : Int32} {I : fc_I} {x1 : Int32} (hf : f_X11_count I x1 = some r) : fc_Cp X11_count (d + 1) [.ref 78, .int x1] fc_SH I (fc_PT v) r := by
  unfold f_X11_count at hf
  refine fc_Cp.of (ls := [some (.ref 78), some (.int x1)]) ⟨rfl, rfl⟩ (Nat.le_of_ble_eq_true rfl) rfl ?_
  refine ft_iload_n dX11_count_0 rfl ?_
  rcases fq_is hf with ⟨e_1_0, hf⟩ | ⟨e_1_0, hf⟩
  · refine ft_tsIn (tgt := 80) dX11_count_1 (by rw [e_1_0]; decide) (by rw [e_1_0]; decide) (by rw [e_1_0]; rfl) (by decide) ?_
    refine ft_aload_n dX11_count_80 rfl ?_
    refine ft_getI fl_X11_26 rfl (sh_78) (by decide) dX11_count_81 ?_
    exact fk_retp hf dX11_count_84 rfl rfl
  rcases fq_is hf with ⟨e_1_1, hf⟩ | ⟨e_1_1, hf⟩
  · refine ft_tsIn (tgt := 85) dX11_count_1 (by rw [e_1_1]; decide) (by rw [e_1_1]; decide) (by rw [e_1_1]; rfl) (by decide) ?_
    refine ft_aload_n dX11_count_85 rfl ?_
    refine ft_getI fl_X11_1 rfl (sh_78) (by decide) dX11_count_86 ?_
    exact fk_retp hf dX11_count_89 rfl rfl
  rcases fq_is hf with ⟨e_1_2, hf⟩ | ⟨e_1_2, hf⟩
  · refine ft_tsIn (tgt := 90) dX11_count_1 (by rw [e_1_2]; decide) (by rw [e_1_2]; decide) (by rw [e_1_2]; rfl) (by decide) ?_
    refine ft_aload_n dX11_count_90 rfl ?_
    refine ft_getI fl_X11_7 rfl (sh_78) (by decide) dX11_count_91 ?_
    exact fk_retp hf dX11_count_94 rfl rfl
  rcases fq_is hf with ⟨e_1_3, hf⟩ | ⟨e_1_3, hf⟩
  · refine ft_tsIn (tgt := 95) dX11_count_1 (by rw [e_1_3]; decide) (by rw [e_1_3]; decide) (by rw [e_1_3]; rfl) (by decide) ?_
    refine ft_aload_n dX11_count_95 rfl ?_
    refine ft_getI fl_X11_10 rfl (sh_78) (by decide) dX11_count_96 ?_
    exact fk_retp hf dX11_count_99 rfl rfl
  rcases fq_is hf with ⟨e_1_4, hf⟩ | ⟨e_1_4, hf⟩
  · refine ft_tsIn (tgt := 100) dX11_count_1 (by rw [e_1_4]; decide) (by rw [e_1_4]; decide) (by rw [e_1_4]; rfl) (by decide) ?_
    refine ft_aload_n dX11_count_100 rfl ?_
    refine ft_getI fl_X11_13 rfl (sh_78) (by decide) dX11_count_101 ?_
    exact fk_retp hf dX11_count_104 rfl rfl
  rcases fq_is hf with ⟨e_1_5, hf⟩ | ⟨e_1_5, hf⟩
  · refine ft_tsIn (tgt := 105) dX11_count_1 (by rw [e_1_5]; decide) (by rw [e_1_5]; decide) (by rw [e_1_5]; rfl) (by decide) ?_
    refine ft_aload_n dX11_count_105 rfl ?_
    refine ft_getI fl_X11_147 rfl (sh_78) (by decide) dX11_count_106 ?_
    exact fk_retp hf dX11_count_109 rfl rfl
  rcases fq_is hf with ⟨e_1_6, hf⟩ | ⟨e_1_6, hf⟩
  · refine ft_tsIn (tgt := 110) dX11_count_1 (by rw [e_1_6]; decide) (by rw [e_1_6]; decide) (by rw [e_1_6]; rfl) (by decide) ?_
    refine ft_aload_n dX11_count_110 rfl ?_
    refine ft_getI fl_X11_136 rfl (sh_78) (by decide) dX11_count_111 ?_
    exact fk_retp hf dX11_count_114 rfl rfl
  rcases fq_is hf with ⟨e_1_7, hf⟩ | ⟨e_1_7, hf⟩
  · refine ft_tsIn (tgt := 115) dX11_count_1 (by rw [e_1_7]; decide) (by rw [e_1_7]; decide) (by rw [e_1_7]; rfl) (by decide) ?_
    refine ft_aload_n dX11_count_115 rfl ?_
    refine ft_getR fl_X11_33 rfl (sh_78) (by decide) pt_78_4 dX11_count_116 ?_
    refine ft_bipush (v := 6) dX11_count_119 rfl ?_
    obtain ⟨r121, hc121, hf⟩ := fq_vs hf
    refine ft_S2p cf_X11_418 (t_X11_sumOf (sh_80) (by decide) hc121) (Nat.le_of_ble_eq_true rfl) dX11_count_121 ?_
    exact fk_retp hf dX11_count_124 rfl rfl
  rcases fq_is hf with ⟨e_1_8, hf⟩ | ⟨e_1_8, hf⟩
  · refine ft_tsIn (tgt := 125) dX11_count_1 (by rw [e_1_8]; decide) (by rw [e_1_8]; decide) (by rw [e_1_8]; rfl) (by decide) ?_
    refine ft_aload_n dX11_count_125 rfl ?_
    refine ft_getR fl_X11_93 rfl (sh_78) (by decide) pt_78_5 dX11_count_126 ?_
    refine ft_bipush (v := 6) dX11_count_129 rfl ?_
    obtain ⟨r131, hc131, hf⟩ := fq_vs hf
    refine ft_S2p cf_X11_418 (t_X11_sumOf (sh_81) (by decide) hc131) (Nat.le_of_ble_eq_true rfl) dX11_count_131 ?_
    exact fk_retp hf dX11_count_134 rfl rfl
  rcases fq_is hf with ⟨e_1_9, hf⟩ | ⟨e_1_9, hf⟩
  · refine ft_tsIn (tgt := 135) dX11_count_1 (by rw [e_1_9]; decide) (by rw [e_1_9]; decide) (by rw [e_1_9]; rfl) (by decide) ?_
    refine ft_aload_n dX11_count_135 rfl ?_
    refine ft_getR fl_X11_36 rfl (sh_78) (by decide) pt_78_6 dX11_count_136 ?_
    refine ft_bipush (v := 6) dX11_count_139 rfl ?_
    obtain ⟨r141, hc141, hf⟩ := fq_vs hf
    refine ft_S2p cf_X11_418 (t_X11_sumOf (sh_82) (by decide) hc141) (Nat.le_of_ble_eq_true rfl) dX11_count_141 ?_
    exact fk_retp hf dX11_count_144 rfl rfl
  rcases fq_is hf with ⟨e_1_10, hf⟩ | ⟨e_1_10, hf⟩
  · refine ft_tsIn (tgt := 145) dX11_count_1 (by rw [e_1_10]; decide) (by rw [e_1_10]; decide) (by rw [e_1_10]; rfl) (by decide) ?_
    refine ft_aload_n dX11_count_145 rfl ?_
    refine ft_getR fl_X11_128 rfl (sh_78) (by decide) pt_78_25 dX11_count_146 ?_
    refine ft_iconst (v := 4) dX11_count_149 rfl ?_
    obtain ⟨r150, hc150, hf⟩ := fq_vs hf
    refine ft_S2p cf_X11_418 (t_X11_sumOf (sh_98) (by decide) hc150) (Nat.le_of_ble_eq_true rfl) dX11_count_150 ?_
    exact fk_retp hf dX11_count_153 rfl rfl
  rcases fq_is hf with ⟨e_1_11, hf⟩ | ⟨e_1_11, hf⟩
  · refine ft_tsIn (tgt := 154) dX11_count_1 (by rw [e_1_11]; decide) (by rw [e_1_11]; decide) (by rw [e_1_11]; rfl) (by decide) ?_
    refine ft_aload_n dX11_count_154 rfl ?_
    refine ft_getR fl_X11_106 rfl (sh_78) (by decide) pt_78_11 dX11_count_155 ?_
    refine ft_iconst (v := 3) dX11_count_158 rfl ?_
    obtain ⟨r159, hc159, hf⟩ := fq_vs hf
    refine ft_S2p cf_X11_418 (t_X11_sumOf (sh_86) (by decide) hc159) (Nat.le_of_ble_eq_true rfl) dX11_count_159 ?_
    exact fk_retp hf dX11_count_162 rfl rfl
  rcases fq_is hf with ⟨e_1_12, hf⟩ | ⟨e_1_12, hf⟩
  · refine ft_tsIn (tgt := 163) dX11_count_1 (by rw [e_1_12]; decide) (by rw [e_1_12]; decide) (by rw [e_1_12]; rfl) (by decide) ?_
    refine ft_aload_n dX11_count_163 rfl ?_
    refine ft_getI fl_X11_366 rfl (sh_78) (by decide) dX11_count_164 ?_
    exact fk_retp hf dX11_count_167 rfl rfl
  rcases fq_is hf with ⟨e_1_13, hf⟩ | ⟨e_1_13, hf⟩
  · refine ft_tsIn (tgt := 168) dX11_count_1 (by rw [e_1_13]; decide) (by rw [e_1_13]; decide) (by rw [e_1_13]; rfl) (by decide) ?_
    refine ft_aload_n dX11_count_168 rfl ?_
    refine ft_getI fl_X11_280 rfl (sh_78) (by decide) dX11_count_169 ?_
    exact fk_retp hf dX11_count_172 rfl rfl
  rcases fq_is hf with ⟨e_1_14, hf⟩ | ⟨e_1_14, hf⟩
  · refine ft_tsIn (tgt := 173) dX11_count_1 (by rw [e_1_14]; decide) (by rw [e_1_14]; decide) (by rw [e_1_14]; rfl) (by decide) ?_
    refine ft_aload_n dX11_count_173 rfl ?_
    refine ft_getI fl_X11_177 rfl (sh_78) (by decide) dX11_count_174 ?_
    exact fk_retp hf dX11_count_177 rfl rfl
  rcases fq_is hf with ⟨e_1_15, hf⟩ | ⟨e_1_15, hf⟩
  · refine ft_tsIn (tgt := 178) dX11_count_1 (by rw [e_1_15]; decide) (by rw [e_1_15]; decide) (by rw [e_1_15]; rfl) (by decide) ?_
    refine ft_aload_n dX11_count_178 rfl ?_
    refine ft_getI fl_X11_286 rfl (sh_78) (by decide) dX11_count_179 ?_
    exact fk_retp hf dX11_count_182 rfl rfl
  refine ft_tsOut (tgt := 183) dX11_count_1 (by omega) (by decide) ?_
  refine ft_bipush (v := (-2)) dX11_count_183 rfl ?_
  exact fk_retp hf dX11_count_185 rfl rfl
def f_X11_end (I : fc_I) (x1 : Int32) : Option (Int32 × fc_I) :=
fq_v (f_X11_isIn (Int32.toInt64 x1) 1 60) fun r6 =>
if r6.toInt = 0 then (
some ((-2), I))
else (
if x1.toInt < (I 78 0).toInt then (
some ((-2), I))
else (
fq_l ((I 78 1)) fun y27 =>
fq_l (fc_wI I 78 1 x1) fun I30 =>
some (y27, I30)))
set_option maxHeartbeats 4000000 in
set_option maxRecDepth 100000 in
theorem t_X11_end {d : Nat} {v : Nat} {r : Int32} {J : fc_I} {I : fc_I} {x1 : Int32} (hf : f_X11_end I x1 = some (r, J)) : fc_Ci X11_end (d + 1) [.ref 78, .int x1] fc_SH I (fc_PT v) (fun r' I' P' => r' = r ∧ I' = J ∧ P' = (fc_PT v)) := by
  unfold f_X11_end at hf
  refine fc_Ci.of (ls := [some (.ref 78), some (.int x1), none]) ⟨rfl, rfl⟩ (Nat.le_of_ble_eq_true rfl) rfl ?_
  refine ft_iload_n dX11_end_0 rfl ?_
  refine ft_i2l dX11_end_1 ?_
  refine ft_lconst (v := 1) dX11_end_2 rfl ?_
  refine ft_ldc2 dX11_end_3 kc_X11_134 ?_
  obtain ⟨r6, hc6, hf⟩ := fq_vs hf
  refine ft_S3p cf_X11_18 (t_X11_isIn hc6) (Nat.le_of_ble_eq_true rfl) dX11_end_6 ?_
  refine fk_if_eq (tgt := 20) dX11_end_9 (by decide) hf (fun hf => ?_) (fun hf => ?_)
  · refine ft_bipush (v := (-2)) dX11_end_20 rfl ?_
    exact fk_reti hf dX11_end_22 rfl rfl
  · refine ft_iload_n dX11_end_12 rfl ?_
    refine ft_aload_n dX11_end_13 rfl ?_
    refine ft_getI fl_X11_26 rfl (sh_78) (by decide) dX11_end_14 ?_
    refine fk_icmp_ge (tgt := 23) dX11_end_17 (by decide) hf (fun hf => ?_) (fun hf => ?_)
    · refine ft_aload_n dX11_end_23 rfl ?_
      refine ft_getI fl_X11_136 rfl (sh_78) (by decide) dX11_end_24 ?_
      refine ft_istore_n dX11_end_27 (by decide) ?_
      refine ft_aload_n dX11_end_28 rfl ?_
      refine ft_iload_n dX11_end_29 rfl ?_
      refine ft_putI fl_X11_136 rfl (fun q h => by cases h; rfl) (sh_78) (by decide) dX11_end_30 ?_
      refine ft_iload_n dX11_end_33 rfl ?_
      exact fk_reti hf dX11_end_34 rfl rfl
    · refine ft_bipush (v := (-2)) dX11_end_20 rfl ?_
      exact fk_reti hf dX11_end_22 rfl rfl
def f_X11_feed_33_B (x1 : Int32) (x2 : Int64) (k33 : Int32 → fc_I → Option (Int32 × fc_I)) (x4 : Int32) (I : fc_I) : Option (Int32 × fc_I) :=
if x4.toInt < x1.toInt then (
fq_g 160 (I 78 39) (fq_l (fc_wI I 108 (cn (I 78 39)) (vp_nar .byte (Int8.toInt32 (Int32.toInt8 (Int64.toInt32 (x2 >>> (Int32.toInt64 ((8 : Int32) * x4) &&& 63))))))) fun I56 =>
fq_l (fc_wI I56 78 39 ((I56 78 39) + 1)) fun I64 =>
fq_l (x4 + 1) fun y67 =>
k33 y67 I64))
else (
some ((I 78 39), I))
def f_X11_feed_33 (x1 : Int32) (x2 : Int64) (n : Nat) : Int32 → fc_I → Option (Int32 × fc_I) := lpm1 (f_X11_feed_33_B x1 x2 ) n
def f_X11_feed (I : fc_I) (x1 : Int32) (x2 : Int64) : Option (Int32 × fc_I) :=
fq_v (f_X11_isIn (Int32.toInt64 x1) 1 8) fun r6 =>
if r6.toInt = 0 then (
some ((-2), I))
else (
if (160 : Int32).toInt < ((I 78 39) + x1).toInt then (
some ((-4), I))
else (
f_X11_feed_33 x1 x2 4000 0 I))
set_option maxHeartbeats 4000000 in
set_option maxRecDepth 100000 in
theorem t_X11_feed_33 {d : Nat} {v : Nat} {r : Int32} {J : fc_I} {x1 : Int32} {x2 : Int64} : ∀ (n : Nat) (x4 : Int32) (I : fc_I) , f_X11_feed_33 x1 x2 n x4 I = some (r, J) → fc_T X11_feed (d + 1) 0 0 33 [some (.ref 78), some (.int x1), some (.long x2), none, some (.int x4)] [] fc_SH I (fc_PT v) (fc_Qi fc_SH (fun r' I' P' => r' = r ∧ I' = J ∧ P' = (fc_PT v))) := by
  unfold f_X11_feed_33
  refine lpm1_T (fun k33 hk33 x4 I hf => ?_)
  unfold f_X11_feed_33_B at hf
  refine ft_iload dX11_feed_33 rfl ?_
  refine ft_iload_n dX11_feed_35 rfl ?_
  refine fk_icmp_ge (tgt := 73) dX11_feed_36 (by decide) hf (fun hf => ?_) (fun hf => ?_)
  · refine ft_aload_n dX11_feed_73 rfl ?_
    refine ft_getI fl_X11_177 rfl (sh_78) (by decide) dX11_feed_74 ?_
    exact fk_reti hf dX11_feed_77 rfl rfl
  · refine ft_aload_n dX11_feed_39 rfl ?_
    refine ft_getR fl_X11_180 rfl (sh_78) (by decide) pt_78_38 dX11_feed_40 ?_
    refine ft_aload_n dX11_feed_43 rfl ?_
    refine ft_getI fl_X11_177 rfl (sh_78) (by decide) dX11_feed_44 ?_
    refine ft_lload_n dX11_feed_47 rfl ?_
    refine ft_bipush (v := 8) dX11_feed_48 rfl ?_
    refine ft_iload dX11_feed_50 rfl ?_
    refine ft_imul dX11_feed_52 ?_
    refine ft_lshr dX11_feed_53 ?_
    refine ft_l2i dX11_feed_54 ?_
    refine ft_i2b dX11_feed_55 ?_
    refine fk_bast (sh_108) hf dX11_feed_56 (fun hf => ?_)
    refine ft_aload_n dX11_feed_57 rfl ?_
    refine ft_dup dX11_feed_58 rfl ?_
    refine ft_getI fl_X11_177 rfl (sh_78) (by decide) dX11_feed_59 ?_
    refine ft_iconst (v := 1) dX11_feed_62 rfl ?_
    refine ft_iadd dX11_feed_63 ?_
    refine ft_putI fl_X11_177 rfl (fun q h => by cases h; rfl) (sh_78) (by decide) dX11_feed_64 ?_
    refine fk_iinc (c := 1) dX11_feed_67 rfl (by decide) rfl ?_
    refine ft_goto (tgt := 33) dX11_feed_70 (by decide) ?_
    exact ft_forget (by simp [fc_le, fc_st1, fc_st2, fc_kill]) (hk33 _ _ hf)
set_option maxHeartbeats 4000000 in
set_option maxRecDepth 100000 in
theorem t_X11_feed {d : Nat} {v : Nat} {r : Int32} {J : fc_I} {I : fc_I} {x1 : Int32} {x2 : Int64} (hf : f_X11_feed I x1 x2 = some (r, J)) : fc_Ci X11_feed (d + 1) [.ref 78, .int x1, .long x2] fc_SH I (fc_PT v) (fun r' I' P' => r' = r ∧ I' = J ∧ P' = (fc_PT v)) := by
  unfold f_X11_feed at hf
  refine fc_Ci.of (ls := [some (.ref 78), some (.int x1), some (.long x2), none, none]) ⟨rfl, rfl⟩ (Nat.le_of_ble_eq_true rfl) rfl ?_
  refine ft_iload_n dX11_feed_0 rfl ?_
  refine ft_i2l dX11_feed_1 ?_
  refine ft_lconst (v := 1) dX11_feed_2 rfl ?_
  refine ft_ldc2 dX11_feed_3 kc_X11_175 ?_
  obtain ⟨r6, hc6, hf⟩ := fq_vs hf
  refine ft_S3p cf_X11_18 (t_X11_isIn hc6) (Nat.le_of_ble_eq_true rfl) dX11_feed_6 ?_
  refine fk_if_ne (tgt := 15) dX11_feed_9 (by decide) hf (fun hf => ?_) (fun hf => ?_)
  · refine ft_aload_n dX11_feed_15 rfl ?_
    refine ft_getI fl_X11_177 rfl (sh_78) (by decide) dX11_feed_16 ?_
    refine ft_iload_n dX11_feed_19 rfl ?_
    refine ft_iadd dX11_feed_20 ?_
    refine ft_sipush (v := 160) dX11_feed_21 rfl ?_
    refine fk_icmp_le (tgt := 30) dX11_feed_24 (by decide) hf (fun hf => ?_) (fun hf => ?_)
    · refine ft_iconst (v := 0) dX11_feed_30 rfl ?_
      refine ft_istore dX11_feed_31 (by decide) ?_
      exact ft_forget (by simp [fc_le, fc_st1, fc_st2, fc_kill]) (t_X11_feed_33   _ _ _ hf)
    · refine ft_bipush (v := (-4)) dX11_feed_27 rfl ?_
      exact fk_reti hf dX11_feed_29 rfl rfl
  · refine ft_bipush (v := (-2)) dX11_feed_12 rfl ?_
    exact fk_reti hf dX11_feed_14 rfl rfl
def f_X11_force (I : fc_I) (x1 : Int32) : Option (Int32 × fc_I) :=
fq_v (f_X11_isIn (Int32.toInt64 x1) 0 (Int32.toInt64 ((I 78 40) - 1))) fun r10 =>
if r10.toInt = 0 then (
some ((-2), I))
else (
fq_l ((I 78 41)) fun y23 =>
fq_l (fc_wI I 78 41 x1) fun I26 =>
some (y23, I26))
set_option maxHeartbeats 4000000 in
set_option maxRecDepth 100000 in
theorem t_X11_force {d : Nat} {v : Nat} {r : Int32} {J : fc_I} {I : fc_I} {x1 : Int32} (hf : f_X11_force I x1 = some (r, J)) : fc_Ci X11_force (d + 1) [.ref 78, .int x1] fc_SH I (fc_PT v) (fun r' I' P' => r' = r ∧ I' = J ∧ P' = (fc_PT v)) := by
  unfold f_X11_force at hf
  refine fc_Ci.of (ls := [some (.ref 78), some (.int x1), none]) ⟨rfl, rfl⟩ (Nat.le_of_ble_eq_true rfl) rfl ?_
  refine ft_iload_n dX11_force_0 rfl ?_
  refine ft_i2l dX11_force_1 ?_
  refine ft_lconst (v := 0) dX11_force_2 rfl ?_
  refine ft_aload_n dX11_force_3 rfl ?_
  refine ft_getI fl_X11_280 rfl (sh_78) (by decide) dX11_force_4 ?_
  refine ft_iconst (v := 1) dX11_force_7 rfl ?_
  refine ft_isub dX11_force_8 ?_
  refine ft_i2l dX11_force_9 ?_
  obtain ⟨r10, hc10, hf⟩ := fq_vs hf
  refine ft_S3p cf_X11_18 (t_X11_isIn hc10) (Nat.le_of_ble_eq_true rfl) dX11_force_10 ?_
  refine fk_if_ne (tgt := 19) dX11_force_13 (by decide) hf (fun hf => ?_) (fun hf => ?_)
  · refine ft_aload_n dX11_force_19 rfl ?_
    refine ft_getI fl_X11_286 rfl (sh_78) (by decide) dX11_force_20 ?_
    refine ft_istore_n dX11_force_23 (by decide) ?_
    refine ft_aload_n dX11_force_24 rfl ?_
    refine ft_iload_n dX11_force_25 rfl ?_
    refine ft_putI fl_X11_286 rfl (fun q h => by cases h; rfl) (sh_78) (by decide) dX11_force_26 ?_
    refine ft_iload_n dX11_force_29 rfl ?_
    exact fk_reti hf dX11_force_30 rfl rfl
  · refine ft_bipush (v := (-2)) dX11_force_16 rfl ?_
    exact fk_reti hf dX11_force_18 rfl rfl
def f_X11_takeCalls_18_B (k18 : Int64 → Int32 → Int32 → fc_I → Option (Int32 × fc_I)) (x3 : Int64) (x5 : Int32) (x6 : Int32) (I : fc_I) : Option (Int32 × fc_I) :=
if x6.toInt < (I 78 2).toInt then (
fq_l ((Int64.toInt32 (x3 - x3 / 100 * 100))) fun y33 =>
fq_l ((x3 / 100)) fun y40 =>
if y33.toInt = (99 : Int32).toInt then (
fq_g 6 x6 (fq_l (fc_wI I 125 (cn x6) (-1)) fun I60 =>
if x5.toInt = 0 then (
fq_l (x6 + 1) fun y105 =>
k18 y40 0 y105 I60)
else (
fq_g 6 x6 (
if (I60 83 (cn x6)).toInt = ((-1) : Int32).toInt then (
if y33.toInt = (99 : Int32).toInt then (
fq_l (x6 + 1) fun y105 =>
k18 y40 1 y105 I60)
else (
if (I60 78 1).toInt < ((I60 78 0) + y33).toInt then (
fq_l (x6 + 1) fun y105 =>
k18 y40 0 y105 I60)
else (
fq_l (x6 + 1) fun y105 =>
k18 y40 1 y105 I60)))
else (
fq_l (x6 + 1) fun y105 =>
k18 y40 1 y105 I60)))))
else (
fq_g 6 x6 (fq_l (fc_wI I 125 (cn x6) y33) fun I60 =>
if x5.toInt = 0 then (
fq_l (x6 + 1) fun y105 =>
k18 y40 0 y105 I60)
else (
fq_g 6 x6 (
if (I60 83 (cn x6)).toInt = ((-1) : Int32).toInt then (
if y33.toInt = (99 : Int32).toInt then (
fq_l (x6 + 1) fun y105 =>
k18 y40 1 y105 I60)
else (
if (I60 78 1).toInt < ((I60 78 0) + y33).toInt then (
fq_l (x6 + 1) fun y105 =>
k18 y40 0 y105 I60)
else (
fq_l (x6 + 1) fun y105 =>
k18 y40 1 y105 I60)))
else (
fq_l (x6 + 1) fun y105 =>
k18 y40 1 y105 I60))))))
else (
if x5.toInt = 0 then (
some (0, I))
else (
if (lg_cmp x3 (0 : Int64)).toInt = 0 then (
some (1, I))
else (
some (0, I))))
def f_X11_takeCalls_18 (n : Nat) : Int64 → Int32 → Int32 → fc_I → Option (Int32 × fc_I) := lpm3 (f_X11_takeCalls_18_B ) n
def f_X11_takeCalls (I : fc_I) (x1 : Int64) : Option (Int32 × fc_I) :=
if (lg_cmp x1 (0 : Int64)).toInt < 0 then (
f_X11_takeCalls_18  4000 x1 0 0 I)
else (
f_X11_takeCalls_18  4000 x1 1 0 I)
set_option maxHeartbeats 4000000 in
set_option maxRecDepth 100000 in
theorem t_X11_takeCalls_18 {d : Nat} {v : Nat} {r : Int32} {J : fc_I} : ∀ (n : Nat) (x3 : Int64) (x5 : Int32) (x6 : Int32) (I : fc_I) , f_X11_takeCalls_18 n x3 x5 x6 I = some (r, J) → fc_T X11_takeCalls d 0 0 18 [some (.ref 78), none, none, some (.long x3), none, some (.int x5), some (.int x6), none] [] fc_SH I (fc_PT v) (fc_Qi fc_SH (fun r' I' P' => r' = r ∧ I' = J ∧ P' = (fc_PT v))) := by
  unfold f_X11_takeCalls_18
  refine lpm3_T (fun k18 hk18 x3 x5 x6 I hf => ?_)
  unfold f_X11_takeCalls_18_B at hf
  refine ft_iload dX11_takeCalls_18 rfl ?_
  refine ft_aload_n dX11_takeCalls_20 rfl ?_
  refine ft_getI fl_X11_1 rfl (sh_78) (by decide) dX11_takeCalls_21 ?_
  refine fk_icmp_ge (tgt := 111) dX11_takeCalls_24 (by decide) hf (fun hf => ?_) (fun hf => ?_)
  · refine ft_iload dX11_takeCalls_111 rfl ?_
    refine fk_if_eq (tgt := 126) dX11_takeCalls_113 (by decide) hf (fun hf => ?_) (fun hf => ?_)
    · refine ft_iconst (v := 0) dX11_takeCalls_126 rfl ?_
      exact fk_reti hf dX11_takeCalls_127 rfl rfl
    · refine ft_lload_n dX11_takeCalls_116 rfl ?_
      refine ft_lconst (v := 0) dX11_takeCalls_117 rfl ?_
      refine ft_lcmp dX11_takeCalls_118 ?_
      refine fk_if_ne (tgt := 126) dX11_takeCalls_119 (by decide) hf (fun hf => ?_) (fun hf => ?_)
      · refine ft_iconst (v := 0) dX11_takeCalls_126 rfl ?_
        exact fk_reti hf dX11_takeCalls_127 rfl rfl
      · refine ft_iconst (v := 1) dX11_takeCalls_122 rfl ?_
        refine ft_goto (tgt := 127) dX11_takeCalls_123 (by decide) ?_
        exact fk_reti hf dX11_takeCalls_127 rfl rfl
  · refine ft_lload_n dX11_takeCalls_27 rfl ?_
    refine ft_ldc2 dX11_takeCalls_28 kc_X11_396 ?_
    refine ft_lrem dX11_takeCalls_31 (by decide) ?_
    refine ft_l2i dX11_takeCalls_32 ?_
    refine ft_istore dX11_takeCalls_33 (by decide) ?_
    refine ft_lload_n dX11_takeCalls_35 rfl ?_
    refine ft_ldc2 dX11_takeCalls_36 kc_X11_396 ?_
    refine ft_ldiv dX11_takeCalls_39 (by decide) ?_
    refine ft_lstore_n dX11_takeCalls_40 (by decide) ?_
    refine ft_aload_n dX11_takeCalls_41 rfl ?_
    refine ft_getR fl_X11_336 rfl (sh_78) (by decide) pt_78_69 dX11_takeCalls_42 ?_
    refine ft_iload dX11_takeCalls_45 rfl ?_
    refine ft_iload dX11_takeCalls_47 rfl ?_
    refine ft_bipush (v := 99) dX11_takeCalls_49 rfl ?_
    refine fk_icmp_ne (tgt := 58) dX11_takeCalls_51 (by decide) hf (fun hf => ?_) (fun hf => ?_)
    · refine ft_iload dX11_takeCalls_58 rfl ?_
      refine fk_iast (sh_125) hf dX11_takeCalls_60 (fun hf => ?_)
      refine ft_iload dX11_takeCalls_61 rfl ?_
      refine fk_if_eq (tgt := 102) dX11_takeCalls_63 (by decide) hf (fun hf => ?_) (fun hf => ?_)
      · refine ft_iconst (v := 0) dX11_takeCalls_102 rfl ?_
        refine ft_istore dX11_takeCalls_103 (by decide) ?_
        refine fk_iinc (c := 1) dX11_takeCalls_105 rfl (by decide) rfl ?_
        refine ft_goto (tgt := 18) dX11_takeCalls_108 (by decide) ?_
        exact ft_forget (by simp [fc_le, fc_st1, fc_st2, fc_kill]) (hk18 _ _ _ _ hf)
      · refine ft_aload_n dX11_takeCalls_66 rfl ?_
        refine ft_getR fl_X11_96 rfl (sh_78) (by decide) pt_78_7 dX11_takeCalls_67 ?_
        refine ft_iload dX11_takeCalls_70 rfl ?_
        refine fk_iald (sh_83) hf dX11_takeCalls_72 (fun hf => ?_)
        refine ft_iconst (v := (-1)) dX11_takeCalls_73 rfl ?_
        refine fk_icmp_ne (tgt := 98) dX11_takeCalls_74 (by decide) hf (fun hf => ?_) (fun hf => ?_)
        · refine ft_iconst (v := 1) dX11_takeCalls_98 rfl ?_
          refine ft_goto (tgt := 103) dX11_takeCalls_99 (by decide) ?_
          refine ft_istore dX11_takeCalls_103 (by decide) ?_
          refine fk_iinc (c := 1) dX11_takeCalls_105 rfl (by decide) rfl ?_
          refine ft_goto (tgt := 18) dX11_takeCalls_108 (by decide) ?_
          exact ft_forget (by simp [fc_le, fc_st1, fc_st2, fc_kill]) (hk18 _ _ _ _ hf)
        · refine ft_iload dX11_takeCalls_77 rfl ?_
          refine ft_bipush (v := 99) dX11_takeCalls_79 rfl ?_
          refine fk_icmp_eq (tgt := 98) dX11_takeCalls_81 (by decide) hf (fun hf => ?_) (fun hf => ?_)
          · refine ft_iconst (v := 1) dX11_takeCalls_98 rfl ?_
            refine ft_goto (tgt := 103) dX11_takeCalls_99 (by decide) ?_
            refine ft_istore dX11_takeCalls_103 (by decide) ?_
            refine fk_iinc (c := 1) dX11_takeCalls_105 rfl (by decide) rfl ?_
            refine ft_goto (tgt := 18) dX11_takeCalls_108 (by decide) ?_
            exact ft_forget (by simp [fc_le, fc_st1, fc_st2, fc_kill]) (hk18 _ _ _ _ hf)
          · refine ft_aload_n dX11_takeCalls_84 rfl ?_
            refine ft_getI fl_X11_26 rfl (sh_78) (by decide) dX11_takeCalls_85 ?_
            refine ft_iload dX11_takeCalls_88 rfl ?_
            refine ft_iadd dX11_takeCalls_90 ?_
            refine ft_aload_n dX11_takeCalls_91 rfl ?_
            refine ft_getI fl_X11_136 rfl (sh_78) (by decide) dX11_takeCalls_92 ?_
            refine fk_icmp_gt (tgt := 102) dX11_takeCalls_95 (by decide) hf (fun hf => ?_) (fun hf => ?_)
            · refine ft_iconst (v := 0) dX11_takeCalls_102 rfl ?_
              refine ft_istore dX11_takeCalls_103 (by decide) ?_
              refine fk_iinc (c := 1) dX11_takeCalls_105 rfl (by decide) rfl ?_
              refine ft_goto (tgt := 18) dX11_takeCalls_108 (by decide) ?_
              exact ft_forget (by simp [fc_le, fc_st1, fc_st2, fc_kill]) (hk18 _ _ _ _ hf)
            · refine ft_iconst (v := 1) dX11_takeCalls_98 rfl ?_
              refine ft_goto (tgt := 103) dX11_takeCalls_99 (by decide) ?_
              refine ft_istore dX11_takeCalls_103 (by decide) ?_
              refine fk_iinc (c := 1) dX11_takeCalls_105 rfl (by decide) rfl ?_
              refine ft_goto (tgt := 18) dX11_takeCalls_108 (by decide) ?_
              exact ft_forget (by simp [fc_le, fc_st1, fc_st2, fc_kill]) (hk18 _ _ _ _ hf)
    · refine ft_iconst (v := (-1)) dX11_takeCalls_54 rfl ?_
      refine ft_goto (tgt := 60) dX11_takeCalls_55 (by decide) ?_
      refine fk_iast (sh_125) hf dX11_takeCalls_60 (fun hf => ?_)
      refine ft_iload dX11_takeCalls_61 rfl ?_
      refine fk_if_eq (tgt := 102) dX11_takeCalls_63 (by decide) hf (fun hf => ?_) (fun hf => ?_)
      · refine ft_iconst (v := 0) dX11_takeCalls_102 rfl ?_
        refine ft_istore dX11_takeCalls_103 (by decide) ?_
        refine fk_iinc (c := 1) dX11_takeCalls_105 rfl (by decide) rfl ?_
        refine ft_goto (tgt := 18) dX11_takeCalls_108 (by decide) ?_
        exact ft_forget (by simp [fc_le, fc_st1, fc_st2, fc_kill]) (hk18 _ _ _ _ hf)
      · refine ft_aload_n dX11_takeCalls_66 rfl ?_
        refine ft_getR fl_X11_96 rfl (sh_78) (by decide) pt_78_7 dX11_takeCalls_67 ?_
        refine ft_iload dX11_takeCalls_70 rfl ?_
        refine fk_iald (sh_83) hf dX11_takeCalls_72 (fun hf => ?_)
        refine ft_iconst (v := (-1)) dX11_takeCalls_73 rfl ?_
        refine fk_icmp_ne (tgt := 98) dX11_takeCalls_74 (by decide) hf (fun hf => ?_) (fun hf => ?_)
        · refine ft_iconst (v := 1) dX11_takeCalls_98 rfl ?_
          refine ft_goto (tgt := 103) dX11_takeCalls_99 (by decide) ?_
          refine ft_istore dX11_takeCalls_103 (by decide) ?_
          refine fk_iinc (c := 1) dX11_takeCalls_105 rfl (by decide) rfl ?_
          refine ft_goto (tgt := 18) dX11_takeCalls_108 (by decide) ?_
          exact ft_forget (by simp [fc_le, fc_st1, fc_st2, fc_kill]) (hk18 _ _ _ _ hf)
        · refine ft_iload dX11_takeCalls_77 rfl ?_
          refine ft_bipush (v := 99) dX11_takeCalls_79 rfl ?_
          refine fk_icmp_eq (tgt := 98) dX11_takeCalls_81 (by decide) hf (fun hf => ?_) (fun hf => ?_)
          · refine ft_iconst (v := 1) dX11_takeCalls_98 rfl ?_
            refine ft_goto (tgt := 103) dX11_takeCalls_99 (by decide) ?_
            refine ft_istore dX11_takeCalls_103 (by decide) ?_
            refine fk_iinc (c := 1) dX11_takeCalls_105 rfl (by decide) rfl ?_
            refine ft_goto (tgt := 18) dX11_takeCalls_108 (by decide) ?_
            exact ft_forget (by simp [fc_le, fc_st1, fc_st2, fc_kill]) (hk18 _ _ _ _ hf)
          · refine ft_aload_n dX11_takeCalls_84 rfl ?_
            refine ft_getI fl_X11_26 rfl (sh_78) (by decide) dX11_takeCalls_85 ?_
            refine ft_iload dX11_takeCalls_88 rfl ?_
            refine ft_iadd dX11_takeCalls_90 ?_
            refine ft_aload_n dX11_takeCalls_91 rfl ?_
            refine ft_getI fl_X11_136 rfl (sh_78) (by decide) dX11_takeCalls_92 ?_
            refine fk_icmp_gt (tgt := 102) dX11_takeCalls_95 (by decide) hf (fun hf => ?_) (fun hf => ?_)
            · refine ft_iconst (v := 0) dX11_takeCalls_102 rfl ?_
              refine ft_istore dX11_takeCalls_103 (by decide) ?_
              refine fk_iinc (c := 1) dX11_takeCalls_105 rfl (by decide) rfl ?_
              refine ft_goto (tgt := 18) dX11_takeCalls_108 (by decide) ?_
              exact ft_forget (by simp [fc_le, fc_st1, fc_st2, fc_kill]) (hk18 _ _ _ _ hf)
            · refine ft_iconst (v := 1) dX11_takeCalls_98 rfl ?_
              refine ft_goto (tgt := 103) dX11_takeCalls_99 (by decide) ?_
              refine ft_istore dX11_takeCalls_103 (by decide) ?_
              refine fk_iinc (c := 1) dX11_takeCalls_105 rfl (by decide) rfl ?_
              refine ft_goto (tgt := 18) dX11_takeCalls_108 (by decide) ?_
              exact ft_forget (by simp [fc_le, fc_st1, fc_st2, fc_kill]) (hk18 _ _ _ _ hf)
set_option maxHeartbeats 4000000 in
set_option maxRecDepth 100000 in
theorem t_X11_takeCalls {d : Nat} {v : Nat} {r : Int32} {J : fc_I} {I : fc_I} {x1 : Int64} (hf : f_X11_takeCalls I x1 = some (r, J)) : fc_Ci X11_takeCalls d [.ref 78, .long x1] fc_SH I (fc_PT v) (fun r' I' P' => r' = r ∧ I' = J ∧ P' = (fc_PT v)) := by
  unfold f_X11_takeCalls at hf
  refine fc_Ci.of (ls := [some (.ref 78), some (.long x1), none, none, none, none, none, none]) ⟨rfl, rfl⟩ (Nat.le_of_ble_eq_true rfl) rfl ?_
  refine ft_lload_n dX11_takeCalls_0 rfl ?_
  refine ft_lstore_n dX11_takeCalls_1 (by decide) ?_
  refine ft_lload_n dX11_takeCalls_2 rfl ?_
  refine ft_lconst (v := 0) dX11_takeCalls_3 rfl ?_
  refine ft_lcmp dX11_takeCalls_4 ?_
  refine fk_if_lt (tgt := 12) dX11_takeCalls_5 (by decide) hf (fun hf => ?_) (fun hf => ?_)
  · refine ft_iconst (v := 0) dX11_takeCalls_12 rfl ?_
    refine ft_istore dX11_takeCalls_13 (by decide) ?_
    refine ft_iconst (v := 0) dX11_takeCalls_15 rfl ?_
    refine ft_istore dX11_takeCalls_16 (by decide) ?_
    exact ft_forget (by simp [fc_le, fc_st1, fc_st2, fc_kill]) (t_X11_takeCalls_18   _ _ _ _ _ hf)
  · refine ft_iconst (v := 1) dX11_takeCalls_8 rfl ?_
    refine ft_goto (tgt := 13) dX11_takeCalls_9 (by decide) ?_
    refine ft_istore dX11_takeCalls_13 (by decide) ?_
    refine ft_iconst (v := 0) dX11_takeCalls_15 rfl ?_
    refine ft_istore dX11_takeCalls_16 (by decide) ?_
    exact ft_forget (by simp [fc_le, fc_st1, fc_st2, fc_kill]) (t_X11_takeCalls_18   _ _ _ _ _ hf)
def f_X11_foresee (I : fc_I) (x1 : Int32) (x2 : Int64) : Option (Int64 × fc_I) :=
fq_v (f_X11_isTrack x1) fun r1 =>
if r1.toInt = 0 then (
some ((-4611686018427387904), I))
else (
fq_b (f_X11_takeCalls I x2) fun r9 I9 =>
if r9.toInt = 0 then (
some ((-4611686018427387904), I9))
else (
fq_b (f_X11_played I9 x1) fun r17 I17 =>
some ((Int32.toInt64 r17), I17)))
set_option maxHeartbeats 4000000 in
set_option maxRecDepth 100000 in
theorem t_X11_foresee {d : Nat} {v : Nat} {r : Int64} {J : fc_I} {I : fc_I} {x1 : Int32} {x2 : Int64} (hf : f_X11_foresee I x1 x2 = some (r, J)) : fc_Cl X11_foresee (d + 5) [.ref 78, .int x1, .long x2] fc_SH I (fc_PT v) (fun r' I' P' => r' = r ∧ I' = J ∧ P' = (fc_PT v)) := by
  unfold f_X11_foresee at hf
  refine fc_Cl.of (ls := [some (.ref 78), some (.int x1), some (.long x2), none]) ⟨rfl, rfl⟩ (Nat.le_of_ble_eq_true rfl) rfl ?_
  refine ft_iload_n dX11_foresee_0 rfl ?_
  obtain ⟨r1, hc1, hf⟩ := fq_vs hf
  refine ft_S1p cf_X11_139 (t_X11_isTrack hc1) (Nat.le_of_ble_eq_true rfl) dX11_foresee_1 ?_
  refine fk_if_eq (tgt := 24) dX11_foresee_4 (by decide) hf (fun hf => ?_) (fun hf => ?_)
  · refine ft_ldc2 dX11_foresee_24 kc_X11_302 ?_
    exact fk_retl hf dX11_foresee_27 rfl
  · refine ft_aload_n dX11_foresee_7 rfl ?_
    refine ft_lload_n dX11_foresee_8 rfl ?_
    obtain ⟨r9, I9, hc9, hf⟩ := fq_bs hf
    refine ft_V1i cf_X11_398 (sh_78) (t_X11_takeCalls hc9) (Nat.le_of_ble_eq_true rfl) dX11_foresee_9 (fun r' J P' q => ?_)
    obtain ⟨rfl, rfl, rfl⟩ := q
    refine fk_if_eq (tgt := 24) dX11_foresee_12 (by decide) hf (fun hf => ?_) (fun hf => ?_)
    · refine ft_ldc2 dX11_foresee_24 kc_X11_302 ?_
      exact fk_retl hf dX11_foresee_27 rfl
    · refine ft_aload_n dX11_foresee_15 rfl ?_
      refine ft_iload_n dX11_foresee_16 rfl ?_
      obtain ⟨r17, I17, hc17, hf⟩ := fq_bs hf
      refine ft_V1i cf_X11_402 (sh_78) (t_X11_played hc17) (Nat.le_of_ble_eq_true rfl) dX11_foresee_17 (fun r' J P' q => ?_)
      obtain ⟨rfl, rfl, rfl⟩ := q
      refine ft_i2l dX11_foresee_20 ?_
      refine ft_goto (tgt := 27) dX11_foresee_21 (by decide) ?_
      exact fk_retl hf dX11_foresee_27 rfl
def f_X11_knownOf_63 (I : fc_I) (x1 : Int32) (x2 : Int32) (x3 : Int32) (x4 : Int32) (k6 : Int32 → Int32 → Option Int32) (x5 : Int32) (x6 : Int32) : Option Int32 :=
fq_l (x6 + 1) fun y100 =>
k6 x5 y100
def f_X11_knownOf_6_B (I : fc_I) (x1 : Int32) (x2 : Int32) (x3 : Int32) (x4 : Int32) (k6 : Int32 → Int32 → Option Int32) (x5 : Int32) (x6 : Int32) : Option Int32 :=
if x6.toInt < (I 78 29).toInt then (
fq_g 40 x6 (
if (I 100 (cn x6)).toInt = x1.toInt then (
fq_g 40 x6 (
if x3.toInt < (I 105 (cn x6)).toInt then (
f_X11_knownOf_63 I x1 x2 x3 x4 k6 x5 x6)
else (
fq_g 40 x6 (
if x2.toInt < (I 101 (cn x6)).toInt then (
f_X11_knownOf_63 I x1 x2 x3 x4 k6 x5 x6)
else (
fq_g 40 x6 (
if x2.toInt < (I 102 (cn x6)).toInt then (
if x4.toInt = 0 then (
fq_g 40 x6 (
fq_l ((I 103 (cn x6))) fun y98 =>
fq_l (x6 + 1) fun y100 =>
k6 y98 y100))
else (
fq_g 40 x6 (
fq_l ((I 104 (cn x6))) fun y98 =>
fq_l (x6 + 1) fun y100 =>
k6 y98 y100)))
else (
f_X11_knownOf_63 I x1 x2 x3 x4 k6 x5 x6)))))))
else (
f_X11_knownOf_63 I x1 x2 x3 x4 k6 x5 x6)))
else (
some x5)
def f_X11_knownOf_6 (I : fc_I) (x1 : Int32) (x2 : Int32) (x3 : Int32) (x4 : Int32) (n : Nat) : Int32 → Int32 → Option Int32 := lpp2 (f_X11_knownOf_6_B I x1 x2 x3 x4 ) n
def f_X11_knownOf (I : fc_I) (x1 : Int32) (x2 : Int32) (x3 : Int32) (x4 : Int32) : Option Int32 :=
f_X11_knownOf_6 I x1 x2 x3 x4 4000 0 0
set_option maxHeartbeats 4000000 in
set_option maxRecDepth 100000 in
theorem t_X11_knownOf_63 {d : Nat} {v : Nat} {r : Int32} {x1 : Int32} {x2 : Int32} {x3 : Int32} {x4 : Int32} {k6 : Int32 → Int32 → Option Int32} {I : fc_I} (hk6 : ∀ (x5 : Int32) (x6 : Int32), k6 x5 x6 = some r → fc_T X11_knownOf d 0 0 6 [some (.ref 78), some (.int x1), some (.int x2), some (.int x3), some (.int x4), some (.int x5), some (.int x6), none] [] fc_SH I (fc_PT v) (fc_Qi fc_SH (fun r' I' P' => r' = r ∧ I' = I ∧ P' = (fc_PT v)))) : ∀ (x5 : Int32) (x6 : Int32) , f_X11_knownOf_63 I x1 x2 x3 x4 k6  x5 x6 = some r → fc_T X11_knownOf d 0 0 63 [some (.ref 78), some (.int x1), some (.int x2), some (.int x3), some (.int x4), some (.int x5), some (.int x6), none] [] fc_SH I (fc_PT v) (fc_Qi fc_SH (fun r' I' P' => r' = r ∧ I' = I ∧ P' = (fc_PT v))) := by
  intro x5 x6 hf
  unfold f_X11_knownOf_63 at hf
  refine ft_iconst (v := 0) dX11_knownOf_63 rfl ?_
  refine ft_istore dX11_knownOf_64 (by decide) ?_
  refine ft_iload dX11_knownOf_66 rfl ?_
  refine fj_if_eq (tgt := 96) dX11_knownOf_68 (by decide) (fun _ => ?_) (fun h => absurd h (by decide))
  refine ft_iload dX11_knownOf_96 rfl ?_
  refine ft_istore dX11_knownOf_98 (by decide) ?_
  refine fk_iinc (c := 1) dX11_knownOf_100 rfl (by decide) rfl ?_
  refine ft_goto (tgt := 6) dX11_knownOf_103 (by decide) ?_
  exact ft_forget (by simp [fc_le, fc_st1, fc_st2, fc_kill]) (hk6 _ _ hf)
set_option maxHeartbeats 4000000 in
set_option maxRecDepth 100000 in
theorem t_X11_knownOf_6 {d : Nat} {v : Nat} {r : Int32} {x1 : Int32} {x2 : Int32} {x3 : Int32} {x4 : Int32} {I : fc_I} : ∀ (n : Nat) (x5 : Int32) (x6 : Int32) , f_X11_knownOf_6 I x1 x2 x3 x4 n x5 x6 = some r → fc_T X11_knownOf d 0 0 6 [some (.ref 78), some (.int x1), some (.int x2), some (.int x3), some (.int x4), some (.int x5), some (.int x6), none] [] fc_SH I (fc_PT v) (fc_Qi fc_SH (fun r' I' P' => r' = r ∧ I' = I ∧ P' = (fc_PT v))) := by
  unfold f_X11_knownOf_6
  refine lpp2_T (fun k6 hk6 x5 x6 hf => ?_)
  unfold f_X11_knownOf_6_B at hf
  refine ft_iload dX11_knownOf_6 rfl ?_
  refine ft_aload_n dX11_knownOf_8 rfl ?_
  refine ft_getI fl_X11_147 rfl (sh_78) (by decide) dX11_knownOf_9 ?_
  refine fk_icmp_ge (tgt := 106) dX11_knownOf_12 (by decide) hf (fun hf => ?_) (fun hf => ?_)
  · refine ft_iload dX11_knownOf_106 rfl ?_
    exact fk_retp hf dX11_knownOf_108 rfl rfl
  · refine ft_aload_n dX11_knownOf_15 rfl ?_
    refine ft_getR fl_X11_150 rfl (sh_78) (by decide) pt_78_30 dX11_knownOf_16 ?_
    refine ft_iload dX11_knownOf_19 rfl ?_
    refine fk_iald (sh_100) hf dX11_knownOf_21 (fun hf => ?_)
    refine ft_iload_n dX11_knownOf_22 rfl ?_
    refine fk_icmp_ne (tgt := 63) dX11_knownOf_23 (by decide) hf (fun hf => ?_) (fun hf => ?_)
    · exact ft_forget (by simp [fc_le, fc_st1, fc_st2, fc_kill]) (t_X11_knownOf_63  hk6  _ _ hf)
    · refine ft_aload_n dX11_knownOf_26 rfl ?_
      refine ft_getR fl_X11_165 rfl (sh_78) (by decide) pt_78_35 dX11_knownOf_27 ?_
      refine ft_iload dX11_knownOf_30 rfl ?_
      refine fk_iald (sh_105) hf dX11_knownOf_32 (fun hf => ?_)
      refine ft_iload_n dX11_knownOf_33 rfl ?_
      refine fk_icmp_gt (tgt := 63) dX11_knownOf_34 (by decide) hf (fun hf => ?_) (fun hf => ?_)
      · exact ft_forget (by simp [fc_le, fc_st1, fc_st2, fc_kill]) (t_X11_knownOf_63  hk6  _ _ hf)
      · refine ft_iload_n dX11_knownOf_37 rfl ?_
        refine ft_aload_n dX11_knownOf_38 rfl ?_
        refine ft_getR fl_X11_153 rfl (sh_78) (by decide) pt_78_31 dX11_knownOf_39 ?_
        refine ft_iload dX11_knownOf_42 rfl ?_
        refine fk_iald (sh_101) hf dX11_knownOf_44 (fun hf => ?_)
        refine fk_icmp_lt (tgt := 63) dX11_knownOf_45 (by decide) hf (fun hf => ?_) (fun hf => ?_)
        · exact ft_forget (by simp [fc_le, fc_st1, fc_st2, fc_kill]) (t_X11_knownOf_63  hk6  _ _ hf)
        · refine ft_iload_n dX11_knownOf_48 rfl ?_
          refine ft_aload_n dX11_knownOf_49 rfl ?_
          refine ft_getR fl_X11_156 rfl (sh_78) (by decide) pt_78_32 dX11_knownOf_50 ?_
          refine ft_iload dX11_knownOf_53 rfl ?_
          refine fk_iald (sh_102) hf dX11_knownOf_55 (fun hf => ?_)
          refine fk_icmp_ge (tgt := 63) dX11_knownOf_56 (by decide) hf (fun hf => ?_) (fun hf => ?_)
          · exact ft_forget (by simp [fc_le, fc_st1, fc_st2, fc_kill]) (t_X11_knownOf_63  hk6  _ _ hf)
          · refine ft_iconst (v := 1) dX11_knownOf_59 rfl ?_
            refine ft_goto (tgt := 64) dX11_knownOf_60 (by decide) ?_
            refine ft_istore dX11_knownOf_64 (by decide) ?_
            refine ft_iload dX11_knownOf_66 rfl ?_
            refine fj_if_eq (tgt := 96) dX11_knownOf_68 (by decide) (fun h => absurd h (by decide)) (fun _ => ?_)
            refine ft_iload dX11_knownOf_71 rfl ?_
            refine fk_if_eq (tgt := 86) dX11_knownOf_73 (by decide) hf (fun hf => ?_) (fun hf => ?_)
            · refine ft_aload_n dX11_knownOf_86 rfl ?_
              refine ft_getR fl_X11_159 rfl (sh_78) (by decide) pt_78_33 dX11_knownOf_87 ?_
              refine ft_iload dX11_knownOf_90 rfl ?_
              refine fk_iald (sh_103) hf dX11_knownOf_92 (fun hf => ?_)
              refine ft_goto (tgt := 98) dX11_knownOf_93 (by decide) ?_
              refine ft_istore dX11_knownOf_98 (by decide) ?_
              refine fk_iinc (c := 1) dX11_knownOf_100 rfl (by decide) rfl ?_
              refine ft_goto (tgt := 6) dX11_knownOf_103 (by decide) ?_
              exact ft_forget (by simp [fc_le, fc_st1, fc_st2, fc_kill]) (hk6 _ _ hf)
            · refine ft_aload_n dX11_knownOf_76 rfl ?_
              refine ft_getR fl_X11_162 rfl (sh_78) (by decide) pt_78_34 dX11_knownOf_77 ?_
              refine ft_iload dX11_knownOf_80 rfl ?_
              refine fk_iald (sh_104) hf dX11_knownOf_82 (fun hf => ?_)
              refine ft_goto (tgt := 98) dX11_knownOf_83 (by decide) ?_
              refine ft_istore dX11_knownOf_98 (by decide) ?_
              refine fk_iinc (c := 1) dX11_knownOf_100 rfl (by decide) rfl ?_
              refine ft_goto (tgt := 6) dX11_knownOf_103 (by decide) ?_
              exact ft_forget (by simp [fc_le, fc_st1, fc_st2, fc_kill]) (hk6 _ _ hf)
set_option maxHeartbeats 4000000 in
set_option maxRecDepth 100000 in
theorem t_X11_knownOf {d : Nat} {v : Nat} {r : Int32} {I : fc_I} {x1 : Int32} {x2 : Int32} {x3 : Int32} {x4 : Int32} (hf : f_X11_knownOf I x1 x2 x3 x4 = some r) : fc_Cp X11_knownOf d [.ref 78, .int x1, .int x2, .int x3, .int x4] fc_SH I (fc_PT v) r := by
  unfold f_X11_knownOf at hf
  refine fc_Cp.of (ls := [some (.ref 78), some (.int x1), some (.int x2), some (.int x3), some (.int x4), none, none, none]) ⟨rfl, rfl⟩ (Nat.le_of_ble_eq_true rfl) rfl ?_
  refine ft_iconst (v := 0) dX11_knownOf_0 rfl ?_
  refine ft_istore dX11_knownOf_1 (by decide) ?_
  refine ft_iconst (v := 0) dX11_knownOf_3 rfl ?_
  refine ft_istore dX11_knownOf_4 (by decide) ?_
  exact ft_forget (by simp [fc_le, fc_st1, fc_st2, fc_kill]) (t_X11_knownOf_6   _ _ _ hf)
def f_X11_wasWet_6_B (I : fc_I) (x1 : Int32) (x2 : Int32) (x3 : Int32) (k6 : Int32 → Int32 → Option Int32) (x4 : Int32) (x5 : Int32) : Option Int32 :=
if (x3 + 12).toInt < x5.toInt then (
fq_z x4 (some x4))
else (
if (I 78 1).toInt < x5.toInt then (
fq_z x4 (some x4))
else (
if x4.toInt = 0 then (
fq_v (f_X11_knownOf I x1 x5 x3 0) fun r35 =>
fq_g 6 x2 (
if (I 79 (cn x2)).toInt < r35.toInt then (
fq_l (x5 + 1) fun y54 =>
k6 1 y54)
else (
fq_l (x5 + 1) fun y54 =>
k6 0 y54)))
else (
fq_l (x5 + 1) fun y54 =>
k6 1 y54)))
def f_X11_wasWet_6 (I : fc_I) (x1 : Int32) (x2 : Int32) (x3 : Int32) (n : Nat) : Int32 → Int32 → Option Int32 := lpp2 (f_X11_wasWet_6_B I x1 x2 x3 ) n
def f_X11_wasWet (I : fc_I) (x1 : Int32) (x2 : Int32) (x3 : Int32) : Option Int32 :=
f_X11_wasWet_6 I x1 x2 x3 4000 0 x3
set_option maxHeartbeats 4000000 in
set_option maxRecDepth 100000 in
theorem t_X11_wasWet_6 {d : Nat} {v : Nat} {r : Int32} {x1 : Int32} {x2 : Int32} {x3 : Int32} {I : fc_I} : ∀ (n : Nat) (x4 : Int32) (x5 : Int32) , f_X11_wasWet_6 I x1 x2 x3 n x4 x5 = some r → fc_T X11_wasWet (d + 1) 0 0 6 [some (.ref 78), some (.int x1), some (.int x2), some (.int x3), some (.int x4), some (.int x5)] [] fc_SH I (fc_PT v) (fc_Qi fc_SH (fun r' I' P' => r' = r ∧ I' = I ∧ P' = (fc_PT v))) := by
  unfold f_X11_wasWet_6
  refine lpp2_T (fun k6 hk6 x4 x5 hf => ?_)
  unfold f_X11_wasWet_6_B at hf
  refine ft_iload dX11_wasWet_6 rfl ?_
  refine ft_iload_n dX11_wasWet_8 rfl ?_
  refine ft_bipush (v := 12) dX11_wasWet_9 rfl ?_
  refine ft_iadd dX11_wasWet_11 ?_
  refine fk_icmp_gt (tgt := 60) dX11_wasWet_12 (by decide) hf (fun hf => ?_) (fun hf => ?_)
  · refine ft_iload dX11_wasWet_60 rfl ?_
    obtain ⟨hz, hf⟩ := fq_zs hf
    exact fk_retp hf dX11_wasWet_62 rfl (fq_nz hz)
  · refine ft_iload dX11_wasWet_15 rfl ?_
    refine ft_aload_n dX11_wasWet_17 rfl ?_
    refine ft_getI fl_X11_136 rfl (sh_78) (by decide) dX11_wasWet_18 ?_
    refine fk_icmp_gt (tgt := 60) dX11_wasWet_21 (by decide) hf (fun hf => ?_) (fun hf => ?_)
    · refine ft_iload dX11_wasWet_60 rfl ?_
      obtain ⟨hz, hf⟩ := fq_zs hf
      exact fk_retp hf dX11_wasWet_62 rfl (fq_nz hz)
    · refine ft_iload dX11_wasWet_24 rfl ?_
      refine fk_if_ne (tgt := 47) dX11_wasWet_26 (by decide) hf (fun hf => ?_) (fun hf => ?_)
      · refine ft_iconst (v := 1) dX11_wasWet_47 rfl ?_
        refine ft_goto (tgt := 52) dX11_wasWet_48 (by decide) ?_
        refine ft_istore dX11_wasWet_52 (by decide) ?_
        refine fk_iinc (c := 1) dX11_wasWet_54 rfl (by decide) rfl ?_
        refine ft_goto (tgt := 6) dX11_wasWet_57 (by decide) ?_
        exact ft_forget (by simp [fc_le, fc_st1, fc_st2, fc_kill]) (hk6 _ _ hf)
      · refine ft_aload_n dX11_wasWet_29 rfl ?_
        refine ft_iload_n dX11_wasWet_30 rfl ?_
        refine ft_iload dX11_wasWet_31 rfl ?_
        refine ft_iload_n dX11_wasWet_33 rfl ?_
        refine ft_iconst (v := 0) dX11_wasWet_34 rfl ?_
        obtain ⟨r35, hc35, hf⟩ := fq_vs hf
        refine ft_V4p cf_X11_171 (sh_78) (t_X11_knownOf hc35) (Nat.le_of_ble_eq_true rfl) dX11_wasWet_35 ?_
        refine ft_aload_n dX11_wasWet_38 rfl ?_
        refine ft_getR fl_X11_29 rfl (sh_78) (by decide) pt_78_3 dX11_wasWet_39 ?_
        refine ft_iload_n dX11_wasWet_42 rfl ?_
        refine fk_iald (sh_79) hf dX11_wasWet_43 (fun hf => ?_)
        refine fk_icmp_le (tgt := 51) dX11_wasWet_44 (by decide) hf (fun hf => ?_) (fun hf => ?_)
        · refine ft_iconst (v := 0) dX11_wasWet_51 rfl ?_
          refine ft_istore dX11_wasWet_52 (by decide) ?_
          refine fk_iinc (c := 1) dX11_wasWet_54 rfl (by decide) rfl ?_
          refine ft_goto (tgt := 6) dX11_wasWet_57 (by decide) ?_
          exact ft_forget (by simp [fc_le, fc_st1, fc_st2, fc_kill]) (hk6 _ _ hf)
        · refine ft_iconst (v := 1) dX11_wasWet_47 rfl ?_
          refine ft_goto (tgt := 52) dX11_wasWet_48 (by decide) ?_
          refine ft_istore dX11_wasWet_52 (by decide) ?_
          refine fk_iinc (c := 1) dX11_wasWet_54 rfl (by decide) rfl ?_
          refine ft_goto (tgt := 6) dX11_wasWet_57 (by decide) ?_
          exact ft_forget (by simp [fc_le, fc_st1, fc_st2, fc_kill]) (hk6 _ _ hf)
set_option maxHeartbeats 4000000 in
set_option maxRecDepth 100000 in
theorem t_X11_wasWet {d : Nat} {v : Nat} {r : Int32} {I : fc_I} {x1 : Int32} {x2 : Int32} {x3 : Int32} (hf : f_X11_wasWet I x1 x2 x3 = some r) : fc_Cp X11_wasWet (d + 1) [.ref 78, .int x1, .int x2, .int x3] fc_SH I (fc_PT v) r := by
  unfold f_X11_wasWet at hf
  refine fc_Cp.of (ls := [some (.ref 78), some (.int x1), some (.int x2), some (.int x3), none, none]) ⟨rfl, rfl⟩ (Nat.le_of_ble_eq_true rfl) rfl ?_
  refine ft_iconst (v := 0) dX11_wasWet_0 rfl ?_
  refine ft_istore dX11_wasWet_1 (by decide) ?_
  refine ft_iload_n dX11_wasWet_3 rfl ?_
  refine ft_istore dX11_wasWet_4 (by decide) ?_
  exact ft_forget (by simp [fc_le, fc_st1, fc_st2, fc_kill]) (t_X11_wasWet_6   _ _ _ hf)
def f_X11_good_27_B (I : fc_I) (x1 : Int32) (k27 : Int32 → Int32 → Option Int32) (x2 : Int32) (x3 : Int32) : Option Int32 :=
if x3.toInt < (3 : Int32).toInt then (
if x2.toInt = 0 then (
fq_g 3 x3 (
if (I 99 (cn x3)).toInt = (1 : Int32).toInt then (
fq_g 6 x1 (
fq_v (f_X11_wasWet I x3 x1 (I 83 (cn x1))) fun r55 =>
if r55.toInt = 0 then (
fq_l (x3 + 1) fun y67 =>
k27 0 y67)
else (
fq_l (x3 + 1) fun y67 =>
k27 1 y67)))
else (
fq_l (x3 + 1) fun y67 =>
k27 0 y67)))
else (
fq_l (x3 + 1) fun y67 =>
k27 1 y67))
else (
if x2.toInt = 0 then (
some 0)
else (
some 1))
def f_X11_good_27 (I : fc_I) (x1 : Int32) (n : Nat) : Int32 → Int32 → Option Int32 := lpp2 (f_X11_good_27_B I x1 ) n
def f_X11_good (I : fc_I) (x1 : Int32) : Option Int32 :=
fq_v (f_X11_isZone I x1) fun r2 =>
if r2.toInt = 0 then (
some (-2))
else (
fq_g 6 x1 (
if (I 83 (cn x1)).toInt = ((-1) : Int32).toInt then (
some (-1))
else (
f_X11_good_27 I x1 4000 0 0)))
set_option maxHeartbeats 4000000 in
set_option maxRecDepth 100000 in
theorem t_X11_good_27 {d : Nat} {v : Nat} {r : Int32} {x1 : Int32} {I : fc_I} : ∀ (n : Nat) (x2 : Int32) (x3 : Int32) , f_X11_good_27 I x1 n x2 x3 = some r → fc_T X11_good (d + 2) 0 0 27 [some (.ref 78), some (.int x1), some (.int x2), some (.int x3)] [] fc_SH I (fc_PT v) (fc_Qi fc_SH (fun r' I' P' => r' = r ∧ I' = I ∧ P' = (fc_PT v))) := by
  unfold f_X11_good_27
  refine lpp2_T (fun k27 hk27 x2 x3 hf => ?_)
  unfold f_X11_good_27_B at hf
  refine ft_iload_n dX11_good_27 rfl ?_
  refine ft_iconst (v := 3) dX11_good_28 rfl ?_
  refine fk_icmp_ge (tgt := 73) dX11_good_29 (by decide) hf (fun hf => ?_) (fun hf => ?_)
  · refine ft_iload_n dX11_good_73 rfl ?_
    refine fk_if_eq (tgt := 81) dX11_good_74 (by decide) hf (fun hf => ?_) (fun hf => ?_)
    · refine ft_iconst (v := 0) dX11_good_81 rfl ?_
      exact fk_retp hf dX11_good_82 rfl rfl
    · refine ft_iconst (v := 1) dX11_good_77 rfl ?_
      refine ft_goto (tgt := 82) dX11_good_78 (by decide) ?_
      exact fk_retp hf dX11_good_82 rfl rfl
  · refine ft_iload_n dX11_good_32 rfl ?_
    refine fk_if_ne (tgt := 61) dX11_good_33 (by decide) hf (fun hf => ?_) (fun hf => ?_)
    · refine ft_iconst (v := 1) dX11_good_61 rfl ?_
      refine ft_goto (tgt := 66) dX11_good_62 (by decide) ?_
      refine ft_istore_n dX11_good_66 (by decide) ?_
      refine fk_iinc (c := 1) dX11_good_67 rfl (by decide) rfl ?_
      refine ft_goto (tgt := 27) dX11_good_70 (by decide) ?_
      exact ft_forget (by simp [fc_le, fc_st1, fc_st2, fc_kill]) (hk27 _ _ hf)
    · refine ft_aload_n dX11_good_36 rfl ?_
      refine ft_getR fl_X11_142 rfl (sh_78) (by decide) pt_78_27 dX11_good_37 ?_
      refine ft_iload_n dX11_good_40 rfl ?_
      refine fk_iald (sh_99) hf dX11_good_41 (fun hf => ?_)
      refine ft_iconst (v := 1) dX11_good_42 rfl ?_
      refine fk_icmp_ne (tgt := 65) dX11_good_43 (by decide) hf (fun hf => ?_) (fun hf => ?_)
      · refine ft_iconst (v := 0) dX11_good_65 rfl ?_
        refine ft_istore_n dX11_good_66 (by decide) ?_
        refine fk_iinc (c := 1) dX11_good_67 rfl (by decide) rfl ?_
        refine ft_goto (tgt := 27) dX11_good_70 (by decide) ?_
        exact ft_forget (by simp [fc_le, fc_st1, fc_st2, fc_kill]) (hk27 _ _ hf)
      · refine ft_aload_n dX11_good_46 rfl ?_
        refine ft_iload_n dX11_good_47 rfl ?_
        refine ft_iload_n dX11_good_48 rfl ?_
        refine ft_aload_n dX11_good_49 rfl ?_
        refine ft_getR fl_X11_96 rfl (sh_78) (by decide) pt_78_7 dX11_good_50 ?_
        refine ft_iload_n dX11_good_53 rfl ?_
        refine fk_iald (sh_83) hf dX11_good_54 (fun hf => ?_)
        obtain ⟨r55, hc55, hf⟩ := fq_vs hf
        refine ft_V3p cf_X11_354 (sh_78) (t_X11_wasWet hc55) (Nat.le_of_ble_eq_true rfl) dX11_good_55 ?_
        refine fk_if_eq (tgt := 65) dX11_good_58 (by decide) hf (fun hf => ?_) (fun hf => ?_)
        · refine ft_iconst (v := 0) dX11_good_65 rfl ?_
          refine ft_istore_n dX11_good_66 (by decide) ?_
          refine fk_iinc (c := 1) dX11_good_67 rfl (by decide) rfl ?_
          refine ft_goto (tgt := 27) dX11_good_70 (by decide) ?_
          exact ft_forget (by simp [fc_le, fc_st1, fc_st2, fc_kill]) (hk27 _ _ hf)
        · refine ft_iconst (v := 1) dX11_good_61 rfl ?_
          refine ft_goto (tgt := 66) dX11_good_62 (by decide) ?_
          refine ft_istore_n dX11_good_66 (by decide) ?_
          refine fk_iinc (c := 1) dX11_good_67 rfl (by decide) rfl ?_
          refine ft_goto (tgt := 27) dX11_good_70 (by decide) ?_
          exact ft_forget (by simp [fc_le, fc_st1, fc_st2, fc_kill]) (hk27 _ _ hf)
set_option maxHeartbeats 4000000 in
set_option maxRecDepth 100000 in
theorem t_X11_good {d : Nat} {v : Nat} {r : Int32} {I : fc_I} {x1 : Int32} (hf : f_X11_good I x1 = some r) : fc_Cp X11_good (d + 2) [.ref 78, .int x1] fc_SH I (fc_PT v) r := by
  unfold f_X11_good at hf
  refine fc_Cp.of (ls := [some (.ref 78), some (.int x1), none, none]) ⟨rfl, rfl⟩ (Nat.le_of_ble_eq_true rfl) rfl ?_
  refine ft_aload_n dX11_good_0 rfl ?_
  refine ft_iload_n dX11_good_1 rfl ?_
  obtain ⟨r2, hc2, hf⟩ := fq_vs hf
  refine ft_V1p cf_X11_42 (sh_78) (t_X11_isZone hc2) (Nat.le_of_ble_eq_true rfl) dX11_good_2 ?_
  refine fk_if_ne (tgt := 11) dX11_good_5 (by decide) hf (fun hf => ?_) (fun hf => ?_)
  · refine ft_aload_n dX11_good_11 rfl ?_
    refine ft_getR fl_X11_96 rfl (sh_78) (by decide) pt_78_7 dX11_good_12 ?_
    refine ft_iload_n dX11_good_15 rfl ?_
    refine fk_iald (sh_83) hf dX11_good_16 (fun hf => ?_)
    refine ft_iconst (v := (-1)) dX11_good_17 rfl ?_
    refine fk_icmp_ne (tgt := 23) dX11_good_18 (by decide) hf (fun hf => ?_) (fun hf => ?_)
    · refine ft_iconst (v := 0) dX11_good_23 rfl ?_
      refine ft_istore_n dX11_good_24 (by decide) ?_
      refine ft_iconst (v := 0) dX11_good_25 rfl ?_
      refine ft_istore_n dX11_good_26 (by decide) ?_
      exact ft_forget (by simp [fc_le, fc_st1, fc_st2, fc_kill]) (t_X11_good_27   _ _ _ hf)
    · refine ft_iconst (v := (-1)) dX11_good_21 rfl ?_
      exact fk_retp hf dX11_good_22 rfl rfl
  · refine ft_bipush (v := (-2)) dX11_good_8 rfl ?_
    exact fk_retp hf dX11_good_10 rfl rfl
def f_X11_inWater (I : fc_I) : Option Int32 :=
fq_v (f_X11_inWaterOf I (I 78 28)) fun r5 =>
some r5
set_option maxHeartbeats 4000000 in
set_option maxRecDepth 100000 in
theorem t_X11_inWater {d : Nat} {v : Nat} {r : Int32} {I : fc_I} (hf : f_X11_inWater I = some r) : fc_Cp X11_inWater (d + 2) [.ref 78] fc_SH I (fc_PT v) r := by
  unfold f_X11_inWater at hf
  refine fc_Cp.of (ls := [some (.ref 78)]) ⟨rfl, rfl⟩ (Nat.le_of_ble_eq_true rfl) rfl ?_
  refine ft_aload_n dX11_inWater_0 rfl ?_
  refine ft_aload_n dX11_inWater_1 rfl ?_
  refine ft_getI fl_X11_99 rfl (sh_78) (by decide) dX11_inWater_2 ?_
  obtain ⟨r5, hc5, hf⟩ := fq_vs hf
  refine ft_V1p cf_X11_381 (sh_78) (t_X11_inWaterOf hc5) (Nat.le_of_ble_eq_true rfl) dX11_inWater_5 ?_
  exact fk_retp hf dX11_inWater_8 rfl rfl
def f_X11_known (I : fc_I) (x1 : Int32) (x2 : Int32) (x3 : Int32) (x4 : Int32) : Option Int32 :=
fq_v (f_X11_isTrack x1) fun r1 =>
if r1.toInt = 0 then (
some (-2))
else (
fq_v (f_X11_isIn (Int32.toInt64 x2) 0 60) fun r13 =>
if r13.toInt = 0 then (
some (-2))
else (
fq_v (f_X11_isIn (Int32.toInt64 x3) 0 (Int32.toInt64 (I 78 0))) fun r27 =>
if r27.toInt = 0 then (
some (-2))
else (
fq_v (f_X11_isIn (Int32.toInt64 x4) 0 1) fun r38 =>
if r38.toInt = 0 then (
some (-2))
else (
if x4.toInt = (1 : Int32).toInt then (
fq_v (f_X11_knownOf I x1 x2 x3 1) fun r62 =>
some r62)
else (
fq_v (f_X11_knownOf I x1 x2 x3 0) fun r62 =>
some r62)))))
set_option maxHeartbeats 4000000 in
set_option maxRecDepth 100000 in
theorem t_X11_known {d : Nat} {v : Nat} {r : Int32} {I : fc_I} {x1 : Int32} {x2 : Int32} {x3 : Int32} {x4 : Int32} (hf : f_X11_known I x1 x2 x3 x4 = some r) : fc_Cp X11_known (d + 2) [.ref 78, .int x1, .int x2, .int x3, .int x4] fc_SH I (fc_PT v) r := by
  unfold f_X11_known at hf
  refine fc_Cp.of (ls := [some (.ref 78), some (.int x1), some (.int x2), some (.int x3), some (.int x4)]) ⟨rfl, rfl⟩ (Nat.le_of_ble_eq_true rfl) rfl ?_
  refine ft_iload_n dX11_known_0 rfl ?_
  obtain ⟨r1, hc1, hf⟩ := fq_vs hf
  refine ft_S1p cf_X11_139 (t_X11_isTrack hc1) (Nat.le_of_ble_eq_true rfl) dX11_known_1 ?_
  refine fk_if_eq (tgt := 44) dX11_known_4 (by decide) hf (fun hf => ?_) (fun hf => ?_)
  · refine ft_bipush (v := (-2)) dX11_known_44 rfl ?_
    exact fk_retp hf dX11_known_46 rfl rfl
  · refine ft_iload_n dX11_known_7 rfl ?_
    refine ft_i2l dX11_known_8 ?_
    refine ft_lconst (v := 0) dX11_known_9 rfl ?_
    refine ft_ldc2 dX11_known_10 kc_X11_134 ?_
    obtain ⟨r13, hc13, hf⟩ := fq_vs hf
    refine ft_S3p cf_X11_18 (t_X11_isIn hc13) (Nat.le_of_ble_eq_true rfl) dX11_known_13 ?_
    refine fk_if_eq (tgt := 44) dX11_known_16 (by decide) hf (fun hf => ?_) (fun hf => ?_)
    · refine ft_bipush (v := (-2)) dX11_known_44 rfl ?_
      exact fk_retp hf dX11_known_46 rfl rfl
    · refine ft_iload_n dX11_known_19 rfl ?_
      refine ft_i2l dX11_known_20 ?_
      refine ft_lconst (v := 0) dX11_known_21 rfl ?_
      refine ft_aload_n dX11_known_22 rfl ?_
      refine ft_getI fl_X11_26 rfl (sh_78) (by decide) dX11_known_23 ?_
      refine ft_i2l dX11_known_26 ?_
      obtain ⟨r27, hc27, hf⟩ := fq_vs hf
      refine ft_S3p cf_X11_18 (t_X11_isIn hc27) (Nat.le_of_ble_eq_true rfl) dX11_known_27 ?_
      refine fk_if_eq (tgt := 44) dX11_known_30 (by decide) hf (fun hf => ?_) (fun hf => ?_)
      · refine ft_bipush (v := (-2)) dX11_known_44 rfl ?_
        exact fk_retp hf dX11_known_46 rfl rfl
      · refine ft_iload dX11_known_33 rfl ?_
        refine ft_i2l dX11_known_35 ?_
        refine ft_lconst (v := 0) dX11_known_36 rfl ?_
        refine ft_lconst (v := 1) dX11_known_37 rfl ?_
        obtain ⟨r38, hc38, hf⟩ := fq_vs hf
        refine ft_S3p cf_X11_18 (t_X11_isIn hc38) (Nat.le_of_ble_eq_true rfl) dX11_known_38 ?_
        refine fk_if_ne (tgt := 47) dX11_known_41 (by decide) hf (fun hf => ?_) (fun hf => ?_)
        · refine ft_aload_n dX11_known_47 rfl ?_
          refine ft_iload_n dX11_known_48 rfl ?_
          refine ft_iload_n dX11_known_49 rfl ?_
          refine ft_iload_n dX11_known_50 rfl ?_
          refine ft_iload dX11_known_51 rfl ?_
          refine ft_iconst (v := 1) dX11_known_53 rfl ?_
          refine fk_icmp_ne (tgt := 61) dX11_known_54 (by decide) hf (fun hf => ?_) (fun hf => ?_)
          · refine ft_iconst (v := 0) dX11_known_61 rfl ?_
            obtain ⟨r62, hc62, hf⟩ := fq_vs hf
            refine ft_V4p cf_X11_171 (sh_78) (t_X11_knownOf hc62) (Nat.le_of_ble_eq_true rfl) dX11_known_62 ?_
            exact fk_retp hf dX11_known_65 rfl rfl
          · refine ft_iconst (v := 1) dX11_known_57 rfl ?_
            refine ft_goto (tgt := 62) dX11_known_58 (by decide) ?_
            obtain ⟨r62, hc62, hf⟩ := fq_vs hf
            refine ft_V4p cf_X11_171 (sh_78) (t_X11_knownOf hc62) (Nat.le_of_ble_eq_true rfl) dX11_known_62 ?_
            exact fk_retp hf dX11_known_65 rfl rfl
        · refine ft_bipush (v := (-2)) dX11_known_44 rfl ?_
          exact fk_retp hf dX11_known_46 rfl rfl
def f_X11_likely (I : fc_I) (x1 : Int32) (x2 : Int32) : Option (Int32 × fc_I) :=
fq_v (f_X11_isTrack x1) fun r1 =>
if r1.toInt = 0 then (
some ((-2), I))
else (
fq_v (f_X11_isIn (Int32.toInt64 x2) 0 1) fun r11 =>
if r11.toInt = 0 then (
some ((-2), I))
else (
fq_g 3 x1 (
fq_l ((I 99 (cn x1))) fun y26 =>
fq_g 3 x1 (fq_l (fc_wI I 99 (cn x1) x2) fun I33 =>
some (y26, I33)))))
set_option maxHeartbeats 4000000 in
set_option maxRecDepth 100000 in
theorem t_X11_likely {d : Nat} {v : Nat} {r : Int32} {J : fc_I} {I : fc_I} {x1 : Int32} {x2 : Int32} (hf : f_X11_likely I x1 x2 = some (r, J)) : fc_Ci X11_likely (d + 2) [.ref 78, .int x1, .int x2] fc_SH I (fc_PT v) (fun r' I' P' => r' = r ∧ I' = J ∧ P' = (fc_PT v)) := by
  unfold f_X11_likely at hf
  refine fc_Ci.of (ls := [some (.ref 78), some (.int x1), some (.int x2), none]) ⟨rfl, rfl⟩ (Nat.le_of_ble_eq_true rfl) rfl ?_
  refine ft_iload_n dX11_likely_0 rfl ?_
  obtain ⟨r1, hc1, hf⟩ := fq_vs hf
  refine ft_S1p cf_X11_139 (t_X11_isTrack hc1) (Nat.le_of_ble_eq_true rfl) dX11_likely_1 ?_
  refine fk_if_eq (tgt := 17) dX11_likely_4 (by decide) hf (fun hf => ?_) (fun hf => ?_)
  · refine ft_bipush (v := (-2)) dX11_likely_17 rfl ?_
    exact fk_reti hf dX11_likely_19 rfl rfl
  · refine ft_iload_n dX11_likely_7 rfl ?_
    refine ft_i2l dX11_likely_8 ?_
    refine ft_lconst (v := 0) dX11_likely_9 rfl ?_
    refine ft_lconst (v := 1) dX11_likely_10 rfl ?_
    obtain ⟨r11, hc11, hf⟩ := fq_vs hf
    refine ft_S3p cf_X11_18 (t_X11_isIn hc11) (Nat.le_of_ble_eq_true rfl) dX11_likely_11 ?_
    refine fk_if_ne (tgt := 20) dX11_likely_14 (by decide) hf (fun hf => ?_) (fun hf => ?_)
    · refine ft_aload_n dX11_likely_20 rfl ?_
      refine ft_getR fl_X11_142 rfl (sh_78) (by decide) pt_78_27 dX11_likely_21 ?_
      refine ft_iload_n dX11_likely_24 rfl ?_
      refine fk_iald (sh_99) hf dX11_likely_25 (fun hf => ?_)
      refine ft_istore_n dX11_likely_26 (by decide) ?_
      refine ft_aload_n dX11_likely_27 rfl ?_
      refine ft_getR fl_X11_142 rfl (sh_78) (by decide) pt_78_27 dX11_likely_28 ?_
      refine ft_iload_n dX11_likely_31 rfl ?_
      refine ft_iload_n dX11_likely_32 rfl ?_
      refine fk_iast (sh_99) hf dX11_likely_33 (fun hf => ?_)
      refine ft_iload_n dX11_likely_34 rfl ?_
      exact fk_reti hf dX11_likely_35 rfl rfl
    · refine ft_bipush (v := (-2)) dX11_likely_17 rfl ?_
      exact fk_reti hf dX11_likely_19 rfl rfl
def f_X11_news_147_B (x1 : Int32) (x3 : Int32) (x4 : Int32) (x5 : Int32) (k147 : Int32 → fc_I → Option (Int32 × fc_I)) (x6 : Int32) (I : fc_I) : Option (Int32 × fc_I) :=
if x6.toInt < x3.toInt then (
fq_g 183 (((61 : Int32) * x1) + x6) (fq_l (fc_wI I 106 (cn (((61 : Int32) * x1) + x6)) x4) fun I166 =>
fq_g 183 (((61 : Int32) * x1) + x6) (fq_l (fc_wI I166 107 (cn (((61 : Int32) * x1) + x6)) x5) fun I180 =>
fq_l (x6 + 1) fun y181 =>
k147 y181 I180)))
else (
fq_l (fc_wI I 78 29 ((I 78 29) + 1)) fun I194 =>
some (((I194 78 29) - 1), I194))
def f_X11_news_147 (x1 : Int32) (x3 : Int32) (x4 : Int32) (x5 : Int32) (n : Nat) : Int32 → fc_I → Option (Int32 × fc_I) := lpm1 (f_X11_news_147_B x1 x3 x4 x5 ) n
def f_X11_news (I : fc_I) (x1 : Int32) (x2 : Int32) (x3 : Int32) (x4 : Int32) (x5 : Int32) : Option (Int32 × fc_I) :=
fq_v (f_X11_isTrack x1) fun r1 =>
if r1.toInt = 0 then (
some ((-2), I))
else (
fq_v (f_X11_isIn (Int32.toInt64 x2) (Int32.toInt64 (I 78 0)) 60) fun r17 =>
if r17.toInt = 0 then (
some ((-2), I))
else (
fq_v (f_X11_isIn (Int32.toInt64 x3) ((Int32.toInt64 x2) + 1) 61) fun r32 =>
if r32.toInt = 0 then (
some ((-2), I))
else (
fq_v (f_X11_isIn (Int32.toInt64 x4) 0 99) fun r45 =>
if r45.toInt = 0 then (
some ((-2), I))
else (
fq_v (f_X11_isIn (Int32.toInt64 x5) 0 99) fun r58 =>
if r58.toInt = 0 then (
some ((-2), I))
else (
if (I 78 29).toInt = (40 : Int32).toInt then (
some ((-4), I))
else (
fq_g 40 (I 78 29) (fq_l (fc_wI I 100 (cn (I 78 29)) x1) fun I88 =>
fq_g 40 (I88 78 29) (fq_l (fc_wI I88 101 (cn (I88 78 29)) x2) fun I98 =>
fq_g 40 (I98 78 29) (fq_l (fc_wI I98 102 (cn (I98 78 29)) x3) fun I108 =>
fq_g 40 (I108 78 29) (fq_l (fc_wI I108 103 (cn (I108 78 29)) x4) fun I119 =>
fq_g 40 (I119 78 29) (fq_l (fc_wI I119 104 (cn (I119 78 29)) x5) fun I130 =>
fq_g 40 (I130 78 29) (fq_l (fc_wI I130 105 (cn (I130 78 29)) (I130 78 0)) fun I143 =>
f_X11_news_147 x1 x3 x4 x5 4000 x2 I143))))))))))))
set_option maxHeartbeats 4000000 in
set_option maxRecDepth 100000 in
theorem t_X11_news_147 {d : Nat} {v : Nat} {r : Int32} {J : fc_I} {x1 : Int32} {x3 : Int32} {x4 : Int32} {x5 : Int32} : ∀ (n : Nat) (x6 : Int32) (I : fc_I) , f_X11_news_147 x1 x3 x4 x5 n x6 I = some (r, J) → fc_T X11_news (d + 2) 0 0 147 [some (.ref 78), some (.int x1), none, some (.int x3), some (.int x4), some (.int x5), some (.int x6)] [] fc_SH I (fc_PT v) (fc_Qi fc_SH (fun r' I' P' => r' = r ∧ I' = J ∧ P' = (fc_PT v))) := by
  unfold f_X11_news_147
  refine lpm1_T (fun k147 hk147 x6 I hf => ?_)
  unfold f_X11_news_147_B at hf
  refine ft_iload dX11_news_147 rfl ?_
  refine ft_iload_n dX11_news_149 rfl ?_
  refine fk_icmp_ge (tgt := 187) dX11_news_150 (by decide) hf (fun hf => ?_) (fun hf => ?_)
  · refine ft_aload_n dX11_news_187 rfl ?_
    refine ft_dup dX11_news_188 rfl ?_
    refine ft_getI fl_X11_147 rfl (sh_78) (by decide) dX11_news_189 ?_
    refine ft_iconst (v := 1) dX11_news_192 rfl ?_
    refine ft_iadd dX11_news_193 ?_
    refine ft_putI fl_X11_147 rfl (fun q h => by cases h; rfl) (sh_78) (by decide) dX11_news_194 ?_
    refine ft_aload_n dX11_news_197 rfl ?_
    refine ft_getI fl_X11_147 rfl (sh_78) (by decide) dX11_news_198 ?_
    refine ft_iconst (v := 1) dX11_news_201 rfl ?_
    refine ft_isub dX11_news_202 ?_
    exact fk_reti hf dX11_news_203 rfl rfl
  · refine ft_aload_n dX11_news_153 rfl ?_
    refine ft_getR fl_X11_131 rfl (sh_78) (by decide) pt_78_36 dX11_news_154 ?_
    refine ft_bipush (v := 61) dX11_news_157 rfl ?_
    refine ft_iload_n dX11_news_159 rfl ?_
    refine ft_imul dX11_news_160 ?_
    refine ft_iload dX11_news_161 rfl ?_
    refine ft_iadd dX11_news_163 ?_
    refine ft_iload dX11_news_164 rfl ?_
    refine fk_iast (sh_106) hf dX11_news_166 (fun hf => ?_)
    refine ft_aload_n dX11_news_167 rfl ?_
    refine ft_getR fl_X11_168 rfl (sh_78) (by decide) pt_78_37 dX11_news_168 ?_
    refine ft_bipush (v := 61) dX11_news_171 rfl ?_
    refine ft_iload_n dX11_news_173 rfl ?_
    refine ft_imul dX11_news_174 ?_
    refine ft_iload dX11_news_175 rfl ?_
    refine ft_iadd dX11_news_177 ?_
    refine ft_iload dX11_news_178 rfl ?_
    refine fk_iast (sh_107) hf dX11_news_180 (fun hf => ?_)
    refine fk_iinc (c := 1) dX11_news_181 rfl (by decide) rfl ?_
    refine ft_goto (tgt := 147) dX11_news_184 (by decide) ?_
    exact ft_forget (by simp [fc_le, fc_st1, fc_st2, fc_kill]) (hk147 _ _ hf)
set_option maxHeartbeats 4000000 in
set_option maxRecDepth 100000 in
theorem t_X11_news {d : Nat} {v : Nat} {r : Int32} {J : fc_I} {I : fc_I} {x1 : Int32} {x2 : Int32} {x3 : Int32} {x4 : Int32} {x5 : Int32} (hf : f_X11_news I x1 x2 x3 x4 x5 = some (r, J)) : fc_Ci X11_news (d + 2) [.ref 78, .int x1, .int x2, .int x3, .int x4, .int x5] fc_SH I (fc_PT v) (fun r' I' P' => r' = r ∧ I' = J ∧ P' = (fc_PT v)) := by
  unfold f_X11_news at hf
  refine fc_Ci.of (ls := [some (.ref 78), some (.int x1), some (.int x2), some (.int x3), some (.int x4), some (.int x5), none]) ⟨rfl, rfl⟩ (Nat.le_of_ble_eq_true rfl) rfl ?_
  refine ft_iload_n dX11_news_0 rfl ?_
  obtain ⟨r1, hc1, hf⟩ := fq_vs hf
  refine ft_S1p cf_X11_139 (t_X11_isTrack hc1) (Nat.le_of_ble_eq_true rfl) dX11_news_1 ?_
  refine fk_if_eq (tgt := 64) dX11_news_4 (by decide) hf (fun hf => ?_) (fun hf => ?_)
  · refine ft_bipush (v := (-2)) dX11_news_64 rfl ?_
    exact fk_reti hf dX11_news_66 rfl rfl
  · refine ft_iload_n dX11_news_7 rfl ?_
    refine ft_i2l dX11_news_8 ?_
    refine ft_aload_n dX11_news_9 rfl ?_
    refine ft_getI fl_X11_26 rfl (sh_78) (by decide) dX11_news_10 ?_
    refine ft_i2l dX11_news_13 ?_
    refine ft_ldc2 dX11_news_14 kc_X11_134 ?_
    obtain ⟨r17, hc17, hf⟩ := fq_vs hf
    refine ft_S3p cf_X11_18 (t_X11_isIn hc17) (Nat.le_of_ble_eq_true rfl) dX11_news_17 ?_
    refine fk_if_eq (tgt := 64) dX11_news_20 (by decide) hf (fun hf => ?_) (fun hf => ?_)
    · refine ft_bipush (v := (-2)) dX11_news_64 rfl ?_
      exact fk_reti hf dX11_news_66 rfl rfl
    · refine ft_iload_n dX11_news_23 rfl ?_
      refine ft_i2l dX11_news_24 ?_
      refine ft_iload_n dX11_news_25 rfl ?_
      refine ft_i2l dX11_news_26 ?_
      refine ft_lconst (v := 1) dX11_news_27 rfl ?_
      refine ft_ladd dX11_news_28 ?_
      refine ft_ldc2 dX11_news_29 kc_X11_145 ?_
      obtain ⟨r32, hc32, hf⟩ := fq_vs hf
      refine ft_S3p cf_X11_18 (t_X11_isIn hc32) (Nat.le_of_ble_eq_true rfl) dX11_news_32 ?_
      refine fk_if_eq (tgt := 64) dX11_news_35 (by decide) hf (fun hf => ?_) (fun hf => ?_)
      · refine ft_bipush (v := (-2)) dX11_news_64 rfl ?_
        exact fk_reti hf dX11_news_66 rfl rfl
      · refine ft_iload dX11_news_38 rfl ?_
        refine ft_i2l dX11_news_40 ?_
        refine ft_lconst (v := 0) dX11_news_41 rfl ?_
        refine ft_ldc2 dX11_news_42 kc_X11_16 ?_
        obtain ⟨r45, hc45, hf⟩ := fq_vs hf
        refine ft_S3p cf_X11_18 (t_X11_isIn hc45) (Nat.le_of_ble_eq_true rfl) dX11_news_45 ?_
        refine fk_if_eq (tgt := 64) dX11_news_48 (by decide) hf (fun hf => ?_) (fun hf => ?_)
        · refine ft_bipush (v := (-2)) dX11_news_64 rfl ?_
          exact fk_reti hf dX11_news_66 rfl rfl
        · refine ft_iload dX11_news_51 rfl ?_
          refine ft_i2l dX11_news_53 ?_
          refine ft_lconst (v := 0) dX11_news_54 rfl ?_
          refine ft_ldc2 dX11_news_55 kc_X11_16 ?_
          obtain ⟨r58, hc58, hf⟩ := fq_vs hf
          refine ft_S3p cf_X11_18 (t_X11_isIn hc58) (Nat.le_of_ble_eq_true rfl) dX11_news_58 ?_
          refine fk_if_ne (tgt := 67) dX11_news_61 (by decide) hf (fun hf => ?_) (fun hf => ?_)
          · refine ft_aload_n dX11_news_67 rfl ?_
            refine ft_getI fl_X11_147 rfl (sh_78) (by decide) dX11_news_68 ?_
            refine ft_bipush (v := 40) dX11_news_71 rfl ?_
            refine fk_icmp_ne (tgt := 79) dX11_news_73 (by decide) hf (fun hf => ?_) (fun hf => ?_)
            · refine ft_aload_n dX11_news_79 rfl ?_
              refine ft_getR fl_X11_150 rfl (sh_78) (by decide) pt_78_30 dX11_news_80 ?_
              refine ft_aload_n dX11_news_83 rfl ?_
              refine ft_getI fl_X11_147 rfl (sh_78) (by decide) dX11_news_84 ?_
              refine ft_iload_n dX11_news_87 rfl ?_
              refine fk_iast (sh_100) hf dX11_news_88 (fun hf => ?_)
              refine ft_aload_n dX11_news_89 rfl ?_
              refine ft_getR fl_X11_153 rfl (sh_78) (by decide) pt_78_31 dX11_news_90 ?_
              refine ft_aload_n dX11_news_93 rfl ?_
              refine ft_getI fl_X11_147 rfl (sh_78) (by decide) dX11_news_94 ?_
              refine ft_iload_n dX11_news_97 rfl ?_
              refine fk_iast (sh_101) hf dX11_news_98 (fun hf => ?_)
              refine ft_aload_n dX11_news_99 rfl ?_
              refine ft_getR fl_X11_156 rfl (sh_78) (by decide) pt_78_32 dX11_news_100 ?_
              refine ft_aload_n dX11_news_103 rfl ?_
              refine ft_getI fl_X11_147 rfl (sh_78) (by decide) dX11_news_104 ?_
              refine ft_iload_n dX11_news_107 rfl ?_
              refine fk_iast (sh_102) hf dX11_news_108 (fun hf => ?_)
              refine ft_aload_n dX11_news_109 rfl ?_
              refine ft_getR fl_X11_159 rfl (sh_78) (by decide) pt_78_33 dX11_news_110 ?_
              refine ft_aload_n dX11_news_113 rfl ?_
              refine ft_getI fl_X11_147 rfl (sh_78) (by decide) dX11_news_114 ?_
              refine ft_iload dX11_news_117 rfl ?_
              refine fk_iast (sh_103) hf dX11_news_119 (fun hf => ?_)
              refine ft_aload_n dX11_news_120 rfl ?_
              refine ft_getR fl_X11_162 rfl (sh_78) (by decide) pt_78_34 dX11_news_121 ?_
              refine ft_aload_n dX11_news_124 rfl ?_
              refine ft_getI fl_X11_147 rfl (sh_78) (by decide) dX11_news_125 ?_
              refine ft_iload dX11_news_128 rfl ?_
              refine fk_iast (sh_104) hf dX11_news_130 (fun hf => ?_)
              refine ft_aload_n dX11_news_131 rfl ?_
              refine ft_getR fl_X11_165 rfl (sh_78) (by decide) pt_78_35 dX11_news_132 ?_
              refine ft_aload_n dX11_news_135 rfl ?_
              refine ft_getI fl_X11_147 rfl (sh_78) (by decide) dX11_news_136 ?_
              refine ft_aload_n dX11_news_139 rfl ?_
              refine ft_getI fl_X11_26 rfl (sh_78) (by decide) dX11_news_140 ?_
              refine fk_iast (sh_105) hf dX11_news_143 (fun hf => ?_)
              refine ft_iload_n dX11_news_144 rfl ?_
              refine ft_istore dX11_news_145 (by decide) ?_
              exact ft_forget (by simp [fc_le, fc_st1, fc_st2, fc_kill]) (t_X11_news_147   _ _ _ hf)
            · refine ft_bipush (v := (-4)) dX11_news_76 rfl ?_
              exact fk_reti hf dX11_news_78 rfl rfl
          · refine ft_bipush (v := (-2)) dX11_news_64 rfl ?_
            exact fk_reti hf dX11_news_66 rfl rfl
def f_X11_newsRow_82_B (x1 : Int32) (x2 : Int32) (x4 : Int32) (x5 : Int32) (k82 : Int32 → Int32 → fc_I → Option (Int32 × fc_I)) (x6 : Int32) (x7 : Int32) (I : fc_I) : Option (Int32 × fc_I) :=
if x7.toInt < x5.toInt then (
fq_l (((Int32.toInt64 x4) + ((4 : Int64) * (Int32.toInt64 x7)))) fun y100 =>
if (lg_cmp y100 (0 : Int64)).toInt < 0 then (
some ((-12), I))
else (
fq_g 4 x2 (
if (lg_cmp (y100 + 3) (Int32.toInt64 (I 128 (cn x2)))).toInt < 0 then (
fq_l ((((40 : Int32) * x2) + (Int64.toInt32 y100))) fun y137 =>
fq_g 160 y137 (
fq_g 160 (y137 + 1) (
fq_g 160 (y137 + 2) (
fq_g 160 (y137 + 3) (
fq_b (f_X11_news I x1 (I 129 (cn y137)) (I 129 (cn (y137 + 1))) (I 129 (cn (y137 + 2))) (I 129 (cn (y137 + 3)))) fun r177 I177 =>
if r177.toInt < 0 then (
fq_l ((x6 + 0)) fun y189 =>
fq_l (x7 + 1) fun y191 =>
k82 y189 y191 I177)
else (
fq_l ((x6 + 1)) fun y189 =>
fq_l (x7 + 1) fun y191 =>
k82 y189 y191 I177))))))
else (
some ((-12), I)))))
else (
some (x6, I))
def f_X11_newsRow_82 (x1 : Int32) (x2 : Int32) (x4 : Int32) (x5 : Int32) (n : Nat) : Int32 → Int32 → fc_I → Option (Int32 × fc_I) := lpm2 (f_X11_newsRow_82_B x1 x2 x4 x5 ) n
def f_X11_newsRow (I : fc_I) (x1 : Int32) (x2 : Int32) (x3 : Int32) (x4 : Int32) (x5 : Int32) : Option (Int32 × fc_I) :=
fq_v (f_X11_isTrack x1) fun r1 =>
if r1.toInt = 0 then (
some ((-2), I))
else (
fq_v (f_X11_isSheet x2) fun r8 =>
if r8.toInt = 0 then (
some ((-2), I))
else (
fq_v (f_X11_isIn (Int32.toInt64 x3) 0 2) fun r20 =>
if r20.toInt = 0 then (
some ((-2), I))
else (
fq_v (f_X11_isIn (Int32.toInt64 x5) 0 10) fun r33 =>
if r33.toInt = 0 then (
some ((-2), I))
else (
fq_g 4 x2 (
if (I 127 (cn x2)).toInt < 0 then (
fq_g 4 x2 (
if (I 127 (cn x2)).toInt < 0 then (
some ((-11), I))
else (
f_X11_newsRow_82 x1 x2 x4 x5 4000 0 0 I)))
else (
fq_g 4 x2 (
if (I 127 (cn x2)).toInt = x3.toInt then (
fq_g 4 x2 (
if (I 127 (cn x2)).toInt < 0 then (
some ((-11), I))
else (
f_X11_newsRow_82 x1 x2 x4 x5 4000 0 0 I)))
else (
some ((-13), I)))))))))
set_option maxHeartbeats 4000000 in
set_option maxRecDepth 100000 in
theorem t_X11_newsRow_82 {d : Nat} {v : Nat} {r : Int32} {J : fc_I} {x1 : Int32} {x2 : Int32} {x4 : Int32} {x5 : Int32} : ∀ (n : Nat) (x6 : Int32) (x7 : Int32) (I : fc_I) , f_X11_newsRow_82 x1 x2 x4 x5 n x6 x7 I = some (r, J) → fc_T X11_newsRow (d + 3) 0 0 82 [some (.ref 78), some (.int x1), some (.int x2), none, some (.int x4), some (.int x5), some (.int x6), some (.int x7), none, none, none] [] fc_SH I (fc_PT v) (fc_Qi fc_SH (fun r' I' P' => r' = r ∧ I' = J ∧ P' = (fc_PT v))) := by
  unfold f_X11_newsRow_82
  refine lpm2_T (fun k82 hk82 x6 x7 I hf => ?_)
  unfold f_X11_newsRow_82_B at hf
  refine ft_iload dX11_newsRow_82 rfl ?_
  refine ft_iload dX11_newsRow_84 rfl ?_
  refine fk_icmp_ge (tgt := 197) dX11_newsRow_86 (by decide) hf (fun hf => ?_) (fun hf => ?_)
  · refine ft_iload dX11_newsRow_197 rfl ?_
    exact fk_reti hf dX11_newsRow_199 rfl rfl
  · refine ft_iload dX11_newsRow_89 rfl ?_
    refine ft_i2l dX11_newsRow_91 ?_
    refine ft_ldc2 dX11_newsRow_92 kc_X11_434 ?_
    refine ft_iload dX11_newsRow_95 rfl ?_
    refine ft_i2l dX11_newsRow_97 ?_
    refine ft_lmul dX11_newsRow_98 ?_
    refine ft_ladd dX11_newsRow_99 ?_
    refine ft_lstore dX11_newsRow_100 (by decide) ?_
    refine ft_lload dX11_newsRow_102 rfl ?_
    refine ft_lconst (v := 0) dX11_newsRow_104 rfl ?_
    refine ft_lcmp dX11_newsRow_105 ?_
    refine fk_if_lt (tgt := 126) dX11_newsRow_106 (by decide) hf (fun hf => ?_) (fun hf => ?_)
    · refine ft_bipush (v := (-12)) dX11_newsRow_126 rfl ?_
      exact fk_reti hf dX11_newsRow_128 rfl rfl
    · refine ft_lload dX11_newsRow_109 rfl ?_
      refine ft_ldc2 dX11_newsRow_111 kc_X11_422 ?_
      refine ft_ladd dX11_newsRow_114 ?_
      refine ft_aload_n dX11_newsRow_115 rfl ?_
      refine ft_getR fl_X11_345 rfl (sh_78) (by decide) pt_78_72 dX11_newsRow_116 ?_
      refine ft_iload_n dX11_newsRow_119 rfl ?_
      refine fk_iald (sh_128) hf dX11_newsRow_120 (fun hf => ?_)
      refine ft_i2l dX11_newsRow_121 ?_
      refine ft_lcmp dX11_newsRow_122 ?_
      refine fk_if_lt (tgt := 129) dX11_newsRow_123 (by decide) hf (fun hf => ?_) (fun hf => ?_)
      · refine ft_bipush (v := 40) dX11_newsRow_129 rfl ?_
        refine ft_iload_n dX11_newsRow_131 rfl ?_
        refine ft_imul dX11_newsRow_132 ?_
        refine ft_lload dX11_newsRow_133 rfl ?_
        refine ft_l2i dX11_newsRow_135 ?_
        refine ft_iadd dX11_newsRow_136 ?_
        refine ft_istore dX11_newsRow_137 (by decide) ?_
        refine ft_iload dX11_newsRow_139 rfl ?_
        refine ft_aload_n dX11_newsRow_141 rfl ?_
        refine ft_iload_n dX11_newsRow_142 rfl ?_
        refine ft_aload_n dX11_newsRow_143 rfl ?_
        refine ft_getR fl_X11_348 rfl (sh_78) (by decide) pt_78_73 dX11_newsRow_144 ?_
        refine ft_iload dX11_newsRow_147 rfl ?_
        refine fk_iald (sh_129) hf dX11_newsRow_149 (fun hf => ?_)
        refine ft_aload_n dX11_newsRow_150 rfl ?_
        refine ft_getR fl_X11_348 rfl (sh_78) (by decide) pt_78_73 dX11_newsRow_151 ?_
        refine ft_iload dX11_newsRow_154 rfl ?_
        refine ft_iconst (v := 1) dX11_newsRow_156 rfl ?_
        refine ft_iadd dX11_newsRow_157 ?_
        refine fk_iald (sh_129) hf dX11_newsRow_158 (fun hf => ?_)
        refine ft_aload_n dX11_newsRow_159 rfl ?_
        refine ft_getR fl_X11_348 rfl (sh_78) (by decide) pt_78_73 dX11_newsRow_160 ?_
        refine ft_iload dX11_newsRow_163 rfl ?_
        refine ft_iconst (v := 2) dX11_newsRow_165 rfl ?_
        refine ft_iadd dX11_newsRow_166 ?_
        refine fk_iald (sh_129) hf dX11_newsRow_167 (fun hf => ?_)
        refine ft_aload_n dX11_newsRow_168 rfl ?_
        refine ft_getR fl_X11_348 rfl (sh_78) (by decide) pt_78_73 dX11_newsRow_169 ?_
        refine ft_iload dX11_newsRow_172 rfl ?_
        refine ft_iconst (v := 3) dX11_newsRow_174 rfl ?_
        refine ft_iadd dX11_newsRow_175 ?_
        refine fk_iald (sh_129) hf dX11_newsRow_176 (fun hf => ?_)
        obtain ⟨r177, I177, hc177, hf⟩ := fq_bs hf
        refine ft_V5i cf_X11_436 (sh_78) (t_X11_news hc177) (Nat.le_of_ble_eq_true rfl) dX11_newsRow_177 (fun r' J P' q => ?_)
        obtain ⟨rfl, rfl, rfl⟩ := q
        refine fk_if_lt (tgt := 187) dX11_newsRow_180 (by decide) hf (fun hf => ?_) (fun hf => ?_)
        · refine ft_iconst (v := 0) dX11_newsRow_187 rfl ?_
          refine ft_iadd dX11_newsRow_188 ?_
          refine ft_istore dX11_newsRow_189 (by decide) ?_
          refine fk_iinc (c := 1) dX11_newsRow_191 rfl (by decide) rfl ?_
          refine ft_goto (tgt := 82) dX11_newsRow_194 (by decide) ?_
          exact ft_forget (by simp [fc_le, fc_st1, fc_st2, fc_kill]) (hk82 _ _ _ hf)
        · refine ft_iconst (v := 1) dX11_newsRow_183 rfl ?_
          refine ft_goto (tgt := 188) dX11_newsRow_184 (by decide) ?_
          refine ft_iadd dX11_newsRow_188 ?_
          refine ft_istore dX11_newsRow_189 (by decide) ?_
          refine fk_iinc (c := 1) dX11_newsRow_191 rfl (by decide) rfl ?_
          refine ft_goto (tgt := 82) dX11_newsRow_194 (by decide) ?_
          exact ft_forget (by simp [fc_le, fc_st1, fc_st2, fc_kill]) (hk82 _ _ _ hf)
      · refine ft_bipush (v := (-12)) dX11_newsRow_126 rfl ?_
        exact fk_reti hf dX11_newsRow_128 rfl rfl
set_option maxHeartbeats 4000000 in
set_option maxRecDepth 100000 in
theorem t_X11_newsRow {d : Nat} {v : Nat} {r : Int32} {J : fc_I} {I : fc_I} {x1 : Int32} {x2 : Int32} {x3 : Int32} {x4 : Int32} {x5 : Int32} (hf : f_X11_newsRow I x1 x2 x3 x4 x5 = some (r, J)) : fc_Ci X11_newsRow (d + 3) [.ref 78, .int x1, .int x2, .int x3, .int x4, .int x5] fc_SH I (fc_PT v) (fun r' I' P' => r' = r ∧ I' = J ∧ P' = (fc_PT v)) := by
  unfold f_X11_newsRow at hf
  refine fc_Ci.of (ls := [some (.ref 78), some (.int x1), some (.int x2), some (.int x3), some (.int x4), some (.int x5), none, none, none, none, none]) ⟨rfl, rfl⟩ (Nat.le_of_ble_eq_true rfl) rfl ?_
  refine ft_iload_n dX11_newsRow_0 rfl ?_
  obtain ⟨r1, hc1, hf⟩ := fq_vs hf
  refine ft_S1p cf_X11_139 (t_X11_isTrack hc1) (Nat.le_of_ble_eq_true rfl) dX11_newsRow_1 ?_
  refine fk_if_eq (tgt := 39) dX11_newsRow_4 (by decide) hf (fun hf => ?_) (fun hf => ?_)
  · refine ft_bipush (v := (-2)) dX11_newsRow_39 rfl ?_
    exact fk_reti hf dX11_newsRow_41 rfl rfl
  · refine ft_iload_n dX11_newsRow_7 rfl ?_
    obtain ⟨r8, hc8, hf⟩ := fq_vs hf
    refine ft_S1p cf_X11_424 (t_X11_isSheet hc8) (Nat.le_of_ble_eq_true rfl) dX11_newsRow_8 ?_
    refine fk_if_eq (tgt := 39) dX11_newsRow_11 (by decide) hf (fun hf => ?_) (fun hf => ?_)
    · refine ft_bipush (v := (-2)) dX11_newsRow_39 rfl ?_
      exact fk_reti hf dX11_newsRow_41 rfl rfl
    · refine ft_iload_n dX11_newsRow_14 rfl ?_
      refine ft_i2l dX11_newsRow_15 ?_
      refine ft_lconst (v := 0) dX11_newsRow_16 rfl ?_
      refine ft_ldc2 dX11_newsRow_17 kc_X11_123 ?_
      obtain ⟨r20, hc20, hf⟩ := fq_vs hf
      refine ft_S3p cf_X11_18 (t_X11_isIn hc20) (Nat.le_of_ble_eq_true rfl) dX11_newsRow_20 ?_
      refine fk_if_eq (tgt := 39) dX11_newsRow_23 (by decide) hf (fun hf => ?_) (fun hf => ?_)
      · refine ft_bipush (v := (-2)) dX11_newsRow_39 rfl ?_
        exact fk_reti hf dX11_newsRow_41 rfl rfl
      · refine ft_iload dX11_newsRow_26 rfl ?_
        refine ft_i2l dX11_newsRow_28 ?_
        refine ft_lconst (v := 0) dX11_newsRow_29 rfl ?_
        refine ft_ldc2 dX11_newsRow_30 kc_X11_432 ?_
        obtain ⟨r33, hc33, hf⟩ := fq_vs hf
        refine ft_S3p cf_X11_18 (t_X11_isIn hc33) (Nat.le_of_ble_eq_true rfl) dX11_newsRow_33 ?_
        refine fk_if_ne (tgt := 42) dX11_newsRow_36 (by decide) hf (fun hf => ?_) (fun hf => ?_)
        · refine ft_aload_n dX11_newsRow_42 rfl ?_
          refine ft_getR fl_X11_342 rfl (sh_78) (by decide) pt_78_71 dX11_newsRow_43 ?_
          refine ft_iload_n dX11_newsRow_46 rfl ?_
          refine fk_iald (sh_127) hf dX11_newsRow_47 (fun hf => ?_)
          refine fk_if_lt (tgt := 64) dX11_newsRow_48 (by decide) hf (fun hf => ?_) (fun hf => ?_)
          · refine ft_aload_n dX11_newsRow_64 rfl ?_
            refine ft_getR fl_X11_342 rfl (sh_78) (by decide) pt_78_71 dX11_newsRow_65 ?_
            refine ft_iload_n dX11_newsRow_68 rfl ?_
            refine fk_iald (sh_127) hf dX11_newsRow_69 (fun hf => ?_)
            refine fk_if_ge (tgt := 76) dX11_newsRow_70 (by decide) hf (fun hf => ?_) (fun hf => ?_)
            · refine ft_iconst (v := 0) dX11_newsRow_76 rfl ?_
              refine ft_istore dX11_newsRow_77 (by decide) ?_
              refine ft_iconst (v := 0) dX11_newsRow_79 rfl ?_
              refine ft_istore dX11_newsRow_80 (by decide) ?_
              exact ft_forget (by simp [fc_le, fc_st1, fc_st2, fc_kill]) (t_X11_newsRow_82   _ _ _ _ hf)
            · refine ft_bipush (v := (-11)) dX11_newsRow_73 rfl ?_
              exact fk_reti hf dX11_newsRow_75 rfl rfl
          · refine ft_aload_n dX11_newsRow_51 rfl ?_
            refine ft_getR fl_X11_342 rfl (sh_78) (by decide) pt_78_71 dX11_newsRow_52 ?_
            refine ft_iload_n dX11_newsRow_55 rfl ?_
            refine fk_iald (sh_127) hf dX11_newsRow_56 (fun hf => ?_)
            refine ft_iload_n dX11_newsRow_57 rfl ?_
            refine fk_icmp_eq (tgt := 64) dX11_newsRow_58 (by decide) hf (fun hf => ?_) (fun hf => ?_)
            · refine ft_aload_n dX11_newsRow_64 rfl ?_
              refine ft_getR fl_X11_342 rfl (sh_78) (by decide) pt_78_71 dX11_newsRow_65 ?_
              refine ft_iload_n dX11_newsRow_68 rfl ?_
              refine fk_iald (sh_127) hf dX11_newsRow_69 (fun hf => ?_)
              refine fk_if_ge (tgt := 76) dX11_newsRow_70 (by decide) hf (fun hf => ?_) (fun hf => ?_)
              · refine ft_iconst (v := 0) dX11_newsRow_76 rfl ?_
                refine ft_istore dX11_newsRow_77 (by decide) ?_
                refine ft_iconst (v := 0) dX11_newsRow_79 rfl ?_
                refine ft_istore dX11_newsRow_80 (by decide) ?_
                exact ft_forget (by simp [fc_le, fc_st1, fc_st2, fc_kill]) (t_X11_newsRow_82   _ _ _ _ hf)
              · refine ft_bipush (v := (-11)) dX11_newsRow_73 rfl ?_
                exact fk_reti hf dX11_newsRow_75 rfl rfl
            · refine ft_bipush (v := (-13)) dX11_newsRow_61 rfl ?_
              exact fk_reti hf dX11_newsRow_63 rfl rfl
        · refine ft_bipush (v := (-2)) dX11_newsRow_39 rfl ?_
          exact fk_reti hf dX11_newsRow_41 rfl rfl
def f_X11_pass_33_B (x1 : Int32) (k33 : Int32 → fc_I → Option (Int32 × fc_I)) (x2 : Int32) (I : fc_I) : Option (Int32 × fc_I) :=
if x2.toInt < x1.toInt then (
fq_u (f_X11_step I (I 78 28)) fun I43 =>
fq_l (x2 + 1) fun y46 =>
k33 y46 I43)
else (
some ((I 78 0), I))
def f_X11_pass_33 (x1 : Int32) (n : Nat) : Int32 → fc_I → Option (Int32 × fc_I) := lpm1 (f_X11_pass_33_B x1 ) n
def f_X11_pass (I : fc_I) (x1 : Int32) : Option (Int32 × fc_I) :=
fq_v (f_X11_isIn (Int32.toInt64 x1) 1 60) fun r6 =>
if r6.toInt = 0 then (
some ((-2), I))
else (
if (I 78 1).toInt < ((I 78 0) + x1).toInt then (
some ((-4), I))
else (
f_X11_pass_33 x1 4000 0 I))
set_option maxHeartbeats 4000000 in
set_option maxRecDepth 100000 in
theorem t_X11_pass_33 {d : Nat} {v : Nat} {r : Int32} {J : fc_I} {x1 : Int32} : ∀ (n : Nat) (x2 : Int32) (I : fc_I) , f_X11_pass_33 x1 n x2 I = some (r, J) → fc_T X11_pass (d + 4) 0 0 33 [some (.ref 78), some (.int x1), some (.int x2)] [] fc_SH I (fc_PT v) (fc_Qi fc_SH (fun r' I' P' => r' = r ∧ I' = J ∧ P' = (fc_PT v))) := by
  unfold f_X11_pass_33
  refine lpm1_T (fun k33 hk33 x2 I hf => ?_)
  unfold f_X11_pass_33_B at hf
  refine ft_iload_n dX11_pass_33 rfl ?_
  refine ft_iload_n dX11_pass_34 rfl ?_
  refine fk_icmp_ge (tgt := 52) dX11_pass_35 (by decide) hf (fun hf => ?_) (fun hf => ?_)
  · refine ft_aload_n dX11_pass_52 rfl ?_
    refine ft_getI fl_X11_26 rfl (sh_78) (by decide) dX11_pass_53 ?_
    exact fk_reti hf dX11_pass_56 rfl rfl
  · refine ft_aload_n dX11_pass_38 rfl ?_
    refine ft_aload_n dX11_pass_39 rfl ?_
    refine ft_getI fl_X11_99 rfl (sh_78) (by decide) dX11_pass_40 ?_
    obtain ⟨I43, hc43, hf⟩ := fq_us hf
    refine ft_V1v cf_X11_378 (sh_78) (t_X11_step hc43) (Nat.le_of_ble_eq_true rfl) dX11_pass_43 (fun J P' q => ?_)
    obtain ⟨rfl, rfl⟩ := q
    refine fk_iinc (c := 1) dX11_pass_46 rfl (by decide) rfl ?_
    refine ft_goto (tgt := 33) dX11_pass_49 (by decide) ?_
    exact ft_forget (by simp [fc_le, fc_st1, fc_st2, fc_kill]) (hk33 _ _ hf)
set_option maxHeartbeats 4000000 in
set_option maxRecDepth 100000 in
theorem t_X11_pass {d : Nat} {v : Nat} {r : Int32} {J : fc_I} {I : fc_I} {x1 : Int32} (hf : f_X11_pass I x1 = some (r, J)) : fc_Ci X11_pass (d + 4) [.ref 78, .int x1] fc_SH I (fc_PT v) (fun r' I' P' => r' = r ∧ I' = J ∧ P' = (fc_PT v)) := by
  unfold f_X11_pass at hf
  refine fc_Ci.of (ls := [some (.ref 78), some (.int x1), none]) ⟨rfl, rfl⟩ (Nat.le_of_ble_eq_true rfl) rfl ?_
  refine ft_iload_n dX11_pass_0 rfl ?_
  refine ft_i2l dX11_pass_1 ?_
  refine ft_lconst (v := 1) dX11_pass_2 rfl ?_
  refine ft_ldc2 dX11_pass_3 kc_X11_134 ?_
  obtain ⟨r6, hc6, hf⟩ := fq_vs hf
  refine ft_S3p cf_X11_18 (t_X11_isIn hc6) (Nat.le_of_ble_eq_true rfl) dX11_pass_6 ?_
  refine fk_if_ne (tgt := 15) dX11_pass_9 (by decide) hf (fun hf => ?_) (fun hf => ?_)
  · refine ft_aload_n dX11_pass_15 rfl ?_
    refine ft_getI fl_X11_26 rfl (sh_78) (by decide) dX11_pass_16 ?_
    refine ft_iload_n dX11_pass_19 rfl ?_
    refine ft_iadd dX11_pass_20 ?_
    refine ft_aload_n dX11_pass_21 rfl ?_
    refine ft_getI fl_X11_136 rfl (sh_78) (by decide) dX11_pass_22 ?_
    refine fk_icmp_le (tgt := 31) dX11_pass_25 (by decide) hf (fun hf => ?_) (fun hf => ?_)
    · refine ft_iconst (v := 0) dX11_pass_31 rfl ?_
      refine ft_istore_n dX11_pass_32 (by decide) ?_
      exact ft_forget (by simp [fc_le, fc_st1, fc_st2, fc_kill]) (t_X11_pass_33   _ _ _ hf)
    · refine ft_bipush (v := (-4)) dX11_pass_28 rfl ?_
      exact fk_reti hf dX11_pass_30 rfl rfl
  · refine ft_bipush (v := (-2)) dX11_pass_12 rfl ?_
    exact fk_reti hf dX11_pass_14 rfl rfl
def f_X11_road (I : fc_I) (x1 : Int32) (x2 : Int32) (x3 : Int32) (x4 : Int32) : Option (Int32 × fc_I) :=
fq_v (f_X11_isIn (Int32.toInt64 x1) 0 5) fun r6 =>
if r6.toInt = 0 then (
some ((-2), I))
else (
fq_v (f_X11_isZone I x2) fun r14 =>
if r14.toInt = 0 then (
some ((-2), I))
else (
fq_v (f_X11_isGoal I x3) fun r22 =>
if r22.toInt = 0 then (
some ((-2), I))
else (
if x2.toInt = x3.toInt then (
some ((-2), I))
else (
fq_v (f_X11_isIn (Int32.toInt64 x4) 1 9999) fun r40 =>
if r40.toInt = 0 then (
some ((-2), I))
else (
if (I 78 13).toInt = (14 : Int32).toInt then (
some ((-4), I))
else (
fq_g 14 (I 78 13) (fq_l (fc_wI I 88 (cn (I 78 13)) x1) fun I70 =>
fq_g 14 (I70 78 13) (fq_l (fc_wI I70 89 (cn (I70 78 13)) x2) fun I80 =>
fq_g 14 (I80 78 13) (fq_l (fc_wI I80 90 (cn (I80 78 13)) x3) fun I90 =>
fq_g 14 (I90 78 13) (fq_l (fc_wI I90 91 (cn (I90 78 13)) x4) fun I101 =>
fq_g 14 (I101 78 13) (fq_l (fc_wI I101 92 (cn (I101 78 13)) (-1)) fun I111 =>
fq_l (fc_wI I111 78 13 ((I111 78 13) + 1)) fun I119 =>
some (((I119 78 13) - 1), I119))))))))))))
set_option maxHeartbeats 4000000 in
set_option maxRecDepth 100000 in
theorem t_X11_road {d : Nat} {v : Nat} {r : Int32} {J : fc_I} {I : fc_I} {x1 : Int32} {x2 : Int32} {x3 : Int32} {x4 : Int32} (hf : f_X11_road I x1 x2 x3 x4 = some (r, J)) : fc_Ci X11_road (d + 2) [.ref 78, .int x1, .int x2, .int x3, .int x4] fc_SH I (fc_PT v) (fun r' I' P' => r' = r ∧ I' = J ∧ P' = (fc_PT v)) := by
  unfold f_X11_road at hf
  refine fc_Ci.of (ls := [some (.ref 78), some (.int x1), some (.int x2), some (.int x3), some (.int x4)]) ⟨rfl, rfl⟩ (Nat.le_of_ble_eq_true rfl) rfl ?_
  refine ft_iload_n dX11_road_0 rfl ?_
  refine ft_i2l dX11_road_1 ?_
  refine ft_lconst (v := 0) dX11_road_2 rfl ?_
  refine ft_ldc2 dX11_road_3 kc_X11_49 ?_
  obtain ⟨r6, hc6, hf⟩ := fq_vs hf
  refine ft_S3p cf_X11_18 (t_X11_isIn hc6) (Nat.le_of_ble_eq_true rfl) dX11_road_6 ?_
  refine fk_if_eq (tgt := 46) dX11_road_9 (by decide) hf (fun hf => ?_) (fun hf => ?_)
  · refine ft_bipush (v := (-2)) dX11_road_46 rfl ?_
    exact fk_reti hf dX11_road_48 rfl rfl
  · refine ft_aload_n dX11_road_12 rfl ?_
    refine ft_iload_n dX11_road_13 rfl ?_
    obtain ⟨r14, hc14, hf⟩ := fq_vs hf
    refine ft_V1p cf_X11_42 (sh_78) (t_X11_isZone hc14) (Nat.le_of_ble_eq_true rfl) dX11_road_14 ?_
    refine fk_if_eq (tgt := 46) dX11_road_17 (by decide) hf (fun hf => ?_) (fun hf => ?_)
    · refine ft_bipush (v := (-2)) dX11_road_46 rfl ?_
      exact fk_reti hf dX11_road_48 rfl rfl
    · refine ft_aload_n dX11_road_20 rfl ?_
      refine ft_iload_n dX11_road_21 rfl ?_
      obtain ⟨r22, hc22, hf⟩ := fq_vs hf
      refine ft_V1p cf_X11_51 (sh_78) (t_X11_isGoal hc22) (Nat.le_of_ble_eq_true rfl) dX11_road_22 ?_
      refine fk_if_eq (tgt := 46) dX11_road_25 (by decide) hf (fun hf => ?_) (fun hf => ?_)
      · refine ft_bipush (v := (-2)) dX11_road_46 rfl ?_
        exact fk_reti hf dX11_road_48 rfl rfl
      · refine ft_iload_n dX11_road_28 rfl ?_
        refine ft_iload_n dX11_road_29 rfl ?_
        refine fk_icmp_eq (tgt := 46) dX11_road_30 (by decide) hf (fun hf => ?_) (fun hf => ?_)
        · refine ft_bipush (v := (-2)) dX11_road_46 rfl ?_
          exact fk_reti hf dX11_road_48 rfl rfl
        · refine ft_iload dX11_road_33 rfl ?_
          refine ft_i2l dX11_road_35 ?_
          refine ft_lconst (v := 1) dX11_road_36 rfl ?_
          refine ft_ldc2 dX11_road_37 kc_X11_54 ?_
          obtain ⟨r40, hc40, hf⟩ := fq_vs hf
          refine ft_S3p cf_X11_18 (t_X11_isIn hc40) (Nat.le_of_ble_eq_true rfl) dX11_road_40 ?_
          refine fk_if_ne (tgt := 49) dX11_road_43 (by decide) hf (fun hf => ?_) (fun hf => ?_)
          · refine ft_aload_n dX11_road_49 rfl ?_
            refine ft_getI fl_X11_10 rfl (sh_78) (by decide) dX11_road_50 ?_
            refine ft_bipush (v := 14) dX11_road_53 rfl ?_
            refine fk_icmp_ne (tgt := 61) dX11_road_55 (by decide) hf (fun hf => ?_) (fun hf => ?_)
            · refine ft_aload_n dX11_road_61 rfl ?_
              refine ft_getR fl_X11_56 rfl (sh_78) (by decide) pt_78_14 dX11_road_62 ?_
              refine ft_aload_n dX11_road_65 rfl ?_
              refine ft_getI fl_X11_10 rfl (sh_78) (by decide) dX11_road_66 ?_
              refine ft_iload_n dX11_road_69 rfl ?_
              refine fk_iast (sh_88) hf dX11_road_70 (fun hf => ?_)
              refine ft_aload_n dX11_road_71 rfl ?_
              refine ft_getR fl_X11_59 rfl (sh_78) (by decide) pt_78_15 dX11_road_72 ?_
              refine ft_aload_n dX11_road_75 rfl ?_
              refine ft_getI fl_X11_10 rfl (sh_78) (by decide) dX11_road_76 ?_
              refine ft_iload_n dX11_road_79 rfl ?_
              refine fk_iast (sh_89) hf dX11_road_80 (fun hf => ?_)
              refine ft_aload_n dX11_road_81 rfl ?_
              refine ft_getR fl_X11_62 rfl (sh_78) (by decide) pt_78_16 dX11_road_82 ?_
              refine ft_aload_n dX11_road_85 rfl ?_
              refine ft_getI fl_X11_10 rfl (sh_78) (by decide) dX11_road_86 ?_
              refine ft_iload_n dX11_road_89 rfl ?_
              refine fk_iast (sh_90) hf dX11_road_90 (fun hf => ?_)
              refine ft_aload_n dX11_road_91 rfl ?_
              refine ft_getR fl_X11_65 rfl (sh_78) (by decide) pt_78_17 dX11_road_92 ?_
              refine ft_aload_n dX11_road_95 rfl ?_
              refine ft_getI fl_X11_10 rfl (sh_78) (by decide) dX11_road_96 ?_
              refine ft_iload dX11_road_99 rfl ?_
              refine fk_iast (sh_91) hf dX11_road_101 (fun hf => ?_)
              refine ft_aload_n dX11_road_102 rfl ?_
              refine ft_getR fl_X11_68 rfl (sh_78) (by decide) pt_78_18 dX11_road_103 ?_
              refine ft_aload_n dX11_road_106 rfl ?_
              refine ft_getI fl_X11_10 rfl (sh_78) (by decide) dX11_road_107 ?_
              refine ft_iconst (v := (-1)) dX11_road_110 rfl ?_
              refine fk_iast (sh_92) hf dX11_road_111 (fun hf => ?_)
              refine ft_aload_n dX11_road_112 rfl ?_
              refine ft_dup dX11_road_113 rfl ?_
              refine ft_getI fl_X11_10 rfl (sh_78) (by decide) dX11_road_114 ?_
              refine ft_iconst (v := 1) dX11_road_117 rfl ?_
              refine ft_iadd dX11_road_118 ?_
              refine ft_putI fl_X11_10 rfl (fun q h => by cases h; rfl) (sh_78) (by decide) dX11_road_119 ?_
              refine ft_aload_n dX11_road_122 rfl ?_
              refine ft_getI fl_X11_10 rfl (sh_78) (by decide) dX11_road_123 ?_
              refine ft_iconst (v := 1) dX11_road_126 rfl ?_
              refine ft_isub dX11_road_127 ?_
              exact fk_reti hf dX11_road_128 rfl rfl
            · refine ft_bipush (v := (-4)) dX11_road_58 rfl ?_
              exact fk_reti hf dX11_road_60 rfl rfl
          · refine ft_bipush (v := (-2)) dX11_road_46 rfl ?_
            exact fk_reti hf dX11_road_48 rfl rfl
def f_X11_roadTold (I : fc_I) (x1 : Int32) (x2 : Int32) : Option Int32 :=
fq_v (f_X11_isRoad I x1) fun r2 =>
if r2.toInt = 0 then (
some (-2))
else (
fq_v (f_X11_isIn (Int32.toInt64 x2) 0 5) fun r14 =>
if r14.toInt = 0 then (
some (-2))
else (
if x2.toInt = 0 then (
fq_g 14 x1 (
some (I 88 (cn x1))))
else if x2.toInt = 1 then (
fq_g 14 x1 (
some (I 89 (cn x1))))
else if x2.toInt = 2 then (
fq_g 14 x1 (
some (I 90 (cn x1))))
else if x2.toInt = 3 then (
fq_g 14 x1 (
some (I 91 (cn x1))))
else if x2.toInt = 4 then (
fq_g 14 x1 (
some (I 92 (cn x1))))
else (
fq_v (f_X11_canTake I x1 (I 78 28) (I 78 0)) fun r105 =>
some r105)))
set_option maxHeartbeats 4000000 in
set_option maxRecDepth 100000 in
theorem t_X11_roadTold {d : Nat} {v : Nat} {r : Int32} {I : fc_I} {x1 : Int32} {x2 : Int32} (hf : f_X11_roadTold I x1 x2 = some r) : fc_Cp X11_roadTold (d + 2) [.ref 78, .int x1, .int x2] fc_SH I (fc_PT v) r := by
  unfold f_X11_roadTold at hf
  refine fc_Cp.of (ls := [some (.ref 78), some (.int x1), some (.int x2)]) ⟨rfl, rfl⟩ (Nat.le_of_ble_eq_true rfl) rfl ?_
  refine ft_aload_n dX11_roadTold_0 rfl ?_
  refine ft_iload_n dX11_roadTold_1 rfl ?_
  obtain ⟨r2, hc2, hf⟩ := fq_vs hf
  refine ft_V1p cf_X11_71 (sh_78) (t_X11_isRoad hc2) (Nat.le_of_ble_eq_true rfl) dX11_roadTold_2 ?_
  refine fk_if_eq (tgt := 20) dX11_roadTold_5 (by decide) hf (fun hf => ?_) (fun hf => ?_)
  · refine ft_bipush (v := (-2)) dX11_roadTold_20 rfl ?_
    exact fk_retp hf dX11_roadTold_22 rfl rfl
  · refine ft_iload_n dX11_roadTold_8 rfl ?_
    refine ft_i2l dX11_roadTold_9 ?_
    refine ft_lconst (v := 0) dX11_roadTold_10 rfl ?_
    refine ft_ldc2 dX11_roadTold_11 kc_X11_49 ?_
    obtain ⟨r14, hc14, hf⟩ := fq_vs hf
    refine ft_S3p cf_X11_18 (t_X11_isIn hc14) (Nat.le_of_ble_eq_true rfl) dX11_roadTold_14 ?_
    refine fk_if_ne (tgt := 23) dX11_roadTold_17 (by decide) hf (fun hf => ?_) (fun hf => ?_)
    · refine ft_iload_n dX11_roadTold_23 rfl ?_
      rcases fq_is hf with ⟨e_24_0, hf⟩ | ⟨e_24_0, hf⟩
      · refine ft_tsIn (tgt := 60) dX11_roadTold_24 (by rw [e_24_0]; decide) (by rw [e_24_0]; decide) (by rw [e_24_0]; rfl) (by decide) ?_
        refine ft_aload_n dX11_roadTold_60 rfl ?_
        refine ft_getR fl_X11_56 rfl (sh_78) (by decide) pt_78_14 dX11_roadTold_61 ?_
        refine ft_iload_n dX11_roadTold_64 rfl ?_
        refine fk_iald (sh_88) hf dX11_roadTold_65 (fun hf => ?_)
        exact fk_retp hf dX11_roadTold_66 rfl rfl
      rcases fq_is hf with ⟨e_24_1, hf⟩ | ⟨e_24_1, hf⟩
      · refine ft_tsIn (tgt := 67) dX11_roadTold_24 (by rw [e_24_1]; decide) (by rw [e_24_1]; decide) (by rw [e_24_1]; rfl) (by decide) ?_
        refine ft_aload_n dX11_roadTold_67 rfl ?_
        refine ft_getR fl_X11_59 rfl (sh_78) (by decide) pt_78_15 dX11_roadTold_68 ?_
        refine ft_iload_n dX11_roadTold_71 rfl ?_
        refine fk_iald (sh_89) hf dX11_roadTold_72 (fun hf => ?_)
        exact fk_retp hf dX11_roadTold_73 rfl rfl
      rcases fq_is hf with ⟨e_24_2, hf⟩ | ⟨e_24_2, hf⟩
      · refine ft_tsIn (tgt := 74) dX11_roadTold_24 (by rw [e_24_2]; decide) (by rw [e_24_2]; decide) (by rw [e_24_2]; rfl) (by decide) ?_
        refine ft_aload_n dX11_roadTold_74 rfl ?_
        refine ft_getR fl_X11_62 rfl (sh_78) (by decide) pt_78_16 dX11_roadTold_75 ?_
        refine ft_iload_n dX11_roadTold_78 rfl ?_
        refine fk_iald (sh_90) hf dX11_roadTold_79 (fun hf => ?_)
        exact fk_retp hf dX11_roadTold_80 rfl rfl
      rcases fq_is hf with ⟨e_24_3, hf⟩ | ⟨e_24_3, hf⟩
      · refine ft_tsIn (tgt := 81) dX11_roadTold_24 (by rw [e_24_3]; decide) (by rw [e_24_3]; decide) (by rw [e_24_3]; rfl) (by decide) ?_
        refine ft_aload_n dX11_roadTold_81 rfl ?_
        refine ft_getR fl_X11_65 rfl (sh_78) (by decide) pt_78_17 dX11_roadTold_82 ?_
        refine ft_iload_n dX11_roadTold_85 rfl ?_
        refine fk_iald (sh_91) hf dX11_roadTold_86 (fun hf => ?_)
        exact fk_retp hf dX11_roadTold_87 rfl rfl
      rcases fq_is hf with ⟨e_24_4, hf⟩ | ⟨e_24_4, hf⟩
      · refine ft_tsIn (tgt := 88) dX11_roadTold_24 (by rw [e_24_4]; decide) (by rw [e_24_4]; decide) (by rw [e_24_4]; rfl) (by decide) ?_
        refine ft_aload_n dX11_roadTold_88 rfl ?_
        refine ft_getR fl_X11_68 rfl (sh_78) (by decide) pt_78_18 dX11_roadTold_89 ?_
        refine ft_iload_n dX11_roadTold_92 rfl ?_
        refine fk_iald (sh_92) hf dX11_roadTold_93 (fun hf => ?_)
        exact fk_retp hf dX11_roadTold_94 rfl rfl
      refine ft_tsOut (tgt := 95) dX11_roadTold_24 (by omega) (by decide) ?_
      refine ft_aload_n dX11_roadTold_95 rfl ?_
      refine ft_iload_n dX11_roadTold_96 rfl ?_
      refine ft_aload_n dX11_roadTold_97 rfl ?_
      refine ft_getI fl_X11_99 rfl (sh_78) (by decide) dX11_roadTold_98 ?_
      refine ft_aload_n dX11_roadTold_101 rfl ?_
      refine ft_getI fl_X11_26 rfl (sh_78) (by decide) dX11_roadTold_102 ?_
      obtain ⟨r105, hc105, hf⟩ := fq_vs hf
      refine ft_V3p cf_X11_116 (sh_78) (t_X11_canTake hc105) (Nat.le_of_ble_eq_true rfl) dX11_roadTold_105 ?_
      exact fk_retp hf dX11_roadTold_108 rfl rfl
    · refine ft_bipush (v := (-2)) dX11_roadTold_20 rfl ?_
      exact fk_retp hf dX11_roadTold_22 rfl rfl
def f_X11_says (I : fc_I) (x1 : Int32) (x2 : Int32) : Option (Int64 × fc_I) :=
fq_v (f_X11_isZone I x1) fun r2 =>
if r2.toInt = 0 then (
some ((-4611686018427387904), I))
else (
fq_v (f_X11_isIn (Int32.toInt64 x2) 0 1) fun r12 =>
if r12.toInt = 0 then (
some ((-4611686018427387904), I))
else (
fq_b (f_X11_worthOf I x2 x1 (I 78 28) (I 78 0)) fun r29 I29 =>
some ((Int32.toInt64 r29), I29)))
set_option maxHeartbeats 4000000 in
set_option maxRecDepth 100000 in
theorem t_X11_says {d : Nat} {v : Nat} {r : Int64} {J : fc_I} {I : fc_I} {x1 : Int32} {x2 : Int32} (hf : f_X11_says I x1 x2 = some (r, J)) : fc_Cl X11_says (d + 2) [.ref 78, .int x1, .int x2] fc_SH I (fc_PT v) (fun r' I' P' => r' = r ∧ I' = J ∧ P' = (fc_PT v)) := by
  unfold f_X11_says at hf
  refine fc_Cl.of (ls := [some (.ref 78), some (.int x1), some (.int x2)]) ⟨rfl, rfl⟩ (Nat.le_of_ble_eq_true rfl) rfl ?_
  refine ft_aload_n dX11_says_0 rfl ?_
  refine ft_iload_n dX11_says_1 rfl ?_
  obtain ⟨r2, hc2, hf⟩ := fq_vs hf
  refine ft_V1p cf_X11_42 (sh_78) (t_X11_isZone hc2) (Nat.le_of_ble_eq_true rfl) dX11_says_2 ?_
  refine fk_if_eq (tgt := 36) dX11_says_5 (by decide) hf (fun hf => ?_) (fun hf => ?_)
  · refine ft_ldc2 dX11_says_36 kc_X11_302 ?_
    exact fk_retl hf dX11_says_39 rfl
  · refine ft_iload_n dX11_says_8 rfl ?_
    refine ft_i2l dX11_says_9 ?_
    refine ft_lconst (v := 0) dX11_says_10 rfl ?_
    refine ft_lconst (v := 1) dX11_says_11 rfl ?_
    obtain ⟨r12, hc12, hf⟩ := fq_vs hf
    refine ft_S3p cf_X11_18 (t_X11_isIn hc12) (Nat.le_of_ble_eq_true rfl) dX11_says_12 ?_
    refine fk_if_eq (tgt := 36) dX11_says_15 (by decide) hf (fun hf => ?_) (fun hf => ?_)
    · refine ft_ldc2 dX11_says_36 kc_X11_302 ?_
      exact fk_retl hf dX11_says_39 rfl
    · refine ft_aload_n dX11_says_18 rfl ?_
      refine ft_iload_n dX11_says_19 rfl ?_
      refine ft_iload_n dX11_says_20 rfl ?_
      refine ft_aload_n dX11_says_21 rfl ?_
      refine ft_getI fl_X11_99 rfl (sh_78) (by decide) dX11_says_22 ?_
      refine ft_aload_n dX11_says_25 rfl ?_
      refine ft_getI fl_X11_26 rfl (sh_78) (by decide) dX11_says_26 ?_
      obtain ⟨r29, I29, hc29, hf⟩ := fq_bs hf
      refine ft_V4i cf_X11_299 (sh_78) (t_X11_worthOf hc29) (Nat.le_of_ble_eq_true rfl) dX11_says_29 (fun r' J P' q => ?_)
      obtain ⟨rfl, rfl, rfl⟩ := q
      refine ft_i2l dX11_says_32 ?_
      refine ft_goto (tgt := 39) dX11_says_33 (by decide) ?_
      exact fk_retl hf dX11_says_39 rfl
def f_X11_sheet_70_B (x1 : Int32) (k70 : Int32 → fc_I → Option (Int32 × fc_I)) (x4 : Int32) (I : fc_I) : Option (Int32 × fc_I) :=
if x4.toInt < (40 : Int32).toInt then (
fq_g 160 (((40 : Int32) * x1) + x4) (fq_l (fc_wI I 129 (cn (((40 : Int32) * x1) + x4)) 0) fun I89 =>
fq_l (x4 + 1) fun y90 =>
k70 y90 I89))
else (
some (1, I))
def f_X11_sheet_70 (x1 : Int32) (n : Nat) : Int32 → fc_I → Option (Int32 × fc_I) := lpm1 (f_X11_sheet_70_B x1 ) n
def f_X11_sheet (I : fc_I) (x1 : Int32) (x2 : Int32) (x3 : Int32) : Option (Int32 × fc_I) :=
fq_v (f_X11_isSheet x1) fun r1 =>
if r1.toInt = 0 then (
some ((-2), I))
else (
fq_v (f_X11_isIn (Int32.toInt64 x2) (-1) 2) fun r15 =>
if r15.toInt = 0 then (
some ((-2), I))
else (
if x2.toInt < 0 then (
if x2.toInt < 0 then (
fq_g 4 x1 (fq_l (fc_wI I 127 (cn x1) x2) fun I51 =>
if x2.toInt < 0 then (
fq_g 4 x1 (fq_l (fc_wI I51 128 (cn x1) 0) fun I66 =>
f_X11_sheet_70 x1 4000 0 I66))
else (
fq_g 4 x1 (fq_l (fc_wI I51 128 (cn x1) x3) fun I66 =>
f_X11_sheet_70 x1 4000 0 I66))))
else (
if x3.toInt < 0 then (
some ((-14), I))
else (
fq_g 4 x1 (fq_l (fc_wI I 127 (cn x1) x2) fun I51 =>
if x2.toInt < 0 then (
fq_g 4 x1 (fq_l (fc_wI I51 128 (cn x1) 0) fun I66 =>
f_X11_sheet_70 x1 4000 0 I66))
else (
fq_g 4 x1 (fq_l (fc_wI I51 128 (cn x1) x3) fun I66 =>
f_X11_sheet_70 x1 4000 0 I66))))))
else (
if (40 : Int32).toInt < x3.toInt then (
some ((-2), I))
else (
if x2.toInt < 0 then (
fq_g 4 x1 (fq_l (fc_wI I 127 (cn x1) x2) fun I51 =>
if x2.toInt < 0 then (
fq_g 4 x1 (fq_l (fc_wI I51 128 (cn x1) 0) fun I66 =>
f_X11_sheet_70 x1 4000 0 I66))
else (
fq_g 4 x1 (fq_l (fc_wI I51 128 (cn x1) x3) fun I66 =>
f_X11_sheet_70 x1 4000 0 I66))))
else (
if x3.toInt < 0 then (
some ((-14), I))
else (
fq_g 4 x1 (fq_l (fc_wI I 127 (cn x1) x2) fun I51 =>
if x2.toInt < 0 then (
fq_g 4 x1 (fq_l (fc_wI I51 128 (cn x1) 0) fun I66 =>
f_X11_sheet_70 x1 4000 0 I66))
else (
fq_g 4 x1 (fq_l (fc_wI I51 128 (cn x1) x3) fun I66 =>
f_X11_sheet_70 x1 4000 0 I66)))))))))
set_option maxHeartbeats 4000000 in
set_option maxRecDepth 100000 in
theorem t_X11_sheet_70 {d : Nat} {v : Nat} {r : Int32} {J : fc_I} {x1 : Int32} : ∀ (n : Nat) (x4 : Int32) (I : fc_I) , f_X11_sheet_70 x1 n x4 I = some (r, J) → fc_T X11_sheet (d + 2) 0 0 70 [some (.ref 78), some (.int x1), none, none, some (.int x4)] [] fc_SH I (fc_PT v) (fc_Qi fc_SH (fun r' I' P' => r' = r ∧ I' = J ∧ P' = (fc_PT v))) := by
  unfold f_X11_sheet_70
  refine lpm1_T (fun k70 hk70 x4 I hf => ?_)
  unfold f_X11_sheet_70_B at hf
  refine ft_iload dX11_sheet_70 rfl ?_
  refine ft_bipush (v := 40) dX11_sheet_72 rfl ?_
  refine fk_icmp_ge (tgt := 96) dX11_sheet_74 (by decide) hf (fun hf => ?_) (fun hf => ?_)
  · refine ft_iconst (v := 1) dX11_sheet_96 rfl ?_
    exact fk_reti hf dX11_sheet_97 rfl rfl
  · refine ft_aload_n dX11_sheet_77 rfl ?_
    refine ft_getR fl_X11_348 rfl (sh_78) (by decide) pt_78_73 dX11_sheet_78 ?_
    refine ft_bipush (v := 40) dX11_sheet_81 rfl ?_
    refine ft_iload_n dX11_sheet_83 rfl ?_
    refine ft_imul dX11_sheet_84 ?_
    refine ft_iload dX11_sheet_85 rfl ?_
    refine ft_iadd dX11_sheet_87 ?_
    refine ft_iconst (v := 0) dX11_sheet_88 rfl ?_
    refine fk_iast (sh_129) hf dX11_sheet_89 (fun hf => ?_)
    refine fk_iinc (c := 1) dX11_sheet_90 rfl (by decide) rfl ?_
    refine ft_goto (tgt := 70) dX11_sheet_93 (by decide) ?_
    exact ft_forget (by simp [fc_le, fc_st1, fc_st2, fc_kill]) (hk70 _ _ hf)
set_option maxHeartbeats 4000000 in
set_option maxRecDepth 100000 in
theorem t_X11_sheet {d : Nat} {v : Nat} {r : Int32} {J : fc_I} {I : fc_I} {x1 : Int32} {x2 : Int32} {x3 : Int32} (hf : f_X11_sheet I x1 x2 x3 = some (r, J)) : fc_Ci X11_sheet (d + 2) [.ref 78, .int x1, .int x2, .int x3] fc_SH I (fc_PT v) (fun r' I' P' => r' = r ∧ I' = J ∧ P' = (fc_PT v)) := by
  unfold f_X11_sheet at hf
  refine fc_Ci.of (ls := [some (.ref 78), some (.int x1), some (.int x2), some (.int x3), none]) ⟨rfl, rfl⟩ (Nat.le_of_ble_eq_true rfl) rfl ?_
  refine ft_iload_n dX11_sheet_0 rfl ?_
  obtain ⟨r1, hc1, hf⟩ := fq_vs hf
  refine ft_S1p cf_X11_424 (t_X11_isSheet hc1) (Nat.le_of_ble_eq_true rfl) dX11_sheet_1 ?_
  refine fk_if_eq (tgt := 31) dX11_sheet_4 (by decide) hf (fun hf => ?_) (fun hf => ?_)
  · refine ft_bipush (v := (-2)) dX11_sheet_31 rfl ?_
    exact fk_reti hf dX11_sheet_33 rfl rfl
  · refine ft_iload_n dX11_sheet_7 rfl ?_
    refine ft_i2l dX11_sheet_8 ?_
    refine ft_ldc2 dX11_sheet_9 kc_X11_427 ?_
    refine ft_ldc2 dX11_sheet_12 kc_X11_123 ?_
    obtain ⟨r15, hc15, hf⟩ := fq_vs hf
    refine ft_S3p cf_X11_18 (t_X11_isIn hc15) (Nat.le_of_ble_eq_true rfl) dX11_sheet_15 ?_
    refine fk_if_eq (tgt := 31) dX11_sheet_18 (by decide) hf (fun hf => ?_) (fun hf => ?_)
    · refine ft_bipush (v := (-2)) dX11_sheet_31 rfl ?_
      exact fk_reti hf dX11_sheet_33 rfl rfl
    · refine ft_iload_n dX11_sheet_21 rfl ?_
      refine fk_if_lt (tgt := 34) dX11_sheet_22 (by decide) hf (fun hf => ?_) (fun hf => ?_)
      · refine ft_iload_n dX11_sheet_34 rfl ?_
        refine fk_if_lt (tgt := 45) dX11_sheet_35 (by decide) hf (fun hf => ?_) (fun hf => ?_)
        · refine ft_aload_n dX11_sheet_45 rfl ?_
          refine ft_getR fl_X11_342 rfl (sh_78) (by decide) pt_78_71 dX11_sheet_46 ?_
          refine ft_iload_n dX11_sheet_49 rfl ?_
          refine ft_iload_n dX11_sheet_50 rfl ?_
          refine fk_iast (sh_127) hf dX11_sheet_51 (fun hf => ?_)
          refine ft_aload_n dX11_sheet_52 rfl ?_
          refine ft_getR fl_X11_345 rfl (sh_78) (by decide) pt_78_72 dX11_sheet_53 ?_
          refine ft_iload_n dX11_sheet_56 rfl ?_
          refine ft_iload_n dX11_sheet_57 rfl ?_
          refine fk_if_ge (tgt := 65) dX11_sheet_58 (by decide) hf (fun hf => ?_) (fun hf => ?_)
          · refine ft_iload_n dX11_sheet_65 rfl ?_
            refine fk_iast (sh_128) hf dX11_sheet_66 (fun hf => ?_)
            refine ft_iconst (v := 0) dX11_sheet_67 rfl ?_
            refine ft_istore dX11_sheet_68 (by decide) ?_
            exact ft_forget (by simp [fc_le, fc_st1, fc_st2, fc_kill]) (t_X11_sheet_70   _ _ _ hf)
          · refine ft_iconst (v := 0) dX11_sheet_61 rfl ?_
            refine ft_goto (tgt := 66) dX11_sheet_62 (by decide) ?_
            refine fk_iast (sh_128) hf dX11_sheet_66 (fun hf => ?_)
            refine ft_iconst (v := 0) dX11_sheet_67 rfl ?_
            refine ft_istore dX11_sheet_68 (by decide) ?_
            exact ft_forget (by simp [fc_le, fc_st1, fc_st2, fc_kill]) (t_X11_sheet_70   _ _ _ hf)
        · refine ft_iload_n dX11_sheet_38 rfl ?_
          refine fk_if_ge (tgt := 45) dX11_sheet_39 (by decide) hf (fun hf => ?_) (fun hf => ?_)
          · refine ft_aload_n dX11_sheet_45 rfl ?_
            refine ft_getR fl_X11_342 rfl (sh_78) (by decide) pt_78_71 dX11_sheet_46 ?_
            refine ft_iload_n dX11_sheet_49 rfl ?_
            refine ft_iload_n dX11_sheet_50 rfl ?_
            refine fk_iast (sh_127) hf dX11_sheet_51 (fun hf => ?_)
            refine ft_aload_n dX11_sheet_52 rfl ?_
            refine ft_getR fl_X11_345 rfl (sh_78) (by decide) pt_78_72 dX11_sheet_53 ?_
            refine ft_iload_n dX11_sheet_56 rfl ?_
            refine ft_iload_n dX11_sheet_57 rfl ?_
            refine fk_if_ge (tgt := 65) dX11_sheet_58 (by decide) hf (fun hf => ?_) (fun hf => ?_)
            · refine ft_iload_n dX11_sheet_65 rfl ?_
              refine fk_iast (sh_128) hf dX11_sheet_66 (fun hf => ?_)
              refine ft_iconst (v := 0) dX11_sheet_67 rfl ?_
              refine ft_istore dX11_sheet_68 (by decide) ?_
              exact ft_forget (by simp [fc_le, fc_st1, fc_st2, fc_kill]) (t_X11_sheet_70   _ _ _ hf)
            · refine ft_iconst (v := 0) dX11_sheet_61 rfl ?_
              refine ft_goto (tgt := 66) dX11_sheet_62 (by decide) ?_
              refine fk_iast (sh_128) hf dX11_sheet_66 (fun hf => ?_)
              refine ft_iconst (v := 0) dX11_sheet_67 rfl ?_
              refine ft_istore dX11_sheet_68 (by decide) ?_
              exact ft_forget (by simp [fc_le, fc_st1, fc_st2, fc_kill]) (t_X11_sheet_70   _ _ _ hf)
          · refine ft_bipush (v := (-14)) dX11_sheet_42 rfl ?_
            exact fk_reti hf dX11_sheet_44 rfl rfl
      · refine ft_iload_n dX11_sheet_25 rfl ?_
        refine ft_bipush (v := 40) dX11_sheet_26 rfl ?_
        refine fk_icmp_le (tgt := 34) dX11_sheet_28 (by decide) hf (fun hf => ?_) (fun hf => ?_)
        · refine ft_iload_n dX11_sheet_34 rfl ?_
          refine fk_if_lt (tgt := 45) dX11_sheet_35 (by decide) hf (fun hf => ?_) (fun hf => ?_)
          · refine ft_aload_n dX11_sheet_45 rfl ?_
            refine ft_getR fl_X11_342 rfl (sh_78) (by decide) pt_78_71 dX11_sheet_46 ?_
            refine ft_iload_n dX11_sheet_49 rfl ?_
            refine ft_iload_n dX11_sheet_50 rfl ?_
            refine fk_iast (sh_127) hf dX11_sheet_51 (fun hf => ?_)
            refine ft_aload_n dX11_sheet_52 rfl ?_
            refine ft_getR fl_X11_345 rfl (sh_78) (by decide) pt_78_72 dX11_sheet_53 ?_
            refine ft_iload_n dX11_sheet_56 rfl ?_
            refine ft_iload_n dX11_sheet_57 rfl ?_
            refine fk_if_ge (tgt := 65) dX11_sheet_58 (by decide) hf (fun hf => ?_) (fun hf => ?_)
            · refine ft_iload_n dX11_sheet_65 rfl ?_
              refine fk_iast (sh_128) hf dX11_sheet_66 (fun hf => ?_)
              refine ft_iconst (v := 0) dX11_sheet_67 rfl ?_
              refine ft_istore dX11_sheet_68 (by decide) ?_
              exact ft_forget (by simp [fc_le, fc_st1, fc_st2, fc_kill]) (t_X11_sheet_70   _ _ _ hf)
            · refine ft_iconst (v := 0) dX11_sheet_61 rfl ?_
              refine ft_goto (tgt := 66) dX11_sheet_62 (by decide) ?_
              refine fk_iast (sh_128) hf dX11_sheet_66 (fun hf => ?_)
              refine ft_iconst (v := 0) dX11_sheet_67 rfl ?_
              refine ft_istore dX11_sheet_68 (by decide) ?_
              exact ft_forget (by simp [fc_le, fc_st1, fc_st2, fc_kill]) (t_X11_sheet_70   _ _ _ hf)
          · refine ft_iload_n dX11_sheet_38 rfl ?_
            refine fk_if_ge (tgt := 45) dX11_sheet_39 (by decide) hf (fun hf => ?_) (fun hf => ?_)
            · refine ft_aload_n dX11_sheet_45 rfl ?_
              refine ft_getR fl_X11_342 rfl (sh_78) (by decide) pt_78_71 dX11_sheet_46 ?_
              refine ft_iload_n dX11_sheet_49 rfl ?_
              refine ft_iload_n dX11_sheet_50 rfl ?_
              refine fk_iast (sh_127) hf dX11_sheet_51 (fun hf => ?_)
              refine ft_aload_n dX11_sheet_52 rfl ?_
              refine ft_getR fl_X11_345 rfl (sh_78) (by decide) pt_78_72 dX11_sheet_53 ?_
              refine ft_iload_n dX11_sheet_56 rfl ?_
              refine ft_iload_n dX11_sheet_57 rfl ?_
              refine fk_if_ge (tgt := 65) dX11_sheet_58 (by decide) hf (fun hf => ?_) (fun hf => ?_)
              · refine ft_iload_n dX11_sheet_65 rfl ?_
                refine fk_iast (sh_128) hf dX11_sheet_66 (fun hf => ?_)
                refine ft_iconst (v := 0) dX11_sheet_67 rfl ?_
                refine ft_istore dX11_sheet_68 (by decide) ?_
                exact ft_forget (by simp [fc_le, fc_st1, fc_st2, fc_kill]) (t_X11_sheet_70   _ _ _ hf)
              · refine ft_iconst (v := 0) dX11_sheet_61 rfl ?_
                refine ft_goto (tgt := 66) dX11_sheet_62 (by decide) ?_
                refine fk_iast (sh_128) hf dX11_sheet_66 (fun hf => ?_)
                refine ft_iconst (v := 0) dX11_sheet_67 rfl ?_
                refine ft_istore dX11_sheet_68 (by decide) ?_
                exact ft_forget (by simp [fc_le, fc_st1, fc_st2, fc_kill]) (t_X11_sheet_70   _ _ _ hf)
            · refine ft_bipush (v := (-14)) dX11_sheet_42 rfl ?_
              exact fk_reti hf dX11_sheet_44 rfl rfl
        · refine ft_bipush (v := (-2)) dX11_sheet_31 rfl ?_
          exact fk_reti hf dX11_sheet_33 rfl rfl
def f_X11_shelter (I : fc_I) (x1 : Int32) : Option (Int32 × fc_I) :=
fq_v (f_X11_isIn (Int32.toInt64 x1) 0 99999) fun r6 =>
if r6.toInt = 0 then (
some ((-2), I))
else (
if (I 78 9).toInt = (3 : Int32).toInt then (
some ((-4), I))
else (
fq_g 3 (I 78 9) (fq_l (fc_wI I 85 (cn (I 78 9)) x1) fun I35 =>
fq_l (fc_wI I35 78 9 ((I35 78 9) + 1)) fun I43 =>
some (((I43 78 9) - 1), I43))))
set_option maxHeartbeats 4000000 in
set_option maxRecDepth 100000 in
theorem t_X11_shelter {d : Nat} {v : Nat} {r : Int32} {J : fc_I} {I : fc_I} {x1 : Int32} (hf : f_X11_shelter I x1 = some (r, J)) : fc_Ci X11_shelter (d + 1) [.ref 78, .int x1] fc_SH I (fc_PT v) (fun r' I' P' => r' = r ∧ I' = J ∧ P' = (fc_PT v)) := by
  unfold f_X11_shelter at hf
  refine fc_Ci.of (ls := [some (.ref 78), some (.int x1)]) ⟨rfl, rfl⟩ (Nat.le_of_ble_eq_true rfl) rfl ?_
  refine ft_iload_n dX11_shelter_0 rfl ?_
  refine ft_i2l dX11_shelter_1 ?_
  refine ft_lconst (v := 0) dX11_shelter_2 rfl ?_
  refine ft_ldc2 dX11_shelter_3 kc_X11_22 ?_
  obtain ⟨r6, hc6, hf⟩ := fq_vs hf
  refine ft_S3p cf_X11_18 (t_X11_isIn hc6) (Nat.le_of_ble_eq_true rfl) dX11_shelter_6 ?_
  refine fk_if_ne (tgt := 15) dX11_shelter_9 (by decide) hf (fun hf => ?_) (fun hf => ?_)
  · refine ft_aload_n dX11_shelter_15 rfl ?_
    refine ft_getI fl_X11_7 rfl (sh_78) (by decide) dX11_shelter_16 ?_
    refine ft_iconst (v := 3) dX11_shelter_19 rfl ?_
    refine fk_icmp_ne (tgt := 26) dX11_shelter_20 (by decide) hf (fun hf => ?_) (fun hf => ?_)
    · refine ft_aload_n dX11_shelter_26 rfl ?_
      refine ft_getR fl_X11_39 rfl (sh_78) (by decide) pt_78_10 dX11_shelter_27 ?_
      refine ft_aload_n dX11_shelter_30 rfl ?_
      refine ft_getI fl_X11_7 rfl (sh_78) (by decide) dX11_shelter_31 ?_
      refine ft_iload_n dX11_shelter_34 rfl ?_
      refine fk_iast (sh_85) hf dX11_shelter_35 (fun hf => ?_)
      refine ft_aload_n dX11_shelter_36 rfl ?_
      refine ft_dup dX11_shelter_37 rfl ?_
      refine ft_getI fl_X11_7 rfl (sh_78) (by decide) dX11_shelter_38 ?_
      refine ft_iconst (v := 1) dX11_shelter_41 rfl ?_
      refine ft_iadd dX11_shelter_42 ?_
      refine ft_putI fl_X11_7 rfl (fun q h => by cases h; rfl) (sh_78) (by decide) dX11_shelter_43 ?_
      refine ft_aload_n dX11_shelter_46 rfl ?_
      refine ft_getI fl_X11_7 rfl (sh_78) (by decide) dX11_shelter_47 ?_
      refine ft_iconst (v := 1) dX11_shelter_50 rfl ?_
      refine ft_isub dX11_shelter_51 ?_
      exact fk_reti hf dX11_shelter_52 rfl rfl
    · refine ft_bipush (v := (-4)) dX11_shelter_23 rfl ?_
      exact fk_reti hf dX11_shelter_25 rfl rfl
  · refine ft_bipush (v := (-2)) dX11_shelter_12 rfl ?_
    exact fk_reti hf dX11_shelter_14 rfl rfl
def f_X11_shelterTold (I : fc_I) (x1 : Int32) (x2 : Int32) : Option Int32 :=
fq_v (f_X11_isShelter I x1) fun r2 =>
if r2.toInt = 0 then (
some (-2))
else (
fq_v (f_X11_isIn (Int32.toInt64 x2) 0 1) fun r12 =>
if r12.toInt = 0 then (
some (-2))
else (
if x2.toInt = 0 then (
fq_v (f_X11_roomLeft I x1) fun r27 =>
some r27)
else (
fq_g 3 x1 (
some (I 86 (cn x1))))))
set_option maxHeartbeats 4000000 in
set_option maxRecDepth 100000 in
theorem t_X11_shelterTold {d : Nat} {v : Nat} {r : Int32} {I : fc_I} {x1 : Int32} {x2 : Int32} (hf : f_X11_shelterTold I x1 x2 = some r) : fc_Cp X11_shelterTold (d + 1) [.ref 78, .int x1, .int x2] fc_SH I (fc_PT v) r := by
  unfold f_X11_shelterTold at hf
  refine fc_Cp.of (ls := [some (.ref 78), some (.int x1), some (.int x2)]) ⟨rfl, rfl⟩ (Nat.le_of_ble_eq_true rfl) rfl ?_
  refine ft_aload_n dX11_shelterTold_0 rfl ?_
  refine ft_iload_n dX11_shelterTold_1 rfl ?_
  obtain ⟨r2, hc2, hf⟩ := fq_vs hf
  refine ft_V1p cf_X11_46 (sh_78) (t_X11_isShelter hc2) (Nat.le_of_ble_eq_true rfl) dX11_shelterTold_2 ?_
  refine fk_if_eq (tgt := 18) dX11_shelterTold_5 (by decide) hf (fun hf => ?_) (fun hf => ?_)
  · refine ft_bipush (v := (-2)) dX11_shelterTold_18 rfl ?_
    exact fk_retp hf dX11_shelterTold_20 rfl rfl
  · refine ft_iload_n dX11_shelterTold_8 rfl ?_
    refine ft_i2l dX11_shelterTold_9 ?_
    refine ft_lconst (v := 0) dX11_shelterTold_10 rfl ?_
    refine ft_lconst (v := 1) dX11_shelterTold_11 rfl ?_
    obtain ⟨r12, hc12, hf⟩ := fq_vs hf
    refine ft_S3p cf_X11_18 (t_X11_isIn hc12) (Nat.le_of_ble_eq_true rfl) dX11_shelterTold_12 ?_
    refine fk_if_ne (tgt := 21) dX11_shelterTold_15 (by decide) hf (fun hf => ?_) (fun hf => ?_)
    · refine ft_iload_n dX11_shelterTold_21 rfl ?_
      refine fk_if_ne (tgt := 33) dX11_shelterTold_22 (by decide) hf (fun hf => ?_) (fun hf => ?_)
      · refine ft_aload_n dX11_shelterTold_33 rfl ?_
        refine ft_getR fl_X11_106 rfl (sh_78) (by decide) pt_78_11 dX11_shelterTold_34 ?_
        refine ft_iload_n dX11_shelterTold_37 rfl ?_
        refine fk_iald (sh_86) hf dX11_shelterTold_38 (fun hf => ?_)
        exact fk_retp hf dX11_shelterTold_39 rfl rfl
      · refine ft_aload_n dX11_shelterTold_25 rfl ?_
        refine ft_iload_n dX11_shelterTold_26 rfl ?_
        obtain ⟨r27, hc27, hf⟩ := fq_vs hf
        refine ft_V1p cf_X11_112 (sh_78) (t_X11_roomLeft hc27) (Nat.le_of_ble_eq_true rfl) dX11_shelterTold_27 ?_
        refine ft_goto (tgt := 39) dX11_shelterTold_30 (by decide) ?_
        exact fk_retp hf dX11_shelterTold_39 rfl rfl
    · refine ft_bipush (v := (-2)) dX11_shelterTold_18 rfl ?_
      exact fk_retp hf dX11_shelterTold_20 rfl rfl
def f_X11_taken_62 (I : fc_I) (x1 : Int32) : Option Int32 :=
fq_g 14 x1 (
some (I 91 (cn x1)))
def f_X11_taken (I : fc_I) (x1 : Int32) (x2 : Int32) : Option Int32 :=
fq_v (f_X11_isIn (Int32.toInt64 x2) 0 5) fun r6 =>
if r6.toInt = 0 then (
some (-2))
else (
fq_v (f_X11_isRoad I x1) fun r17 =>
if r17.toInt = 0 then (
some (-11))
else (
fq_g 14 x1 (
fq_l ((I 88 (cn x1))) fun y32 =>
if x2.toInt = 0 then (
f_X11_taken_62 I  x1)
else (
if y32.toInt = x2.toInt then (
f_X11_taken_62 I  x1)
else (
if x2.toInt = (1 : Int32).toInt then (
if y32.toInt = (3 : Int32).toInt then (
f_X11_taken_62 I  x1)
else (
if x2.toInt = (2 : Int32).toInt then (
if y32.toInt = (4 : Int32).toInt then (
f_X11_taken_62 I  x1)
else (
some (-13)))
else (
some (-13))))
else (
if x2.toInt = (2 : Int32).toInt then (
if y32.toInt = (4 : Int32).toInt then (
f_X11_taken_62 I  x1)
else (
some (-13)))
else (
some (-13))))))))
set_option maxHeartbeats 4000000 in
set_option maxRecDepth 100000 in
theorem t_X11_taken_62 {d : Nat} {v : Nat} {r : Int32} {I : fc_I} : ∀ (x1 : Int32) , f_X11_taken_62 I  x1 = some r → fc_T X11_taken (d + 1) 0 0 62 [some (.ref 78), some (.int x1), none, none, none] [] fc_SH I (fc_PT v) (fc_Qi fc_SH (fun r' I' P' => r' = r ∧ I' = I ∧ P' = (fc_PT v))) := by
  intro x1 hf
  unfold f_X11_taken_62 at hf
  refine ft_iconst (v := 1) dX11_taken_62 rfl ?_
  refine ft_goto (tgt := 67) dX11_taken_63 (by decide) ?_
  refine ft_istore dX11_taken_67 (by decide) ?_
  refine ft_iload dX11_taken_69 rfl ?_
  refine fj_if_eq (tgt := 83) dX11_taken_71 (by decide) (fun h => absurd h (by decide)) (fun _ => ?_)
  refine ft_aload_n dX11_taken_74 rfl ?_
  refine ft_getR fl_X11_65 rfl (sh_78) (by decide) pt_78_17 dX11_taken_75 ?_
  refine ft_iload_n dX11_taken_78 rfl ?_
  refine fk_iald (sh_91) hf dX11_taken_79 (fun hf => ?_)
  refine ft_goto (tgt := 85) dX11_taken_80 (by decide) ?_
  exact fk_retp hf dX11_taken_85 rfl rfl
set_option maxHeartbeats 4000000 in
set_option maxRecDepth 100000 in
theorem t_X11_taken {d : Nat} {v : Nat} {r : Int32} {I : fc_I} {x1 : Int32} {x2 : Int32} (hf : f_X11_taken I x1 x2 = some r) : fc_Cp X11_taken (d + 1) [.ref 78, .int x1, .int x2] fc_SH I (fc_PT v) r := by
  unfold f_X11_taken at hf
  refine fc_Cp.of (ls := [some (.ref 78), some (.int x1), some (.int x2), none, none]) ⟨rfl, rfl⟩ (Nat.le_of_ble_eq_true rfl) rfl ?_
  refine ft_iload_n dX11_taken_0 rfl ?_
  refine ft_i2l dX11_taken_1 ?_
  refine ft_lconst (v := 0) dX11_taken_2 rfl ?_
  refine ft_ldc2 dX11_taken_3 kc_X11_49 ?_
  obtain ⟨r6, hc6, hf⟩ := fq_vs hf
  refine ft_S3p cf_X11_18 (t_X11_isIn hc6) (Nat.le_of_ble_eq_true rfl) dX11_taken_6 ?_
  refine fk_if_ne (tgt := 15) dX11_taken_9 (by decide) hf (fun hf => ?_) (fun hf => ?_)
  · refine ft_aload_n dX11_taken_15 rfl ?_
    refine ft_iload_n dX11_taken_16 rfl ?_
    obtain ⟨r17, hc17, hf⟩ := fq_vs hf
    refine ft_V1p cf_X11_71 (sh_78) (t_X11_isRoad hc17) (Nat.le_of_ble_eq_true rfl) dX11_taken_17 ?_
    refine fk_if_ne (tgt := 26) dX11_taken_20 (by decide) hf (fun hf => ?_) (fun hf => ?_)
    · refine ft_aload_n dX11_taken_26 rfl ?_
      refine ft_getR fl_X11_56 rfl (sh_78) (by decide) pt_78_14 dX11_taken_27 ?_
      refine ft_iload_n dX11_taken_30 rfl ?_
      refine fk_iald (sh_88) hf dX11_taken_31 (fun hf => ?_)
      refine ft_istore_n dX11_taken_32 (by decide) ?_
      refine ft_iload_n dX11_taken_33 rfl ?_
      refine fk_if_eq (tgt := 62) dX11_taken_34 (by decide) hf (fun hf => ?_) (fun hf => ?_)
      · exact ft_forget (by simp [fc_le, fc_st1, fc_st2, fc_kill]) (t_X11_taken_62    _ hf)
      · refine ft_iload_n dX11_taken_37 rfl ?_
        refine ft_iload_n dX11_taken_38 rfl ?_
        refine fk_icmp_eq (tgt := 62) dX11_taken_39 (by decide) hf (fun hf => ?_) (fun hf => ?_)
        · exact ft_forget (by simp [fc_le, fc_st1, fc_st2, fc_kill]) (t_X11_taken_62    _ hf)
        · refine ft_iload_n dX11_taken_42 rfl ?_
          refine ft_iconst (v := 1) dX11_taken_43 rfl ?_
          refine fk_icmp_ne (tgt := 52) dX11_taken_44 (by decide) hf (fun hf => ?_) (fun hf => ?_)
          · refine ft_iload_n dX11_taken_52 rfl ?_
            refine ft_iconst (v := 2) dX11_taken_53 rfl ?_
            refine fk_icmp_ne (tgt := 66) dX11_taken_54 (by decide) hf (fun hf => ?_) (fun hf => ?_)
            · refine ft_iconst (v := 0) dX11_taken_66 rfl ?_
              refine ft_istore dX11_taken_67 (by decide) ?_
              refine ft_iload dX11_taken_69 rfl ?_
              refine fj_if_eq (tgt := 83) dX11_taken_71 (by decide) (fun _ => ?_) (fun h => absurd h (by decide))
              refine ft_bipush (v := (-13)) dX11_taken_83 rfl ?_
              exact fk_retp hf dX11_taken_85 rfl rfl
            · refine ft_iload_n dX11_taken_57 rfl ?_
              refine ft_iconst (v := 4) dX11_taken_58 rfl ?_
              refine fk_icmp_ne (tgt := 66) dX11_taken_59 (by decide) hf (fun hf => ?_) (fun hf => ?_)
              · refine ft_iconst (v := 0) dX11_taken_66 rfl ?_
                refine ft_istore dX11_taken_67 (by decide) ?_
                refine ft_iload dX11_taken_69 rfl ?_
                refine fj_if_eq (tgt := 83) dX11_taken_71 (by decide) (fun _ => ?_) (fun h => absurd h (by decide))
                refine ft_bipush (v := (-13)) dX11_taken_83 rfl ?_
                exact fk_retp hf dX11_taken_85 rfl rfl
              · exact ft_forget (by simp [fc_le, fc_st1, fc_st2, fc_kill]) (t_X11_taken_62    _ hf)
          · refine ft_iload_n dX11_taken_47 rfl ?_
            refine ft_iconst (v := 3) dX11_taken_48 rfl ?_
            refine fk_icmp_eq (tgt := 62) dX11_taken_49 (by decide) hf (fun hf => ?_) (fun hf => ?_)
            · exact ft_forget (by simp [fc_le, fc_st1, fc_st2, fc_kill]) (t_X11_taken_62    _ hf)
            · refine ft_iload_n dX11_taken_52 rfl ?_
              refine ft_iconst (v := 2) dX11_taken_53 rfl ?_
              refine fk_icmp_ne (tgt := 66) dX11_taken_54 (by decide) hf (fun hf => ?_) (fun hf => ?_)
              · refine ft_iconst (v := 0) dX11_taken_66 rfl ?_
                refine ft_istore dX11_taken_67 (by decide) ?_
                refine ft_iload dX11_taken_69 rfl ?_
                refine fj_if_eq (tgt := 83) dX11_taken_71 (by decide) (fun _ => ?_) (fun h => absurd h (by decide))
                refine ft_bipush (v := (-13)) dX11_taken_83 rfl ?_
                exact fk_retp hf dX11_taken_85 rfl rfl
              · refine ft_iload_n dX11_taken_57 rfl ?_
                refine ft_iconst (v := 4) dX11_taken_58 rfl ?_
                refine fk_icmp_ne (tgt := 66) dX11_taken_59 (by decide) hf (fun hf => ?_) (fun hf => ?_)
                · refine ft_iconst (v := 0) dX11_taken_66 rfl ?_
                  refine ft_istore dX11_taken_67 (by decide) ?_
                  refine ft_iload dX11_taken_69 rfl ?_
                  refine fj_if_eq (tgt := 83) dX11_taken_71 (by decide) (fun _ => ?_) (fun h => absurd h (by decide))
                  refine ft_bipush (v := (-13)) dX11_taken_83 rfl ?_
                  exact fk_retp hf dX11_taken_85 rfl rfl
                · exact ft_forget (by simp [fc_le, fc_st1, fc_st2, fc_kill]) (t_X11_taken_62    _ hf)
    · refine ft_bipush (v := (-11)) dX11_taken_23 rfl ?_
      exact fk_retp hf dX11_taken_25 rfl rfl
  · refine ft_bipush (v := (-2)) dX11_taken_12 rfl ?_
    exact fk_retp hf dX11_taken_14 rfl rfl
def f_X11_truth (I : fc_I) (x1 : Int32) : Option (Int32 × fc_I) :=
fq_v (f_X11_isTrack x1) fun r1 =>
if r1.toInt = 0 then (
some ((-2), I))
else (
fq_l ((I 78 28)) fun y14 =>
fq_l (fc_wI I 78 28 x1) fun I17 =>
some (y14, I17))
set_option maxHeartbeats 4000000 in
set_option maxRecDepth 100000 in
theorem t_X11_truth {d : Nat} {v : Nat} {r : Int32} {J : fc_I} {I : fc_I} {x1 : Int32} (hf : f_X11_truth I x1 = some (r, J)) : fc_Ci X11_truth (d + 2) [.ref 78, .int x1] fc_SH I (fc_PT v) (fun r' I' P' => r' = r ∧ I' = J ∧ P' = (fc_PT v)) := by
  unfold f_X11_truth at hf
  refine fc_Ci.of (ls := [some (.ref 78), some (.int x1), none]) ⟨rfl, rfl⟩ (Nat.le_of_ble_eq_true rfl) rfl ?_
  refine ft_iload_n dX11_truth_0 rfl ?_
  obtain ⟨r1, hc1, hf⟩ := fq_vs hf
  refine ft_S1p cf_X11_139 (t_X11_isTrack hc1) (Nat.le_of_ble_eq_true rfl) dX11_truth_1 ?_
  refine fk_if_ne (tgt := 10) dX11_truth_4 (by decide) hf (fun hf => ?_) (fun hf => ?_)
  · refine ft_aload_n dX11_truth_10 rfl ?_
    refine ft_getI fl_X11_99 rfl (sh_78) (by decide) dX11_truth_11 ?_
    refine ft_istore_n dX11_truth_14 (by decide) ?_
    refine ft_aload_n dX11_truth_15 rfl ?_
    refine ft_iload_n dX11_truth_16 rfl ?_
    refine ft_putI fl_X11_99 rfl (fun q h => by cases h; rfl) (sh_78) (by decide) dX11_truth_17 ?_
    refine ft_iload_n dX11_truth_20 rfl ?_
    exact fk_reti hf dX11_truth_21 rfl rfl
  · refine ft_bipush (v := (-2)) dX11_truth_7 rfl ?_
    exact fk_reti hf dX11_truth_9 rfl rfl
def f_X11_turn (I : fc_I) (x1 : Int32) : Option (Int32 × fc_I) :=
fq_v (f_X11_isRoad I x1) fun r2 =>
if r2.toInt = 0 then (
some ((-2), I))
else (
fq_g 14 x1 (
if (I 92 (cn x1)).toInt = ((-1) : Int32).toInt then (
fq_g 14 x1 (fq_l (fc_wI I 92 (cn x1) (I 78 0)) fun I33 =>
some ((I33 78 0), I33)))
else (
some ((-3), I))))
set_option maxHeartbeats 4000000 in
set_option maxRecDepth 100000 in
theorem t_X11_turn {d : Nat} {v : Nat} {r : Int32} {J : fc_I} {I : fc_I} {x1 : Int32} (hf : f_X11_turn I x1 = some (r, J)) : fc_Ci X11_turn (d + 1) [.ref 78, .int x1] fc_SH I (fc_PT v) (fun r' I' P' => r' = r ∧ I' = J ∧ P' = (fc_PT v)) := by
  unfold f_X11_turn at hf
  refine fc_Ci.of (ls := [some (.ref 78), some (.int x1)]) ⟨rfl, rfl⟩ (Nat.le_of_ble_eq_true rfl) rfl ?_
  refine ft_aload_n dX11_turn_0 rfl ?_
  refine ft_iload_n dX11_turn_1 rfl ?_
  obtain ⟨r2, hc2, hf⟩ := fq_vs hf
  refine ft_V1p cf_X11_71 (sh_78) (t_X11_isRoad hc2) (Nat.le_of_ble_eq_true rfl) dX11_turn_2 ?_
  refine fk_if_ne (tgt := 11) dX11_turn_5 (by decide) hf (fun hf => ?_) (fun hf => ?_)
  · refine ft_aload_n dX11_turn_11 rfl ?_
    refine ft_getR fl_X11_68 rfl (sh_78) (by decide) pt_78_18 dX11_turn_12 ?_
    refine ft_iload_n dX11_turn_15 rfl ?_
    refine fk_iald (sh_92) hf dX11_turn_16 (fun hf => ?_)
    refine ft_iconst (v := (-1)) dX11_turn_17 rfl ?_
    refine fk_icmp_eq (tgt := 24) dX11_turn_18 (by decide) hf (fun hf => ?_) (fun hf => ?_)
    · refine ft_aload_n dX11_turn_24 rfl ?_
      refine ft_getR fl_X11_68 rfl (sh_78) (by decide) pt_78_18 dX11_turn_25 ?_
      refine ft_iload_n dX11_turn_28 rfl ?_
      refine ft_aload_n dX11_turn_29 rfl ?_
      refine ft_getI fl_X11_26 rfl (sh_78) (by decide) dX11_turn_30 ?_
      refine fk_iast (sh_92) hf dX11_turn_33 (fun hf => ?_)
      refine ft_aload_n dX11_turn_34 rfl ?_
      refine ft_getI fl_X11_26 rfl (sh_78) (by decide) dX11_turn_35 ?_
      exact fk_reti hf dX11_turn_38 rfl rfl
    · refine ft_bipush (v := (-3)) dX11_turn_21 rfl ?_
      exact fk_reti hf dX11_turn_23 rfl rfl
  · refine ft_bipush (v := (-2)) dX11_turn_8 rfl ?_
    exact fk_reti hf dX11_turn_10 rfl rfl
def f_X11_use (I : fc_I) (x1 : Int32) : Option (Int32 × fc_I) :=
fq_v (f_X11_isRoad I x1) fun r2 =>
if r2.toInt = 0 then (
some ((-2), I))
else (
fq_g 14 x1 (
fq_g 6 (I 89 (cn x1)) (
fq_l ((I 84 (cn (I 89 (cn x1))))) fun y22 =>
fq_g 14 x1 (
fq_g 6 (I 89 (cn x1)) (fq_l (fc_wI I 84 (cn (I 89 (cn x1))) x1) fun I34 =>
some (y22, I34))))))
set_option maxHeartbeats 4000000 in
set_option maxRecDepth 100000 in
theorem t_X11_use {d : Nat} {v : Nat} {r : Int32} {J : fc_I} {I : fc_I} {x1 : Int32} (hf : f_X11_use I x1 = some (r, J)) : fc_Ci X11_use (d + 1) [.ref 78, .int x1] fc_SH I (fc_PT v) (fun r' I' P' => r' = r ∧ I' = J ∧ P' = (fc_PT v)) := by
  unfold f_X11_use at hf
  refine fc_Ci.of (ls := [some (.ref 78), some (.int x1), none]) ⟨rfl, rfl⟩ (Nat.le_of_ble_eq_true rfl) rfl ?_
  refine ft_aload_n dX11_use_0 rfl ?_
  refine ft_iload_n dX11_use_1 rfl ?_
  obtain ⟨r2, hc2, hf⟩ := fq_vs hf
  refine ft_V1p cf_X11_71 (sh_78) (t_X11_isRoad hc2) (Nat.le_of_ble_eq_true rfl) dX11_use_2 ?_
  refine fk_if_ne (tgt := 11) dX11_use_5 (by decide) hf (fun hf => ?_) (fun hf => ?_)
  · refine ft_aload_n dX11_use_11 rfl ?_
    refine ft_getR fl_X11_74 rfl (sh_78) (by decide) pt_78_8 dX11_use_12 ?_
    refine ft_aload_n dX11_use_15 rfl ?_
    refine ft_getR fl_X11_59 rfl (sh_78) (by decide) pt_78_15 dX11_use_16 ?_
    refine ft_iload_n dX11_use_19 rfl ?_
    refine fk_iald (sh_89) hf dX11_use_20 (fun hf => ?_)
    refine fk_iald (sh_84) hf dX11_use_21 (fun hf => ?_)
    refine ft_istore_n dX11_use_22 (by decide) ?_
    refine ft_aload_n dX11_use_23 rfl ?_
    refine ft_getR fl_X11_74 rfl (sh_78) (by decide) pt_78_8 dX11_use_24 ?_
    refine ft_aload_n dX11_use_27 rfl ?_
    refine ft_getR fl_X11_59 rfl (sh_78) (by decide) pt_78_15 dX11_use_28 ?_
    refine ft_iload_n dX11_use_31 rfl ?_
    refine fk_iald (sh_89) hf dX11_use_32 (fun hf => ?_)
    refine ft_iload_n dX11_use_33 rfl ?_
    refine fk_iast (sh_84) hf dX11_use_34 (fun hf => ?_)
    refine ft_iload_n dX11_use_35 rfl ?_
    exact fk_reti hf dX11_use_36 rfl rfl
  · refine ft_bipush (v := (-2)) dX11_use_8 rfl ?_
    exact fk_reti hf dX11_use_10 rfl rfl
def f_X11_zone (I : fc_I) (x1 : Int32) (x2 : Int32) (x3 : Int32) : Option (Int32 × fc_I) :=
fq_v (f_X11_isIn (Int32.toInt64 x1) 0 99) fun r6 =>
if r6.toInt = 0 then (
some ((-2), I))
else (
fq_v (f_X11_isIn (Int32.toInt64 x2) 0 99999) fun r18 =>
if r18.toInt = 0 then (
some ((-2), I))
else (
fq_v (f_X11_isIn (Int32.toInt64 x3) 0 999) fun r30 =>
if r30.toInt = 0 then (
some ((-2), I))
else (
if 0 < (I 78 0).toInt then (
some ((-3), I))
else (
if (I 78 2).toInt = (6 : Int32).toInt then (
some ((-4), I))
else (
fq_g 6 (I 78 2) (fq_l (fc_wI I 79 (cn (I 78 2)) x1) fun I70 =>
fq_g 6 (I70 78 2) (fq_l (fc_wI I70 80 (cn (I70 78 2)) x2) fun I80 =>
fq_g 6 (I80 78 2) (fq_l (fc_wI I80 82 (cn (I80 78 2)) x3) fun I90 =>
fq_l (fc_wI I90 78 2 ((I90 78 2) + 1)) fun I98 =>
some (((I98 78 2) - 1), I98)))))))))
set_option maxHeartbeats 4000000 in
set_option maxRecDepth 100000 in
theorem t_X11_zone {d : Nat} {v : Nat} {r : Int32} {J : fc_I} {I : fc_I} {x1 : Int32} {x2 : Int32} {x3 : Int32} (hf : f_X11_zone I x1 x2 x3 = some (r, J)) : fc_Ci X11_zone (d + 1) [.ref 78, .int x1, .int x2, .int x3] fc_SH I (fc_PT v) (fun r' I' P' => r' = r ∧ I' = J ∧ P' = (fc_PT v)) := by
  unfold f_X11_zone at hf
  refine fc_Ci.of (ls := [some (.ref 78), some (.int x1), some (.int x2), some (.int x3)]) ⟨rfl, rfl⟩ (Nat.le_of_ble_eq_true rfl) rfl ?_
  refine ft_iload_n dX11_zone_0 rfl ?_
  refine ft_i2l dX11_zone_1 ?_
  refine ft_lconst (v := 0) dX11_zone_2 rfl ?_
  refine ft_ldc2 dX11_zone_3 kc_X11_16 ?_
  obtain ⟨r6, hc6, hf⟩ := fq_vs hf
  refine ft_S3p cf_X11_18 (t_X11_isIn hc6) (Nat.le_of_ble_eq_true rfl) dX11_zone_6 ?_
  refine fk_if_eq (tgt := 36) dX11_zone_9 (by decide) hf (fun hf => ?_) (fun hf => ?_)
  · refine ft_bipush (v := (-2)) dX11_zone_36 rfl ?_
    exact fk_reti hf dX11_zone_38 rfl rfl
  · refine ft_iload_n dX11_zone_12 rfl ?_
    refine ft_i2l dX11_zone_13 ?_
    refine ft_lconst (v := 0) dX11_zone_14 rfl ?_
    refine ft_ldc2 dX11_zone_15 kc_X11_22 ?_
    obtain ⟨r18, hc18, hf⟩ := fq_vs hf
    refine ft_S3p cf_X11_18 (t_X11_isIn hc18) (Nat.le_of_ble_eq_true rfl) dX11_zone_18 ?_
    refine fk_if_eq (tgt := 36) dX11_zone_21 (by decide) hf (fun hf => ?_) (fun hf => ?_)
    · refine ft_bipush (v := (-2)) dX11_zone_36 rfl ?_
      exact fk_reti hf dX11_zone_38 rfl rfl
    · refine ft_iload_n dX11_zone_24 rfl ?_
      refine ft_i2l dX11_zone_25 ?_
      refine ft_lconst (v := 0) dX11_zone_26 rfl ?_
      refine ft_ldc2 dX11_zone_27 kc_X11_24 ?_
      obtain ⟨r30, hc30, hf⟩ := fq_vs hf
      refine ft_S3p cf_X11_18 (t_X11_isIn hc30) (Nat.le_of_ble_eq_true rfl) dX11_zone_30 ?_
      refine fk_if_ne (tgt := 39) dX11_zone_33 (by decide) hf (fun hf => ?_) (fun hf => ?_)
      · refine ft_aload_n dX11_zone_39 rfl ?_
        refine ft_getI fl_X11_26 rfl (sh_78) (by decide) dX11_zone_40 ?_
        refine fk_if_le (tgt := 49) dX11_zone_43 (by decide) hf (fun hf => ?_) (fun hf => ?_)
        · refine ft_aload_n dX11_zone_49 rfl ?_
          refine ft_getI fl_X11_1 rfl (sh_78) (by decide) dX11_zone_50 ?_
          refine ft_bipush (v := 6) dX11_zone_53 rfl ?_
          refine fk_icmp_ne (tgt := 61) dX11_zone_55 (by decide) hf (fun hf => ?_) (fun hf => ?_)
          · refine ft_aload_n dX11_zone_61 rfl ?_
            refine ft_getR fl_X11_29 rfl (sh_78) (by decide) pt_78_3 dX11_zone_62 ?_
            refine ft_aload_n dX11_zone_65 rfl ?_
            refine ft_getI fl_X11_1 rfl (sh_78) (by decide) dX11_zone_66 ?_
            refine ft_iload_n dX11_zone_69 rfl ?_
            refine fk_iast (sh_79) hf dX11_zone_70 (fun hf => ?_)
            refine ft_aload_n dX11_zone_71 rfl ?_
            refine ft_getR fl_X11_33 rfl (sh_78) (by decide) pt_78_4 dX11_zone_72 ?_
            refine ft_aload_n dX11_zone_75 rfl ?_
            refine ft_getI fl_X11_1 rfl (sh_78) (by decide) dX11_zone_76 ?_
            refine ft_iload_n dX11_zone_79 rfl ?_
            refine fk_iast (sh_80) hf dX11_zone_80 (fun hf => ?_)
            refine ft_aload_n dX11_zone_81 rfl ?_
            refine ft_getR fl_X11_36 rfl (sh_78) (by decide) pt_78_6 dX11_zone_82 ?_
            refine ft_aload_n dX11_zone_85 rfl ?_
            refine ft_getI fl_X11_1 rfl (sh_78) (by decide) dX11_zone_86 ?_
            refine ft_iload_n dX11_zone_89 rfl ?_
            refine fk_iast (sh_82) hf dX11_zone_90 (fun hf => ?_)
            refine ft_aload_n dX11_zone_91 rfl ?_
            refine ft_dup dX11_zone_92 rfl ?_
            refine ft_getI fl_X11_1 rfl (sh_78) (by decide) dX11_zone_93 ?_
            refine ft_iconst (v := 1) dX11_zone_96 rfl ?_
            refine ft_iadd dX11_zone_97 ?_
            refine ft_putI fl_X11_1 rfl (fun q h => by cases h; rfl) (sh_78) (by decide) dX11_zone_98 ?_
            refine ft_aload_n dX11_zone_101 rfl ?_
            refine ft_getI fl_X11_1 rfl (sh_78) (by decide) dX11_zone_102 ?_
            refine ft_iconst (v := 1) dX11_zone_105 rfl ?_
            refine ft_isub dX11_zone_106 ?_
            exact fk_reti hf dX11_zone_107 rfl rfl
          · refine ft_bipush (v := (-4)) dX11_zone_58 rfl ?_
            exact fk_reti hf dX11_zone_60 rfl rfl
        · refine ft_bipush (v := (-3)) dX11_zone_46 rfl ?_
          exact fk_reti hf dX11_zone_48 rfl rfl
      · refine ft_bipush (v := (-2)) dX11_zone_36 rfl ?_
        exact fk_reti hf dX11_zone_38 rfl rfl
def f_X11_zoneTold (I : fc_I) (x1 : Int32) (x2 : Int32) : Option Int32 :=
fq_v (f_X11_isZone I x1) fun r2 =>
if r2.toInt = 0 then (
some (-2))
else (
fq_v (f_X11_isIn (Int32.toInt64 x2) 0 6) fun r14 =>
if r14.toInt = 0 then (
some (-2))
else (
if x2.toInt = 0 then (
fq_g 6 x1 (
some (I 79 (cn x1))))
else if x2.toInt = 1 then (
fq_g 6 x1 (
some (I 80 (cn x1))))
else if x2.toInt = 2 then (
fq_g 6 x1 (
some (I 81 (cn x1))))
else if x2.toInt = 3 then (
fq_g 6 x1 (
some (I 82 (cn x1))))
else if x2.toInt = 4 then (
fq_g 6 x1 (
some (I 83 (cn x1))))
else if x2.toInt = 5 then (
fq_g 6 x1 (
some (I 84 (cn x1))))
else (
fq_v (f_X11_isWet I x1 (I 78 28) (I 78 0)) fun r116 =>
if r116.toInt = 0 then (
some 0)
else (
some 1))))
set_option maxHeartbeats 4000000 in
set_option maxRecDepth 100000 in
theorem t_X11_zoneTold {d : Nat} {v : Nat} {r : Int32} {I : fc_I} {x1 : Int32} {x2 : Int32} (hf : f_X11_zoneTold I x1 x2 = some r) : fc_Cp X11_zoneTold (d + 1) [.ref 78, .int x1, .int x2] fc_SH I (fc_PT v) r := by
  unfold f_X11_zoneTold at hf
  refine fc_Cp.of (ls := [some (.ref 78), some (.int x1), some (.int x2)]) ⟨rfl, rfl⟩ (Nat.le_of_ble_eq_true rfl) rfl ?_
  refine ft_aload_n dX11_zoneTold_0 rfl ?_
  refine ft_iload_n dX11_zoneTold_1 rfl ?_
  obtain ⟨r2, hc2, hf⟩ := fq_vs hf
  refine ft_V1p cf_X11_42 (sh_78) (t_X11_isZone hc2) (Nat.le_of_ble_eq_true rfl) dX11_zoneTold_2 ?_
  refine fk_if_eq (tgt := 20) dX11_zoneTold_5 (by decide) hf (fun hf => ?_) (fun hf => ?_)
  · refine ft_bipush (v := (-2)) dX11_zoneTold_20 rfl ?_
    exact fk_retp hf dX11_zoneTold_22 rfl rfl
  · refine ft_iload_n dX11_zoneTold_8 rfl ?_
    refine ft_i2l dX11_zoneTold_9 ?_
    refine ft_lconst (v := 0) dX11_zoneTold_10 rfl ?_
    refine ft_ldc2 dX11_zoneTold_11 kc_X11_91 ?_
    obtain ⟨r14, hc14, hf⟩ := fq_vs hf
    refine ft_S3p cf_X11_18 (t_X11_isIn hc14) (Nat.le_of_ble_eq_true rfl) dX11_zoneTold_14 ?_
    refine fk_if_ne (tgt := 23) dX11_zoneTold_17 (by decide) hf (fun hf => ?_) (fun hf => ?_)
    · refine ft_iload_n dX11_zoneTold_23 rfl ?_
      rcases fq_is hf with ⟨e_24_0, hf⟩ | ⟨e_24_0, hf⟩
      · refine ft_tsIn (tgt := 64) dX11_zoneTold_24 (by rw [e_24_0]; decide) (by rw [e_24_0]; decide) (by rw [e_24_0]; rfl) (by decide) ?_
        refine ft_aload_n dX11_zoneTold_64 rfl ?_
        refine ft_getR fl_X11_29 rfl (sh_78) (by decide) pt_78_3 dX11_zoneTold_65 ?_
        refine ft_iload_n dX11_zoneTold_68 rfl ?_
        refine fk_iald (sh_79) hf dX11_zoneTold_69 (fun hf => ?_)
        exact fk_retp hf dX11_zoneTold_70 rfl rfl
      rcases fq_is hf with ⟨e_24_1, hf⟩ | ⟨e_24_1, hf⟩
      · refine ft_tsIn (tgt := 71) dX11_zoneTold_24 (by rw [e_24_1]; decide) (by rw [e_24_1]; decide) (by rw [e_24_1]; rfl) (by decide) ?_
        refine ft_aload_n dX11_zoneTold_71 rfl ?_
        refine ft_getR fl_X11_33 rfl (sh_78) (by decide) pt_78_4 dX11_zoneTold_72 ?_
        refine ft_iload_n dX11_zoneTold_75 rfl ?_
        refine fk_iald (sh_80) hf dX11_zoneTold_76 (fun hf => ?_)
        exact fk_retp hf dX11_zoneTold_77 rfl rfl
      rcases fq_is hf with ⟨e_24_2, hf⟩ | ⟨e_24_2, hf⟩
      · refine ft_tsIn (tgt := 78) dX11_zoneTold_24 (by rw [e_24_2]; decide) (by rw [e_24_2]; decide) (by rw [e_24_2]; rfl) (by decide) ?_
        refine ft_aload_n dX11_zoneTold_78 rfl ?_
        refine ft_getR fl_X11_93 rfl (sh_78) (by decide) pt_78_5 dX11_zoneTold_79 ?_
        refine ft_iload_n dX11_zoneTold_82 rfl ?_
        refine fk_iald (sh_81) hf dX11_zoneTold_83 (fun hf => ?_)
        exact fk_retp hf dX11_zoneTold_84 rfl rfl
      rcases fq_is hf with ⟨e_24_3, hf⟩ | ⟨e_24_3, hf⟩
      · refine ft_tsIn (tgt := 85) dX11_zoneTold_24 (by rw [e_24_3]; decide) (by rw [e_24_3]; decide) (by rw [e_24_3]; rfl) (by decide) ?_
        refine ft_aload_n dX11_zoneTold_85 rfl ?_
        refine ft_getR fl_X11_36 rfl (sh_78) (by decide) pt_78_6 dX11_zoneTold_86 ?_
        refine ft_iload_n dX11_zoneTold_89 rfl ?_
        refine fk_iald (sh_82) hf dX11_zoneTold_90 (fun hf => ?_)
        exact fk_retp hf dX11_zoneTold_91 rfl rfl
      rcases fq_is hf with ⟨e_24_4, hf⟩ | ⟨e_24_4, hf⟩
      · refine ft_tsIn (tgt := 92) dX11_zoneTold_24 (by rw [e_24_4]; decide) (by rw [e_24_4]; decide) (by rw [e_24_4]; rfl) (by decide) ?_
        refine ft_aload_n dX11_zoneTold_92 rfl ?_
        refine ft_getR fl_X11_96 rfl (sh_78) (by decide) pt_78_7 dX11_zoneTold_93 ?_
        refine ft_iload_n dX11_zoneTold_96 rfl ?_
        refine fk_iald (sh_83) hf dX11_zoneTold_97 (fun hf => ?_)
        exact fk_retp hf dX11_zoneTold_98 rfl rfl
      rcases fq_is hf with ⟨e_24_5, hf⟩ | ⟨e_24_5, hf⟩
      · refine ft_tsIn (tgt := 99) dX11_zoneTold_24 (by rw [e_24_5]; decide) (by rw [e_24_5]; decide) (by rw [e_24_5]; rfl) (by decide) ?_
        refine ft_aload_n dX11_zoneTold_99 rfl ?_
        refine ft_getR fl_X11_74 rfl (sh_78) (by decide) pt_78_8 dX11_zoneTold_100 ?_
        refine ft_iload_n dX11_zoneTold_103 rfl ?_
        refine fk_iald (sh_84) hf dX11_zoneTold_104 (fun hf => ?_)
        exact fk_retp hf dX11_zoneTold_105 rfl rfl
      refine ft_tsOut (tgt := 106) dX11_zoneTold_24 (by omega) (by decide) ?_
      refine ft_aload_n dX11_zoneTold_106 rfl ?_
      refine ft_iload_n dX11_zoneTold_107 rfl ?_
      refine ft_aload_n dX11_zoneTold_108 rfl ?_
      refine ft_getI fl_X11_99 rfl (sh_78) (by decide) dX11_zoneTold_109 ?_
      refine ft_aload_n dX11_zoneTold_112 rfl ?_
      refine ft_getI fl_X11_26 rfl (sh_78) (by decide) dX11_zoneTold_113 ?_
      obtain ⟨r116, hc116, hf⟩ := fq_vs hf
      refine ft_V3p cf_X11_102 (sh_78) (t_X11_isWet hc116) (Nat.le_of_ble_eq_true rfl) dX11_zoneTold_116 ?_
      refine fk_if_eq (tgt := 126) dX11_zoneTold_119 (by decide) hf (fun hf => ?_) (fun hf => ?_)
      · refine ft_iconst (v := 0) dX11_zoneTold_126 rfl ?_
        exact fk_retp hf dX11_zoneTold_127 rfl rfl
      · refine ft_iconst (v := 1) dX11_zoneTold_122 rfl ?_
        refine ft_goto (tgt := 127) dX11_zoneTold_123 (by decide) ?_
        exact fk_retp hf dX11_zoneTold_127 rfl rfl
    · refine ft_bipush (v := (-2)) dX11_zoneTold_20 rfl ?_
      exact fk_retp hf dX11_zoneTold_22 rfl rfl
