def f_X11_await (I : fc_I) (x1 : Int32) : Option fc_I :=
fq_g 170 (I 78 51) (fq_l (fc_wI I 113 (cn (I 78 51)) x1) fun I9 =>
fq_l (fc_wI I9 78 51 ((I9 78 51) + 1)) fun I17 =>
some I17)
set_option maxHeartbeats 4000000 in
set_option maxRecDepth 100000 in
theorem t_X11_await {d : Nat} {v : Nat} {J : fc_I} {I : fc_I} {x1 : Int32} (hf : f_X11_await I x1 = some J) : fc_Cv X11_await d [.ref 78, .int x1] fc_SH I (fc_PT v) (fun I' P' => I' = J ∧ P' = (fc_PT v)) := by
  unfold f_X11_await at hf
  refine fc_Cv.of (ls := [some (.ref 78), some (.int x1)]) ⟨rfl, rfl⟩ (Nat.le_of_ble_eq_true rfl) rfl ?_
  refine ft_aload_n dX11_await_0 rfl ?_
  refine ft_getR fl_X11_228 rfl (sh_78) (by decide) pt_78_50 dX11_await_1 ?_
  refine ft_aload_n dX11_await_4 rfl ?_
  refine ft_getI fl_X11_225 rfl (sh_78) (by decide) dX11_await_5 ?_
  refine ft_iload_n dX11_await_8 rfl ?_
  refine fk_iast (sh_113) hf dX11_await_9 (fun hf => ?_)
  refine ft_aload_n dX11_await_10 rfl ?_
  refine ft_dup dX11_await_11 rfl ?_
  refine ft_getI fl_X11_225 rfl (sh_78) (by decide) dX11_await_12 ?_
  refine ft_iconst (v := 1) dX11_await_15 rfl ?_
  refine ft_iadd dX11_await_16 ?_
  refine ft_putI fl_X11_225 rfl (fun q h => by cases h; rfl) (sh_78) (by decide) dX11_await_17 ?_
  exact fk_retv hf dX11_await_20 rfl
def f_X11_isKey (I : fc_I) (x1 : Int32) : Option Int32 :=
if (I 78 45).toInt = (4 : Int32).toInt then (
if (I 78 46).toInt = x1.toInt then (
some 1)
else (
some 0))
else (
some 0)
set_option maxHeartbeats 4000000 in
set_option maxRecDepth 100000 in
theorem t_X11_isKey {d : Nat} {v : Nat} {r : Int32} {I : fc_I} {x1 : Int32} (hf : f_X11_isKey I x1 = some r) : fc_Cp X11_isKey d [.ref 78, .int x1] fc_SH I (fc_PT v) r := by
  unfold f_X11_isKey at hf
  refine fc_Cp.of (ls := [some (.ref 78), some (.int x1)]) ⟨rfl, rfl⟩ (Nat.le_of_ble_eq_true rfl) rfl ?_
  refine ft_aload_n dX11_isKey_0 rfl ?_
  refine ft_getI fl_X11_190 rfl (sh_78) (by decide) dX11_isKey_1 ?_
  refine ft_iconst (v := 4) dX11_isKey_4 rfl ?_
  refine fk_icmp_ne (tgt := 20) dX11_isKey_5 (by decide) hf (fun hf => ?_) (fun hf => ?_)
  · refine ft_iconst (v := 0) dX11_isKey_20 rfl ?_
    exact fk_retp hf dX11_isKey_21 rfl rfl
  · refine ft_aload_n dX11_isKey_8 rfl ?_
    refine ft_getI fl_X11_203 rfl (sh_78) (by decide) dX11_isKey_9 ?_
    refine ft_iload_n dX11_isKey_12 rfl ?_
    refine fk_icmp_ne (tgt := 20) dX11_isKey_13 (by decide) hf (fun hf => ?_) (fun hf => ?_)
    · refine ft_iconst (v := 0) dX11_isKey_20 rfl ?_
      exact fk_retp hf dX11_isKey_21 rfl rfl
    · refine ft_iconst (v := 1) dX11_isKey_16 rfl ?_
      refine ft_goto (tgt := 21) dX11_isKey_17 (by decide) ?_
      exact fk_retp hf dX11_isKey_21 rfl rfl
def f_X11_isSign (I : fc_I) (x1 : Int32) : Option Int32 :=
if (I 78 45).toInt = (3 : Int32).toInt then (
if (I 78 46).toInt = x1.toInt then (
some 1)
else (
some 0))
else (
some 0)
set_option maxHeartbeats 4000000 in
set_option maxRecDepth 100000 in
theorem t_X11_isSign {d : Nat} {v : Nat} {r : Int32} {I : fc_I} {x1 : Int32} (hf : f_X11_isSign I x1 = some r) : fc_Cp X11_isSign d [.ref 78, .int x1] fc_SH I (fc_PT v) r := by
  unfold f_X11_isSign at hf
  refine fc_Cp.of (ls := [some (.ref 78), some (.int x1)]) ⟨rfl, rfl⟩ (Nat.le_of_ble_eq_true rfl) rfl ?_
  refine ft_aload_n dX11_isSign_0 rfl ?_
  refine ft_getI fl_X11_190 rfl (sh_78) (by decide) dX11_isSign_1 ?_
  refine ft_iconst (v := 3) dX11_isSign_4 rfl ?_
  refine fk_icmp_ne (tgt := 20) dX11_isSign_5 (by decide) hf (fun hf => ?_) (fun hf => ?_)
  · refine ft_iconst (v := 0) dX11_isSign_20 rfl ?_
    exact fk_retp hf dX11_isSign_21 rfl rfl
  · refine ft_aload_n dX11_isSign_8 rfl ?_
    refine ft_getI fl_X11_203 rfl (sh_78) (by decide) dX11_isSign_9 ?_
    refine ft_iload_n dX11_isSign_12 rfl ?_
    refine fk_icmp_ne (tgt := 20) dX11_isSign_13 (by decide) hf (fun hf => ?_) (fun hf => ?_)
    · refine ft_iconst (v := 0) dX11_isSign_20 rfl ?_
      exact fk_retp hf dX11_isSign_21 rfl rfl
    · refine ft_iconst (v := 1) dX11_isSign_16 rfl ?_
      refine ft_goto (tgt := 21) dX11_isSign_17 (by decide) ?_
      exact fk_retp hf dX11_isSign_21 rfl rfl
def f_X11_ahead_35 (s0 : Int32) (I : fc_I) : Option (Int32 × fc_I) :=
if s0.toInt = 0 then (
some (0, I))
else (
if (I 78 52).toInt = (5 : Int32).toInt then (
some (0, I))
else (
fq_l (fc_wI I 78 52 ((I 78 52) + 1)) fun I57 =>
fq_v (f_X11_isSign I57 40) fun r63 =>
if r63.toInt = 0 then (
if (I57 78 45).toInt = (4 : Int32).toInt then (
fq_u (f_X11_await I57 13) fun I114 =>
some (1, I114))
else (
fq_u (f_X11_await I57 14) fun I114 =>
some (1, I114)))
else (
fq_u (f_X11_await I57 15) fun I72 =>
fq_l (fc_wI I72 78 53 ((I72 78 53) + 1)) fun I82 =>
fq_g 8 (I82 78 53) (fq_l (fc_wI I82 114 (cn (I82 78 53)) (vp_nar .boolean 0)) fun I94 =>
some (1, I94)))))
def f_X11_ahead_30 (I : fc_I) : Option (Int32 × fc_I) :=
f_X11_ahead_35  1 I
def f_X11_ahead_34 (I : fc_I) : Option (Int32 × fc_I) :=
f_X11_ahead_35  0 I
def f_X11_ahead (I : fc_I) (x1 : Int32) : Option (Int32 × fc_I) :=
fq_v (f_X11_isSign I 40) fun r3 =>
if r3.toInt = 0 then (
fq_v (f_X11_isSign I 45) fun r12 =>
if r12.toInt = 0 then (
if x1.toInt = 0 then (
f_X11_ahead_34  I)
else (
fq_v (f_X11_isKey I 4) fun r24 =>
if r24.toInt = 0 then (
f_X11_ahead_34  I)
else (
f_X11_ahead_30  I)))
else (
f_X11_ahead_30  I))
else (
f_X11_ahead_30  I)
set_option maxHeartbeats 4000000 in
set_option maxRecDepth 100000 in
theorem t_X11_ahead_35 {d : Nat} {v : Nat} {r : Int32} {J : fc_I} : ∀ (s0 : Int32) (I : fc_I) , f_X11_ahead_35  s0 I = some (r, J) → fc_T X11_ahead (d + 1) 0 0 35 [some (.ref 78), none, none] [.int s0] fc_SH I (fc_PT v) (fc_Qi fc_SH (fun r' I' P' => r' = r ∧ I' = J ∧ P' = (fc_PT v))) := by
  intro s0 I hf
  unfold f_X11_ahead_35 at hf
  refine ft_istore_n dX11_ahead_35 (by decide) ?_
  refine ft_iload_n dX11_ahead_36 rfl ?_
  refine fk_if_eq (tgt := 48) dX11_ahead_37 (by decide) hf (fun hf => ?_) (fun hf => ?_)
  · refine ft_iconst (v := 0) dX11_ahead_48 rfl ?_
    exact fk_reti hf dX11_ahead_49 rfl rfl
  · refine ft_aload_n dX11_ahead_40 rfl ?_
    refine ft_getI fl_X11_234 rfl (sh_78) (by decide) dX11_ahead_41 ?_
    refine ft_iconst (v := 5) dX11_ahead_44 rfl ?_
    refine fk_icmp_ne (tgt := 50) dX11_ahead_45 (by decide) hf (fun hf => ?_) (fun hf => ?_)
    · refine ft_aload_n dX11_ahead_50 rfl ?_
      refine ft_dup dX11_ahead_51 rfl ?_
      refine ft_getI fl_X11_234 rfl (sh_78) (by decide) dX11_ahead_52 ?_
      refine ft_iconst (v := 1) dX11_ahead_55 rfl ?_
      refine ft_iadd dX11_ahead_56 ?_
      refine ft_putI fl_X11_234 rfl (fun q h => by cases h; rfl) (sh_78) (by decide) dX11_ahead_57 ?_
      refine ft_aload_n dX11_ahead_60 rfl ?_
      refine ft_bipush (v := 40) dX11_ahead_61 rfl ?_
      obtain ⟨r63, hc63, hf⟩ := fq_vs hf
      refine ft_V1p cf_X11_241 (sh_78) (t_X11_isSign hc63) (Nat.le_of_ble_eq_true rfl) dX11_ahead_63 ?_
      refine fk_if_eq (tgt := 98) dX11_ahead_66 (by decide) hf (fun hf => ?_) (fun hf => ?_)
      · refine ft_aload_n dX11_ahead_98 rfl ?_
        refine ft_aload_n dX11_ahead_99 rfl ?_
        refine ft_getI fl_X11_190 rfl (sh_78) (by decide) dX11_ahead_100 ?_
        refine ft_iconst (v := 4) dX11_ahead_103 rfl ?_
        refine fk_icmp_ne (tgt := 112) dX11_ahead_104 (by decide) hf (fun hf => ?_) (fun hf => ?_)
        · refine ft_bipush (v := 14) dX11_ahead_112 rfl ?_
          obtain ⟨I114, hc114, hf⟩ := fq_us hf
          refine ft_V1v cf_X11_257 (sh_78) (t_X11_await hc114) (Nat.le_of_ble_eq_true rfl) dX11_ahead_114 (fun J P' q => ?_)
          obtain ⟨rfl, rfl⟩ := q
          refine ft_iconst (v := 1) dX11_ahead_117 rfl ?_
          exact fk_reti hf dX11_ahead_118 rfl rfl
        · refine ft_bipush (v := 13) dX11_ahead_107 rfl ?_
          refine ft_goto (tgt := 114) dX11_ahead_109 (by decide) ?_
          obtain ⟨I114, hc114, hf⟩ := fq_us hf
          refine ft_V1v cf_X11_257 (sh_78) (t_X11_await hc114) (Nat.le_of_ble_eq_true rfl) dX11_ahead_114 (fun J P' q => ?_)
          obtain ⟨rfl, rfl⟩ := q
          refine ft_iconst (v := 1) dX11_ahead_117 rfl ?_
          exact fk_reti hf dX11_ahead_118 rfl rfl
      · refine ft_aload_n dX11_ahead_69 rfl ?_
        refine ft_bipush (v := 15) dX11_ahead_70 rfl ?_
        obtain ⟨I72, hc72, hf⟩ := fq_us hf
        refine ft_V1v cf_X11_257 (sh_78) (t_X11_await hc72) (Nat.le_of_ble_eq_true rfl) dX11_ahead_72 (fun J P' q => ?_)
        obtain ⟨rfl, rfl⟩ := q
        refine ft_aload_n dX11_ahead_75 rfl ?_
        refine ft_dup dX11_ahead_76 rfl ?_
        refine ft_getI fl_X11_251 rfl (sh_78) (by decide) dX11_ahead_77 ?_
        refine ft_iconst (v := 1) dX11_ahead_80 rfl ?_
        refine ft_iadd dX11_ahead_81 ?_
        refine ft_putI fl_X11_251 rfl (fun q h => by cases h; rfl) (sh_78) (by decide) dX11_ahead_82 ?_
        refine ft_aload_n dX11_ahead_85 rfl ?_
        refine ft_getR fl_X11_247 rfl (sh_78) (by decide) pt_78_54 dX11_ahead_86 ?_
        refine ft_aload_n dX11_ahead_89 rfl ?_
        refine ft_getI fl_X11_251 rfl (sh_78) (by decide) dX11_ahead_90 ?_
        refine ft_iconst (v := 0) dX11_ahead_93 rfl ?_
        refine fk_zast (sh_114) hf dX11_ahead_94 (fun hf => ?_)
        refine ft_goto (tgt := 117) dX11_ahead_95 (by decide) ?_
        refine ft_iconst (v := 1) dX11_ahead_117 rfl ?_
        exact fk_reti hf dX11_ahead_118 rfl rfl
    · refine ft_iconst (v := 0) dX11_ahead_48 rfl ?_
      exact fk_reti hf dX11_ahead_49 rfl rfl
set_option maxHeartbeats 4000000 in
set_option maxRecDepth 100000 in
theorem t_X11_ahead_30 {d : Nat} {v : Nat} {r : Int32} {J : fc_I} : ∀ (I : fc_I) , f_X11_ahead_30  I = some (r, J) → fc_T X11_ahead (d + 1) 0 0 30 [some (.ref 78), none, none] [] fc_SH I (fc_PT v) (fc_Qi fc_SH (fun r' I' P' => r' = r ∧ I' = J ∧ P' = (fc_PT v))) := by
  intro I hf
  unfold f_X11_ahead_30 at hf
  refine ft_iconst (v := 1) dX11_ahead_30 rfl ?_
  refine ft_goto (tgt := 35) dX11_ahead_31 (by decide) ?_
  exact ft_forget (by simp [fc_le, fc_st1, fc_st2, fc_kill]) (t_X11_ahead_35    _ _ hf)
set_option maxHeartbeats 4000000 in
set_option maxRecDepth 100000 in
theorem t_X11_ahead_34 {d : Nat} {v : Nat} {r : Int32} {J : fc_I} : ∀ (I : fc_I) , f_X11_ahead_34  I = some (r, J) → fc_T X11_ahead (d + 1) 0 0 34 [some (.ref 78), none, none] [] fc_SH I (fc_PT v) (fc_Qi fc_SH (fun r' I' P' => r' = r ∧ I' = J ∧ P' = (fc_PT v))) := by
  intro I hf
  unfold f_X11_ahead_34 at hf
  refine ft_iconst (v := 0) dX11_ahead_34 rfl ?_
  exact ft_forget (by simp [fc_le, fc_st1, fc_st2, fc_kill]) (t_X11_ahead_35    _ _ hf)
set_option maxHeartbeats 4000000 in
set_option maxRecDepth 100000 in
theorem t_X11_ahead {d : Nat} {v : Nat} {r : Int32} {J : fc_I} {I : fc_I} {x1 : Int32} (hf : f_X11_ahead I x1 = some (r, J)) : fc_Ci X11_ahead (d + 1) [.ref 78, .int x1] fc_SH I (fc_PT v) (fun r' I' P' => r' = r ∧ I' = J ∧ P' = (fc_PT v)) := by
  unfold f_X11_ahead at hf
  refine fc_Ci.of (ls := [some (.ref 78), some (.int x1), none]) ⟨rfl, rfl⟩ (Nat.le_of_ble_eq_true rfl) rfl ?_
  refine ft_aload_n dX11_ahead_0 rfl ?_
  refine ft_bipush (v := 40) dX11_ahead_1 rfl ?_
  obtain ⟨r3, hc3, hf⟩ := fq_vs hf
  refine ft_V1p cf_X11_241 (sh_78) (t_X11_isSign hc3) (Nat.le_of_ble_eq_true rfl) dX11_ahead_3 ?_
  refine fk_if_ne (tgt := 30) dX11_ahead_6 (by decide) hf (fun hf => ?_) (fun hf => ?_)
  · exact ft_forget (by simp [fc_le, fc_st1, fc_st2, fc_kill]) (t_X11_ahead_30    _ hf)
  · refine ft_aload_n dX11_ahead_9 rfl ?_
    refine ft_bipush (v := 45) dX11_ahead_10 rfl ?_
    obtain ⟨r12, hc12, hf⟩ := fq_vs hf
    refine ft_V1p cf_X11_241 (sh_78) (t_X11_isSign hc12) (Nat.le_of_ble_eq_true rfl) dX11_ahead_12 ?_
    refine fk_if_ne (tgt := 30) dX11_ahead_15 (by decide) hf (fun hf => ?_) (fun hf => ?_)
    · exact ft_forget (by simp [fc_le, fc_st1, fc_st2, fc_kill]) (t_X11_ahead_30    _ hf)
    · refine ft_iload_n dX11_ahead_18 rfl ?_
      refine fk_if_eq (tgt := 34) dX11_ahead_19 (by decide) hf (fun hf => ?_) (fun hf => ?_)
      · exact ft_forget (by simp [fc_le, fc_st1, fc_st2, fc_kill]) (t_X11_ahead_34    _ hf)
      · refine ft_aload_n dX11_ahead_22 rfl ?_
        refine ft_iconst (v := 4) dX11_ahead_23 rfl ?_
        obtain ⟨r24, hc24, hf⟩ := fq_vs hf
        refine ft_V1p cf_X11_244 (sh_78) (t_X11_isKey hc24) (Nat.le_of_ble_eq_true rfl) dX11_ahead_24 ?_
        refine fk_if_eq (tgt := 34) dX11_ahead_27 (by decide) hf (fun hf => ?_) (fun hf => ?_)
        · exact ft_forget (by simp [fc_le, fc_st1, fc_st2, fc_kill]) (t_X11_ahead_34    _ hf)
        · exact ft_forget (by simp [fc_le, fc_st1, fc_st2, fc_kill]) (t_X11_ahead_30    _ hf)
def f_X11_isIn (x0 : Int64) (x2 : Int64) (x4 : Int64) : Option Int32 :=
if (lg_cmp x0 x2).toInt < 0 then (
some 0)
else (
if 0 < (lg_cmp x0 x4).toInt then (
some 0)
else (
some 1))
set_option maxHeartbeats 4000000 in
set_option maxRecDepth 100000 in
theorem t_X11_isIn {d : Nat} {sh : fc_Sh} {P : fc_P} {r : Int32} {I : fc_I} {x0 : Int64} {x2 : Int64} {x4 : Int64} (hf : f_X11_isIn  x0 x2 x4 = some r) : fc_Cp X11_isIn d [.long x0, .long x2, .long x4] sh I P r := by
  unfold f_X11_isIn at hf
  refine fc_Cp.of (ls := [some (.long x0), none, some (.long x2), none, some (.long x4), none]) ⟨rfl, rfl⟩ (Nat.le_of_ble_eq_true rfl) rfl ?_
  refine ft_lload_n dX11_isIn_0 rfl ?_
  refine ft_lload_n dX11_isIn_1 rfl ?_
  refine ft_lcmp dX11_isIn_2 ?_
  refine fk_if_lt (tgt := 17) dX11_isIn_3 (by decide) hf (fun hf => ?_) (fun hf => ?_)
  · refine ft_iconst (v := 0) dX11_isIn_17 rfl ?_
    exact fk_retp hf dX11_isIn_18 rfl rfl
  · refine ft_lload_n dX11_isIn_6 rfl ?_
    refine ft_lload dX11_isIn_7 rfl ?_
    refine ft_lcmp dX11_isIn_9 ?_
    refine fk_if_gt (tgt := 17) dX11_isIn_10 (by decide) hf (fun hf => ?_) (fun hf => ?_)
    · refine ft_iconst (v := 0) dX11_isIn_17 rfl ?_
      exact fk_retp hf dX11_isIn_18 rfl rfl
    · refine ft_iconst (v := 1) dX11_isIn_13 rfl ?_
      refine ft_goto (tgt := 18) dX11_isIn_14 (by decide) ?_
      exact fk_retp hf dX11_isIn_18 rfl rfl
def f_X11_isWet (I : fc_I) (x1 : Int32) (x2 : Int32) (x3 : Int32) : Option Int32 :=
fq_g 183 (((61 : Int32) * x2) + x3) (
fq_g 6 x1 (
if (I 79 (cn x1)).toInt < (I 106 (cn (((61 : Int32) * x2) + x3))).toInt then (
some 1)
else (
some 0)))
set_option maxHeartbeats 4000000 in
set_option maxRecDepth 100000 in
theorem t_X11_isWet {d : Nat} {v : Nat} {r : Int32} {I : fc_I} {x1 : Int32} {x2 : Int32} {x3 : Int32} (hf : f_X11_isWet I x1 x2 x3 = some r) : fc_Cp X11_isWet d [.ref 78, .int x1, .int x2, .int x3] fc_SH I (fc_PT v) r := by
  unfold f_X11_isWet at hf
  refine fc_Cp.of (ls := [some (.ref 78), some (.int x1), some (.int x2), some (.int x3)]) ⟨rfl, rfl⟩ (Nat.le_of_ble_eq_true rfl) rfl ?_
  refine ft_aload_n dX11_isWet_0 rfl ?_
  refine ft_getR fl_X11_131 rfl (sh_78) (by decide) pt_78_36 dX11_isWet_1 ?_
  refine ft_bipush (v := 61) dX11_isWet_4 rfl ?_
  refine ft_iload_n dX11_isWet_6 rfl ?_
  refine ft_imul dX11_isWet_7 ?_
  refine ft_iload_n dX11_isWet_8 rfl ?_
  refine ft_iadd dX11_isWet_9 ?_
  refine fk_iald (sh_106) hf dX11_isWet_10 (fun hf => ?_)
  refine ft_aload_n dX11_isWet_11 rfl ?_
  refine ft_getR fl_X11_29 rfl (sh_78) (by decide) pt_78_3 dX11_isWet_12 ?_
  refine ft_iload_n dX11_isWet_15 rfl ?_
  refine fk_iald (sh_79) hf dX11_isWet_16 (fun hf => ?_)
  refine fk_icmp_le (tgt := 24) dX11_isWet_17 (by decide) hf (fun hf => ?_) (fun hf => ?_)
  · refine ft_iconst (v := 0) dX11_isWet_24 rfl ?_
    exact fk_retp hf dX11_isWet_25 rfl rfl
  · refine ft_iconst (v := 1) dX11_isWet_20 rfl ?_
    refine ft_goto (tgt := 25) dX11_isWet_21 (by decide) ?_
    exact fk_retp hf dX11_isWet_25 rfl rfl
def f_X11_done (x0 : Int32) (x1 : Int32) (x2 : Int32) : Option Int32 :=
if x0.toInt = 6 then (
some (x1 + x2))
else if x0.toInt = 7 then (
some (x1 - x2))
else if x0.toInt = 8 then (
some (x1 * x2))
else if x0.toInt = 9 then (
if x1.toInt < x2.toInt then (
some 1)
else (
some 0))
else if x0.toInt = 10 then (
if x1.toInt = x2.toInt then (
some 1)
else (
some 0))
else if x0.toInt = 11 then (
if x1.toInt = 0 then (
some 0)
else (
if x2.toInt = 0 then (
some 0)
else (
some 1)))
else (
if x1.toInt = 0 then (
if x2.toInt = 0 then (
some 0)
else (
some 1))
else (
some 1))
set_option maxHeartbeats 4000000 in
set_option maxRecDepth 100000 in
theorem t_X11_done {d : Nat} {sh : fc_Sh} {P : fc_P} {r : Int32} {I : fc_I} {x0 : Int32} {x1 : Int32} {x2 : Int32} (hf : f_X11_done  x0 x1 x2 = some r) : fc_Cp X11_done d [.int x0, .int x1, .int x2] sh I P r := by
  unfold f_X11_done at hf
  refine fc_Cp.of (ls := [some (.int x0), some (.int x1), some (.int x2)]) ⟨rfl, rfl⟩ (Nat.le_of_ble_eq_true rfl) rfl ?_
  refine ft_iload_n dX11_done_0 rfl ?_
  rcases fq_is hf with ⟨e_1_0, hf⟩ | ⟨e_1_0, hf⟩
  · refine ft_tsIn (tgt := 40) dX11_done_1 (by rw [e_1_0]; decide) (by rw [e_1_0]; decide) (by rw [e_1_0]; rfl) (by decide) ?_
    refine ft_iload_n dX11_done_40 rfl ?_
    refine ft_iload_n dX11_done_41 rfl ?_
    refine ft_iadd dX11_done_42 ?_
    exact fk_retp hf dX11_done_43 rfl rfl
  rcases fq_is hf with ⟨e_1_1, hf⟩ | ⟨e_1_1, hf⟩
  · refine ft_tsIn (tgt := 44) dX11_done_1 (by rw [e_1_1]; decide) (by rw [e_1_1]; decide) (by rw [e_1_1]; rfl) (by decide) ?_
    refine ft_iload_n dX11_done_44 rfl ?_
    refine ft_iload_n dX11_done_45 rfl ?_
    refine ft_isub dX11_done_46 ?_
    exact fk_retp hf dX11_done_47 rfl rfl
  rcases fq_is hf with ⟨e_1_2, hf⟩ | ⟨e_1_2, hf⟩
  · refine ft_tsIn (tgt := 48) dX11_done_1 (by rw [e_1_2]; decide) (by rw [e_1_2]; decide) (by rw [e_1_2]; rfl) (by decide) ?_
    refine ft_iload_n dX11_done_48 rfl ?_
    refine ft_iload_n dX11_done_49 rfl ?_
    refine ft_imul dX11_done_50 ?_
    exact fk_retp hf dX11_done_51 rfl rfl
  rcases fq_is hf with ⟨e_1_3, hf⟩ | ⟨e_1_3, hf⟩
  · refine ft_tsIn (tgt := 52) dX11_done_1 (by rw [e_1_3]; decide) (by rw [e_1_3]; decide) (by rw [e_1_3]; rfl) (by decide) ?_
    refine ft_iload_n dX11_done_52 rfl ?_
    refine ft_iload_n dX11_done_53 rfl ?_
    refine fk_icmp_ge (tgt := 61) dX11_done_54 (by decide) hf (fun hf => ?_) (fun hf => ?_)
    · refine ft_iconst (v := 0) dX11_done_61 rfl ?_
      exact fk_retp hf dX11_done_62 rfl rfl
    · refine ft_iconst (v := 1) dX11_done_57 rfl ?_
      refine ft_goto (tgt := 62) dX11_done_58 (by decide) ?_
      exact fk_retp hf dX11_done_62 rfl rfl
  rcases fq_is hf with ⟨e_1_4, hf⟩ | ⟨e_1_4, hf⟩
  · refine ft_tsIn (tgt := 63) dX11_done_1 (by rw [e_1_4]; decide) (by rw [e_1_4]; decide) (by rw [e_1_4]; rfl) (by decide) ?_
    refine ft_iload_n dX11_done_63 rfl ?_
    refine ft_iload_n dX11_done_64 rfl ?_
    refine fk_icmp_ne (tgt := 72) dX11_done_65 (by decide) hf (fun hf => ?_) (fun hf => ?_)
    · refine ft_iconst (v := 0) dX11_done_72 rfl ?_
      exact fk_retp hf dX11_done_73 rfl rfl
    · refine ft_iconst (v := 1) dX11_done_68 rfl ?_
      refine ft_goto (tgt := 73) dX11_done_69 (by decide) ?_
      exact fk_retp hf dX11_done_73 rfl rfl
  rcases fq_is hf with ⟨e_1_5, hf⟩ | ⟨e_1_5, hf⟩
  · refine ft_tsIn (tgt := 74) dX11_done_1 (by rw [e_1_5]; decide) (by rw [e_1_5]; decide) (by rw [e_1_5]; rfl) (by decide) ?_
    refine ft_iload_n dX11_done_74 rfl ?_
    refine fk_if_eq (tgt := 86) dX11_done_75 (by decide) hf (fun hf => ?_) (fun hf => ?_)
    · refine ft_iconst (v := 0) dX11_done_86 rfl ?_
      exact fk_retp hf dX11_done_87 rfl rfl
    · refine ft_iload_n dX11_done_78 rfl ?_
      refine fk_if_eq (tgt := 86) dX11_done_79 (by decide) hf (fun hf => ?_) (fun hf => ?_)
      · refine ft_iconst (v := 0) dX11_done_86 rfl ?_
        exact fk_retp hf dX11_done_87 rfl rfl
      · refine ft_iconst (v := 1) dX11_done_82 rfl ?_
        refine ft_goto (tgt := 87) dX11_done_83 (by decide) ?_
        exact fk_retp hf dX11_done_87 rfl rfl
  refine ft_tsOut (tgt := 88) dX11_done_1 (by omega) (by decide) ?_
  refine ft_iload_n dX11_done_88 rfl ?_
  refine fk_if_ne (tgt := 96) dX11_done_89 (by decide) hf (fun hf => ?_) (fun hf => ?_)
  · refine ft_iconst (v := 1) dX11_done_96 rfl ?_
    refine ft_goto (tgt := 101) dX11_done_97 (by decide) ?_
    exact fk_retp hf dX11_done_101 rfl rfl
  · refine ft_iload_n dX11_done_92 rfl ?_
    refine fk_if_eq (tgt := 100) dX11_done_93 (by decide) hf (fun hf => ?_) (fun hf => ?_)
    · refine ft_iconst (v := 0) dX11_done_100 rfl ?_
      exact fk_retp hf dX11_done_101 rfl rfl
    · refine ft_iconst (v := 1) dX11_done_96 rfl ?_
      refine ft_goto (tgt := 101) dX11_done_97 (by decide) ?_
      exact fk_retp hf dX11_done_101 rfl rfl
def f_X11_nameOf (I : fc_I) (x1 : Int32) (x2 : Int32) (x3 : Int32) (x4 : Int32) : Option Int32 :=
if x1.toInt = 0 then (
fq_g 6 x2 (
if (I 83 (cn x2)).toInt = ((-1) : Int32).toInt then (
some 0)
else (
fq_g 6 x2 (
some (x4 - (I 83 (cn x2)))))))
else if x1.toInt = 1 then (
fq_g 6 x2 (
some (I 79 (cn x2))))
else if x1.toInt = 2 then (
fq_g 183 (((61 : Int32) * x3) + x4) (
some (I 107 (cn (((61 : Int32) * x3) + x4)))))
else if x1.toInt = 3 then (
fq_g 6 x2 (
some (I 80 (cn x2))))
else if x1.toInt = 4 then (
fq_g 6 x2 (
some (I 81 (cn x2))))
else (
some x2)
set_option maxHeartbeats 4000000 in
set_option maxRecDepth 100000 in
theorem t_X11_nameOf {d : Nat} {v : Nat} {r : Int32} {I : fc_I} {x1 : Int32} {x2 : Int32} {x3 : Int32} {x4 : Int32} (hf : f_X11_nameOf I x1 x2 x3 x4 = some r) : fc_Cp X11_nameOf d [.ref 78, .int x1, .int x2, .int x3, .int x4] fc_SH I (fc_PT v) r := by
  unfold f_X11_nameOf at hf
  refine fc_Cp.of (ls := [some (.ref 78), some (.int x1), some (.int x2), some (.int x3), some (.int x4)]) ⟨rfl, rfl⟩ (Nat.le_of_ble_eq_true rfl) rfl ?_
  refine ft_iload_n dX11_nameOf_0 rfl ?_
  rcases fq_is hf with ⟨e_1_0, hf⟩ | ⟨e_1_0, hf⟩
  · refine ft_tsIn (tgt := 36) dX11_nameOf_1 (by rw [e_1_0]; decide) (by rw [e_1_0]; decide) (by rw [e_1_0]; rfl) (by decide) ?_
    refine ft_aload_n dX11_nameOf_36 rfl ?_
    refine ft_getR fl_X11_96 rfl (sh_78) (by decide) pt_78_7 dX11_nameOf_37 ?_
    refine ft_iload_n dX11_nameOf_40 rfl ?_
    refine fk_iald (sh_83) hf dX11_nameOf_41 (fun hf => ?_)
    refine ft_iconst (v := (-1)) dX11_nameOf_42 rfl ?_
    refine fk_icmp_ne (tgt := 50) dX11_nameOf_43 (by decide) hf (fun hf => ?_) (fun hf => ?_)
    · refine ft_iload dX11_nameOf_50 rfl ?_
      refine ft_aload_n dX11_nameOf_52 rfl ?_
      refine ft_getR fl_X11_96 rfl (sh_78) (by decide) pt_78_7 dX11_nameOf_53 ?_
      refine ft_iload_n dX11_nameOf_56 rfl ?_
      refine fk_iald (sh_83) hf dX11_nameOf_57 (fun hf => ?_)
      refine ft_isub dX11_nameOf_58 ?_
      exact fk_retp hf dX11_nameOf_59 rfl rfl
    · refine ft_iconst (v := 0) dX11_nameOf_46 rfl ?_
      refine ft_goto (tgt := 59) dX11_nameOf_47 (by decide) ?_
      exact fk_retp hf dX11_nameOf_59 rfl rfl
  rcases fq_is hf with ⟨e_1_1, hf⟩ | ⟨e_1_1, hf⟩
  · refine ft_tsIn (tgt := 60) dX11_nameOf_1 (by rw [e_1_1]; decide) (by rw [e_1_1]; decide) (by rw [e_1_1]; rfl) (by decide) ?_
    refine ft_aload_n dX11_nameOf_60 rfl ?_
    refine ft_getR fl_X11_29 rfl (sh_78) (by decide) pt_78_3 dX11_nameOf_61 ?_
    refine ft_iload_n dX11_nameOf_64 rfl ?_
    refine fk_iald (sh_79) hf dX11_nameOf_65 (fun hf => ?_)
    exact fk_retp hf dX11_nameOf_66 rfl rfl
  rcases fq_is hf with ⟨e_1_2, hf⟩ | ⟨e_1_2, hf⟩
  · refine ft_tsIn (tgt := 67) dX11_nameOf_1 (by rw [e_1_2]; decide) (by rw [e_1_2]; decide) (by rw [e_1_2]; rfl) (by decide) ?_
    refine ft_aload_n dX11_nameOf_67 rfl ?_
    refine ft_getR fl_X11_168 rfl (sh_78) (by decide) pt_78_37 dX11_nameOf_68 ?_
    refine ft_bipush (v := 61) dX11_nameOf_71 rfl ?_
    refine ft_iload_n dX11_nameOf_73 rfl ?_
    refine ft_imul dX11_nameOf_74 ?_
    refine ft_iload dX11_nameOf_75 rfl ?_
    refine ft_iadd dX11_nameOf_77 ?_
    refine fk_iald (sh_107) hf dX11_nameOf_78 (fun hf => ?_)
    exact fk_retp hf dX11_nameOf_79 rfl rfl
  rcases fq_is hf with ⟨e_1_3, hf⟩ | ⟨e_1_3, hf⟩
  · refine ft_tsIn (tgt := 80) dX11_nameOf_1 (by rw [e_1_3]; decide) (by rw [e_1_3]; decide) (by rw [e_1_3]; rfl) (by decide) ?_
    refine ft_aload_n dX11_nameOf_80 rfl ?_
    refine ft_getR fl_X11_33 rfl (sh_78) (by decide) pt_78_4 dX11_nameOf_81 ?_
    refine ft_iload_n dX11_nameOf_84 rfl ?_
    refine fk_iald (sh_80) hf dX11_nameOf_85 (fun hf => ?_)
    exact fk_retp hf dX11_nameOf_86 rfl rfl
  rcases fq_is hf with ⟨e_1_4, hf⟩ | ⟨e_1_4, hf⟩
  · refine ft_tsIn (tgt := 87) dX11_nameOf_1 (by rw [e_1_4]; decide) (by rw [e_1_4]; decide) (by rw [e_1_4]; rfl) (by decide) ?_
    refine ft_aload_n dX11_nameOf_87 rfl ?_
    refine ft_getR fl_X11_93 rfl (sh_78) (by decide) pt_78_5 dX11_nameOf_88 ?_
    refine ft_iload_n dX11_nameOf_91 rfl ?_
    refine fk_iald (sh_81) hf dX11_nameOf_92 (fun hf => ?_)
    exact fk_retp hf dX11_nameOf_93 rfl rfl
  refine ft_tsOut (tgt := 94) dX11_nameOf_1 (by omega) (by decide) ?_
  refine ft_iload_n dX11_nameOf_94 rfl ?_
  exact fk_retp hf dX11_nameOf_95 rfl rfl
def f_X11_worthOf_16_B (x2 : Int32) (x3 : Int32) (x4 : Int32) (x5 : Int32) (k16 : Int32 → Int32 → fc_I → Option (Int32 × fc_I)) (x6 : Int32) (x7 : Int32) (I : fc_I) : Option (Int32 × fc_I) :=
fq_g 12 x5 (
if x7.toInt < (I 110 (cn x5)).toInt then (
fq_g 1920 (((160 : Int32) * x5) + x7) (
fq_l ((I 109 (cn (((160 : Int32) * x5) + x7)))) fun y42 =>
if y42.toInt < 0 then (
fq_g 170 x6 (fq_l (fc_wI I 115 (cn x6) (((-1) : Int32) - y42)) fun I59 =>
fq_l (x6 + 1) fun y60 =>
fq_l (x7 + 1) fun y194 =>
k16 y60 y194 I59))
else (
if y42.toInt < (6 : Int32).toInt then (
fq_v (f_X11_nameOf I y42 x2 x3 x4) fun r86 =>
fq_g 170 x6 (fq_l (fc_wI I 115 (cn x6) r86) fun I89 =>
fq_l (x6 + 1) fun y90 =>
fq_l (x7 + 1) fun y194 =>
k16 y90 y194 I89))
else (
if y42.toInt = (13 : Int32).toInt then (
fq_g 170 (x6 - 1) (
if (I 115 (cn (x6 - 1))).toInt = 0 then (
fq_g 170 (x6 - 1) (fq_l (fc_wI I 115 (cn (x6 - 1)) 1) fun I128 =>
fq_l (x7 + 1) fun y194 =>
k16 x6 y194 I128))
else (
fq_g 170 (x6 - 1) (fq_l (fc_wI I 115 (cn (x6 - 1)) 0) fun I128 =>
fq_l (x7 + 1) fun y194 =>
k16 x6 y194 I128))))
else (
if y42.toInt = (14 : Int32).toInt then (
fq_g 170 (x6 - 1) (
fq_g 170 (x6 - 1) (fq_l (fc_wI I 115 (cn (x6 - 1)) (-(I 115 (cn (x6 - 1))))) fun I157 =>
fq_l (x7 + 1) fun y194 =>
k16 x6 y194 I157)))
else (
fq_l (x6 + (-1)) fun y161 =>
fq_g 170 (y161 - 1) (
fq_g 170 y161 (
fq_v (f_X11_done y42 (I 115 (cn (y161 - 1))) (I 115 (cn y161))) fun r190 =>
fq_g 170 (y161 - 1) (fq_l (fc_wI I 115 (cn (y161 - 1)) r190) fun I193 =>
fq_l (x7 + 1) fun y194 =>
k16 y161 y194 I193)))))))))
else (
fq_g 170 0 (
some ((I 115 (cn 0)), I))))
def f_X11_worthOf_16 (x2 : Int32) (x3 : Int32) (x4 : Int32) (x5 : Int32) (n : Nat) : Int32 → Int32 → fc_I → Option (Int32 × fc_I) := lpm2 (f_X11_worthOf_16_B x2 x3 x4 x5 ) n
def f_X11_worthOf (I : fc_I) (x1 : Int32) (x2 : Int32) (x3 : Int32) (x4 : Int32) : Option (Int32 × fc_I) :=
fq_l ((((2 : Int32) * (I 78 41)) + x1)) fun y8 =>
f_X11_worthOf_16 x2 x3 x4 y8 4000 0 0 I
set_option maxHeartbeats 4000000 in
set_option maxRecDepth 100000 in
theorem t_X11_worthOf_16 {d : Nat} {v : Nat} {r : Int32} {J : fc_I} {x2 : Int32} {x3 : Int32} {x4 : Int32} {x5 : Int32} : ∀ (n : Nat) (x6 : Int32) (x7 : Int32) (I : fc_I) , f_X11_worthOf_16 x2 x3 x4 x5 n x6 x7 I = some (r, J) → fc_T X11_worthOf (d + 1) 0 0 16 [some (.ref 78), none, some (.int x2), some (.int x3), some (.int x4), some (.int x5), some (.int x6), some (.int x7), none] [] fc_SH I (fc_PT v) (fc_Qi fc_SH (fun r' I' P' => r' = r ∧ I' = J ∧ P' = (fc_PT v))) := by
  unfold f_X11_worthOf_16
  refine lpm2_T (fun k16 hk16 x6 x7 I hf => ?_)
  unfold f_X11_worthOf_16_B at hf
  refine ft_iload dX11_worthOf_16 rfl ?_
  refine ft_aload_n dX11_worthOf_18 rfl ?_
  refine ft_getR fl_X11_264 rfl (sh_78) (by decide) pt_78_43 dX11_worthOf_19 ?_
  refine ft_iload dX11_worthOf_22 rfl ?_
  refine fk_iald (sh_110) hf dX11_worthOf_24 (fun hf => ?_)
  refine fk_icmp_ge (tgt := 200) dX11_worthOf_25 (by decide) hf (fun hf => ?_) (fun hf => ?_)
  · refine ft_aload_n dX11_worthOf_200 rfl ?_
    refine ft_getR fl_X11_289 rfl (sh_78) (by decide) pt_78_57 dX11_worthOf_201 ?_
    refine ft_iconst (v := 0) dX11_worthOf_204 rfl ?_
    refine fk_iald (sh_115) hf dX11_worthOf_205 (fun hf => ?_)
    exact fk_reti hf dX11_worthOf_206 rfl rfl
  · refine ft_aload_n dX11_worthOf_28 rfl ?_
    refine ft_getR fl_X11_216 rfl (sh_78) (by decide) pt_78_42 dX11_worthOf_29 ?_
    refine ft_sipush (v := 160) dX11_worthOf_32 rfl ?_
    refine ft_iload dX11_worthOf_35 rfl ?_
    refine ft_imul dX11_worthOf_37 ?_
    refine ft_iload dX11_worthOf_38 rfl ?_
    refine ft_iadd dX11_worthOf_40 ?_
    refine fk_iald (sh_109) hf dX11_worthOf_41 (fun hf => ?_)
    refine ft_istore dX11_worthOf_42 (by decide) ?_
    refine ft_iload dX11_worthOf_44 rfl ?_
    refine fk_if_ge (tgt := 66) dX11_worthOf_46 (by decide) hf (fun hf => ?_) (fun hf => ?_)
    · refine ft_iload dX11_worthOf_66 rfl ?_
      refine ft_bipush (v := 6) dX11_worthOf_68 rfl ?_
      refine fk_icmp_ge (tgt := 96) dX11_worthOf_70 (by decide) hf (fun hf => ?_) (fun hf => ?_)
      · refine ft_iload dX11_worthOf_96 rfl ?_
        refine ft_bipush (v := 13) dX11_worthOf_98 rfl ?_
        refine fk_icmp_ne (tgt := 132) dX11_worthOf_100 (by decide) hf (fun hf => ?_) (fun hf => ?_)
        · refine ft_iload dX11_worthOf_132 rfl ?_
          refine ft_bipush (v := 14) dX11_worthOf_134 rfl ?_
          refine fk_icmp_ne (tgt := 161) dX11_worthOf_136 (by decide) hf (fun hf => ?_) (fun hf => ?_)
          · refine fk_iinc (c := (-1)) dX11_worthOf_161 rfl (by decide) rfl ?_
            refine ft_aload_n dX11_worthOf_164 rfl ?_
            refine ft_getR fl_X11_289 rfl (sh_78) (by decide) pt_78_57 dX11_worthOf_165 ?_
            refine ft_iload dX11_worthOf_168 rfl ?_
            refine ft_iconst (v := 1) dX11_worthOf_170 rfl ?_
            refine ft_isub dX11_worthOf_171 ?_
            refine ft_iload dX11_worthOf_172 rfl ?_
            refine ft_aload_n dX11_worthOf_174 rfl ?_
            refine ft_getR fl_X11_289 rfl (sh_78) (by decide) pt_78_57 dX11_worthOf_175 ?_
            refine ft_iload dX11_worthOf_178 rfl ?_
            refine ft_iconst (v := 1) dX11_worthOf_180 rfl ?_
            refine ft_isub dX11_worthOf_181 ?_
            refine fk_iald (sh_115) hf dX11_worthOf_182 (fun hf => ?_)
            refine ft_aload_n dX11_worthOf_183 rfl ?_
            refine ft_getR fl_X11_289 rfl (sh_78) (by decide) pt_78_57 dX11_worthOf_184 ?_
            refine ft_iload dX11_worthOf_187 rfl ?_
            refine fk_iald (sh_115) hf dX11_worthOf_189 (fun hf => ?_)
            obtain ⟨r190, hc190, hf⟩ := fq_vs hf
            refine ft_S3p cf_X11_296 (t_X11_done hc190) (Nat.le_of_ble_eq_true rfl) dX11_worthOf_190 ?_
            refine fk_iast (sh_115) hf dX11_worthOf_193 (fun hf => ?_)
            refine fk_iinc (c := 1) dX11_worthOf_194 rfl (by decide) rfl ?_
            refine ft_goto (tgt := 16) dX11_worthOf_197 (by decide) ?_
            exact ft_forget (by simp [fc_le, fc_st1, fc_st2, fc_kill]) (hk16 _ _ _ hf)
          · refine ft_aload_n dX11_worthOf_139 rfl ?_
            refine ft_getR fl_X11_289 rfl (sh_78) (by decide) pt_78_57 dX11_worthOf_140 ?_
            refine ft_iload dX11_worthOf_143 rfl ?_
            refine ft_iconst (v := 1) dX11_worthOf_145 rfl ?_
            refine ft_isub dX11_worthOf_146 ?_
            refine ft_aload_n dX11_worthOf_147 rfl ?_
            refine ft_getR fl_X11_289 rfl (sh_78) (by decide) pt_78_57 dX11_worthOf_148 ?_
            refine ft_iload dX11_worthOf_151 rfl ?_
            refine ft_iconst (v := 1) dX11_worthOf_153 rfl ?_
            refine ft_isub dX11_worthOf_154 ?_
            refine fk_iald (sh_115) hf dX11_worthOf_155 (fun hf => ?_)
            refine ft_ineg dX11_worthOf_156 ?_
            refine fk_iast (sh_115) hf dX11_worthOf_157 (fun hf => ?_)
            refine ft_goto (tgt := 194) dX11_worthOf_158 (by decide) ?_
            refine fk_iinc (c := 1) dX11_worthOf_194 rfl (by decide) rfl ?_
            refine ft_goto (tgt := 16) dX11_worthOf_197 (by decide) ?_
            exact ft_forget (by simp [fc_le, fc_st1, fc_st2, fc_kill]) (hk16 _ _ _ hf)
        · refine ft_aload_n dX11_worthOf_103 rfl ?_
          refine ft_getR fl_X11_289 rfl (sh_78) (by decide) pt_78_57 dX11_worthOf_104 ?_
          refine ft_iload dX11_worthOf_107 rfl ?_
          refine ft_iconst (v := 1) dX11_worthOf_109 rfl ?_
          refine ft_isub dX11_worthOf_110 ?_
          refine ft_aload_n dX11_worthOf_111 rfl ?_
          refine ft_getR fl_X11_289 rfl (sh_78) (by decide) pt_78_57 dX11_worthOf_112 ?_
          refine ft_iload dX11_worthOf_115 rfl ?_
          refine ft_iconst (v := 1) dX11_worthOf_117 rfl ?_
          refine ft_isub dX11_worthOf_118 ?_
          refine fk_iald (sh_115) hf dX11_worthOf_119 (fun hf => ?_)
          refine fk_if_ne (tgt := 127) dX11_worthOf_120 (by decide) hf (fun hf => ?_) (fun hf => ?_)
          · refine ft_iconst (v := 0) dX11_worthOf_127 rfl ?_
            refine fk_iast (sh_115) hf dX11_worthOf_128 (fun hf => ?_)
            refine ft_goto (tgt := 194) dX11_worthOf_129 (by decide) ?_
            refine fk_iinc (c := 1) dX11_worthOf_194 rfl (by decide) rfl ?_
            refine ft_goto (tgt := 16) dX11_worthOf_197 (by decide) ?_
            exact ft_forget (by simp [fc_le, fc_st1, fc_st2, fc_kill]) (hk16 _ _ _ hf)
          · refine ft_iconst (v := 1) dX11_worthOf_123 rfl ?_
            refine ft_goto (tgt := 128) dX11_worthOf_124 (by decide) ?_
            refine fk_iast (sh_115) hf dX11_worthOf_128 (fun hf => ?_)
            refine ft_goto (tgt := 194) dX11_worthOf_129 (by decide) ?_
            refine fk_iinc (c := 1) dX11_worthOf_194 rfl (by decide) rfl ?_
            refine ft_goto (tgt := 16) dX11_worthOf_197 (by decide) ?_
            exact ft_forget (by simp [fc_le, fc_st1, fc_st2, fc_kill]) (hk16 _ _ _ hf)
      · refine ft_aload_n dX11_worthOf_73 rfl ?_
        refine ft_getR fl_X11_289 rfl (sh_78) (by decide) pt_78_57 dX11_worthOf_74 ?_
        refine ft_iload dX11_worthOf_77 rfl ?_
        refine ft_aload_n dX11_worthOf_79 rfl ?_
        refine ft_iload dX11_worthOf_80 rfl ?_
        refine ft_iload_n dX11_worthOf_82 rfl ?_
        refine ft_iload_n dX11_worthOf_83 rfl ?_
        refine ft_iload dX11_worthOf_84 rfl ?_
        obtain ⟨r86, hc86, hf⟩ := fq_vs hf
        refine ft_V4p cf_X11_292 (sh_78) (t_X11_nameOf hc86) (Nat.le_of_ble_eq_true rfl) dX11_worthOf_86 ?_
        refine fk_iast (sh_115) hf dX11_worthOf_89 (fun hf => ?_)
        refine fk_iinc (c := 1) dX11_worthOf_90 rfl (by decide) rfl ?_
        refine ft_goto (tgt := 194) dX11_worthOf_93 (by decide) ?_
        refine fk_iinc (c := 1) dX11_worthOf_194 rfl (by decide) rfl ?_
        refine ft_goto (tgt := 16) dX11_worthOf_197 (by decide) ?_
        exact ft_forget (by simp [fc_le, fc_st1, fc_st2, fc_kill]) (hk16 _ _ _ hf)
    · refine ft_aload_n dX11_worthOf_49 rfl ?_
      refine ft_getR fl_X11_289 rfl (sh_78) (by decide) pt_78_57 dX11_worthOf_50 ?_
      refine ft_iload dX11_worthOf_53 rfl ?_
      refine ft_iconst (v := (-1)) dX11_worthOf_55 rfl ?_
      refine ft_iload dX11_worthOf_56 rfl ?_
      refine ft_isub dX11_worthOf_58 ?_
      refine fk_iast (sh_115) hf dX11_worthOf_59 (fun hf => ?_)
      refine fk_iinc (c := 1) dX11_worthOf_60 rfl (by decide) rfl ?_
      refine ft_goto (tgt := 194) dX11_worthOf_63 (by decide) ?_
      refine fk_iinc (c := 1) dX11_worthOf_194 rfl (by decide) rfl ?_
      refine ft_goto (tgt := 16) dX11_worthOf_197 (by decide) ?_
      exact ft_forget (by simp [fc_le, fc_st1, fc_st2, fc_kill]) (hk16 _ _ _ hf)
set_option maxHeartbeats 4000000 in
set_option maxRecDepth 100000 in
theorem t_X11_worthOf {d : Nat} {v : Nat} {r : Int32} {J : fc_I} {I : fc_I} {x1 : Int32} {x2 : Int32} {x3 : Int32} {x4 : Int32} (hf : f_X11_worthOf I x1 x2 x3 x4 = some (r, J)) : fc_Ci X11_worthOf (d + 1) [.ref 78, .int x1, .int x2, .int x3, .int x4] fc_SH I (fc_PT v) (fun r' I' P' => r' = r ∧ I' = J ∧ P' = (fc_PT v)) := by
  unfold f_X11_worthOf at hf
  refine fc_Ci.of (ls := [some (.ref 78), some (.int x1), some (.int x2), some (.int x3), some (.int x4), none, none, none, none]) ⟨rfl, rfl⟩ (Nat.le_of_ble_eq_true rfl) rfl ?_
  refine ft_iconst (v := 2) dX11_worthOf_0 rfl ?_
  refine ft_aload_n dX11_worthOf_1 rfl ?_
  refine ft_getI fl_X11_286 rfl (sh_78) (by decide) dX11_worthOf_2 ?_
  refine ft_imul dX11_worthOf_5 ?_
  refine ft_iload_n dX11_worthOf_6 rfl ?_
  refine ft_iadd dX11_worthOf_7 ?_
  refine ft_istore dX11_worthOf_8 (by decide) ?_
  refine ft_iconst (v := 0) dX11_worthOf_10 rfl ?_
  refine ft_istore dX11_worthOf_11 (by decide) ?_
  refine ft_iconst (v := 0) dX11_worthOf_13 rfl ?_
  refine ft_istore dX11_worthOf_14 (by decide) ?_
  exact ft_forget (by simp [fc_le, fc_st1, fc_st2, fc_kill]) (t_X11_worthOf_16   _ _ _ _ hf)
def f_X11_emit (I : fc_I) (x1 : Int32) : Option fc_I :=
fq_g 1920 ((I 78 55) + (I 78 56)) (fq_l (fc_wI I 109 (cn ((I 78 55) + (I 78 56))) x1) fun I14 =>
fq_l (fc_wI I14 78 56 ((I14 78 56) + 1)) fun I22 =>
some I22)
set_option maxHeartbeats 4000000 in
set_option maxRecDepth 100000 in
theorem t_X11_emit {d : Nat} {v : Nat} {J : fc_I} {I : fc_I} {x1 : Int32} (hf : f_X11_emit I x1 = some J) : fc_Cv X11_emit d [.ref 78, .int x1] fc_SH I (fc_PT v) (fun I' P' => I' = J ∧ P' = (fc_PT v)) := by
  unfold f_X11_emit at hf
  refine fc_Cv.of (ls := [some (.ref 78), some (.int x1)]) ⟨rfl, rfl⟩ (Nat.le_of_ble_eq_true rfl) rfl ?_
  refine ft_aload_n dX11_emit_0 rfl ?_
  refine ft_getR fl_X11_216 rfl (sh_78) (by decide) pt_78_42 dX11_emit_1 ?_
  refine ft_aload_n dX11_emit_4 rfl ?_
  refine ft_getI fl_X11_219 rfl (sh_78) (by decide) dX11_emit_5 ?_
  refine ft_aload_n dX11_emit_8 rfl ?_
  refine ft_getI fl_X11_222 rfl (sh_78) (by decide) dX11_emit_9 ?_
  refine ft_iadd dX11_emit_12 ?_
  refine ft_iload_n dX11_emit_13 rfl ?_
  refine fk_iast (sh_109) hf dX11_emit_14 (fun hf => ?_)
  refine ft_aload_n dX11_emit_15 rfl ?_
  refine ft_dup dX11_emit_16 rfl ?_
  refine ft_getI fl_X11_222 rfl (sh_78) (by decide) dX11_emit_17 ?_
  refine ft_iconst (v := 1) dX11_emit_20 rfl ?_
  refine ft_iadd dX11_emit_21 ?_
  refine ft_putI fl_X11_222 rfl (fun q h => by cases h; rfl) (sh_78) (by decide) dX11_emit_22 ?_
  exact fk_retv hf dX11_emit_25 rfl
def f_X11_rank (x0 : Int32) : Option Int32 :=
if x0.toInt = (12 : Int32).toInt then (
some 1)
else (
if x0.toInt = (11 : Int32).toInt then (
some 2)
else (
if x0.toInt = (13 : Int32).toInt then (
some 3)
else (
if x0.toInt = (9 : Int32).toInt then (
some 4)
else (
if x0.toInt = (10 : Int32).toInt then (
some 4)
else (
if x0.toInt = (6 : Int32).toInt then (
some 5)
else (
if x0.toInt = (7 : Int32).toInt then (
some 5)
else (
if x0.toInt = (8 : Int32).toInt then (
some 6)
else (
if x0.toInt = (14 : Int32).toInt then (
some 7)
else (
some 0)))))))))
set_option maxHeartbeats 4000000 in
set_option maxRecDepth 100000 in
theorem t_X11_rank {d : Nat} {sh : fc_Sh} {P : fc_P} {r : Int32} {I : fc_I} {x0 : Int32} (hf : f_X11_rank  x0 = some r) : fc_Cp X11_rank d [.int x0] sh I P r := by
  unfold f_X11_rank at hf
  refine fc_Cp.of (ls := [some (.int x0)]) ⟨rfl, rfl⟩ (Nat.le_of_ble_eq_true rfl) rfl ?_
  refine ft_iload_n dX11_rank_0 rfl ?_
  refine ft_bipush (v := 12) dX11_rank_1 rfl ?_
  refine fk_icmp_ne (tgt := 10) dX11_rank_3 (by decide) hf (fun hf => ?_) (fun hf => ?_)
  · refine ft_iload_n dX11_rank_10 rfl ?_
    refine ft_bipush (v := 11) dX11_rank_11 rfl ?_
    refine fk_icmp_ne (tgt := 20) dX11_rank_13 (by decide) hf (fun hf => ?_) (fun hf => ?_)
    · refine ft_iload_n dX11_rank_20 rfl ?_
      refine ft_bipush (v := 13) dX11_rank_21 rfl ?_
      refine fk_icmp_ne (tgt := 30) dX11_rank_23 (by decide) hf (fun hf => ?_) (fun hf => ?_)
      · refine ft_iload_n dX11_rank_30 rfl ?_
        refine ft_bipush (v := 9) dX11_rank_31 rfl ?_
        refine fk_icmp_eq (tgt := 42) dX11_rank_33 (by decide) hf (fun hf => ?_) (fun hf => ?_)
        · refine ft_iconst (v := 4) dX11_rank_42 rfl ?_
          refine ft_goto (tgt := 85) dX11_rank_43 (by decide) ?_
          exact fk_retp hf dX11_rank_85 rfl rfl
        · refine ft_iload_n dX11_rank_36 rfl ?_
          refine ft_bipush (v := 10) dX11_rank_37 rfl ?_
          refine fk_icmp_ne (tgt := 46) dX11_rank_39 (by decide) hf (fun hf => ?_) (fun hf => ?_)
          · refine ft_iload_n dX11_rank_46 rfl ?_
            refine ft_bipush (v := 6) dX11_rank_47 rfl ?_
            refine fk_icmp_eq (tgt := 58) dX11_rank_49 (by decide) hf (fun hf => ?_) (fun hf => ?_)
            · refine ft_iconst (v := 5) dX11_rank_58 rfl ?_
              refine ft_goto (tgt := 85) dX11_rank_59 (by decide) ?_
              exact fk_retp hf dX11_rank_85 rfl rfl
            · refine ft_iload_n dX11_rank_52 rfl ?_
              refine ft_bipush (v := 7) dX11_rank_53 rfl ?_
              refine fk_icmp_ne (tgt := 62) dX11_rank_55 (by decide) hf (fun hf => ?_) (fun hf => ?_)
              · refine ft_iload_n dX11_rank_62 rfl ?_
                refine ft_bipush (v := 8) dX11_rank_63 rfl ?_
                refine fk_icmp_ne (tgt := 73) dX11_rank_65 (by decide) hf (fun hf => ?_) (fun hf => ?_)
                · refine ft_iload_n dX11_rank_73 rfl ?_
                  refine ft_bipush (v := 14) dX11_rank_74 rfl ?_
                  refine fk_icmp_ne (tgt := 84) dX11_rank_76 (by decide) hf (fun hf => ?_) (fun hf => ?_)
                  · refine ft_iconst (v := 0) dX11_rank_84 rfl ?_
                    exact fk_retp hf dX11_rank_85 rfl rfl
                  · refine ft_bipush (v := 7) dX11_rank_79 rfl ?_
                    refine ft_goto (tgt := 85) dX11_rank_81 (by decide) ?_
                    exact fk_retp hf dX11_rank_85 rfl rfl
                · refine ft_bipush (v := 6) dX11_rank_68 rfl ?_
                  refine ft_goto (tgt := 85) dX11_rank_70 (by decide) ?_
                  exact fk_retp hf dX11_rank_85 rfl rfl
              · refine ft_iconst (v := 5) dX11_rank_58 rfl ?_
                refine ft_goto (tgt := 85) dX11_rank_59 (by decide) ?_
                exact fk_retp hf dX11_rank_85 rfl rfl
          · refine ft_iconst (v := 4) dX11_rank_42 rfl ?_
            refine ft_goto (tgt := 85) dX11_rank_43 (by decide) ?_
            exact fk_retp hf dX11_rank_85 rfl rfl
      · refine ft_iconst (v := 3) dX11_rank_26 rfl ?_
        refine ft_goto (tgt := 85) dX11_rank_27 (by decide) ?_
        exact fk_retp hf dX11_rank_85 rfl rfl
    · refine ft_iconst (v := 2) dX11_rank_16 rfl ?_
      refine ft_goto (tgt := 85) dX11_rank_17 (by decide) ?_
      exact fk_retp hf dX11_rank_85 rfl rfl
  · refine ft_iconst (v := 1) dX11_rank_6 rfl ?_
    refine ft_goto (tgt := 85) dX11_rank_7 (by decide) ?_
    exact fk_retp hf dX11_rank_85 rfl rfl
def f_X11_doAll_0_B (x1 : Int32) (k0 : fc_I → Option fc_I) (I : fc_I) : Option fc_I :=
if 0 < (I 78 51).toInt then (
fq_g 170 ((I 78 51) - 1) (
if (I 113 (cn ((I 78 51) - 1))).toInt = (15 : Int32).toInt then (
some I)
else (
fq_g 170 ((I 78 51) - 1) (
fq_v (f_X11_rank (I 113 (cn ((I 78 51) - 1)))) fun r34 =>
if r34.toInt < x1.toInt then (
some I)
else (
fq_l (fc_wI I 78 51 ((I 78 51) - 1)) fun I48 =>
fq_g 170 (I48 78 51) (
if (I48 113 (cn (I48 78 51))).toInt = (13 : Int32).toInt then (
fq_l (fc_wI I48 78 52 ((I48 78 52) - 1)) fun I90 =>
fq_g 170 (I90 78 51) (
fq_u (f_X11_emit I90 (I90 113 (cn (I90 78 51)))) fun I103 =>
k0 I103))
else (
fq_g 170 (I48 78 51) (
if (I48 113 (cn (I48 78 51))).toInt = (14 : Int32).toInt then (
fq_l (fc_wI I48 78 52 ((I48 78 52) - 1)) fun I90 =>
fq_g 170 (I90 78 51) (
fq_u (f_X11_emit I90 (I90 113 (cn (I90 78 51)))) fun I103 =>
k0 I103))
else (
fq_l (fc_wI I48 78 52 ((I48 78 52) - 0)) fun I90 =>
fq_g 170 (I90 78 51) (
fq_u (f_X11_emit I90 (I90 113 (cn (I90 78 51)))) fun I103 =>
k0 I103))))))))))
else (
some I)
def f_X11_doAll_0 (x1 : Int32) (n : Nat) : fc_I → Option fc_I := lpm0 (f_X11_doAll_0_B x1 ) n
def f_X11_doAll (I : fc_I) (x1 : Int32) : Option fc_I :=
f_X11_doAll_0 x1 4000 I
set_option maxHeartbeats 4000000 in
set_option maxRecDepth 100000 in
theorem t_X11_doAll_0 {d : Nat} {v : Nat} {J : fc_I} {x1 : Int32} : ∀ (n : Nat) (I : fc_I) , f_X11_doAll_0 x1 n I = some J → fc_T X11_doAll (d + 1) 0 0 0 [some (.ref 78), some (.int x1)] [] fc_SH I (fc_PT v) (fc_Qv fc_SH (fun I' P' => I' = J ∧ P' = (fc_PT v))) := by
  unfold f_X11_doAll_0
  refine lpm0_T (fun k0 hk0 I hf => ?_)
  unfold f_X11_doAll_0_B at hf
  refine ft_aload_n dX11_doAll_0 rfl ?_
  refine ft_getI fl_X11_225 rfl (sh_78) (by decide) dX11_doAll_1 ?_
  refine fk_if_le (tgt := 109) dX11_doAll_4 (by decide) hf (fun hf => ?_) (fun hf => ?_)
  · exact fk_retv hf dX11_doAll_109 rfl
  · refine ft_aload_n dX11_doAll_7 rfl ?_
    refine ft_getR fl_X11_228 rfl (sh_78) (by decide) pt_78_50 dX11_doAll_8 ?_
    refine ft_aload_n dX11_doAll_11 rfl ?_
    refine ft_getI fl_X11_225 rfl (sh_78) (by decide) dX11_doAll_12 ?_
    refine ft_iconst (v := 1) dX11_doAll_15 rfl ?_
    refine ft_isub dX11_doAll_16 ?_
    refine fk_iald (sh_113) hf dX11_doAll_17 (fun hf => ?_)
    refine ft_bipush (v := 15) dX11_doAll_18 rfl ?_
    refine fk_icmp_eq (tgt := 109) dX11_doAll_20 (by decide) hf (fun hf => ?_) (fun hf => ?_)
    · exact fk_retv hf dX11_doAll_109 rfl
    · refine ft_aload_n dX11_doAll_23 rfl ?_
      refine ft_getR fl_X11_228 rfl (sh_78) (by decide) pt_78_50 dX11_doAll_24 ?_
      refine ft_aload_n dX11_doAll_27 rfl ?_
      refine ft_getI fl_X11_225 rfl (sh_78) (by decide) dX11_doAll_28 ?_
      refine ft_iconst (v := 1) dX11_doAll_31 rfl ?_
      refine ft_isub dX11_doAll_32 ?_
      refine fk_iald (sh_113) hf dX11_doAll_33 (fun hf => ?_)
      obtain ⟨r34, hc34, hf⟩ := fq_vs hf
      refine ft_S1p cf_X11_231 (t_X11_rank hc34) (Nat.le_of_ble_eq_true rfl) dX11_doAll_34 ?_
      refine ft_iload_n dX11_doAll_37 rfl ?_
      refine fk_icmp_lt (tgt := 109) dX11_doAll_38 (by decide) hf (fun hf => ?_) (fun hf => ?_)
      · exact fk_retv hf dX11_doAll_109 rfl
      · refine ft_aload_n dX11_doAll_41 rfl ?_
        refine ft_dup dX11_doAll_42 rfl ?_
        refine ft_getI fl_X11_225 rfl (sh_78) (by decide) dX11_doAll_43 ?_
        refine ft_iconst (v := 1) dX11_doAll_46 rfl ?_
        refine ft_isub dX11_doAll_47 ?_
        refine ft_putI fl_X11_225 rfl (fun q h => by cases h; rfl) (sh_78) (by decide) dX11_doAll_48 ?_
        refine ft_aload_n dX11_doAll_51 rfl ?_
        refine ft_dup dX11_doAll_52 rfl ?_
        refine ft_getI fl_X11_234 rfl (sh_78) (by decide) dX11_doAll_53 ?_
        refine ft_aload_n dX11_doAll_56 rfl ?_
        refine ft_getR fl_X11_228 rfl (sh_78) (by decide) pt_78_50 dX11_doAll_57 ?_
        refine ft_aload_n dX11_doAll_60 rfl ?_
        refine ft_getI fl_X11_225 rfl (sh_78) (by decide) dX11_doAll_61 ?_
        refine fk_iald (sh_113) hf dX11_doAll_64 (fun hf => ?_)
        refine ft_bipush (v := 13) dX11_doAll_65 rfl ?_
        refine fk_icmp_eq (tgt := 84) dX11_doAll_67 (by decide) hf (fun hf => ?_) (fun hf => ?_)
        · refine ft_iconst (v := 1) dX11_doAll_84 rfl ?_
          refine ft_goto (tgt := 89) dX11_doAll_85 (by decide) ?_
          refine ft_isub dX11_doAll_89 ?_
          refine ft_putI fl_X11_234 rfl (fun q h => by cases h; rfl) (sh_78) (by decide) dX11_doAll_90 ?_
          refine ft_aload_n dX11_doAll_93 rfl ?_
          refine ft_aload_n dX11_doAll_94 rfl ?_
          refine ft_getR fl_X11_228 rfl (sh_78) (by decide) pt_78_50 dX11_doAll_95 ?_
          refine ft_aload_n dX11_doAll_98 rfl ?_
          refine ft_getI fl_X11_225 rfl (sh_78) (by decide) dX11_doAll_99 ?_
          refine fk_iald (sh_113) hf dX11_doAll_102 (fun hf => ?_)
          obtain ⟨I103, hc103, hf⟩ := fq_us hf
          refine ft_V1v cf_X11_237 (sh_78) (t_X11_emit hc103) (Nat.le_of_ble_eq_true rfl) dX11_doAll_103 (fun J P' q => ?_)
          obtain ⟨rfl, rfl⟩ := q
          refine ft_goto (tgt := 0) dX11_doAll_106 (by decide) ?_
          exact ft_forget (by simp [fc_le, fc_st1, fc_st2, fc_kill]) (hk0 _ hf)
        · refine ft_aload_n dX11_doAll_70 rfl ?_
          refine ft_getR fl_X11_228 rfl (sh_78) (by decide) pt_78_50 dX11_doAll_71 ?_
          refine ft_aload_n dX11_doAll_74 rfl ?_
          refine ft_getI fl_X11_225 rfl (sh_78) (by decide) dX11_doAll_75 ?_
          refine fk_iald (sh_113) hf dX11_doAll_78 (fun hf => ?_)
          refine ft_bipush (v := 14) dX11_doAll_79 rfl ?_
          refine fk_icmp_ne (tgt := 88) dX11_doAll_81 (by decide) hf (fun hf => ?_) (fun hf => ?_)
          · refine ft_iconst (v := 0) dX11_doAll_88 rfl ?_
            refine ft_isub dX11_doAll_89 ?_
            refine ft_putI fl_X11_234 rfl (fun q h => by cases h; rfl) (sh_78) (by decide) dX11_doAll_90 ?_
            refine ft_aload_n dX11_doAll_93 rfl ?_
            refine ft_aload_n dX11_doAll_94 rfl ?_
            refine ft_getR fl_X11_228 rfl (sh_78) (by decide) pt_78_50 dX11_doAll_95 ?_
            refine ft_aload_n dX11_doAll_98 rfl ?_
            refine ft_getI fl_X11_225 rfl (sh_78) (by decide) dX11_doAll_99 ?_
            refine fk_iald (sh_113) hf dX11_doAll_102 (fun hf => ?_)
            obtain ⟨I103, hc103, hf⟩ := fq_us hf
            refine ft_V1v cf_X11_237 (sh_78) (t_X11_emit hc103) (Nat.le_of_ble_eq_true rfl) dX11_doAll_103 (fun J P' q => ?_)
            obtain ⟨rfl, rfl⟩ := q
            refine ft_goto (tgt := 0) dX11_doAll_106 (by decide) ?_
            exact ft_forget (by simp [fc_le, fc_st1, fc_st2, fc_kill]) (hk0 _ hf)
          · refine ft_iconst (v := 1) dX11_doAll_84 rfl ?_
            refine ft_goto (tgt := 89) dX11_doAll_85 (by decide) ?_
            refine ft_isub dX11_doAll_89 ?_
            refine ft_putI fl_X11_234 rfl (fun q h => by cases h; rfl) (sh_78) (by decide) dX11_doAll_90 ?_
            refine ft_aload_n dX11_doAll_93 rfl ?_
            refine ft_aload_n dX11_doAll_94 rfl ?_
            refine ft_getR fl_X11_228 rfl (sh_78) (by decide) pt_78_50 dX11_doAll_95 ?_
            refine ft_aload_n dX11_doAll_98 rfl ?_
            refine ft_getI fl_X11_225 rfl (sh_78) (by decide) dX11_doAll_99 ?_
            refine fk_iald (sh_113) hf dX11_doAll_102 (fun hf => ?_)
            obtain ⟨I103, hc103, hf⟩ := fq_us hf
            refine ft_V1v cf_X11_237 (sh_78) (t_X11_emit hc103) (Nat.le_of_ble_eq_true rfl) dX11_doAll_103 (fun J P' q => ?_)
            obtain ⟨rfl, rfl⟩ := q
            refine ft_goto (tgt := 0) dX11_doAll_106 (by decide) ?_
            exact ft_forget (by simp [fc_le, fc_st1, fc_st2, fc_kill]) (hk0 _ hf)
set_option maxHeartbeats 4000000 in
set_option maxRecDepth 100000 in
theorem t_X11_doAll {d : Nat} {v : Nat} {J : fc_I} {I : fc_I} {x1 : Int32} (hf : f_X11_doAll I x1 = some J) : fc_Cv X11_doAll (d + 1) [.ref 78, .int x1] fc_SH I (fc_PT v) (fun I' P' => I' = J ∧ P' = (fc_PT v)) := by
  unfold f_X11_doAll at hf
  refine fc_Cv.of (ls := [some (.ref 78), some (.int x1)]) ⟨rfl, rfl⟩ (Nat.le_of_ble_eq_true rfl) rfl ?_
  exact ft_forget (by simp [fc_le, fc_st1, fc_st2, fc_kill]) (t_X11_doAll_0   _ _ hf)
def f_X11_between_125 (x1 : Int32) (I : fc_I) : Option (Int32 × fc_I) :=
fq_v (f_X11_rank x1) fun r127 =>
fq_u (f_X11_doAll I r127) fun I130 =>
fq_u (f_X11_await I130 x1) fun I135 =>
fq_v (f_X11_rank x1) fun r147 =>
if r147.toInt = (4 : Int32).toInt then (
fq_g 8 (I135 78 53) (fq_l (fc_wI I135 114 (cn (I135 78 53)) (vp_nar .boolean 1)) fun I179 =>
some (1, I179)))
else (
fq_v (f_X11_rank x1) fun r155 =>
if (4 : Int32).toInt < r155.toInt then (
fq_g 8 (I135 78 53) (
if (I135 114 (cn (I135 78 53))).toInt = 0 then (
fq_g 8 (I135 78 53) (fq_l (fc_wI I135 114 (cn (I135 78 53)) (vp_nar .boolean 0)) fun I179 =>
some (1, I179)))
else (
fq_g 8 (I135 78 53) (fq_l (fc_wI I135 114 (cn (I135 78 53)) (vp_nar .boolean 1)) fun I179 =>
some (1, I179)))))
else (
fq_g 8 (I135 78 53) (fq_l (fc_wI I135 114 (cn (I135 78 53)) (vp_nar .boolean 0)) fun I179 =>
some (1, I179))))
def f_X11_between_97 (s0 : Int32) (I : fc_I) : Option (Int32 × fc_I) :=
if s0.toInt = ((-1) : Int32).toInt then (
some (0, I))
else (
fq_v (f_X11_rank s0) fun r104 =>
if r104.toInt = (4 : Int32).toInt then (
fq_g 8 (I 78 53) (
if (I 114 (cn (I 78 53))).toInt = 0 then (
f_X11_between_125  s0 I)
else (
some (0, I))))
else (
f_X11_between_125  s0 I))
def f_X11_between (I : fc_I) : Option (Int32 × fc_I) :=
fq_v (f_X11_isSign I 43) fun r3 =>
if r3.toInt = 0 then (
fq_v (f_X11_isSign I 45) fun r17 =>
if r17.toInt = 0 then (
fq_v (f_X11_isSign I 42) fun r31 =>
if r31.toInt = 0 then (
fq_v (f_X11_isSign I 60) fun r45 =>
if r45.toInt = 0 then (
fq_v (f_X11_isSign I 61) fun r59 =>
if r59.toInt = 0 then (
fq_v (f_X11_isKey I 3) fun r72 =>
if r72.toInt = 0 then (
fq_v (f_X11_isKey I 2) fun r85 =>
if r85.toInt = 0 then (
f_X11_between_97  (-1) I)
else (
f_X11_between_97  12 I))
else (
f_X11_between_97  11 I))
else (
f_X11_between_97  10 I))
else (
f_X11_between_97  9 I))
else (
f_X11_between_97  8 I))
else (
f_X11_between_97  7 I))
else (
f_X11_between_97  6 I)
set_option maxHeartbeats 4000000 in
set_option maxRecDepth 100000 in
theorem t_X11_between_125 {d : Nat} {v : Nat} {r : Int32} {J : fc_I} : ∀ (x1 : Int32) (I : fc_I) , f_X11_between_125  x1 I = some (r, J) → fc_T X11_between (d + 2) 0 0 125 [some (.ref 78), some (.int x1)] [] fc_SH I (fc_PT v) (fc_Qi fc_SH (fun r' I' P' => r' = r ∧ I' = J ∧ P' = (fc_PT v))) := by
  intro x1 I hf
  unfold f_X11_between_125 at hf
  refine ft_aload_n dX11_between_125 rfl ?_
  refine ft_iload_n dX11_between_126 rfl ?_
  obtain ⟨r127, hc127, hf⟩ := fq_vs hf
  refine ft_S1p cf_X11_231 (t_X11_rank hc127) (Nat.le_of_ble_eq_true rfl) dX11_between_127 ?_
  obtain ⟨I130, hc130, hf⟩ := fq_us hf
  refine ft_V1v cf_X11_254 (sh_78) (t_X11_doAll hc130) (Nat.le_of_ble_eq_true rfl) dX11_between_130 (fun J P' q => ?_)
  obtain ⟨rfl, rfl⟩ := q
  refine ft_aload_n dX11_between_133 rfl ?_
  refine ft_iload_n dX11_between_134 rfl ?_
  obtain ⟨I135, hc135, hf⟩ := fq_us hf
  refine ft_V1v cf_X11_257 (sh_78) (t_X11_await hc135) (Nat.le_of_ble_eq_true rfl) dX11_between_135 (fun J P' q => ?_)
  obtain ⟨rfl, rfl⟩ := q
  refine ft_aload_n dX11_between_138 rfl ?_
  refine ft_getR fl_X11_247 rfl (sh_78) (by decide) pt_78_54 dX11_between_139 ?_
  refine ft_aload_n dX11_between_142 rfl ?_
  refine ft_getI fl_X11_251 rfl (sh_78) (by decide) dX11_between_143 ?_
  refine ft_iload_n dX11_between_146 rfl ?_
  obtain ⟨r147, hc147, hf⟩ := fq_vs hf
  refine ft_S1p cf_X11_231 (t_X11_rank hc147) (Nat.le_of_ble_eq_true rfl) dX11_between_147 ?_
  refine ft_iconst (v := 4) dX11_between_150 rfl ?_
  refine fk_icmp_eq (tgt := 174) dX11_between_151 (by decide) hf (fun hf => ?_) (fun hf => ?_)
  · refine ft_iconst (v := 1) dX11_between_174 rfl ?_
    refine ft_goto (tgt := 179) dX11_between_175 (by decide) ?_
    refine fk_zast (sh_114) hf dX11_between_179 (fun hf => ?_)
    refine ft_iconst (v := 1) dX11_between_180 rfl ?_
    exact fk_reti hf dX11_between_181 rfl rfl
  · refine ft_iload_n dX11_between_154 rfl ?_
    obtain ⟨r155, hc155, hf⟩ := fq_vs hf
    refine ft_S1p cf_X11_231 (t_X11_rank hc155) (Nat.le_of_ble_eq_true rfl) dX11_between_155 ?_
    refine ft_iconst (v := 4) dX11_between_158 rfl ?_
    refine fk_icmp_le (tgt := 178) dX11_between_159 (by decide) hf (fun hf => ?_) (fun hf => ?_)
    · refine ft_iconst (v := 0) dX11_between_178 rfl ?_
      refine fk_zast (sh_114) hf dX11_between_179 (fun hf => ?_)
      refine ft_iconst (v := 1) dX11_between_180 rfl ?_
      exact fk_reti hf dX11_between_181 rfl rfl
    · refine ft_aload_n dX11_between_162 rfl ?_
      refine ft_getR fl_X11_247 rfl (sh_78) (by decide) pt_78_54 dX11_between_163 ?_
      refine ft_aload_n dX11_between_166 rfl ?_
      refine ft_getI fl_X11_251 rfl (sh_78) (by decide) dX11_between_167 ?_
      refine fk_zald (sh_114) hf dX11_between_170 (fun hf => ?_)
      refine fk_if_eq (tgt := 178) dX11_between_171 (by decide) hf (fun hf => ?_) (fun hf => ?_)
      · refine ft_iconst (v := 0) dX11_between_178 rfl ?_
        refine fk_zast (sh_114) hf dX11_between_179 (fun hf => ?_)
        refine ft_iconst (v := 1) dX11_between_180 rfl ?_
        exact fk_reti hf dX11_between_181 rfl rfl
      · refine ft_iconst (v := 1) dX11_between_174 rfl ?_
        refine ft_goto (tgt := 179) dX11_between_175 (by decide) ?_
        refine fk_zast (sh_114) hf dX11_between_179 (fun hf => ?_)
        refine ft_iconst (v := 1) dX11_between_180 rfl ?_
        exact fk_reti hf dX11_between_181 rfl rfl
set_option maxHeartbeats 4000000 in
set_option maxRecDepth 100000 in
theorem t_X11_between_97 {d : Nat} {v : Nat} {r : Int32} {J : fc_I} : ∀ (s0 : Int32) (I : fc_I) , f_X11_between_97  s0 I = some (r, J) → fc_T X11_between (d + 2) 0 0 97 [some (.ref 78), none] [.int s0] fc_SH I (fc_PT v) (fc_Qi fc_SH (fun r' I' P' => r' = r ∧ I' = J ∧ P' = (fc_PT v))) := by
  intro s0 I hf
  unfold f_X11_between_97 at hf
  refine ft_istore_n dX11_between_97 (by decide) ?_
  refine ft_iload_n dX11_between_98 rfl ?_
  refine ft_iconst (v := (-1)) dX11_between_99 rfl ?_
  refine fk_icmp_eq (tgt := 123) dX11_between_100 (by decide) hf (fun hf => ?_) (fun hf => ?_)
  · refine ft_iconst (v := 0) dX11_between_123 rfl ?_
    exact fk_reti hf dX11_between_124 rfl rfl
  · refine ft_iload_n dX11_between_103 rfl ?_
    obtain ⟨r104, hc104, hf⟩ := fq_vs hf
    refine ft_S1p cf_X11_231 (t_X11_rank hc104) (Nat.le_of_ble_eq_true rfl) dX11_between_104 ?_
    refine ft_iconst (v := 4) dX11_between_107 rfl ?_
    refine fk_icmp_ne (tgt := 125) dX11_between_108 (by decide) hf (fun hf => ?_) (fun hf => ?_)
    · exact ft_forget (by simp [fc_le, fc_st1, fc_st2, fc_kill]) (t_X11_between_125    _ _ hf)
    · refine ft_aload_n dX11_between_111 rfl ?_
      refine ft_getR fl_X11_247 rfl (sh_78) (by decide) pt_78_54 dX11_between_112 ?_
      refine ft_aload_n dX11_between_115 rfl ?_
      refine ft_getI fl_X11_251 rfl (sh_78) (by decide) dX11_between_116 ?_
      refine fk_zald (sh_114) hf dX11_between_119 (fun hf => ?_)
      refine fk_if_eq (tgt := 125) dX11_between_120 (by decide) hf (fun hf => ?_) (fun hf => ?_)
      · exact ft_forget (by simp [fc_le, fc_st1, fc_st2, fc_kill]) (t_X11_between_125    _ _ hf)
      · refine ft_iconst (v := 0) dX11_between_123 rfl ?_
        exact fk_reti hf dX11_between_124 rfl rfl
set_option maxHeartbeats 4000000 in
set_option maxRecDepth 100000 in
theorem t_X11_between {d : Nat} {v : Nat} {r : Int32} {J : fc_I} {I : fc_I} (hf : f_X11_between I = some (r, J)) : fc_Ci X11_between (d + 2) [.ref 78] fc_SH I (fc_PT v) (fun r' I' P' => r' = r ∧ I' = J ∧ P' = (fc_PT v)) := by
  unfold f_X11_between at hf
  refine fc_Ci.of (ls := [some (.ref 78), none]) ⟨rfl, rfl⟩ (Nat.le_of_ble_eq_true rfl) rfl ?_
  refine ft_aload_n dX11_between_0 rfl ?_
  refine ft_bipush (v := 43) dX11_between_1 rfl ?_
  obtain ⟨r3, hc3, hf⟩ := fq_vs hf
  refine ft_V1p cf_X11_241 (sh_78) (t_X11_isSign hc3) (Nat.le_of_ble_eq_true rfl) dX11_between_3 ?_
  refine fk_if_eq (tgt := 14) dX11_between_6 (by decide) hf (fun hf => ?_) (fun hf => ?_)
  · refine ft_aload_n dX11_between_14 rfl ?_
    refine ft_bipush (v := 45) dX11_between_15 rfl ?_
    obtain ⟨r17, hc17, hf⟩ := fq_vs hf
    refine ft_V1p cf_X11_241 (sh_78) (t_X11_isSign hc17) (Nat.le_of_ble_eq_true rfl) dX11_between_17 ?_
    refine fk_if_eq (tgt := 28) dX11_between_20 (by decide) hf (fun hf => ?_) (fun hf => ?_)
    · refine ft_aload_n dX11_between_28 rfl ?_
      refine ft_bipush (v := 42) dX11_between_29 rfl ?_
      obtain ⟨r31, hc31, hf⟩ := fq_vs hf
      refine ft_V1p cf_X11_241 (sh_78) (t_X11_isSign hc31) (Nat.le_of_ble_eq_true rfl) dX11_between_31 ?_
      refine fk_if_eq (tgt := 42) dX11_between_34 (by decide) hf (fun hf => ?_) (fun hf => ?_)
      · refine ft_aload_n dX11_between_42 rfl ?_
        refine ft_bipush (v := 60) dX11_between_43 rfl ?_
        obtain ⟨r45, hc45, hf⟩ := fq_vs hf
        refine ft_V1p cf_X11_241 (sh_78) (t_X11_isSign hc45) (Nat.le_of_ble_eq_true rfl) dX11_between_45 ?_
        refine fk_if_eq (tgt := 56) dX11_between_48 (by decide) hf (fun hf => ?_) (fun hf => ?_)
        · refine ft_aload_n dX11_between_56 rfl ?_
          refine ft_bipush (v := 61) dX11_between_57 rfl ?_
          obtain ⟨r59, hc59, hf⟩ := fq_vs hf
          refine ft_V1p cf_X11_241 (sh_78) (t_X11_isSign hc59) (Nat.le_of_ble_eq_true rfl) dX11_between_59 ?_
          refine fk_if_eq (tgt := 70) dX11_between_62 (by decide) hf (fun hf => ?_) (fun hf => ?_)
          · refine ft_aload_n dX11_between_70 rfl ?_
            refine ft_iconst (v := 3) dX11_between_71 rfl ?_
            obtain ⟨r72, hc72, hf⟩ := fq_vs hf
            refine ft_V1p cf_X11_244 (sh_78) (t_X11_isKey hc72) (Nat.le_of_ble_eq_true rfl) dX11_between_72 ?_
            refine fk_if_eq (tgt := 83) dX11_between_75 (by decide) hf (fun hf => ?_) (fun hf => ?_)
            · refine ft_aload_n dX11_between_83 rfl ?_
              refine ft_iconst (v := 2) dX11_between_84 rfl ?_
              obtain ⟨r85, hc85, hf⟩ := fq_vs hf
              refine ft_V1p cf_X11_244 (sh_78) (t_X11_isKey hc85) (Nat.le_of_ble_eq_true rfl) dX11_between_85 ?_
              refine fk_if_eq (tgt := 96) dX11_between_88 (by decide) hf (fun hf => ?_) (fun hf => ?_)
              · refine ft_iconst (v := (-1)) dX11_between_96 rfl ?_
                exact ft_forget (by simp [fc_le, fc_st1, fc_st2, fc_kill]) (t_X11_between_97    _ _ hf)
              · refine ft_bipush (v := 12) dX11_between_91 rfl ?_
                refine ft_goto (tgt := 97) dX11_between_93 (by decide) ?_
                exact ft_forget (by simp [fc_le, fc_st1, fc_st2, fc_kill]) (t_X11_between_97    _ _ hf)
            · refine ft_bipush (v := 11) dX11_between_78 rfl ?_
              refine ft_goto (tgt := 97) dX11_between_80 (by decide) ?_
              exact ft_forget (by simp [fc_le, fc_st1, fc_st2, fc_kill]) (t_X11_between_97    _ _ hf)
          · refine ft_bipush (v := 10) dX11_between_65 rfl ?_
            refine ft_goto (tgt := 97) dX11_between_67 (by decide) ?_
            exact ft_forget (by simp [fc_le, fc_st1, fc_st2, fc_kill]) (t_X11_between_97    _ _ hf)
        · refine ft_bipush (v := 9) dX11_between_51 rfl ?_
          refine ft_goto (tgt := 97) dX11_between_53 (by decide) ?_
          exact ft_forget (by simp [fc_le, fc_st1, fc_st2, fc_kill]) (t_X11_between_97    _ _ hf)
      · refine ft_bipush (v := 8) dX11_between_37 rfl ?_
        refine ft_goto (tgt := 97) dX11_between_39 (by decide) ?_
        exact ft_forget (by simp [fc_le, fc_st1, fc_st2, fc_kill]) (t_X11_between_97    _ _ hf)
    · refine ft_bipush (v := 7) dX11_between_23 rfl ?_
      refine ft_goto (tgt := 97) dX11_between_25 (by decide) ?_
      exact ft_forget (by simp [fc_le, fc_st1, fc_st2, fc_kill]) (t_X11_between_97    _ _ hf)
  · refine ft_bipush (v := 6) dX11_between_9 rfl ?_
    refine ft_goto (tgt := 97) dX11_between_11 (by decide) ?_
    exact ft_forget (by simp [fc_le, fc_st1, fc_st2, fc_kill]) (t_X11_between_97    _ _ hf)
def f_X11_isShelter (I : fc_I) (x1 : Int32) : Option Int32 :=
if x1.toInt < 0 then (
some 0)
else (
if x1.toInt < (I 78 9).toInt then (
some 1)
else (
some 0))
set_option maxHeartbeats 4000000 in
set_option maxRecDepth 100000 in
theorem t_X11_isShelter {d : Nat} {v : Nat} {r : Int32} {I : fc_I} {x1 : Int32} (hf : f_X11_isShelter I x1 = some r) : fc_Cp X11_isShelter d [.ref 78, .int x1] fc_SH I (fc_PT v) r := by
  unfold f_X11_isShelter at hf
  refine fc_Cp.of (ls := [some (.ref 78), some (.int x1)]) ⟨rfl, rfl⟩ (Nat.le_of_ble_eq_true rfl) rfl ?_
  refine ft_iload_n dX11_isShelter_0 rfl ?_
  refine fk_if_lt (tgt := 16) dX11_isShelter_1 (by decide) hf (fun hf => ?_) (fun hf => ?_)
  · refine ft_iconst (v := 0) dX11_isShelter_16 rfl ?_
    exact fk_retp hf dX11_isShelter_17 rfl rfl
  · refine ft_iload_n dX11_isShelter_4 rfl ?_
    refine ft_aload_n dX11_isShelter_5 rfl ?_
    refine ft_getI fl_X11_7 rfl (sh_78) (by decide) dX11_isShelter_6 ?_
    refine fk_icmp_ge (tgt := 16) dX11_isShelter_9 (by decide) hf (fun hf => ?_) (fun hf => ?_)
    · refine ft_iconst (v := 0) dX11_isShelter_16 rfl ?_
      exact fk_retp hf dX11_isShelter_17 rfl rfl
    · refine ft_iconst (v := 1) dX11_isShelter_12 rfl ?_
      refine ft_goto (tgt := 17) dX11_isShelter_13 (by decide) ?_
      exact fk_retp hf dX11_isShelter_17 rfl rfl
def f_X11_isZone (I : fc_I) (x1 : Int32) : Option Int32 :=
if x1.toInt < 0 then (
some 0)
else (
if x1.toInt < (I 78 2).toInt then (
some 1)
else (
some 0))
set_option maxHeartbeats 4000000 in
set_option maxRecDepth 100000 in
theorem t_X11_isZone {d : Nat} {v : Nat} {r : Int32} {I : fc_I} {x1 : Int32} (hf : f_X11_isZone I x1 = some r) : fc_Cp X11_isZone d [.ref 78, .int x1] fc_SH I (fc_PT v) r := by
  unfold f_X11_isZone at hf
  refine fc_Cp.of (ls := [some (.ref 78), some (.int x1)]) ⟨rfl, rfl⟩ (Nat.le_of_ble_eq_true rfl) rfl ?_
  refine ft_iload_n dX11_isZone_0 rfl ?_
  refine fk_if_lt (tgt := 16) dX11_isZone_1 (by decide) hf (fun hf => ?_) (fun hf => ?_)
  · refine ft_iconst (v := 0) dX11_isZone_16 rfl ?_
    exact fk_retp hf dX11_isZone_17 rfl rfl
  · refine ft_iload_n dX11_isZone_4 rfl ?_
    refine ft_aload_n dX11_isZone_5 rfl ?_
    refine ft_getI fl_X11_1 rfl (sh_78) (by decide) dX11_isZone_6 ?_
    refine fk_icmp_ge (tgt := 16) dX11_isZone_9 (by decide) hf (fun hf => ?_) (fun hf => ?_)
    · refine ft_iconst (v := 0) dX11_isZone_16 rfl ?_
      exact fk_retp hf dX11_isZone_17 rfl rfl
    · refine ft_iconst (v := 1) dX11_isZone_12 rfl ?_
      refine ft_goto (tgt := 17) dX11_isZone_13 (by decide) ?_
      exact fk_retp hf dX11_isZone_17 rfl rfl
def f_X11_isBus (I : fc_I) (x1 : Int32) : Option Int32 :=
if x1.toInt < 0 then (
some 0)
else (
if x1.toInt < (I 78 19).toInt then (
some 1)
else (
some 0))
set_option maxHeartbeats 4000000 in
set_option maxRecDepth 100000 in
theorem t_X11_isBus {d : Nat} {v : Nat} {r : Int32} {I : fc_I} {x1 : Int32} (hf : f_X11_isBus I x1 = some r) : fc_Cp X11_isBus d [.ref 78, .int x1] fc_SH I (fc_PT v) r := by
  unfold f_X11_isBus at hf
  refine fc_Cp.of (ls := [some (.ref 78), some (.int x1)]) ⟨rfl, rfl⟩ (Nat.le_of_ble_eq_true rfl) rfl ?_
  refine ft_iload_n dX11_isBus_0 rfl ?_
  refine fk_if_lt (tgt := 16) dX11_isBus_1 (by decide) hf (fun hf => ?_) (fun hf => ?_)
  · refine ft_iconst (v := 0) dX11_isBus_16 rfl ?_
    exact fk_retp hf dX11_isBus_17 rfl rfl
  · refine ft_iload_n dX11_isBus_4 rfl ?_
    refine ft_aload_n dX11_isBus_5 rfl ?_
    refine ft_getI fl_X11_13 rfl (sh_78) (by decide) dX11_isBus_6 ?_
    refine fk_icmp_ge (tgt := 16) dX11_isBus_9 (by decide) hf (fun hf => ?_) (fun hf => ?_)
    · refine ft_iconst (v := 0) dX11_isBus_16 rfl ?_
      exact fk_retp hf dX11_isBus_17 rfl rfl
    · refine ft_iconst (v := 1) dX11_isBus_12 rfl ?_
      refine ft_goto (tgt := 17) dX11_isBus_13 (by decide) ?_
      exact fk_retp hf dX11_isBus_17 rfl rfl
def f_X11_isSheet (x0 : Int32) : Option Int32 :=
fq_v (f_X11_isIn (Int32.toInt64 x0) 0 3) fun r6 =>
fq_z r6 (some r6)
set_option maxHeartbeats 4000000 in
set_option maxRecDepth 100000 in
theorem t_X11_isSheet {d : Nat} {sh : fc_Sh} {P : fc_P} {r : Int32} {I : fc_I} {x0 : Int32} (hf : f_X11_isSheet  x0 = some r) : fc_Cp X11_isSheet (d + 1) [.int x0] sh I P r := by
  unfold f_X11_isSheet at hf
  refine fc_Cp.of (ls := [some (.int x0)]) ⟨rfl, rfl⟩ (Nat.le_of_ble_eq_true rfl) rfl ?_
  refine ft_iload_n dX11_isSheet_0 rfl ?_
  refine ft_i2l dX11_isSheet_1 ?_
  refine ft_lconst (v := 0) dX11_isSheet_2 rfl ?_
  refine ft_ldc2 dX11_isSheet_3 kc_X11_422 ?_
  obtain ⟨r6, hc6, hf⟩ := fq_vs hf
  refine ft_S3p cf_X11_18 (t_X11_isIn hc6) (Nat.le_of_ble_eq_true rfl) dX11_isSheet_6 ?_
  obtain ⟨hz, hf⟩ := fq_zs hf
  exact fk_retp hf dX11_isSheet_9 rfl (fq_nz hz)
def f_X11_closes (I : fc_I) : Option (Int32 × fc_I) :=
fq_v (f_X11_isSign I 41) fun r3 =>
if r3.toInt = 0 then (
some (0, I))
else (
if (I 78 53).toInt = 0 then (
some (0, I))
else (
fq_u (f_X11_doAll I 1) fun I20 =>
fq_l (fc_wI I20 78 51 ((I20 78 51) - 1)) fun I30 =>
fq_l (fc_wI I30 78 53 ((I30 78 53) - 1)) fun I40 =>
fq_l (fc_wI I40 78 52 ((I40 78 52) - 1)) fun I50 =>
fq_u (f_X11_doAll I50 7) fun I56 =>
some (1, I56)))
set_option maxHeartbeats 4000000 in
set_option maxRecDepth 100000 in
theorem t_X11_closes {d : Nat} {v : Nat} {r : Int32} {J : fc_I} {I : fc_I} (hf : f_X11_closes I = some (r, J)) : fc_Ci X11_closes (d + 2) [.ref 78] fc_SH I (fc_PT v) (fun r' I' P' => r' = r ∧ I' = J ∧ P' = (fc_PT v)) := by
  unfold f_X11_closes at hf
  refine fc_Ci.of (ls := [some (.ref 78)]) ⟨rfl, rfl⟩ (Nat.le_of_ble_eq_true rfl) rfl ?_
  refine ft_aload_n dX11_closes_0 rfl ?_
  refine ft_bipush (v := 41) dX11_closes_1 rfl ?_
  obtain ⟨r3, hc3, hf⟩ := fq_vs hf
  refine ft_V1p cf_X11_241 (sh_78) (t_X11_isSign hc3) (Nat.le_of_ble_eq_true rfl) dX11_closes_3 ?_
  refine fk_if_eq (tgt := 16) dX11_closes_6 (by decide) hf (fun hf => ?_) (fun hf => ?_)
  · refine ft_iconst (v := 0) dX11_closes_16 rfl ?_
    exact fk_reti hf dX11_closes_17 rfl rfl
  · refine ft_aload_n dX11_closes_9 rfl ?_
    refine ft_getI fl_X11_251 rfl (sh_78) (by decide) dX11_closes_10 ?_
    refine fk_if_ne (tgt := 18) dX11_closes_13 (by decide) hf (fun hf => ?_) (fun hf => ?_)
    · refine ft_aload_n dX11_closes_18 rfl ?_
      refine ft_iconst (v := 1) dX11_closes_19 rfl ?_
      obtain ⟨I20, hc20, hf⟩ := fq_us hf
      refine ft_V1v cf_X11_254 (sh_78) (t_X11_doAll hc20) (Nat.le_of_ble_eq_true rfl) dX11_closes_20 (fun J P' q => ?_)
      obtain ⟨rfl, rfl⟩ := q
      refine ft_aload_n dX11_closes_23 rfl ?_
      refine ft_dup dX11_closes_24 rfl ?_
      refine ft_getI fl_X11_225 rfl (sh_78) (by decide) dX11_closes_25 ?_
      refine ft_iconst (v := 1) dX11_closes_28 rfl ?_
      refine ft_isub dX11_closes_29 ?_
      refine ft_putI fl_X11_225 rfl (fun q h => by cases h; rfl) (sh_78) (by decide) dX11_closes_30 ?_
      refine ft_aload_n dX11_closes_33 rfl ?_
      refine ft_dup dX11_closes_34 rfl ?_
      refine ft_getI fl_X11_251 rfl (sh_78) (by decide) dX11_closes_35 ?_
      refine ft_iconst (v := 1) dX11_closes_38 rfl ?_
      refine ft_isub dX11_closes_39 ?_
      refine ft_putI fl_X11_251 rfl (fun q h => by cases h; rfl) (sh_78) (by decide) dX11_closes_40 ?_
      refine ft_aload_n dX11_closes_43 rfl ?_
      refine ft_dup dX11_closes_44 rfl ?_
      refine ft_getI fl_X11_234 rfl (sh_78) (by decide) dX11_closes_45 ?_
      refine ft_iconst (v := 1) dX11_closes_48 rfl ?_
      refine ft_isub dX11_closes_49 ?_
      refine ft_putI fl_X11_234 rfl (fun q h => by cases h; rfl) (sh_78) (by decide) dX11_closes_50 ?_
      refine ft_aload_n dX11_closes_53 rfl ?_
      refine ft_bipush (v := 7) dX11_closes_54 rfl ?_
      obtain ⟨I56, hc56, hf⟩ := fq_us hf
      refine ft_V1v cf_X11_254 (sh_78) (t_X11_doAll hc56) (Nat.le_of_ble_eq_true rfl) dX11_closes_56 (fun J P' q => ?_)
      obtain ⟨rfl, rfl⟩ := q
      refine ft_iconst (v := 1) dX11_closes_59 rfl ?_
      exact fk_reti hf dX11_closes_60 rfl rfl
    · refine ft_iconst (v := 0) dX11_closes_16 rfl ?_
      exact fk_reti hf dX11_closes_17 rfl rfl
def f_X11_isTrack (x0 : Int32) : Option Int32 :=
fq_v (f_X11_isIn (Int32.toInt64 x0) 0 2) fun r6 =>
fq_z r6 (some r6)
set_option maxHeartbeats 4000000 in
set_option maxRecDepth 100000 in
theorem t_X11_isTrack {d : Nat} {sh : fc_Sh} {P : fc_P} {r : Int32} {I : fc_I} {x0 : Int32} (hf : f_X11_isTrack  x0 = some r) : fc_Cp X11_isTrack (d + 1) [.int x0] sh I P r := by
  unfold f_X11_isTrack at hf
  refine fc_Cp.of (ls := [some (.int x0)]) ⟨rfl, rfl⟩ (Nat.le_of_ble_eq_true rfl) rfl ?_
  refine ft_iload_n dX11_isTrack_0 rfl ?_
  refine ft_i2l dX11_isTrack_1 ?_
  refine ft_lconst (v := 0) dX11_isTrack_2 rfl ?_
  refine ft_ldc2 dX11_isTrack_3 kc_X11_123 ?_
  obtain ⟨r6, hc6, hf⟩ := fq_vs hf
  refine ft_S3p cf_X11_18 (t_X11_isIn hc6) (Nat.le_of_ble_eq_true rfl) dX11_isTrack_6 ?_
  obtain ⟨hz, hf⟩ := fq_zs hf
  exact fk_retp hf dX11_isTrack_9 rfl (fq_nz hz)
def f_X11_isDigit (I : fc_I) (x1 : Int32) : Option Int32 :=
if x1.toInt < (I 78 39).toInt then (
fq_g 160 x1 (
if (I 108 (cn x1)).toInt < (48 : Int32).toInt then (
some 0)
else (
fq_g 160 x1 (
if (57 : Int32).toInt < (I 108 (cn x1)).toInt then (
some 0)
else (
some 1)))))
else (
some 0)
set_option maxHeartbeats 4000000 in
set_option maxRecDepth 100000 in
theorem t_X11_isDigit {d : Nat} {v : Nat} {r : Int32} {I : fc_I} {x1 : Int32} (hf : f_X11_isDigit I x1 = some r) : fc_Cp X11_isDigit d [.ref 78, .int x1] fc_SH I (fc_PT v) r := by
  unfold f_X11_isDigit at hf
  refine fc_Cp.of (ls := [some (.ref 78), some (.int x1)]) ⟨rfl, rfl⟩ (Nat.le_of_ble_eq_true rfl) rfl ?_
  refine ft_iload_n dX11_isDigit_0 rfl ?_
  refine ft_aload_n dX11_isDigit_1 rfl ?_
  refine ft_getI fl_X11_177 rfl (sh_78) (by decide) dX11_isDigit_2 ?_
  refine fk_icmp_ge (tgt := 34) dX11_isDigit_5 (by decide) hf (fun hf => ?_) (fun hf => ?_)
  · refine ft_iconst (v := 0) dX11_isDigit_34 rfl ?_
    exact fk_retp hf dX11_isDigit_35 rfl rfl
  · refine ft_aload_n dX11_isDigit_8 rfl ?_
    refine ft_getR fl_X11_180 rfl (sh_78) (by decide) pt_78_38 dX11_isDigit_9 ?_
    refine ft_iload_n dX11_isDigit_12 rfl ?_
    refine fk_bald (sh_108) hf dX11_isDigit_13 (fun hf => ?_)
    refine ft_bipush (v := 48) dX11_isDigit_14 rfl ?_
    refine fk_icmp_lt (tgt := 34) dX11_isDigit_16 (by decide) hf (fun hf => ?_) (fun hf => ?_)
    · refine ft_iconst (v := 0) dX11_isDigit_34 rfl ?_
      exact fk_retp hf dX11_isDigit_35 rfl rfl
    · refine ft_aload_n dX11_isDigit_19 rfl ?_
      refine ft_getR fl_X11_180 rfl (sh_78) (by decide) pt_78_38 dX11_isDigit_20 ?_
      refine ft_iload_n dX11_isDigit_23 rfl ?_
      refine fk_bald (sh_108) hf dX11_isDigit_24 (fun hf => ?_)
      refine ft_bipush (v := 57) dX11_isDigit_25 rfl ?_
      refine fk_icmp_gt (tgt := 34) dX11_isDigit_27 (by decide) hf (fun hf => ?_) (fun hf => ?_)
      · refine ft_iconst (v := 0) dX11_isDigit_34 rfl ?_
        exact fk_retp hf dX11_isDigit_35 rfl rfl
      · refine ft_iconst (v := 1) dX11_isDigit_30 rfl ?_
        refine ft_goto (tgt := 35) dX11_isDigit_31 (by decide) ?_
        exact fk_retp hf dX11_isDigit_35 rfl rfl
def f_X11_isGoal (I : fc_I) (x1 : Int32) : Option Int32 :=
if x1.toInt = (20 : Int32).toInt then (
some 1)
else (
fq_v (f_X11_isZone I x1) fun r8 =>
if r8.toInt = 0 then (
fq_v (f_X11_isShelter I (x1 - 10)) fun r19 =>
if r19.toInt = 0 then (
some 0)
else (
some 1))
else (
some 1))
set_option maxHeartbeats 4000000 in
set_option maxRecDepth 100000 in
theorem t_X11_isGoal {d : Nat} {v : Nat} {r : Int32} {I : fc_I} {x1 : Int32} (hf : f_X11_isGoal I x1 = some r) : fc_Cp X11_isGoal (d + 1) [.ref 78, .int x1] fc_SH I (fc_PT v) r := by
  unfold f_X11_isGoal at hf
  refine fc_Cp.of (ls := [some (.ref 78), some (.int x1)]) ⟨rfl, rfl⟩ (Nat.le_of_ble_eq_true rfl) rfl ?_
  refine ft_iload_n dX11_isGoal_0 rfl ?_
  refine ft_bipush (v := 20) dX11_isGoal_1 rfl ?_
  refine fk_icmp_eq (tgt := 25) dX11_isGoal_3 (by decide) hf (fun hf => ?_) (fun hf => ?_)
  · refine ft_iconst (v := 1) dX11_isGoal_25 rfl ?_
    refine ft_goto (tgt := 30) dX11_isGoal_26 (by decide) ?_
    exact fk_retp hf dX11_isGoal_30 rfl rfl
  · refine ft_aload_n dX11_isGoal_6 rfl ?_
    refine ft_iload_n dX11_isGoal_7 rfl ?_
    obtain ⟨r8, hc8, hf⟩ := fq_vs hf
    refine ft_V1p cf_X11_42 (sh_78) (t_X11_isZone hc8) (Nat.le_of_ble_eq_true rfl) dX11_isGoal_8 ?_
    refine fk_if_ne (tgt := 25) dX11_isGoal_11 (by decide) hf (fun hf => ?_) (fun hf => ?_)
    · refine ft_iconst (v := 1) dX11_isGoal_25 rfl ?_
      refine ft_goto (tgt := 30) dX11_isGoal_26 (by decide) ?_
      exact fk_retp hf dX11_isGoal_30 rfl rfl
    · refine ft_aload_n dX11_isGoal_14 rfl ?_
      refine ft_iload_n dX11_isGoal_15 rfl ?_
      refine ft_bipush (v := 10) dX11_isGoal_16 rfl ?_
      refine ft_isub dX11_isGoal_18 ?_
      obtain ⟨r19, hc19, hf⟩ := fq_vs hf
      refine ft_V1p cf_X11_46 (sh_78) (t_X11_isShelter hc19) (Nat.le_of_ble_eq_true rfl) dX11_isGoal_19 ?_
      refine fk_if_eq (tgt := 29) dX11_isGoal_22 (by decide) hf (fun hf => ?_) (fun hf => ?_)
      · refine ft_iconst (v := 0) dX11_isGoal_29 rfl ?_
        exact fk_retp hf dX11_isGoal_30 rfl rfl
      · refine ft_iconst (v := 1) dX11_isGoal_25 rfl ?_
        refine ft_goto (tgt := 30) dX11_isGoal_26 (by decide) ?_
        exact fk_retp hf dX11_isGoal_30 rfl rfl
def f_X11_isLetter (I : fc_I) (x1 : Int32) : Option Int32 :=
if x1.toInt < (I 78 39).toInt then (
fq_g 160 x1 (
if (I 108 (cn x1)).toInt < (97 : Int32).toInt then (
some 0)
else (
fq_g 160 x1 (
if (122 : Int32).toInt < (I 108 (cn x1)).toInt then (
some 0)
else (
some 1)))))
else (
some 0)
set_option maxHeartbeats 4000000 in
set_option maxRecDepth 100000 in
theorem t_X11_isLetter {d : Nat} {v : Nat} {r : Int32} {I : fc_I} {x1 : Int32} (hf : f_X11_isLetter I x1 = some r) : fc_Cp X11_isLetter d [.ref 78, .int x1] fc_SH I (fc_PT v) r := by
  unfold f_X11_isLetter at hf
  refine fc_Cp.of (ls := [some (.ref 78), some (.int x1)]) ⟨rfl, rfl⟩ (Nat.le_of_ble_eq_true rfl) rfl ?_
  refine ft_iload_n dX11_isLetter_0 rfl ?_
  refine ft_aload_n dX11_isLetter_1 rfl ?_
  refine ft_getI fl_X11_177 rfl (sh_78) (by decide) dX11_isLetter_2 ?_
  refine fk_icmp_ge (tgt := 34) dX11_isLetter_5 (by decide) hf (fun hf => ?_) (fun hf => ?_)
  · refine ft_iconst (v := 0) dX11_isLetter_34 rfl ?_
    exact fk_retp hf dX11_isLetter_35 rfl rfl
  · refine ft_aload_n dX11_isLetter_8 rfl ?_
    refine ft_getR fl_X11_180 rfl (sh_78) (by decide) pt_78_38 dX11_isLetter_9 ?_
    refine ft_iload_n dX11_isLetter_12 rfl ?_
    refine fk_bald (sh_108) hf dX11_isLetter_13 (fun hf => ?_)
    refine ft_bipush (v := 97) dX11_isLetter_14 rfl ?_
    refine fk_icmp_lt (tgt := 34) dX11_isLetter_16 (by decide) hf (fun hf => ?_) (fun hf => ?_)
    · refine ft_iconst (v := 0) dX11_isLetter_34 rfl ?_
      exact fk_retp hf dX11_isLetter_35 rfl rfl
    · refine ft_aload_n dX11_isLetter_19 rfl ?_
      refine ft_getR fl_X11_180 rfl (sh_78) (by decide) pt_78_38 dX11_isLetter_20 ?_
      refine ft_iload_n dX11_isLetter_23 rfl ?_
      refine fk_bald (sh_108) hf dX11_isLetter_24 (fun hf => ?_)
      refine ft_bipush (v := 122) dX11_isLetter_25 rfl ?_
      refine fk_icmp_gt (tgt := 34) dX11_isLetter_27 (by decide) hf (fun hf => ?_) (fun hf => ?_)
      · refine ft_iconst (v := 0) dX11_isLetter_34 rfl ?_
        exact fk_retp hf dX11_isLetter_35 rfl rfl
      · refine ft_iconst (v := 1) dX11_isLetter_30 rfl ?_
        refine ft_goto (tgt := 35) dX11_isLetter_31 (by decide) ?_
        exact fk_retp hf dX11_isLetter_35 rfl rfl
def f_X11_isRoad (I : fc_I) (x1 : Int32) : Option Int32 :=
if x1.toInt < 0 then (
some 0)
else (
if x1.toInt < (I 78 13).toInt then (
some 1)
else (
some 0))
set_option maxHeartbeats 4000000 in
set_option maxRecDepth 100000 in
theorem t_X11_isRoad {d : Nat} {v : Nat} {r : Int32} {I : fc_I} {x1 : Int32} (hf : f_X11_isRoad I x1 = some r) : fc_Cp X11_isRoad d [.ref 78, .int x1] fc_SH I (fc_PT v) r := by
  unfold f_X11_isRoad at hf
  refine fc_Cp.of (ls := [some (.ref 78), some (.int x1)]) ⟨rfl, rfl⟩ (Nat.le_of_ble_eq_true rfl) rfl ?_
  refine ft_iload_n dX11_isRoad_0 rfl ?_
  refine fk_if_lt (tgt := 16) dX11_isRoad_1 (by decide) hf (fun hf => ?_) (fun hf => ?_)
  · refine ft_iconst (v := 0) dX11_isRoad_16 rfl ?_
    exact fk_retp hf dX11_isRoad_17 rfl rfl
  · refine ft_iload_n dX11_isRoad_4 rfl ?_
    refine ft_aload_n dX11_isRoad_5 rfl ?_
    refine ft_getI fl_X11_10 rfl (sh_78) (by decide) dX11_isRoad_6 ?_
    refine fk_icmp_ge (tgt := 16) dX11_isRoad_9 (by decide) hf (fun hf => ?_) (fun hf => ?_)
    · refine ft_iconst (v := 0) dX11_isRoad_16 rfl ?_
      exact fk_retp hf dX11_isRoad_17 rfl rfl
    · refine ft_iconst (v := 1) dX11_isRoad_12 rfl ?_
      refine ft_goto (tgt := 17) dX11_isRoad_13 (by decide) ?_
      exact fk_retp hf dX11_isRoad_17 rfl rfl
def f_X11_readNumber_5_B (k5 : fc_I → Option fc_I) (I : fc_I) : Option fc_I :=
fq_v (f_X11_isDigit I (I 78 44)) fun r10 =>
if r10.toInt = 0 then (
if (4 : Int32).toInt < ((I 78 44) - (I 78 47)).toInt then (
fq_l (fc_wI I 78 45 5) fun I92 =>
some I92)
else (
fq_l (fc_wI I 78 45 1) fun I92 =>
some I92))
else (
if ((I 78 44) - (I 78 47)).toInt < (4 : Int32).toInt then (
fq_g 160 (I 78 44) (
fq_l (fc_wI I 78 46 ((((10 : Int32) * (I 78 46)) + (I 108 (cn (I 78 44)))) - 48)) fun I57 =>
fq_l (fc_wI I57 78 44 ((I57 78 44) + 1)) fun I67 =>
k5 I67))
else (
fq_l (fc_wI I 78 46 (I 78 46)) fun I57 =>
fq_l (fc_wI I57 78 44 ((I57 78 44) + 1)) fun I67 =>
k5 I67))
def f_X11_readNumber_5 (n : Nat) : fc_I → Option fc_I := lpm0 (f_X11_readNumber_5_B ) n
def f_X11_readNumber (I : fc_I) : Option fc_I :=
fq_l (fc_wI I 78 46 0) fun I2 =>
f_X11_readNumber_5  4000 I2
set_option maxHeartbeats 4000000 in
set_option maxRecDepth 100000 in
theorem t_X11_readNumber_5 {d : Nat} {v : Nat} {J : fc_I} : ∀ (n : Nat) (I : fc_I) , f_X11_readNumber_5 n I = some J → fc_T X11_readNumber (d + 1) 0 0 5 [some (.ref 78)] [] fc_SH I (fc_PT v) (fc_Qv fc_SH (fun I' P' => I' = J ∧ P' = (fc_PT v))) := by
  unfold f_X11_readNumber_5
  refine lpm0_T (fun k5 hk5 I hf => ?_)
  unfold f_X11_readNumber_5_B at hf
  refine ft_aload_n dX11_readNumber_5 rfl ?_
  refine ft_aload_n dX11_readNumber_6 rfl ?_
  refine ft_getI fl_X11_184 rfl (sh_78) (by decide) dX11_readNumber_7 ?_
  obtain ⟨r10, hc10, hf⟩ := fq_vs hf
  refine ft_V1p cf_X11_206 (sh_78) (t_X11_isDigit hc10) (Nat.le_of_ble_eq_true rfl) dX11_readNumber_10 ?_
  refine fk_if_eq (tgt := 73) dX11_readNumber_13 (by decide) hf (fun hf => ?_) (fun hf => ?_)
  · refine ft_aload_n dX11_readNumber_73 rfl ?_
    refine ft_aload_n dX11_readNumber_74 rfl ?_
    refine ft_getI fl_X11_184 rfl (sh_78) (by decide) dX11_readNumber_75 ?_
    refine ft_aload_n dX11_readNumber_78 rfl ?_
    refine ft_getI fl_X11_196 rfl (sh_78) (by decide) dX11_readNumber_79 ?_
    refine ft_isub dX11_readNumber_82 ?_
    refine ft_iconst (v := 4) dX11_readNumber_83 rfl ?_
    refine fk_icmp_le (tgt := 91) dX11_readNumber_84 (by decide) hf (fun hf => ?_) (fun hf => ?_)
    · refine ft_iconst (v := 1) dX11_readNumber_91 rfl ?_
      refine ft_putI fl_X11_190 rfl (fun q h => by cases h; rfl) (sh_78) (by decide) dX11_readNumber_92 ?_
      exact fk_retv hf dX11_readNumber_95 rfl
    · refine ft_iconst (v := 5) dX11_readNumber_87 rfl ?_
      refine ft_goto (tgt := 92) dX11_readNumber_88 (by decide) ?_
      refine ft_putI fl_X11_190 rfl (fun q h => by cases h; rfl) (sh_78) (by decide) dX11_readNumber_92 ?_
      exact fk_retv hf dX11_readNumber_95 rfl
  · refine ft_aload_n dX11_readNumber_16 rfl ?_
    refine ft_aload_n dX11_readNumber_17 rfl ?_
    refine ft_getI fl_X11_184 rfl (sh_78) (by decide) dX11_readNumber_18 ?_
    refine ft_aload_n dX11_readNumber_21 rfl ?_
    refine ft_getI fl_X11_196 rfl (sh_78) (by decide) dX11_readNumber_22 ?_
    refine ft_isub dX11_readNumber_25 ?_
    refine ft_iconst (v := 4) dX11_readNumber_26 rfl ?_
    refine fk_icmp_ge (tgt := 53) dX11_readNumber_27 (by decide) hf (fun hf => ?_) (fun hf => ?_)
    · refine ft_aload_n dX11_readNumber_53 rfl ?_
      refine ft_getI fl_X11_203 rfl (sh_78) (by decide) dX11_readNumber_54 ?_
      refine ft_putI fl_X11_203 rfl (fun q h => by cases h; rfl) (sh_78) (by decide) dX11_readNumber_57 ?_
      refine ft_aload_n dX11_readNumber_60 rfl ?_
      refine ft_dup dX11_readNumber_61 rfl ?_
      refine ft_getI fl_X11_184 rfl (sh_78) (by decide) dX11_readNumber_62 ?_
      refine ft_iconst (v := 1) dX11_readNumber_65 rfl ?_
      refine ft_iadd dX11_readNumber_66 ?_
      refine ft_putI fl_X11_184 rfl (fun q h => by cases h; rfl) (sh_78) (by decide) dX11_readNumber_67 ?_
      refine ft_goto (tgt := 5) dX11_readNumber_70 (by decide) ?_
      exact ft_forget (by simp [fc_le, fc_st1, fc_st2, fc_kill]) (hk5 _ hf)
    · refine ft_bipush (v := 10) dX11_readNumber_30 rfl ?_
      refine ft_aload_n dX11_readNumber_32 rfl ?_
      refine ft_getI fl_X11_203 rfl (sh_78) (by decide) dX11_readNumber_33 ?_
      refine ft_imul dX11_readNumber_36 ?_
      refine ft_aload_n dX11_readNumber_37 rfl ?_
      refine ft_getR fl_X11_180 rfl (sh_78) (by decide) pt_78_38 dX11_readNumber_38 ?_
      refine ft_aload_n dX11_readNumber_41 rfl ?_
      refine ft_getI fl_X11_184 rfl (sh_78) (by decide) dX11_readNumber_42 ?_
      refine fk_bald (sh_108) hf dX11_readNumber_45 (fun hf => ?_)
      refine ft_iadd dX11_readNumber_46 ?_
      refine ft_bipush (v := 48) dX11_readNumber_47 rfl ?_
      refine ft_isub dX11_readNumber_49 ?_
      refine ft_goto (tgt := 57) dX11_readNumber_50 (by decide) ?_
      refine ft_putI fl_X11_203 rfl (fun q h => by cases h; rfl) (sh_78) (by decide) dX11_readNumber_57 ?_
      refine ft_aload_n dX11_readNumber_60 rfl ?_
      refine ft_dup dX11_readNumber_61 rfl ?_
      refine ft_getI fl_X11_184 rfl (sh_78) (by decide) dX11_readNumber_62 ?_
      refine ft_iconst (v := 1) dX11_readNumber_65 rfl ?_
      refine ft_iadd dX11_readNumber_66 ?_
      refine ft_putI fl_X11_184 rfl (fun q h => by cases h; rfl) (sh_78) (by decide) dX11_readNumber_67 ?_
      refine ft_goto (tgt := 5) dX11_readNumber_70 (by decide) ?_
      exact ft_forget (by simp [fc_le, fc_st1, fc_st2, fc_kill]) (hk5 _ hf)
set_option maxHeartbeats 4000000 in
set_option maxRecDepth 100000 in
theorem t_X11_readNumber {d : Nat} {v : Nat} {J : fc_I} {I : fc_I} (hf : f_X11_readNumber I = some J) : fc_Cv X11_readNumber (d + 1) [.ref 78] fc_SH I (fc_PT v) (fun I' P' => I' = J ∧ P' = (fc_PT v)) := by
  unfold f_X11_readNumber at hf
  refine fc_Cv.of (ls := [some (.ref 78)]) ⟨rfl, rfl⟩ (Nat.le_of_ble_eq_true rfl) rfl ?_
  refine ft_aload_n dX11_readNumber_0 rfl ?_
  refine ft_iconst (v := 0) dX11_readNumber_1 rfl ?_
  refine ft_putI fl_X11_203 rfl (fun q h => by cases h; rfl) (sh_78) (by decide) dX11_readNumber_2 ?_
  exact ft_forget (by simp [fc_le, fc_st1, fc_st2, fc_kill]) (t_X11_readNumber_5   _ _ hf)
def f_X11_readWord_75_B (x1 : Int32) (x2 : Int32) (k31 : Int32 → fc_I → Option fc_I) (k75 : Int32 → Int32 → fc_I → Option fc_I) (x3 : Int32) (x4 : Int32) (I : fc_I) : Option fc_I :=
if x4.toInt < x2.toInt then (
if x3.toInt = 0 then (
if x3.toInt = 0 then (
fq_l (x1 + 1) fun y163 =>
k31 y163 I)
else (
if x1.toInt < (6 : Int32).toInt then (
fq_l (fc_wI I 78 45 2) fun I142 =>
if x1.toInt < (6 : Int32).toInt then (
fq_l (fc_wI I142 78 46 x1) fun I160 =>
fq_l (x1 + 1) fun y163 =>
k31 y163 I160)
else (
fq_l (fc_wI I142 78 46 (x1 - 6)) fun I160 =>
fq_l (x1 + 1) fun y163 =>
k31 y163 I160))
else (
fq_l (fc_wI I 78 45 4) fun I142 =>
if x1.toInt < (6 : Int32).toInt then (
fq_l (fc_wI I142 78 46 x1) fun I160 =>
fq_l (x1 + 1) fun y163 =>
k31 y163 I160)
else (
fq_l (fc_wI I142 78 46 (x1 - 6)) fun I160 =>
fq_l (x1 + 1) fun y163 =>
k31 y163 I160))))
else (
fq_g 160 ((I 78 47) + x4) (
fq_g 12 x1 (
fq_g 44 ((I 112 (cn x1)) + x4) (
if (I 108 (cn ((I 78 47) + x4))).toInt = (I 111 (cn ((I 112 (cn x1)) + x4))).toInt then (
fq_l (x4 + 1) fun y120 =>
k75 1 y120 I)
else (
fq_l (x4 + 1) fun y120 =>
k75 0 y120 I))))))
else (
if x3.toInt = 0 then (
fq_l (x1 + 1) fun y163 =>
k31 y163 I)
else (
if x1.toInt < (6 : Int32).toInt then (
fq_l (fc_wI I 78 45 2) fun I142 =>
if x1.toInt < (6 : Int32).toInt then (
fq_l (fc_wI I142 78 46 x1) fun I160 =>
fq_l (x1 + 1) fun y163 =>
k31 y163 I160)
else (
fq_l (fc_wI I142 78 46 (x1 - 6)) fun I160 =>
fq_l (x1 + 1) fun y163 =>
k31 y163 I160))
else (
fq_l (fc_wI I 78 45 4) fun I142 =>
if x1.toInt < (6 : Int32).toInt then (
fq_l (fc_wI I142 78 46 x1) fun I160 =>
fq_l (x1 + 1) fun y163 =>
k31 y163 I160)
else (
fq_l (fc_wI I142 78 46 (x1 - 6)) fun I160 =>
fq_l (x1 + 1) fun y163 =>
k31 y163 I160))))
def f_X11_readWord_75 (x1 : Int32) (x2 : Int32) (k31 : Int32 → fc_I → Option fc_I) (n : Nat) : Int32 → Int32 → fc_I → Option fc_I := lpm2 (f_X11_readWord_75_B x1 x2 k31 ) n
def f_X11_readWord_31_B (k31 : Int32 → fc_I → Option fc_I) (x1 : Int32) (I : fc_I) : Option fc_I :=
if x1.toInt < (11 : Int32).toInt then (
fq_g 12 (x1 + 1) (
fq_g 12 x1 (
fq_l (((I 112 (cn (x1 + 1))) - (I 112 (cn x1)))) fun y52 =>
if y52.toInt = ((I 78 44) - (I 78 47)).toInt then (
f_X11_readWord_75 x1 y52 k31 4000 1 0 I)
else (
f_X11_readWord_75 x1 y52 k31 4000 0 0 I))))
else (
some I)
def f_X11_readWord_31 (n : Nat) : Int32 → fc_I → Option fc_I := lpm1 (f_X11_readWord_31_B ) n
def f_X11_readWord_0_B (k0 : fc_I → Option fc_I) (I : fc_I) : Option fc_I :=
fq_v (f_X11_isLetter I (I 78 44)) fun r5 =>
if r5.toInt = 0 then (
fq_l (fc_wI I 78 45 5) fun I26 =>
f_X11_readWord_31  4000 0 I26)
else (
fq_l (fc_wI I 78 44 ((I 78 44) + 1)) fun I18 =>
k0 I18)
def f_X11_readWord_0 (n : Nat) : fc_I → Option fc_I := lpm0 (f_X11_readWord_0_B ) n
def f_X11_readWord (I : fc_I) : Option fc_I :=
f_X11_readWord_0  4000 I
set_option maxHeartbeats 4000000 in
set_option maxRecDepth 100000 in
theorem t_X11_readWord_75 {d : Nat} {v : Nat} {J : fc_I} {x1 : Int32} {x2 : Int32} {k31 : Int32 → fc_I → Option fc_I} (hk31 : ∀ (x1 : Int32) (I : fc_I), k31 x1 I = some J → fc_T X11_readWord (d + 1) 0 0 31 [some (.ref 78), some (.int x1), none, none, none] [] fc_SH I (fc_PT v) (fc_Qv fc_SH (fun I' P' => I' = J ∧ P' = (fc_PT v)))) : ∀ (n : Nat) (x3 : Int32) (x4 : Int32) (I : fc_I) , f_X11_readWord_75 x1 x2 k31 n x3 x4 I = some J → fc_T X11_readWord (d + 1) 0 0 75 [some (.ref 78), some (.int x1), some (.int x2), some (.int x3), some (.int x4)] [] fc_SH I (fc_PT v) (fc_Qv fc_SH (fun I' P' => I' = J ∧ P' = (fc_PT v))) := by
  unfold f_X11_readWord_75
  refine lpm2_T (fun k75 hk75 x3 x4 I hf => ?_)
  unfold f_X11_readWord_75_B at hf
  refine ft_iload dX11_readWord_75 rfl ?_
  refine ft_iload_n dX11_readWord_77 rfl ?_
  refine fk_icmp_ge (tgt := 126) dX11_readWord_78 (by decide) hf (fun hf => ?_) (fun hf => ?_)
  · refine ft_iload_n dX11_readWord_126 rfl ?_
    refine fk_if_eq (tgt := 163) dX11_readWord_127 (by decide) hf (fun hf => ?_) (fun hf => ?_)
    · refine fk_iinc (c := 1) dX11_readWord_163 rfl (by decide) rfl ?_
      refine ft_goto (tgt := 31) dX11_readWord_166 (by decide) ?_
      exact ft_forget (by simp [fc_le, fc_st1, fc_st2, fc_kill]) (hk31 _ _ hf)
    · refine ft_aload_n dX11_readWord_130 rfl ?_
      refine ft_iload_n dX11_readWord_131 rfl ?_
      refine ft_bipush (v := 6) dX11_readWord_132 rfl ?_
      refine fk_icmp_ge (tgt := 141) dX11_readWord_134 (by decide) hf (fun hf => ?_) (fun hf => ?_)
      · refine ft_iconst (v := 4) dX11_readWord_141 rfl ?_
        refine ft_putI fl_X11_190 rfl (fun q h => by cases h; rfl) (sh_78) (by decide) dX11_readWord_142 ?_
        refine ft_aload_n dX11_readWord_145 rfl ?_
        refine ft_iload_n dX11_readWord_146 rfl ?_
        refine ft_bipush (v := 6) dX11_readWord_147 rfl ?_
        refine fk_icmp_ge (tgt := 156) dX11_readWord_149 (by decide) hf (fun hf => ?_) (fun hf => ?_)
        · refine ft_iload_n dX11_readWord_156 rfl ?_
          refine ft_bipush (v := 6) dX11_readWord_157 rfl ?_
          refine ft_isub dX11_readWord_159 ?_
          refine ft_putI fl_X11_203 rfl (fun q h => by cases h; rfl) (sh_78) (by decide) dX11_readWord_160 ?_
          refine fk_iinc (c := 1) dX11_readWord_163 rfl (by decide) rfl ?_
          refine ft_goto (tgt := 31) dX11_readWord_166 (by decide) ?_
          exact ft_forget (by simp [fc_le, fc_st1, fc_st2, fc_kill]) (hk31 _ _ hf)
        · refine ft_iload_n dX11_readWord_152 rfl ?_
          refine ft_goto (tgt := 160) dX11_readWord_153 (by decide) ?_
          refine ft_putI fl_X11_203 rfl (fun q h => by cases h; rfl) (sh_78) (by decide) dX11_readWord_160 ?_
          refine fk_iinc (c := 1) dX11_readWord_163 rfl (by decide) rfl ?_
          refine ft_goto (tgt := 31) dX11_readWord_166 (by decide) ?_
          exact ft_forget (by simp [fc_le, fc_st1, fc_st2, fc_kill]) (hk31 _ _ hf)
      · refine ft_iconst (v := 2) dX11_readWord_137 rfl ?_
        refine ft_goto (tgt := 142) dX11_readWord_138 (by decide) ?_
        refine ft_putI fl_X11_190 rfl (fun q h => by cases h; rfl) (sh_78) (by decide) dX11_readWord_142 ?_
        refine ft_aload_n dX11_readWord_145 rfl ?_
        refine ft_iload_n dX11_readWord_146 rfl ?_
        refine ft_bipush (v := 6) dX11_readWord_147 rfl ?_
        refine fk_icmp_ge (tgt := 156) dX11_readWord_149 (by decide) hf (fun hf => ?_) (fun hf => ?_)
        · refine ft_iload_n dX11_readWord_156 rfl ?_
          refine ft_bipush (v := 6) dX11_readWord_157 rfl ?_
          refine ft_isub dX11_readWord_159 ?_
          refine ft_putI fl_X11_203 rfl (fun q h => by cases h; rfl) (sh_78) (by decide) dX11_readWord_160 ?_
          refine fk_iinc (c := 1) dX11_readWord_163 rfl (by decide) rfl ?_
          refine ft_goto (tgt := 31) dX11_readWord_166 (by decide) ?_
          exact ft_forget (by simp [fc_le, fc_st1, fc_st2, fc_kill]) (hk31 _ _ hf)
        · refine ft_iload_n dX11_readWord_152 rfl ?_
          refine ft_goto (tgt := 160) dX11_readWord_153 (by decide) ?_
          refine ft_putI fl_X11_203 rfl (fun q h => by cases h; rfl) (sh_78) (by decide) dX11_readWord_160 ?_
          refine fk_iinc (c := 1) dX11_readWord_163 rfl (by decide) rfl ?_
          refine ft_goto (tgt := 31) dX11_readWord_166 (by decide) ?_
          exact ft_forget (by simp [fc_le, fc_st1, fc_st2, fc_kill]) (hk31 _ _ hf)
  · refine ft_iload_n dX11_readWord_81 rfl ?_
    refine fk_if_eq (tgt := 126) dX11_readWord_82 (by decide) hf (fun hf => ?_) (fun hf => ?_)
    · refine ft_iload_n dX11_readWord_126 rfl ?_
      refine fk_if_eq (tgt := 163) dX11_readWord_127 (by decide) hf (fun hf => ?_) (fun hf => ?_)
      · refine fk_iinc (c := 1) dX11_readWord_163 rfl (by decide) rfl ?_
        refine ft_goto (tgt := 31) dX11_readWord_166 (by decide) ?_
        exact ft_forget (by simp [fc_le, fc_st1, fc_st2, fc_kill]) (hk31 _ _ hf)
      · refine ft_aload_n dX11_readWord_130 rfl ?_
        refine ft_iload_n dX11_readWord_131 rfl ?_
        refine ft_bipush (v := 6) dX11_readWord_132 rfl ?_
        refine fk_icmp_ge (tgt := 141) dX11_readWord_134 (by decide) hf (fun hf => ?_) (fun hf => ?_)
        · refine ft_iconst (v := 4) dX11_readWord_141 rfl ?_
          refine ft_putI fl_X11_190 rfl (fun q h => by cases h; rfl) (sh_78) (by decide) dX11_readWord_142 ?_
          refine ft_aload_n dX11_readWord_145 rfl ?_
          refine ft_iload_n dX11_readWord_146 rfl ?_
          refine ft_bipush (v := 6) dX11_readWord_147 rfl ?_
          refine fk_icmp_ge (tgt := 156) dX11_readWord_149 (by decide) hf (fun hf => ?_) (fun hf => ?_)
          · refine ft_iload_n dX11_readWord_156 rfl ?_
            refine ft_bipush (v := 6) dX11_readWord_157 rfl ?_
            refine ft_isub dX11_readWord_159 ?_
            refine ft_putI fl_X11_203 rfl (fun q h => by cases h; rfl) (sh_78) (by decide) dX11_readWord_160 ?_
            refine fk_iinc (c := 1) dX11_readWord_163 rfl (by decide) rfl ?_
            refine ft_goto (tgt := 31) dX11_readWord_166 (by decide) ?_
            exact ft_forget (by simp [fc_le, fc_st1, fc_st2, fc_kill]) (hk31 _ _ hf)
          · refine ft_iload_n dX11_readWord_152 rfl ?_
            refine ft_goto (tgt := 160) dX11_readWord_153 (by decide) ?_
            refine ft_putI fl_X11_203 rfl (fun q h => by cases h; rfl) (sh_78) (by decide) dX11_readWord_160 ?_
            refine fk_iinc (c := 1) dX11_readWord_163 rfl (by decide) rfl ?_
            refine ft_goto (tgt := 31) dX11_readWord_166 (by decide) ?_
            exact ft_forget (by simp [fc_le, fc_st1, fc_st2, fc_kill]) (hk31 _ _ hf)
        · refine ft_iconst (v := 2) dX11_readWord_137 rfl ?_
          refine ft_goto (tgt := 142) dX11_readWord_138 (by decide) ?_
          refine ft_putI fl_X11_190 rfl (fun q h => by cases h; rfl) (sh_78) (by decide) dX11_readWord_142 ?_
          refine ft_aload_n dX11_readWord_145 rfl ?_
          refine ft_iload_n dX11_readWord_146 rfl ?_
          refine ft_bipush (v := 6) dX11_readWord_147 rfl ?_
          refine fk_icmp_ge (tgt := 156) dX11_readWord_149 (by decide) hf (fun hf => ?_) (fun hf => ?_)
          · refine ft_iload_n dX11_readWord_156 rfl ?_
            refine ft_bipush (v := 6) dX11_readWord_157 rfl ?_
            refine ft_isub dX11_readWord_159 ?_
            refine ft_putI fl_X11_203 rfl (fun q h => by cases h; rfl) (sh_78) (by decide) dX11_readWord_160 ?_
            refine fk_iinc (c := 1) dX11_readWord_163 rfl (by decide) rfl ?_
            refine ft_goto (tgt := 31) dX11_readWord_166 (by decide) ?_
            exact ft_forget (by simp [fc_le, fc_st1, fc_st2, fc_kill]) (hk31 _ _ hf)
          · refine ft_iload_n dX11_readWord_152 rfl ?_
            refine ft_goto (tgt := 160) dX11_readWord_153 (by decide) ?_
            refine ft_putI fl_X11_203 rfl (fun q h => by cases h; rfl) (sh_78) (by decide) dX11_readWord_160 ?_
            refine fk_iinc (c := 1) dX11_readWord_163 rfl (by decide) rfl ?_
            refine ft_goto (tgt := 31) dX11_readWord_166 (by decide) ?_
            exact ft_forget (by simp [fc_le, fc_st1, fc_st2, fc_kill]) (hk31 _ _ hf)
    · refine ft_aload_n dX11_readWord_85 rfl ?_
      refine ft_getR fl_X11_180 rfl (sh_78) (by decide) pt_78_38 dX11_readWord_86 ?_
      refine ft_aload_n dX11_readWord_89 rfl ?_
      refine ft_getI fl_X11_196 rfl (sh_78) (by decide) dX11_readWord_90 ?_
      refine ft_iload dX11_readWord_93 rfl ?_
      refine ft_iadd dX11_readWord_95 ?_
      refine fk_bald (sh_108) hf dX11_readWord_96 (fun hf => ?_)
      refine ft_aload_n dX11_readWord_97 rfl ?_
      refine ft_getR fl_X11_199 rfl (sh_78) (by decide) pt_78_48 dX11_readWord_98 ?_
      refine ft_aload_n dX11_readWord_101 rfl ?_
      refine ft_getR fl_X11_193 rfl (sh_78) (by decide) pt_78_49 dX11_readWord_102 ?_
      refine ft_iload_n dX11_readWord_105 rfl ?_
      refine fk_iald (sh_112) hf dX11_readWord_106 (fun hf => ?_)
      refine ft_iload dX11_readWord_107 rfl ?_
      refine ft_iadd dX11_readWord_109 ?_
      refine fk_cald (sh_111) hf dX11_readWord_110 (fun hf => ?_)
      refine fk_icmp_ne (tgt := 118) dX11_readWord_111 (by decide) hf (fun hf => ?_) (fun hf => ?_)
      · refine ft_iconst (v := 0) dX11_readWord_118 rfl ?_
        refine ft_istore_n dX11_readWord_119 (by decide) ?_
        refine fk_iinc (c := 1) dX11_readWord_120 rfl (by decide) rfl ?_
        refine ft_goto (tgt := 75) dX11_readWord_123 (by decide) ?_
        exact ft_forget (by simp [fc_le, fc_st1, fc_st2, fc_kill]) (hk75 _ _ _ hf)
      · refine ft_iconst (v := 1) dX11_readWord_114 rfl ?_
        refine ft_goto (tgt := 119) dX11_readWord_115 (by decide) ?_
        refine ft_istore_n dX11_readWord_119 (by decide) ?_
        refine fk_iinc (c := 1) dX11_readWord_120 rfl (by decide) rfl ?_
        refine ft_goto (tgt := 75) dX11_readWord_123 (by decide) ?_
        exact ft_forget (by simp [fc_le, fc_st1, fc_st2, fc_kill]) (hk75 _ _ _ hf)
set_option maxHeartbeats 4000000 in
set_option maxRecDepth 100000 in
theorem t_X11_readWord_31 {d : Nat} {v : Nat} {J : fc_I} : ∀ (n : Nat) (x1 : Int32) (I : fc_I) , f_X11_readWord_31 n x1 I = some J → fc_T X11_readWord (d + 1) 0 0 31 [some (.ref 78), some (.int x1), none, none, none] [] fc_SH I (fc_PT v) (fc_Qv fc_SH (fun I' P' => I' = J ∧ P' = (fc_PT v))) := by
  unfold f_X11_readWord_31
  refine lpm1_T (fun k31 hk31 x1 I hf => ?_)
  unfold f_X11_readWord_31_B at hf
  refine ft_iload_n dX11_readWord_31 rfl ?_
  refine ft_bipush (v := 11) dX11_readWord_32 rfl ?_
  refine fk_icmp_ge (tgt := 169) dX11_readWord_34 (by decide) hf (fun hf => ?_) (fun hf => ?_)
  · exact fk_retv hf dX11_readWord_169 rfl
  · refine ft_aload_n dX11_readWord_37 rfl ?_
    refine ft_getR fl_X11_193 rfl (sh_78) (by decide) pt_78_49 dX11_readWord_38 ?_
    refine ft_iload_n dX11_readWord_41 rfl ?_
    refine ft_iconst (v := 1) dX11_readWord_42 rfl ?_
    refine ft_iadd dX11_readWord_43 ?_
    refine fk_iald (sh_112) hf dX11_readWord_44 (fun hf => ?_)
    refine ft_aload_n dX11_readWord_45 rfl ?_
    refine ft_getR fl_X11_193 rfl (sh_78) (by decide) pt_78_49 dX11_readWord_46 ?_
    refine ft_iload_n dX11_readWord_49 rfl ?_
    refine fk_iald (sh_112) hf dX11_readWord_50 (fun hf => ?_)
    refine ft_isub dX11_readWord_51 ?_
    refine ft_istore_n dX11_readWord_52 (by decide) ?_
    refine ft_iload_n dX11_readWord_53 rfl ?_
    refine ft_aload_n dX11_readWord_54 rfl ?_
    refine ft_getI fl_X11_184 rfl (sh_78) (by decide) dX11_readWord_55 ?_
    refine ft_aload_n dX11_readWord_58 rfl ?_
    refine ft_getI fl_X11_196 rfl (sh_78) (by decide) dX11_readWord_59 ?_
    refine ft_isub dX11_readWord_62 ?_
    refine fk_icmp_ne (tgt := 70) dX11_readWord_63 (by decide) hf (fun hf => ?_) (fun hf => ?_)
    · refine ft_iconst (v := 0) dX11_readWord_70 rfl ?_
      refine ft_istore_n dX11_readWord_71 (by decide) ?_
      refine ft_iconst (v := 0) dX11_readWord_72 rfl ?_
      refine ft_istore dX11_readWord_73 (by decide) ?_
      exact ft_forget (by simp [fc_le, fc_st1, fc_st2, fc_kill]) (t_X11_readWord_75  hk31 _ _ _ _ hf)
    · refine ft_iconst (v := 1) dX11_readWord_66 rfl ?_
      refine ft_goto (tgt := 71) dX11_readWord_67 (by decide) ?_
      refine ft_istore_n dX11_readWord_71 (by decide) ?_
      refine ft_iconst (v := 0) dX11_readWord_72 rfl ?_
      refine ft_istore dX11_readWord_73 (by decide) ?_
      exact ft_forget (by simp [fc_le, fc_st1, fc_st2, fc_kill]) (t_X11_readWord_75  hk31 _ _ _ _ hf)
set_option maxHeartbeats 4000000 in
set_option maxRecDepth 100000 in
theorem t_X11_readWord_0 {d : Nat} {v : Nat} {J : fc_I} : ∀ (n : Nat) (I : fc_I) , f_X11_readWord_0 n I = some J → fc_T X11_readWord (d + 1) 0 0 0 [some (.ref 78), none, none, none, none] [] fc_SH I (fc_PT v) (fc_Qv fc_SH (fun I' P' => I' = J ∧ P' = (fc_PT v))) := by
  unfold f_X11_readWord_0
  refine lpm0_T (fun k0 hk0 I hf => ?_)
  unfold f_X11_readWord_0_B at hf
  refine ft_aload_n dX11_readWord_0 rfl ?_
  refine ft_aload_n dX11_readWord_1 rfl ?_
  refine ft_getI fl_X11_184 rfl (sh_78) (by decide) dX11_readWord_2 ?_
  obtain ⟨r5, hc5, hf⟩ := fq_vs hf
  refine ft_V1p cf_X11_187 (sh_78) (t_X11_isLetter hc5) (Nat.le_of_ble_eq_true rfl) dX11_readWord_5 ?_
  refine fk_if_eq (tgt := 24) dX11_readWord_8 (by decide) hf (fun hf => ?_) (fun hf => ?_)
  · refine ft_aload_n dX11_readWord_24 rfl ?_
    refine ft_iconst (v := 5) dX11_readWord_25 rfl ?_
    refine ft_putI fl_X11_190 rfl (fun q h => by cases h; rfl) (sh_78) (by decide) dX11_readWord_26 ?_
    refine ft_iconst (v := 0) dX11_readWord_29 rfl ?_
    refine ft_istore_n dX11_readWord_30 (by decide) ?_
    exact ft_forget (by simp [fc_le, fc_st1, fc_st2, fc_kill]) (t_X11_readWord_31   _ _ _ hf)
  · refine ft_aload_n dX11_readWord_11 rfl ?_
    refine ft_dup dX11_readWord_12 rfl ?_
    refine ft_getI fl_X11_184 rfl (sh_78) (by decide) dX11_readWord_13 ?_
    refine ft_iconst (v := 1) dX11_readWord_16 rfl ?_
    refine ft_iadd dX11_readWord_17 ?_
    refine ft_putI fl_X11_184 rfl (fun q h => by cases h; rfl) (sh_78) (by decide) dX11_readWord_18 ?_
    refine ft_goto (tgt := 0) dX11_readWord_21 (by decide) ?_
    exact ft_forget (by simp [fc_le, fc_st1, fc_st2, fc_kill]) (hk0 _ hf)
set_option maxHeartbeats 4000000 in
set_option maxRecDepth 100000 in
theorem t_X11_readWord {d : Nat} {v : Nat} {J : fc_I} {I : fc_I} (hf : f_X11_readWord I = some J) : fc_Cv X11_readWord (d + 1) [.ref 78] fc_SH I (fc_PT v) (fun I' P' => I' = J ∧ P' = (fc_PT v)) := by
  unfold f_X11_readWord at hf
  refine fc_Cv.of (ls := [some (.ref 78), none, none, none, none]) ⟨rfl, rfl⟩ (Nat.le_of_ble_eq_true rfl) rfl ?_
  exact ft_forget (by simp [fc_le, fc_st1, fc_st2, fc_kill]) (t_X11_readWord_0   _ _ hf)
def f_X11_next_200 (I : fc_I) : Option fc_I :=
fq_l (fc_wI I 78 45 3) fun I216 =>
fq_l (fc_wI I216 78 44 ((I216 78 44) + 1)) fun I226 =>
some I226
def f_X11_next_52 (I : fc_I) : Option fc_I :=
fq_l (fc_wI I 78 47 (I 78 44)) fun I57 =>
if (I57 78 44).toInt = (I57 78 39).toInt then (
fq_l (fc_wI I57 78 45 0) fun I73 =>
some I73)
else (
fq_v (f_X11_isLetter I57 (I57 78 44)) fun r84 =>
if r84.toInt = 0 then (
fq_v (f_X11_isDigit I57 (I57 78 44)) fun r102 =>
if r102.toInt = 0 then (
fq_g 160 (I57 78 44) (
fq_l (fc_wI I57 78 46 (I57 108 (cn (I57 78 44)))) fun I125 =>
if (I125 78 46).toInt = (40 : Int32).toInt then (
f_X11_next_200  I125)
else (
if (I125 78 46).toInt = (41 : Int32).toInt then (
f_X11_next_200  I125)
else (
if (I125 78 46).toInt = (59 : Int32).toInt then (
f_X11_next_200  I125)
else (
if (I125 78 46).toInt = (43 : Int32).toInt then (
f_X11_next_200  I125)
else (
if (I125 78 46).toInt = (45 : Int32).toInt then (
f_X11_next_200  I125)
else (
if (I125 78 46).toInt = (42 : Int32).toInt then (
f_X11_next_200  I125)
else (
if (I125 78 46).toInt = (60 : Int32).toInt then (
f_X11_next_200  I125)
else (
if (I125 78 46).toInt = (61 : Int32).toInt then (
f_X11_next_200  I125)
else (
fq_l (fc_wI I125 78 45 5) fun I216 =>
fq_l (fc_wI I216 78 44 ((I216 78 44) + 1)) fun I226 =>
some I226))))))))))
else (
fq_u (f_X11_readNumber I57) fun I109 =>
some I109))
else (
fq_u (f_X11_readWord I57) fun I91 =>
some I91))
def f_X11_next_0_B (k0 : fc_I → Option fc_I) (I : fc_I) : Option fc_I :=
if (I 78 44).toInt < (I 78 39).toInt then (
fq_g 160 (I 78 44) (
if (I 108 (cn (I 78 44))).toInt = (32 : Int32).toInt then (
fq_l (fc_wI I 78 44 ((I 78 44) + 1)) fun I46 =>
k0 I46)
else (
fq_g 160 (I 78 44) (
if (I 108 (cn (I 78 44))).toInt = (10 : Int32).toInt then (
fq_l (fc_wI I 78 44 ((I 78 44) + 1)) fun I46 =>
k0 I46)
else (
f_X11_next_52  I)))))
else (
f_X11_next_52  I)
def f_X11_next_0 (n : Nat) : fc_I → Option fc_I := lpm0 (f_X11_next_0_B ) n
def f_X11_next (I : fc_I) : Option fc_I :=
f_X11_next_0  4000 I
set_option maxHeartbeats 4000000 in
set_option maxRecDepth 100000 in
theorem t_X11_next_200 {d : Nat} {v : Nat} {J : fc_I} : ∀ (I : fc_I) , f_X11_next_200  I = some J → fc_T X11_next (d + 2) 0 0 200 [some (.ref 78), none] [] fc_SH I (fc_PT v) (fc_Qv fc_SH (fun I' P' => I' = J ∧ P' = (fc_PT v))) := by
  intro I hf
  unfold f_X11_next_200 at hf
  refine ft_iconst (v := 1) dX11_next_200 rfl ?_
  refine ft_goto (tgt := 205) dX11_next_201 (by decide) ?_
  refine ft_istore_n dX11_next_205 (by decide) ?_
  refine ft_aload_n dX11_next_206 rfl ?_
  refine ft_iload_n dX11_next_207 rfl ?_
  refine fj_if_eq (tgt := 215) dX11_next_208 (by decide) (fun h => absurd h (by decide)) (fun _ => ?_)
  refine ft_iconst (v := 3) dX11_next_211 rfl ?_
  refine ft_goto (tgt := 216) dX11_next_212 (by decide) ?_
  refine ft_putI fl_X11_190 rfl (fun q h => by cases h; rfl) (sh_78) (by decide) dX11_next_216 ?_
  refine ft_aload_n dX11_next_219 rfl ?_
  refine ft_dup dX11_next_220 rfl ?_
  refine ft_getI fl_X11_184 rfl (sh_78) (by decide) dX11_next_221 ?_
  refine ft_iconst (v := 1) dX11_next_224 rfl ?_
  refine ft_iadd dX11_next_225 ?_
  refine ft_putI fl_X11_184 rfl (fun q h => by cases h; rfl) (sh_78) (by decide) dX11_next_226 ?_
  exact fk_retv hf dX11_next_229 rfl
set_option maxHeartbeats 4000000 in
set_option maxRecDepth 100000 in
theorem t_X11_next_52 {d : Nat} {v : Nat} {J : fc_I} : ∀ (I : fc_I) , f_X11_next_52  I = some J → fc_T X11_next (d + 2) 0 0 52 [some (.ref 78), none] [] fc_SH I (fc_PT v) (fc_Qv fc_SH (fun I' P' => I' = J ∧ P' = (fc_PT v))) := by
  intro I hf
  unfold f_X11_next_52 at hf
  refine ft_aload_n dX11_next_52 rfl ?_
  refine ft_aload_n dX11_next_53 rfl ?_
  refine ft_getI fl_X11_184 rfl (sh_78) (by decide) dX11_next_54 ?_
  refine ft_putI fl_X11_196 rfl (fun q h => by cases h; rfl) (sh_78) (by decide) dX11_next_57 ?_
  refine ft_aload_n dX11_next_60 rfl ?_
  refine ft_getI fl_X11_184 rfl (sh_78) (by decide) dX11_next_61 ?_
  refine ft_aload_n dX11_next_64 rfl ?_
  refine ft_getI fl_X11_177 rfl (sh_78) (by decide) dX11_next_65 ?_
  refine fk_icmp_ne (tgt := 79) dX11_next_68 (by decide) hf (fun hf => ?_) (fun hf => ?_)
  · refine ft_aload_n dX11_next_79 rfl ?_
    refine ft_aload_n dX11_next_80 rfl ?_
    refine ft_getI fl_X11_184 rfl (sh_78) (by decide) dX11_next_81 ?_
    obtain ⟨r84, hc84, hf⟩ := fq_vs hf
    refine ft_V1p cf_X11_187 (sh_78) (t_X11_isLetter hc84) (Nat.le_of_ble_eq_true rfl) dX11_next_84 ?_
    refine fk_if_eq (tgt := 97) dX11_next_87 (by decide) hf (fun hf => ?_) (fun hf => ?_)
    · refine ft_aload_n dX11_next_97 rfl ?_
      refine ft_aload_n dX11_next_98 rfl ?_
      refine ft_getI fl_X11_184 rfl (sh_78) (by decide) dX11_next_99 ?_
      obtain ⟨r102, hc102, hf⟩ := fq_vs hf
      refine ft_V1p cf_X11_206 (sh_78) (t_X11_isDigit hc102) (Nat.le_of_ble_eq_true rfl) dX11_next_102 ?_
      refine fk_if_eq (tgt := 115) dX11_next_105 (by decide) hf (fun hf => ?_) (fun hf => ?_)
      · refine ft_aload_n dX11_next_115 rfl ?_
        refine ft_aload_n dX11_next_116 rfl ?_
        refine ft_getR fl_X11_180 rfl (sh_78) (by decide) pt_78_38 dX11_next_117 ?_
        refine ft_aload_n dX11_next_120 rfl ?_
        refine ft_getI fl_X11_184 rfl (sh_78) (by decide) dX11_next_121 ?_
        refine fk_bald (sh_108) hf dX11_next_124 (fun hf => ?_)
        refine ft_putI fl_X11_203 rfl (fun q h => by cases h; rfl) (sh_78) (by decide) dX11_next_125 ?_
        refine ft_aload_n dX11_next_128 rfl ?_
        refine ft_getI fl_X11_203 rfl (sh_78) (by decide) dX11_next_129 ?_
        refine ft_bipush (v := 40) dX11_next_132 rfl ?_
        refine fk_icmp_eq (tgt := 200) dX11_next_134 (by decide) hf (fun hf => ?_) (fun hf => ?_)
        · exact ft_forget (by simp [fc_le, fc_st1, fc_st2, fc_kill]) (t_X11_next_200    _ hf)
        · refine ft_aload_n dX11_next_137 rfl ?_
          refine ft_getI fl_X11_203 rfl (sh_78) (by decide) dX11_next_138 ?_
          refine ft_bipush (v := 41) dX11_next_141 rfl ?_
          refine fk_icmp_eq (tgt := 200) dX11_next_143 (by decide) hf (fun hf => ?_) (fun hf => ?_)
          · exact ft_forget (by simp [fc_le, fc_st1, fc_st2, fc_kill]) (t_X11_next_200    _ hf)
          · refine ft_aload_n dX11_next_146 rfl ?_
            refine ft_getI fl_X11_203 rfl (sh_78) (by decide) dX11_next_147 ?_
            refine ft_bipush (v := 59) dX11_next_150 rfl ?_
            refine fk_icmp_eq (tgt := 200) dX11_next_152 (by decide) hf (fun hf => ?_) (fun hf => ?_)
            · exact ft_forget (by simp [fc_le, fc_st1, fc_st2, fc_kill]) (t_X11_next_200    _ hf)
            · refine ft_aload_n dX11_next_155 rfl ?_
              refine ft_getI fl_X11_203 rfl (sh_78) (by decide) dX11_next_156 ?_
              refine ft_bipush (v := 43) dX11_next_159 rfl ?_
              refine fk_icmp_eq (tgt := 200) dX11_next_161 (by decide) hf (fun hf => ?_) (fun hf => ?_)
              · exact ft_forget (by simp [fc_le, fc_st1, fc_st2, fc_kill]) (t_X11_next_200    _ hf)
              · refine ft_aload_n dX11_next_164 rfl ?_
                refine ft_getI fl_X11_203 rfl (sh_78) (by decide) dX11_next_165 ?_
                refine ft_bipush (v := 45) dX11_next_168 rfl ?_
                refine fk_icmp_eq (tgt := 200) dX11_next_170 (by decide) hf (fun hf => ?_) (fun hf => ?_)
                · exact ft_forget (by simp [fc_le, fc_st1, fc_st2, fc_kill]) (t_X11_next_200    _ hf)
                · refine ft_aload_n dX11_next_173 rfl ?_
                  refine ft_getI fl_X11_203 rfl (sh_78) (by decide) dX11_next_174 ?_
                  refine ft_bipush (v := 42) dX11_next_177 rfl ?_
                  refine fk_icmp_eq (tgt := 200) dX11_next_179 (by decide) hf (fun hf => ?_) (fun hf => ?_)
                  · exact ft_forget (by simp [fc_le, fc_st1, fc_st2, fc_kill]) (t_X11_next_200    _ hf)
                  · refine ft_aload_n dX11_next_182 rfl ?_
                    refine ft_getI fl_X11_203 rfl (sh_78) (by decide) dX11_next_183 ?_
                    refine ft_bipush (v := 60) dX11_next_186 rfl ?_
                    refine fk_icmp_eq (tgt := 200) dX11_next_188 (by decide) hf (fun hf => ?_) (fun hf => ?_)
                    · exact ft_forget (by simp [fc_le, fc_st1, fc_st2, fc_kill]) (t_X11_next_200    _ hf)
                    · refine ft_aload_n dX11_next_191 rfl ?_
                      refine ft_getI fl_X11_203 rfl (sh_78) (by decide) dX11_next_192 ?_
                      refine ft_bipush (v := 61) dX11_next_195 rfl ?_
                      refine fk_icmp_ne (tgt := 204) dX11_next_197 (by decide) hf (fun hf => ?_) (fun hf => ?_)
                      · refine ft_iconst (v := 0) dX11_next_204 rfl ?_
                        refine ft_istore_n dX11_next_205 (by decide) ?_
                        refine ft_aload_n dX11_next_206 rfl ?_
                        refine ft_iload_n dX11_next_207 rfl ?_
                        refine fj_if_eq (tgt := 215) dX11_next_208 (by decide) (fun _ => ?_) (fun h => absurd h (by decide))
                        refine ft_iconst (v := 5) dX11_next_215 rfl ?_
                        refine ft_putI fl_X11_190 rfl (fun q h => by cases h; rfl) (sh_78) (by decide) dX11_next_216 ?_
                        refine ft_aload_n dX11_next_219 rfl ?_
                        refine ft_dup dX11_next_220 rfl ?_
                        refine ft_getI fl_X11_184 rfl (sh_78) (by decide) dX11_next_221 ?_
                        refine ft_iconst (v := 1) dX11_next_224 rfl ?_
                        refine ft_iadd dX11_next_225 ?_
                        refine ft_putI fl_X11_184 rfl (fun q h => by cases h; rfl) (sh_78) (by decide) dX11_next_226 ?_
                        exact fk_retv hf dX11_next_229 rfl
                      · exact ft_forget (by simp [fc_le, fc_st1, fc_st2, fc_kill]) (t_X11_next_200    _ hf)
      · refine ft_aload_n dX11_next_108 rfl ?_
        obtain ⟨I109, hc109, hf⟩ := fq_us hf
        refine ft_V0v cf_X11_213 (sh_78) (t_X11_readNumber hc109) (Nat.le_of_ble_eq_true rfl) dX11_next_109 (fun J P' q => ?_)
        obtain ⟨rfl, rfl⟩ := q
        refine ft_goto (tgt := 229) dX11_next_112 (by decide) ?_
        exact fk_retv hf dX11_next_229 rfl
    · refine ft_aload_n dX11_next_90 rfl ?_
      obtain ⟨I91, hc91, hf⟩ := fq_us hf
      refine ft_V0v cf_X11_209 (sh_78) (t_X11_readWord hc91) (Nat.le_of_ble_eq_true rfl) dX11_next_91 (fun J P' q => ?_)
      obtain ⟨rfl, rfl⟩ := q
      refine ft_goto (tgt := 229) dX11_next_94 (by decide) ?_
      exact fk_retv hf dX11_next_229 rfl
  · refine ft_aload_n dX11_next_71 rfl ?_
    refine ft_iconst (v := 0) dX11_next_72 rfl ?_
    refine ft_putI fl_X11_190 rfl (fun q h => by cases h; rfl) (sh_78) (by decide) dX11_next_73 ?_
    refine ft_goto (tgt := 229) dX11_next_76 (by decide) ?_
    exact fk_retv hf dX11_next_229 rfl
set_option maxHeartbeats 4000000 in
set_option maxRecDepth 100000 in
theorem t_X11_next_0 {d : Nat} {v : Nat} {J : fc_I} : ∀ (n : Nat) (I : fc_I) , f_X11_next_0 n I = some J → fc_T X11_next (d + 2) 0 0 0 [some (.ref 78), none] [] fc_SH I (fc_PT v) (fc_Qv fc_SH (fun I' P' => I' = J ∧ P' = (fc_PT v))) := by
  unfold f_X11_next_0
  refine lpm0_T (fun k0 hk0 I hf => ?_)
  unfold f_X11_next_0_B at hf
  refine ft_aload_n dX11_next_0 rfl ?_
  refine ft_getI fl_X11_184 rfl (sh_78) (by decide) dX11_next_1 ?_
  refine ft_aload_n dX11_next_4 rfl ?_
  refine ft_getI fl_X11_177 rfl (sh_78) (by decide) dX11_next_5 ?_
  refine fk_icmp_ge (tgt := 52) dX11_next_8 (by decide) hf (fun hf => ?_) (fun hf => ?_)
  · exact ft_forget (by simp [fc_le, fc_st1, fc_st2, fc_kill]) (t_X11_next_52    _ hf)
  · refine ft_aload_n dX11_next_11 rfl ?_
    refine ft_getR fl_X11_180 rfl (sh_78) (by decide) pt_78_38 dX11_next_12 ?_
    refine ft_aload_n dX11_next_15 rfl ?_
    refine ft_getI fl_X11_184 rfl (sh_78) (by decide) dX11_next_16 ?_
    refine fk_bald (sh_108) hf dX11_next_19 (fun hf => ?_)
    refine ft_bipush (v := 32) dX11_next_20 rfl ?_
    refine fk_icmp_eq (tgt := 39) dX11_next_22 (by decide) hf (fun hf => ?_) (fun hf => ?_)
    · refine ft_aload_n dX11_next_39 rfl ?_
      refine ft_dup dX11_next_40 rfl ?_
      refine ft_getI fl_X11_184 rfl (sh_78) (by decide) dX11_next_41 ?_
      refine ft_iconst (v := 1) dX11_next_44 rfl ?_
      refine ft_iadd dX11_next_45 ?_
      refine ft_putI fl_X11_184 rfl (fun q h => by cases h; rfl) (sh_78) (by decide) dX11_next_46 ?_
      refine ft_goto (tgt := 0) dX11_next_49 (by decide) ?_
      exact ft_forget (by simp [fc_le, fc_st1, fc_st2, fc_kill]) (hk0 _ hf)
    · refine ft_aload_n dX11_next_25 rfl ?_
      refine ft_getR fl_X11_180 rfl (sh_78) (by decide) pt_78_38 dX11_next_26 ?_
      refine ft_aload_n dX11_next_29 rfl ?_
      refine ft_getI fl_X11_184 rfl (sh_78) (by decide) dX11_next_30 ?_
      refine fk_bald (sh_108) hf dX11_next_33 (fun hf => ?_)
      refine ft_bipush (v := 10) dX11_next_34 rfl ?_
      refine fk_icmp_ne (tgt := 52) dX11_next_36 (by decide) hf (fun hf => ?_) (fun hf => ?_)
      · exact ft_forget (by simp [fc_le, fc_st1, fc_st2, fc_kill]) (t_X11_next_52    _ hf)
      · refine ft_aload_n dX11_next_39 rfl ?_
        refine ft_dup dX11_next_40 rfl ?_
        refine ft_getI fl_X11_184 rfl (sh_78) (by decide) dX11_next_41 ?_
        refine ft_iconst (v := 1) dX11_next_44 rfl ?_
        refine ft_iadd dX11_next_45 ?_
        refine ft_putI fl_X11_184 rfl (fun q h => by cases h; rfl) (sh_78) (by decide) dX11_next_46 ?_
        refine ft_goto (tgt := 0) dX11_next_49 (by decide) ?_
        exact ft_forget (by simp [fc_le, fc_st1, fc_st2, fc_kill]) (hk0 _ hf)
set_option maxHeartbeats 4000000 in
set_option maxRecDepth 100000 in
theorem t_X11_next {d : Nat} {v : Nat} {J : fc_I} {I : fc_I} (hf : f_X11_next I = some J) : fc_Cv X11_next (d + 2) [.ref 78] fc_SH I (fc_PT v) (fun I' P' => I' = J ∧ P' = (fc_PT v)) := by
  unfold f_X11_next at hf
  refine fc_Cv.of (ls := [some (.ref 78), none]) ⟨rfl, rfl⟩ (Nat.le_of_ble_eq_true rfl) rfl ?_
  exact ft_forget (by simp [fc_le, fc_st1, fc_st2, fc_kill]) (t_X11_next_0   _ _ hf)
def f_X11_readE_96 (x1 : Int32) (k40 : Int32 → Int32 → fc_I → Option (Int32 × fc_I)) (x2 : Int32) (x3 : Int32) (I : fc_I) : Option (Int32 × fc_I) :=
if x2.toInt = 0 then (
fq_v (f_X11_isSign I 59) fun r135 =>
if r135.toInt = 0 then (
fq_b (f_X11_between I) fun r166 I166 =>
if r166.toInt = 0 then (
fq_b (f_X11_closes I166) fun r200 I200 =>
if r200.toInt = 0 then (
some (0, I200))
else (
fq_u (f_X11_next I200) fun I209 =>
k40 x2 x3 I209))
else (
fq_v (f_X11_isKey I166 3) fun r176 =>
if r176.toInt = 0 then (
fq_v (f_X11_isKey I166 2) fun r184 =>
if r184.toInt = 0 then (
fq_u (f_X11_next I166) fun I209 =>
k40 1 0 I209)
else (
fq_u (f_X11_next I166) fun I209 =>
k40 1 1 I209))
else (
fq_u (f_X11_next I166) fun I209 =>
k40 1 1 I209)))
else (
if (I 78 53).toInt = 0 then (
fq_u (f_X11_doAll I 1) fun I150 =>
fq_g 12 x1 (fq_l (fc_wI I150 110 (cn x1) (I150 78 56)) fun I162 =>
some (1, I162)))
else (
fq_b (f_X11_between I) fun r166 I166 =>
if r166.toInt = 0 then (
fq_b (f_X11_closes I166) fun r200 I200 =>
if r200.toInt = 0 then (
some (0, I200))
else (
fq_u (f_X11_next I200) fun I209 =>
k40 x2 x3 I209))
else (
fq_v (f_X11_isKey I166 3) fun r176 =>
if r176.toInt = 0 then (
fq_v (f_X11_isKey I166 2) fun r184 =>
if r184.toInt = 0 then (
fq_u (f_X11_next I166) fun I209 =>
k40 1 0 I209)
else (
fq_u (f_X11_next I166) fun I209 =>
k40 1 1 I209))
else (
fq_u (f_X11_next I166) fun I209 =>
k40 1 1 I209)))))
else (
fq_v (f_X11_isSign I 45) fun r103 =>
fq_b (f_X11_ahead I x3) fun r110 I110 =>
if r110.toInt = 0 then (
some (0, I110))
else (
if r103.toInt = 0 then (
fq_u (f_X11_next I110) fun I209 =>
k40 x2 1 I209)
else (
fq_u (f_X11_next I110) fun I209 =>
k40 x2 0 I209)))
def f_X11_readE_40_B (x1 : Int32) (k40 : Int32 → Int32 → fc_I → Option (Int32 × fc_I)) (x2 : Int32) (x3 : Int32) (I : fc_I) : Option (Int32 × fc_I) :=
if x2.toInt = 0 then (
f_X11_readE_96 x1 k40 x2 x3 I)
else (
if (I 78 45).toInt = (1 : Int32).toInt then (
if (I 78 45).toInt = (1 : Int32).toInt then (
fq_u (f_X11_emit I (((-1) : Int32) - (I 78 46))) fun I82 =>
fq_u (f_X11_doAll I82 7) fun I88 =>
fq_u (f_X11_next I88) fun I209 =>
k40 0 x3 I209)
else (
fq_u (f_X11_emit I (I 78 46)) fun I82 =>
fq_u (f_X11_doAll I82 7) fun I88 =>
fq_u (f_X11_next I88) fun I209 =>
k40 0 x3 I209))
else (
if (I 78 45).toInt = (2 : Int32).toInt then (
if (I 78 45).toInt = (1 : Int32).toInt then (
fq_u (f_X11_emit I (((-1) : Int32) - (I 78 46))) fun I82 =>
fq_u (f_X11_doAll I82 7) fun I88 =>
fq_u (f_X11_next I88) fun I209 =>
k40 0 x3 I209)
else (
fq_u (f_X11_emit I (I 78 46)) fun I82 =>
fq_u (f_X11_doAll I82 7) fun I88 =>
fq_u (f_X11_next I88) fun I209 =>
k40 0 x3 I209))
else (
f_X11_readE_96 x1 k40 x2 x3 I)))
def f_X11_readE_40 (x1 : Int32) (n : Nat) : Int32 → Int32 → fc_I → Option (Int32 × fc_I) := lpm2 (f_X11_readE_40_B x1 ) n
def f_X11_readE (I : fc_I) (x1 : Int32) : Option (Int32 × fc_I) :=
fq_l (fc_wI I 78 55 ((160 : Int32) * x1)) fun I6 =>
fq_l (fc_wI I6 78 56 0) fun I11 =>
fq_l (fc_wI I11 78 51 0) fun I16 =>
fq_l (fc_wI I16 78 52 0) fun I21 =>
fq_l (fc_wI I21 78 53 0) fun I26 =>
fq_g 8 0 (fq_l (fc_wI I26 114 (cn 0) (vp_nar .boolean 0)) fun I35 =>
f_X11_readE_40 x1 4000 1 1 I35)
set_option maxHeartbeats 4000000 in
set_option maxRecDepth 100000 in
theorem t_X11_readE_96 {d : Nat} {v : Nat} {r : Int32} {J : fc_I} {x1 : Int32} {k40 : Int32 → Int32 → fc_I → Option (Int32 × fc_I)} (hk40 : ∀ (x2 : Int32) (x3 : Int32) (I : fc_I), k40 x2 x3 I = some (r, J) → fc_T X11_readE (d + 3) 0 0 40 [some (.ref 78), some (.int x1), some (.int x2), some (.int x3), none] [] fc_SH I (fc_PT v) (fc_Qi fc_SH (fun r' I' P' => r' = r ∧ I' = J ∧ P' = (fc_PT v)))) : ∀ (x2 : Int32) (x3 : Int32) (I : fc_I) , f_X11_readE_96 x1 k40  x2 x3 I = some (r, J) → fc_T X11_readE (d + 3) 0 0 96 [some (.ref 78), some (.int x1), some (.int x2), some (.int x3), none] [] fc_SH I (fc_PT v) (fc_Qi fc_SH (fun r' I' P' => r' = r ∧ I' = J ∧ P' = (fc_PT v))) := by
  intro x2 x3 I hf
  unfold f_X11_readE_96 at hf
  refine ft_iload_n dX11_readE_96 rfl ?_
  refine fk_if_eq (tgt := 132) dX11_readE_97 (by decide) hf (fun hf => ?_) (fun hf => ?_)
  · refine ft_aload_n dX11_readE_132 rfl ?_
    refine ft_bipush (v := 59) dX11_readE_133 rfl ?_
    obtain ⟨r135, hc135, hf⟩ := fq_vs hf
    refine ft_V1p cf_X11_241 (sh_78) (t_X11_isSign hc135) (Nat.le_of_ble_eq_true rfl) dX11_readE_135 ?_
    refine fk_if_eq (tgt := 165) dX11_readE_138 (by decide) hf (fun hf => ?_) (fun hf => ?_)
    · refine ft_aload_n dX11_readE_165 rfl ?_
      obtain ⟨r166, I166, hc166, hf⟩ := fq_bs hf
      refine ft_V0i cf_X11_267 (sh_78) (t_X11_between hc166) (Nat.le_of_ble_eq_true rfl) dX11_readE_166 (fun r' J P' q => ?_)
      obtain ⟨rfl, rfl, rfl⟩ := q
      refine fk_if_eq (tgt := 199) dX11_readE_169 (by decide) hf (fun hf => ?_) (fun hf => ?_)
      · refine ft_aload_n dX11_readE_199 rfl ?_
        obtain ⟨r200, I200, hc200, hf⟩ := fq_bs hf
        refine ft_V0i cf_X11_271 (sh_78) (t_X11_closes hc200) (Nat.le_of_ble_eq_true rfl) dX11_readE_200 (fun r' J P' q => ?_)
        obtain ⟨rfl, rfl, rfl⟩ := q
        refine fk_if_ne (tgt := 208) dX11_readE_203 (by decide) hf (fun hf => ?_) (fun hf => ?_)
        · refine ft_aload_n dX11_readE_208 rfl ?_
          obtain ⟨I209, hc209, hf⟩ := fq_us hf
          refine ft_V0v cf_X11_274 (sh_78) (t_X11_next hc209) (Nat.le_of_ble_eq_true rfl) dX11_readE_209 (fun J P' q => ?_)
          obtain ⟨rfl, rfl⟩ := q
          refine ft_goto (tgt := 40) dX11_readE_212 (by decide) ?_
          exact ft_forget (by simp [fc_le, fc_st1, fc_st2, fc_kill]) (hk40 _ _ _ hf)
        · refine ft_iconst (v := 0) dX11_readE_206 rfl ?_
          exact fk_reti hf dX11_readE_207 rfl rfl
      · refine ft_iconst (v := 1) dX11_readE_172 rfl ?_
        refine ft_istore_n dX11_readE_173 (by decide) ?_
        refine ft_aload_n dX11_readE_174 rfl ?_
        refine ft_iconst (v := 3) dX11_readE_175 rfl ?_
        obtain ⟨r176, hc176, hf⟩ := fq_vs hf
        refine ft_V1p cf_X11_244 (sh_78) (t_X11_isKey hc176) (Nat.le_of_ble_eq_true rfl) dX11_readE_176 ?_
        refine fk_if_ne (tgt := 190) dX11_readE_179 (by decide) hf (fun hf => ?_) (fun hf => ?_)
        · refine ft_iconst (v := 1) dX11_readE_190 rfl ?_
          refine ft_goto (tgt := 195) dX11_readE_191 (by decide) ?_
          refine ft_istore_n dX11_readE_195 (by decide) ?_
          refine ft_goto (tgt := 208) dX11_readE_196 (by decide) ?_
          refine ft_aload_n dX11_readE_208 rfl ?_
          obtain ⟨I209, hc209, hf⟩ := fq_us hf
          refine ft_V0v cf_X11_274 (sh_78) (t_X11_next hc209) (Nat.le_of_ble_eq_true rfl) dX11_readE_209 (fun J P' q => ?_)
          obtain ⟨rfl, rfl⟩ := q
          refine ft_goto (tgt := 40) dX11_readE_212 (by decide) ?_
          exact ft_forget (by simp [fc_le, fc_st1, fc_st2, fc_kill]) (hk40 _ _ _ hf)
        · refine ft_aload_n dX11_readE_182 rfl ?_
          refine ft_iconst (v := 2) dX11_readE_183 rfl ?_
          obtain ⟨r184, hc184, hf⟩ := fq_vs hf
          refine ft_V1p cf_X11_244 (sh_78) (t_X11_isKey hc184) (Nat.le_of_ble_eq_true rfl) dX11_readE_184 ?_
          refine fk_if_eq (tgt := 194) dX11_readE_187 (by decide) hf (fun hf => ?_) (fun hf => ?_)
          · refine ft_iconst (v := 0) dX11_readE_194 rfl ?_
            refine ft_istore_n dX11_readE_195 (by decide) ?_
            refine ft_goto (tgt := 208) dX11_readE_196 (by decide) ?_
            refine ft_aload_n dX11_readE_208 rfl ?_
            obtain ⟨I209, hc209, hf⟩ := fq_us hf
            refine ft_V0v cf_X11_274 (sh_78) (t_X11_next hc209) (Nat.le_of_ble_eq_true rfl) dX11_readE_209 (fun J P' q => ?_)
            obtain ⟨rfl, rfl⟩ := q
            refine ft_goto (tgt := 40) dX11_readE_212 (by decide) ?_
            exact ft_forget (by simp [fc_le, fc_st1, fc_st2, fc_kill]) (hk40 _ _ _ hf)
          · refine ft_iconst (v := 1) dX11_readE_190 rfl ?_
            refine ft_goto (tgt := 195) dX11_readE_191 (by decide) ?_
            refine ft_istore_n dX11_readE_195 (by decide) ?_
            refine ft_goto (tgt := 208) dX11_readE_196 (by decide) ?_
            refine ft_aload_n dX11_readE_208 rfl ?_
            obtain ⟨I209, hc209, hf⟩ := fq_us hf
            refine ft_V0v cf_X11_274 (sh_78) (t_X11_next hc209) (Nat.le_of_ble_eq_true rfl) dX11_readE_209 (fun J P' q => ?_)
            obtain ⟨rfl, rfl⟩ := q
            refine ft_goto (tgt := 40) dX11_readE_212 (by decide) ?_
            exact ft_forget (by simp [fc_le, fc_st1, fc_st2, fc_kill]) (hk40 _ _ _ hf)
    · refine ft_aload_n dX11_readE_141 rfl ?_
      refine ft_getI fl_X11_251 rfl (sh_78) (by decide) dX11_readE_142 ?_
      refine fk_if_ne (tgt := 165) dX11_readE_145 (by decide) hf (fun hf => ?_) (fun hf => ?_)
      · refine ft_aload_n dX11_readE_165 rfl ?_
        obtain ⟨r166, I166, hc166, hf⟩ := fq_bs hf
        refine ft_V0i cf_X11_267 (sh_78) (t_X11_between hc166) (Nat.le_of_ble_eq_true rfl) dX11_readE_166 (fun r' J P' q => ?_)
        obtain ⟨rfl, rfl, rfl⟩ := q
        refine fk_if_eq (tgt := 199) dX11_readE_169 (by decide) hf (fun hf => ?_) (fun hf => ?_)
        · refine ft_aload_n dX11_readE_199 rfl ?_
          obtain ⟨r200, I200, hc200, hf⟩ := fq_bs hf
          refine ft_V0i cf_X11_271 (sh_78) (t_X11_closes hc200) (Nat.le_of_ble_eq_true rfl) dX11_readE_200 (fun r' J P' q => ?_)
          obtain ⟨rfl, rfl, rfl⟩ := q
          refine fk_if_ne (tgt := 208) dX11_readE_203 (by decide) hf (fun hf => ?_) (fun hf => ?_)
          · refine ft_aload_n dX11_readE_208 rfl ?_
            obtain ⟨I209, hc209, hf⟩ := fq_us hf
            refine ft_V0v cf_X11_274 (sh_78) (t_X11_next hc209) (Nat.le_of_ble_eq_true rfl) dX11_readE_209 (fun J P' q => ?_)
            obtain ⟨rfl, rfl⟩ := q
            refine ft_goto (tgt := 40) dX11_readE_212 (by decide) ?_
            exact ft_forget (by simp [fc_le, fc_st1, fc_st2, fc_kill]) (hk40 _ _ _ hf)
          · refine ft_iconst (v := 0) dX11_readE_206 rfl ?_
            exact fk_reti hf dX11_readE_207 rfl rfl
        · refine ft_iconst (v := 1) dX11_readE_172 rfl ?_
          refine ft_istore_n dX11_readE_173 (by decide) ?_
          refine ft_aload_n dX11_readE_174 rfl ?_
          refine ft_iconst (v := 3) dX11_readE_175 rfl ?_
          obtain ⟨r176, hc176, hf⟩ := fq_vs hf
          refine ft_V1p cf_X11_244 (sh_78) (t_X11_isKey hc176) (Nat.le_of_ble_eq_true rfl) dX11_readE_176 ?_
          refine fk_if_ne (tgt := 190) dX11_readE_179 (by decide) hf (fun hf => ?_) (fun hf => ?_)
          · refine ft_iconst (v := 1) dX11_readE_190 rfl ?_
            refine ft_goto (tgt := 195) dX11_readE_191 (by decide) ?_
            refine ft_istore_n dX11_readE_195 (by decide) ?_
            refine ft_goto (tgt := 208) dX11_readE_196 (by decide) ?_
            refine ft_aload_n dX11_readE_208 rfl ?_
            obtain ⟨I209, hc209, hf⟩ := fq_us hf
            refine ft_V0v cf_X11_274 (sh_78) (t_X11_next hc209) (Nat.le_of_ble_eq_true rfl) dX11_readE_209 (fun J P' q => ?_)
            obtain ⟨rfl, rfl⟩ := q
            refine ft_goto (tgt := 40) dX11_readE_212 (by decide) ?_
            exact ft_forget (by simp [fc_le, fc_st1, fc_st2, fc_kill]) (hk40 _ _ _ hf)
          · refine ft_aload_n dX11_readE_182 rfl ?_
            refine ft_iconst (v := 2) dX11_readE_183 rfl ?_
            obtain ⟨r184, hc184, hf⟩ := fq_vs hf
            refine ft_V1p cf_X11_244 (sh_78) (t_X11_isKey hc184) (Nat.le_of_ble_eq_true rfl) dX11_readE_184 ?_
            refine fk_if_eq (tgt := 194) dX11_readE_187 (by decide) hf (fun hf => ?_) (fun hf => ?_)
            · refine ft_iconst (v := 0) dX11_readE_194 rfl ?_
              refine ft_istore_n dX11_readE_195 (by decide) ?_
              refine ft_goto (tgt := 208) dX11_readE_196 (by decide) ?_
              refine ft_aload_n dX11_readE_208 rfl ?_
              obtain ⟨I209, hc209, hf⟩ := fq_us hf
              refine ft_V0v cf_X11_274 (sh_78) (t_X11_next hc209) (Nat.le_of_ble_eq_true rfl) dX11_readE_209 (fun J P' q => ?_)
              obtain ⟨rfl, rfl⟩ := q
              refine ft_goto (tgt := 40) dX11_readE_212 (by decide) ?_
              exact ft_forget (by simp [fc_le, fc_st1, fc_st2, fc_kill]) (hk40 _ _ _ hf)
            · refine ft_iconst (v := 1) dX11_readE_190 rfl ?_
              refine ft_goto (tgt := 195) dX11_readE_191 (by decide) ?_
              refine ft_istore_n dX11_readE_195 (by decide) ?_
              refine ft_goto (tgt := 208) dX11_readE_196 (by decide) ?_
              refine ft_aload_n dX11_readE_208 rfl ?_
              obtain ⟨I209, hc209, hf⟩ := fq_us hf
              refine ft_V0v cf_X11_274 (sh_78) (t_X11_next hc209) (Nat.le_of_ble_eq_true rfl) dX11_readE_209 (fun J P' q => ?_)
              obtain ⟨rfl, rfl⟩ := q
              refine ft_goto (tgt := 40) dX11_readE_212 (by decide) ?_
              exact ft_forget (by simp [fc_le, fc_st1, fc_st2, fc_kill]) (hk40 _ _ _ hf)
      · refine ft_aload_n dX11_readE_148 rfl ?_
        refine ft_iconst (v := 1) dX11_readE_149 rfl ?_
        obtain ⟨I150, hc150, hf⟩ := fq_us hf
        refine ft_V1v cf_X11_254 (sh_78) (t_X11_doAll hc150) (Nat.le_of_ble_eq_true rfl) dX11_readE_150 (fun J P' q => ?_)
        obtain ⟨rfl, rfl⟩ := q
        refine ft_aload_n dX11_readE_153 rfl ?_
        refine ft_getR fl_X11_264 rfl (sh_78) (by decide) pt_78_43 dX11_readE_154 ?_
        refine ft_iload_n dX11_readE_157 rfl ?_
        refine ft_aload_n dX11_readE_158 rfl ?_
        refine ft_getI fl_X11_222 rfl (sh_78) (by decide) dX11_readE_159 ?_
        refine fk_iast (sh_110) hf dX11_readE_162 (fun hf => ?_)
        refine ft_iconst (v := 1) dX11_readE_163 rfl ?_
        exact fk_reti hf dX11_readE_164 rfl rfl
  · refine ft_aload_n dX11_readE_100 rfl ?_
    refine ft_bipush (v := 45) dX11_readE_101 rfl ?_
    obtain ⟨r103, hc103, hf⟩ := fq_vs hf
    refine ft_V1p cf_X11_241 (sh_78) (t_X11_isSign hc103) (Nat.le_of_ble_eq_true rfl) dX11_readE_103 ?_
    refine ft_istore dX11_readE_106 (by decide) ?_
    refine ft_aload_n dX11_readE_108 rfl ?_
    refine ft_iload_n dX11_readE_109 rfl ?_
    obtain ⟨r110, I110, hc110, hf⟩ := fq_bs hf
    refine ft_V1i cf_X11_260 (sh_78) (t_X11_ahead hc110) (Nat.le_of_ble_eq_true rfl) dX11_readE_110 (fun r' J P' q => ?_)
    obtain ⟨rfl, rfl, rfl⟩ := q
    refine fk_if_ne (tgt := 118) dX11_readE_113 (by decide) hf (fun hf => ?_) (fun hf => ?_)
    · refine ft_iload dX11_readE_118 rfl ?_
      refine fk_if_ne (tgt := 127) dX11_readE_120 (by decide) hf (fun hf => ?_) (fun hf => ?_)
      · refine ft_iconst (v := 0) dX11_readE_127 rfl ?_
        refine ft_istore_n dX11_readE_128 (by decide) ?_
        refine ft_goto (tgt := 208) dX11_readE_129 (by decide) ?_
        refine ft_aload_n dX11_readE_208 rfl ?_
        obtain ⟨I209, hc209, hf⟩ := fq_us hf
        refine ft_V0v cf_X11_274 (sh_78) (t_X11_next hc209) (Nat.le_of_ble_eq_true rfl) dX11_readE_209 (fun J P' q => ?_)
        obtain ⟨rfl, rfl⟩ := q
        refine ft_goto (tgt := 40) dX11_readE_212 (by decide) ?_
        exact ft_forget (by simp [fc_le, fc_st1, fc_st2, fc_kill]) (hk40 _ _ _ hf)
      · refine ft_iconst (v := 1) dX11_readE_123 rfl ?_
        refine ft_goto (tgt := 128) dX11_readE_124 (by decide) ?_
        refine ft_istore_n dX11_readE_128 (by decide) ?_
        refine ft_goto (tgt := 208) dX11_readE_129 (by decide) ?_
        refine ft_aload_n dX11_readE_208 rfl ?_
        obtain ⟨I209, hc209, hf⟩ := fq_us hf
        refine ft_V0v cf_X11_274 (sh_78) (t_X11_next hc209) (Nat.le_of_ble_eq_true rfl) dX11_readE_209 (fun J P' q => ?_)
        obtain ⟨rfl, rfl⟩ := q
        refine ft_goto (tgt := 40) dX11_readE_212 (by decide) ?_
        exact ft_forget (by simp [fc_le, fc_st1, fc_st2, fc_kill]) (hk40 _ _ _ hf)
    · refine ft_iconst (v := 0) dX11_readE_116 rfl ?_
      exact fk_reti hf dX11_readE_117 rfl rfl
set_option maxHeartbeats 4000000 in
set_option maxRecDepth 100000 in
theorem t_X11_readE_40 {d : Nat} {v : Nat} {r : Int32} {J : fc_I} {x1 : Int32} : ∀ (n : Nat) (x2 : Int32) (x3 : Int32) (I : fc_I) , f_X11_readE_40 x1 n x2 x3 I = some (r, J) → fc_T X11_readE (d + 3) 0 0 40 [some (.ref 78), some (.int x1), some (.int x2), some (.int x3), none] [] fc_SH I (fc_PT v) (fc_Qi fc_SH (fun r' I' P' => r' = r ∧ I' = J ∧ P' = (fc_PT v))) := by
  unfold f_X11_readE_40
  refine lpm2_T (fun k40 hk40 x2 x3 I hf => ?_)
  unfold f_X11_readE_40_B at hf
  refine ft_iload_n dX11_readE_40 rfl ?_
  refine fk_if_eq (tgt := 96) dX11_readE_41 (by decide) hf (fun hf => ?_) (fun hf => ?_)
  · exact ft_forget (by simp [fc_le, fc_st1, fc_st2, fc_kill]) (t_X11_readE_96  hk40  _ _ _ hf)
  · refine ft_aload_n dX11_readE_44 rfl ?_
    refine ft_getI fl_X11_190 rfl (sh_78) (by decide) dX11_readE_45 ?_
    refine ft_iconst (v := 1) dX11_readE_48 rfl ?_
    refine fk_icmp_eq (tgt := 60) dX11_readE_49 (by decide) hf (fun hf => ?_) (fun hf => ?_)
    · refine ft_aload_n dX11_readE_60 rfl ?_
      refine ft_aload_n dX11_readE_61 rfl ?_
      refine ft_getI fl_X11_190 rfl (sh_78) (by decide) dX11_readE_62 ?_
      refine ft_iconst (v := 1) dX11_readE_65 rfl ?_
      refine fk_icmp_ne (tgt := 78) dX11_readE_66 (by decide) hf (fun hf => ?_) (fun hf => ?_)
      · refine ft_aload_n dX11_readE_78 rfl ?_
        refine ft_getI fl_X11_203 rfl (sh_78) (by decide) dX11_readE_79 ?_
        obtain ⟨I82, hc82, hf⟩ := fq_us hf
        refine ft_V1v cf_X11_237 (sh_78) (t_X11_emit hc82) (Nat.le_of_ble_eq_true rfl) dX11_readE_82 (fun J P' q => ?_)
        obtain ⟨rfl, rfl⟩ := q
        refine ft_aload_n dX11_readE_85 rfl ?_
        refine ft_bipush (v := 7) dX11_readE_86 rfl ?_
        obtain ⟨I88, hc88, hf⟩ := fq_us hf
        refine ft_V1v cf_X11_254 (sh_78) (t_X11_doAll hc88) (Nat.le_of_ble_eq_true rfl) dX11_readE_88 (fun J P' q => ?_)
        obtain ⟨rfl, rfl⟩ := q
        refine ft_iconst (v := 0) dX11_readE_91 rfl ?_
        refine ft_istore_n dX11_readE_92 (by decide) ?_
        refine ft_goto (tgt := 208) dX11_readE_93 (by decide) ?_
        refine ft_aload_n dX11_readE_208 rfl ?_
        obtain ⟨I209, hc209, hf⟩ := fq_us hf
        refine ft_V0v cf_X11_274 (sh_78) (t_X11_next hc209) (Nat.le_of_ble_eq_true rfl) dX11_readE_209 (fun J P' q => ?_)
        obtain ⟨rfl, rfl⟩ := q
        refine ft_goto (tgt := 40) dX11_readE_212 (by decide) ?_
        exact ft_forget (by simp [fc_le, fc_st1, fc_st2, fc_kill]) (hk40 _ _ _ hf)
      · refine ft_iconst (v := (-1)) dX11_readE_69 rfl ?_
        refine ft_aload_n dX11_readE_70 rfl ?_
        refine ft_getI fl_X11_203 rfl (sh_78) (by decide) dX11_readE_71 ?_
        refine ft_isub dX11_readE_74 ?_
        refine ft_goto (tgt := 82) dX11_readE_75 (by decide) ?_
        obtain ⟨I82, hc82, hf⟩ := fq_us hf
        refine ft_V1v cf_X11_237 (sh_78) (t_X11_emit hc82) (Nat.le_of_ble_eq_true rfl) dX11_readE_82 (fun J P' q => ?_)
        obtain ⟨rfl, rfl⟩ := q
        refine ft_aload_n dX11_readE_85 rfl ?_
        refine ft_bipush (v := 7) dX11_readE_86 rfl ?_
        obtain ⟨I88, hc88, hf⟩ := fq_us hf
        refine ft_V1v cf_X11_254 (sh_78) (t_X11_doAll hc88) (Nat.le_of_ble_eq_true rfl) dX11_readE_88 (fun J P' q => ?_)
        obtain ⟨rfl, rfl⟩ := q
        refine ft_iconst (v := 0) dX11_readE_91 rfl ?_
        refine ft_istore_n dX11_readE_92 (by decide) ?_
        refine ft_goto (tgt := 208) dX11_readE_93 (by decide) ?_
        refine ft_aload_n dX11_readE_208 rfl ?_
        obtain ⟨I209, hc209, hf⟩ := fq_us hf
        refine ft_V0v cf_X11_274 (sh_78) (t_X11_next hc209) (Nat.le_of_ble_eq_true rfl) dX11_readE_209 (fun J P' q => ?_)
        obtain ⟨rfl, rfl⟩ := q
        refine ft_goto (tgt := 40) dX11_readE_212 (by decide) ?_
        exact ft_forget (by simp [fc_le, fc_st1, fc_st2, fc_kill]) (hk40 _ _ _ hf)
    · refine ft_aload_n dX11_readE_52 rfl ?_
      refine ft_getI fl_X11_190 rfl (sh_78) (by decide) dX11_readE_53 ?_
      refine ft_iconst (v := 2) dX11_readE_56 rfl ?_
      refine fk_icmp_ne (tgt := 96) dX11_readE_57 (by decide) hf (fun hf => ?_) (fun hf => ?_)
      · exact ft_forget (by simp [fc_le, fc_st1, fc_st2, fc_kill]) (t_X11_readE_96  hk40  _ _ _ hf)
      · refine ft_aload_n dX11_readE_60 rfl ?_
        refine ft_aload_n dX11_readE_61 rfl ?_
        refine ft_getI fl_X11_190 rfl (sh_78) (by decide) dX11_readE_62 ?_
        refine ft_iconst (v := 1) dX11_readE_65 rfl ?_
        refine fk_icmp_ne (tgt := 78) dX11_readE_66 (by decide) hf (fun hf => ?_) (fun hf => ?_)
        · refine ft_aload_n dX11_readE_78 rfl ?_
          refine ft_getI fl_X11_203 rfl (sh_78) (by decide) dX11_readE_79 ?_
          obtain ⟨I82, hc82, hf⟩ := fq_us hf
          refine ft_V1v cf_X11_237 (sh_78) (t_X11_emit hc82) (Nat.le_of_ble_eq_true rfl) dX11_readE_82 (fun J P' q => ?_)
          obtain ⟨rfl, rfl⟩ := q
          refine ft_aload_n dX11_readE_85 rfl ?_
          refine ft_bipush (v := 7) dX11_readE_86 rfl ?_
          obtain ⟨I88, hc88, hf⟩ := fq_us hf
          refine ft_V1v cf_X11_254 (sh_78) (t_X11_doAll hc88) (Nat.le_of_ble_eq_true rfl) dX11_readE_88 (fun J P' q => ?_)
          obtain ⟨rfl, rfl⟩ := q
          refine ft_iconst (v := 0) dX11_readE_91 rfl ?_
          refine ft_istore_n dX11_readE_92 (by decide) ?_
          refine ft_goto (tgt := 208) dX11_readE_93 (by decide) ?_
          refine ft_aload_n dX11_readE_208 rfl ?_
          obtain ⟨I209, hc209, hf⟩ := fq_us hf
          refine ft_V0v cf_X11_274 (sh_78) (t_X11_next hc209) (Nat.le_of_ble_eq_true rfl) dX11_readE_209 (fun J P' q => ?_)
          obtain ⟨rfl, rfl⟩ := q
          refine ft_goto (tgt := 40) dX11_readE_212 (by decide) ?_
          exact ft_forget (by simp [fc_le, fc_st1, fc_st2, fc_kill]) (hk40 _ _ _ hf)
        · refine ft_iconst (v := (-1)) dX11_readE_69 rfl ?_
          refine ft_aload_n dX11_readE_70 rfl ?_
          refine ft_getI fl_X11_203 rfl (sh_78) (by decide) dX11_readE_71 ?_
          refine ft_isub dX11_readE_74 ?_
          refine ft_goto (tgt := 82) dX11_readE_75 (by decide) ?_
          obtain ⟨I82, hc82, hf⟩ := fq_us hf
          refine ft_V1v cf_X11_237 (sh_78) (t_X11_emit hc82) (Nat.le_of_ble_eq_true rfl) dX11_readE_82 (fun J P' q => ?_)
          obtain ⟨rfl, rfl⟩ := q
          refine ft_aload_n dX11_readE_85 rfl ?_
          refine ft_bipush (v := 7) dX11_readE_86 rfl ?_
          obtain ⟨I88, hc88, hf⟩ := fq_us hf
          refine ft_V1v cf_X11_254 (sh_78) (t_X11_doAll hc88) (Nat.le_of_ble_eq_true rfl) dX11_readE_88 (fun J P' q => ?_)
          obtain ⟨rfl, rfl⟩ := q
          refine ft_iconst (v := 0) dX11_readE_91 rfl ?_
          refine ft_istore_n dX11_readE_92 (by decide) ?_
          refine ft_goto (tgt := 208) dX11_readE_93 (by decide) ?_
          refine ft_aload_n dX11_readE_208 rfl ?_
          obtain ⟨I209, hc209, hf⟩ := fq_us hf
          refine ft_V0v cf_X11_274 (sh_78) (t_X11_next hc209) (Nat.le_of_ble_eq_true rfl) dX11_readE_209 (fun J P' q => ?_)
          obtain ⟨rfl, rfl⟩ := q
          refine ft_goto (tgt := 40) dX11_readE_212 (by decide) ?_
          exact ft_forget (by simp [fc_le, fc_st1, fc_st2, fc_kill]) (hk40 _ _ _ hf)
set_option maxHeartbeats 4000000 in
set_option maxRecDepth 100000 in
theorem t_X11_readE {d : Nat} {v : Nat} {r : Int32} {J : fc_I} {I : fc_I} {x1 : Int32} (hf : f_X11_readE I x1 = some (r, J)) : fc_Ci X11_readE (d + 3) [.ref 78, .int x1] fc_SH I (fc_PT v) (fun r' I' P' => r' = r ∧ I' = J ∧ P' = (fc_PT v)) := by
  unfold f_X11_readE at hf
  refine fc_Ci.of (ls := [some (.ref 78), some (.int x1), none, none, none]) ⟨rfl, rfl⟩ (Nat.le_of_ble_eq_true rfl) rfl ?_
  refine ft_aload_n dX11_readE_0 rfl ?_
  refine ft_sipush (v := 160) dX11_readE_1 rfl ?_
  refine ft_iload_n dX11_readE_4 rfl ?_
  refine ft_imul dX11_readE_5 ?_
  refine ft_putI fl_X11_219 rfl (fun q h => by cases h; rfl) (sh_78) (by decide) dX11_readE_6 ?_
  refine ft_aload_n dX11_readE_9 rfl ?_
  refine ft_iconst (v := 0) dX11_readE_10 rfl ?_
  refine ft_putI fl_X11_222 rfl (fun q h => by cases h; rfl) (sh_78) (by decide) dX11_readE_11 ?_
  refine ft_aload_n dX11_readE_14 rfl ?_
  refine ft_iconst (v := 0) dX11_readE_15 rfl ?_
  refine ft_putI fl_X11_225 rfl (fun q h => by cases h; rfl) (sh_78) (by decide) dX11_readE_16 ?_
  refine ft_aload_n dX11_readE_19 rfl ?_
  refine ft_iconst (v := 0) dX11_readE_20 rfl ?_
  refine ft_putI fl_X11_234 rfl (fun q h => by cases h; rfl) (sh_78) (by decide) dX11_readE_21 ?_
  refine ft_aload_n dX11_readE_24 rfl ?_
  refine ft_iconst (v := 0) dX11_readE_25 rfl ?_
  refine ft_putI fl_X11_251 rfl (fun q h => by cases h; rfl) (sh_78) (by decide) dX11_readE_26 ?_
  refine ft_aload_n dX11_readE_29 rfl ?_
  refine ft_getR fl_X11_247 rfl (sh_78) (by decide) pt_78_54 dX11_readE_30 ?_
  refine ft_iconst (v := 0) dX11_readE_33 rfl ?_
  refine ft_iconst (v := 0) dX11_readE_34 rfl ?_
  refine fk_zast (sh_114) hf dX11_readE_35 (fun hf => ?_)
  refine ft_iconst (v := 1) dX11_readE_36 rfl ?_
  refine ft_istore_n dX11_readE_37 (by decide) ?_
  refine ft_iconst (v := 1) dX11_readE_38 rfl ?_
  refine ft_istore_n dX11_readE_39 (by decide) ?_
  exact ft_forget (by simp [fc_le, fc_st1, fc_st2, fc_kill]) (t_X11_readE_40   _ _ _ _ hf)
def f_X11_readAll_7_B (x1 : Int32) (k7 : Int32 → fc_I → Option (Int32 × fc_I)) (x2 : Int32) (I : fc_I) : Option (Int32 × fc_I) :=
if x2.toInt < (2 : Int32).toInt then (
fq_u (f_X11_next I) fun I13 =>
fq_v (f_X11_isKey I13 x2) fun r18 =>
if r18.toInt = 0 then (
some ((I13 78 47), I13))
else (
fq_u (f_X11_next I13) fun I30 =>
fq_b (f_X11_readE I30 (((2 : Int32) * x1) + x2)) fun r39 I39 =>
if r39.toInt = 0 then (
some ((I39 78 47), I39))
else (
fq_l (x2 + 1) fun y50 =>
k7 y50 I39)))
else (
fq_u (f_X11_next I) fun I57 =>
if (I57 78 45).toInt = 0 then (
some ((-1), I57))
else (
some ((I57 78 47), I57)))
def f_X11_readAll_7 (x1 : Int32) (n : Nat) : Int32 → fc_I → Option (Int32 × fc_I) := lpm1 (f_X11_readAll_7_B x1 ) n
def f_X11_readAll (I : fc_I) (x1 : Int32) : Option (Int32 × fc_I) :=
fq_l (fc_wI I 78 44 0) fun I2 =>
f_X11_readAll_7 x1 4000 0 I2
set_option maxHeartbeats 4000000 in
set_option maxRecDepth 100000 in
theorem t_X11_readAll_7 {d : Nat} {v : Nat} {r : Int32} {J : fc_I} {x1 : Int32} : ∀ (n : Nat) (x2 : Int32) (I : fc_I) , f_X11_readAll_7 x1 n x2 I = some (r, J) → fc_T X11_readAll (d + 4) 0 0 7 [some (.ref 78), some (.int x1), some (.int x2)] [] fc_SH I (fc_PT v) (fc_Qi fc_SH (fun r' I' P' => r' = r ∧ I' = J ∧ P' = (fc_PT v))) := by
  unfold f_X11_readAll_7
  refine lpm1_T (fun k7 hk7 x2 I hf => ?_)
  unfold f_X11_readAll_7_B at hf
  refine ft_iload_n dX11_readAll_7 rfl ?_
  refine ft_iconst (v := 2) dX11_readAll_8 rfl ?_
  refine fk_icmp_ge (tgt := 56) dX11_readAll_9 (by decide) hf (fun hf => ?_) (fun hf => ?_)
  · refine ft_aload_n dX11_readAll_56 rfl ?_
    obtain ⟨I57, hc57, hf⟩ := fq_us hf
    refine ft_V0v cf_X11_274 (sh_78) (t_X11_next hc57) (Nat.le_of_ble_eq_true rfl) dX11_readAll_57 (fun J P' q => ?_)
    obtain ⟨rfl, rfl⟩ := q
    refine ft_aload_n dX11_readAll_60 rfl ?_
    refine ft_getI fl_X11_190 rfl (sh_78) (by decide) dX11_readAll_61 ?_
    refine fk_if_ne (tgt := 71) dX11_readAll_64 (by decide) hf (fun hf => ?_) (fun hf => ?_)
    · refine ft_aload_n dX11_readAll_71 rfl ?_
      refine ft_getI fl_X11_196 rfl (sh_78) (by decide) dX11_readAll_72 ?_
      exact fk_reti hf dX11_readAll_75 rfl rfl
    · refine ft_iconst (v := (-1)) dX11_readAll_67 rfl ?_
      refine ft_goto (tgt := 75) dX11_readAll_68 (by decide) ?_
      exact fk_reti hf dX11_readAll_75 rfl rfl
  · refine ft_aload_n dX11_readAll_12 rfl ?_
    obtain ⟨I13, hc13, hf⟩ := fq_us hf
    refine ft_V0v cf_X11_274 (sh_78) (t_X11_next hc13) (Nat.le_of_ble_eq_true rfl) dX11_readAll_13 (fun J P' q => ?_)
    obtain ⟨rfl, rfl⟩ := q
    refine ft_aload_n dX11_readAll_16 rfl ?_
    refine ft_iload_n dX11_readAll_17 rfl ?_
    obtain ⟨r18, hc18, hf⟩ := fq_vs hf
    refine ft_V1p cf_X11_244 (sh_78) (t_X11_isKey hc18) (Nat.le_of_ble_eq_true rfl) dX11_readAll_18 ?_
    refine fk_if_ne (tgt := 29) dX11_readAll_21 (by decide) hf (fun hf => ?_) (fun hf => ?_)
    · refine ft_aload_n dX11_readAll_29 rfl ?_
      obtain ⟨I30, hc30, hf⟩ := fq_us hf
      refine ft_V0v cf_X11_274 (sh_78) (t_X11_next hc30) (Nat.le_of_ble_eq_true rfl) dX11_readAll_30 (fun J P' q => ?_)
      obtain ⟨rfl, rfl⟩ := q
      refine ft_aload_n dX11_readAll_33 rfl ?_
      refine ft_iconst (v := 2) dX11_readAll_34 rfl ?_
      refine ft_iload_n dX11_readAll_35 rfl ?_
      refine ft_imul dX11_readAll_36 ?_
      refine ft_iload_n dX11_readAll_37 rfl ?_
      refine ft_iadd dX11_readAll_38 ?_
      obtain ⟨r39, I39, hc39, hf⟩ := fq_bs hf
      refine ft_V1i cf_X11_277 (sh_78) (t_X11_readE hc39) (Nat.le_of_ble_eq_true rfl) dX11_readAll_39 (fun r' J P' q => ?_)
      obtain ⟨rfl, rfl, rfl⟩ := q
      refine fk_if_ne (tgt := 50) dX11_readAll_42 (by decide) hf (fun hf => ?_) (fun hf => ?_)
      · refine fk_iinc (c := 1) dX11_readAll_50 rfl (by decide) rfl ?_
        refine ft_goto (tgt := 7) dX11_readAll_53 (by decide) ?_
        exact ft_forget (by simp [fc_le, fc_st1, fc_st2, fc_kill]) (hk7 _ _ hf)
      · refine ft_aload_n dX11_readAll_45 rfl ?_
        refine ft_getI fl_X11_196 rfl (sh_78) (by decide) dX11_readAll_46 ?_
        exact fk_reti hf dX11_readAll_49 rfl rfl
    · refine ft_aload_n dX11_readAll_24 rfl ?_
      refine ft_getI fl_X11_196 rfl (sh_78) (by decide) dX11_readAll_25 ?_
      exact fk_reti hf dX11_readAll_28 rfl rfl
set_option maxHeartbeats 4000000 in
set_option maxRecDepth 100000 in
theorem t_X11_readAll {d : Nat} {v : Nat} {r : Int32} {J : fc_I} {I : fc_I} {x1 : Int32} (hf : f_X11_readAll I x1 = some (r, J)) : fc_Ci X11_readAll (d + 4) [.ref 78, .int x1] fc_SH I (fc_PT v) (fun r' I' P' => r' = r ∧ I' = J ∧ P' = (fc_PT v)) := by
  unfold f_X11_readAll at hf
  refine fc_Ci.of (ls := [some (.ref 78), some (.int x1), none]) ⟨rfl, rfl⟩ (Nat.le_of_ble_eq_true rfl) rfl ?_
  refine ft_aload_n dX11_readAll_0 rfl ?_
  refine ft_iconst (v := 0) dX11_readAll_1 rfl ?_
  refine ft_putI fl_X11_184 rfl (fun q h => by cases h; rfl) (sh_78) (by decide) dX11_readAll_2 ?_
  refine ft_iconst (v := 0) dX11_readAll_5 rfl ?_
  refine ft_istore_n dX11_readAll_6 (by decide) ?_
  exact ft_forget (by simp [fc_le, fc_st1, fc_st2, fc_kill]) (t_X11_readAll_7   _ _ _ hf)
def f_X11_text (I : fc_I) : Option (Int32 × fc_I) :=
if (I 78 40).toInt = (6 : Int32).toInt then (
some ((-4), I))
else (
fq_b (f_X11_readAll I (I 78 40)) fun r17 I17 =>
fq_l (fc_wI I17 78 39 0) fun I23 =>
if r17.toInt = ((-1) : Int32).toInt then (
fq_l (fc_wI I23 78 40 ((I23 78 40) + 1)) fun I43 =>
some (((I43 78 40) - 1), I43))
else (
some ((((-100) : Int32) - r17), I23)))
set_option maxHeartbeats 4000000 in
set_option maxRecDepth 100000 in
theorem t_X11_text {d : Nat} {v : Nat} {r : Int32} {J : fc_I} {I : fc_I} (hf : f_X11_text I = some (r, J)) : fc_Ci X11_text (d + 5) [.ref 78] fc_SH I (fc_PT v) (fun r' I' P' => r' = r ∧ I' = J ∧ P' = (fc_PT v)) := by
  unfold f_X11_text at hf
  refine fc_Ci.of (ls := [some (.ref 78), none]) ⟨rfl, rfl⟩ (Nat.le_of_ble_eq_true rfl) rfl ?_
  refine ft_aload_n dX11_text_0 rfl ?_
  refine ft_getI fl_X11_280 rfl (sh_78) (by decide) dX11_text_1 ?_
  refine ft_bipush (v := 6) dX11_text_4 rfl ?_
  refine fk_icmp_ne (tgt := 12) dX11_text_6 (by decide) hf (fun hf => ?_) (fun hf => ?_)
  · refine ft_aload_n dX11_text_12 rfl ?_
    refine ft_aload_n dX11_text_13 rfl ?_
    refine ft_getI fl_X11_280 rfl (sh_78) (by decide) dX11_text_14 ?_
    obtain ⟨r17, I17, hc17, hf⟩ := fq_bs hf
    refine ft_V1i cf_X11_283 (sh_78) (t_X11_readAll hc17) (Nat.le_of_ble_eq_true rfl) dX11_text_17 (fun r' J P' q => ?_)
    obtain ⟨rfl, rfl, rfl⟩ := q
    refine ft_istore_n dX11_text_20 (by decide) ?_
    refine ft_aload_n dX11_text_21 rfl ?_
    refine ft_iconst (v := 0) dX11_text_22 rfl ?_
    refine ft_putI fl_X11_177 rfl (fun q h => by cases h; rfl) (sh_78) (by decide) dX11_text_23 ?_
    refine ft_iload_n dX11_text_26 rfl ?_
    refine ft_iconst (v := (-1)) dX11_text_27 rfl ?_
    refine fk_icmp_eq (tgt := 36) dX11_text_28 (by decide) hf (fun hf => ?_) (fun hf => ?_)
    · refine ft_aload_n dX11_text_36 rfl ?_
      refine ft_dup dX11_text_37 rfl ?_
      refine ft_getI fl_X11_280 rfl (sh_78) (by decide) dX11_text_38 ?_
      refine ft_iconst (v := 1) dX11_text_41 rfl ?_
      refine ft_iadd dX11_text_42 ?_
      refine ft_putI fl_X11_280 rfl (fun q h => by cases h; rfl) (sh_78) (by decide) dX11_text_43 ?_
      refine ft_aload_n dX11_text_46 rfl ?_
      refine ft_getI fl_X11_280 rfl (sh_78) (by decide) dX11_text_47 ?_
      refine ft_iconst (v := 1) dX11_text_50 rfl ?_
      refine ft_isub dX11_text_51 ?_
      exact fk_reti hf dX11_text_52 rfl rfl
    · refine ft_bipush (v := (-100)) dX11_text_31 rfl ?_
      refine ft_iload_n dX11_text_33 rfl ?_
      refine ft_isub dX11_text_34 ?_
      exact fk_reti hf dX11_text_35 rfl rfl
  · refine ft_bipush (v := (-4)) dX11_text_9 rfl ?_
    exact fk_reti hf dX11_text_11 rfl rfl
