def f_J6_bitCount_0f7a4 (x0 : Int32) : Option Int32 :=
fq_l ((x0 - ((UInt32.toInt32 (Int32.toUInt32 x0 >>> (Int32.toUInt32 (1 : Int32) &&& Int32.toUInt32 31))) &&& 1431655765))) fun y9 =>
fq_l (((y9 &&& 858993459) + ((UInt32.toInt32 (Int32.toUInt32 y9 >>> (Int32.toUInt32 (2 : Int32) &&& Int32.toUInt32 31))) &&& 858993459))) fun y23 =>
fq_l (((y23 + (UInt32.toInt32 (Int32.toUInt32 y23 >>> (Int32.toUInt32 (4 : Int32) &&& Int32.toUInt32 31)))) &&& 252645135)) fun y33 =>
fq_l ((y33 + (UInt32.toInt32 (Int32.toUInt32 y33 >>> (Int32.toUInt32 (8 : Int32) &&& Int32.toUInt32 31))))) fun y40 =>
fq_l ((y40 + (UInt32.toInt32 (Int32.toUInt32 y40 >>> (Int32.toUInt32 (16 : Int32) &&& Int32.toUInt32 31))))) fun y47 =>
some (y47 &&& 63)
set_option maxHeartbeats 4000000 in
set_option maxRecDepth 100000 in
theorem t_J6_bitCount_0f7a4 {d : Nat} {sh : fc_Sh} {P : fc_P} {r : Int32} {I : fc_I} {x0 : Int32} (hf : f_J6_bitCount_0f7a4  x0 = some r) : fc_Cp J6_bitCount_0f7a4 d [.int x0] sh I P r := by
  unfold f_J6_bitCount_0f7a4 at hf
  refine fc_Cp.of (ls := [some (.int x0)]) ⟨rfl, rfl⟩ (Nat.le_of_ble_eq_true rfl) rfl ?_
  refine ft_iload_n dJ6_bitCount_0f7a4_0 rfl ?_
  refine ft_iload_n dJ6_bitCount_0f7a4_1 rfl ?_
  refine ft_iconst (v := 1) dJ6_bitCount_0f7a4_2 rfl ?_
  refine ft_iushr dJ6_bitCount_0f7a4_3 ?_
  refine ft_ldc_w dJ6_bitCount_0f7a4_4 kc_J6_265 ?_
  refine ft_iand dJ6_bitCount_0f7a4_7 ?_
  refine ft_isub dJ6_bitCount_0f7a4_8 ?_
  refine ft_istore_n dJ6_bitCount_0f7a4_9 (by decide) ?_
  refine ft_iload_n dJ6_bitCount_0f7a4_10 rfl ?_
  refine ft_ldc_w dJ6_bitCount_0f7a4_11 kc_J6_266 ?_
  refine ft_iand dJ6_bitCount_0f7a4_14 ?_
  refine ft_iload_n dJ6_bitCount_0f7a4_15 rfl ?_
  refine ft_iconst (v := 2) dJ6_bitCount_0f7a4_16 rfl ?_
  refine ft_iushr dJ6_bitCount_0f7a4_17 ?_
  refine ft_ldc_w dJ6_bitCount_0f7a4_18 kc_J6_266 ?_
  refine ft_iand dJ6_bitCount_0f7a4_21 ?_
  refine ft_iadd dJ6_bitCount_0f7a4_22 ?_
  refine ft_istore_n dJ6_bitCount_0f7a4_23 (by decide) ?_
  refine ft_iload_n dJ6_bitCount_0f7a4_24 rfl ?_
  refine ft_iload_n dJ6_bitCount_0f7a4_25 rfl ?_
  refine ft_iconst (v := 4) dJ6_bitCount_0f7a4_26 rfl ?_
  refine ft_iushr dJ6_bitCount_0f7a4_27 ?_
  refine ft_iadd dJ6_bitCount_0f7a4_28 ?_
  refine ft_ldc_w dJ6_bitCount_0f7a4_29 kc_J6_267 ?_
  refine ft_iand dJ6_bitCount_0f7a4_32 ?_
  refine ft_istore_n dJ6_bitCount_0f7a4_33 (by decide) ?_
  refine ft_iload_n dJ6_bitCount_0f7a4_34 rfl ?_
  refine ft_iload_n dJ6_bitCount_0f7a4_35 rfl ?_
  refine ft_bipush (v := 8) dJ6_bitCount_0f7a4_36 rfl ?_
  refine ft_iushr dJ6_bitCount_0f7a4_38 ?_
  refine ft_iadd dJ6_bitCount_0f7a4_39 ?_
  refine ft_istore_n dJ6_bitCount_0f7a4_40 (by decide) ?_
  refine ft_iload_n dJ6_bitCount_0f7a4_41 rfl ?_
  refine ft_iload_n dJ6_bitCount_0f7a4_42 rfl ?_
  refine ft_bipush (v := 16) dJ6_bitCount_0f7a4_43 rfl ?_
  refine ft_iushr dJ6_bitCount_0f7a4_45 ?_
  refine ft_iadd dJ6_bitCount_0f7a4_46 ?_
  refine ft_istore_n dJ6_bitCount_0f7a4_47 (by decide) ?_
  refine ft_iload_n dJ6_bitCount_0f7a4_48 rfl ?_
  refine ft_bipush (v := 63) dJ6_bitCount_0f7a4_49 rfl ?_
  refine ft_iand dJ6_bitCount_0f7a4_51 ?_
  exact fk_retp hf dJ6_bitCount_0f7a4_52 rfl rfl
def f_J7_fill_53178_5_B (c : Nat) (N : Nat) (x1 : Int32) (x3 : Int32) (k5 : Int32 → fc_I → Option fc_I) (x2 : Int32) (I : fc_I) : Option fc_I :=
if x2.toInt < x3.toInt then (
fq_g N x2 (fq_l (fc_wI I c (cn x2) x1) fun I13 =>
fq_l (x2 + 1) fun y14 =>
k5 y14 I13))
else (
some I)
def f_J7_fill_53178_5 (c : Nat) (N : Nat) (x1 : Int32) (x3 : Int32) (n : Nat) : Int32 → fc_I → Option fc_I := lpm1 (f_J7_fill_53178_5_B c N x1 x3 ) n
def f_J7_fill_53178 (c : Nat) (N : Nat) (I : fc_I) (x1 : Int32) : Option fc_I :=
fq_l ((Int32.ofNat N)) fun y4 =>
f_J7_fill_53178_5 c N x1 y4 4000 0 I
set_option maxHeartbeats 4000000 in
set_option maxRecDepth 100000 in
theorem t_J7_fill_53178_5 {d : Nat} {sh : fc_Sh} {P : fc_P} {c : Nat} {N : Nat} {J : fc_I} {x1 : Int32} {x3 : Int32} (hc : sh[c]? = some (0, N)) (hN : N < 2147483648) : ∀ (n : Nat) (x2 : Int32) (I : fc_I) , f_J7_fill_53178_5 c N x1 x3 n x2 I = some J → fc_T J7_fill_53178 d 0 0 5 [some (.ref c), some (.int x1), some (.int x2), some (.int x3)] [] sh I P (fc_Qv sh (fun I' P' => I' = J ∧ P' = P)) := by
  unfold f_J7_fill_53178_5
  refine lpm1_T (fun k5 hk5 x2 I hf => ?_)
  unfold f_J7_fill_53178_5_B at hf
  refine ft_iload_n dJ7_fill_53178_5 rfl ?_
  refine ft_iload_n dJ7_fill_53178_6 rfl ?_
  refine fk_icmp_ge (tgt := 20) dJ7_fill_53178_7 (by decide) hf (fun hf => ?_) (fun hf => ?_)
  · exact fk_retv hf dJ7_fill_53178_20 rfl
  · refine ft_aload_n dJ7_fill_53178_10 rfl ?_
    refine ft_iload_n dJ7_fill_53178_11 rfl ?_
    refine ft_iload_n dJ7_fill_53178_12 rfl ?_
    refine fk_iast (hc) hf dJ7_fill_53178_13 (fun hf => ?_)
    refine fk_iinc (c := 1) dJ7_fill_53178_14 rfl (by decide) rfl ?_
    refine ft_goto (tgt := 5) dJ7_fill_53178_17 (by decide) ?_
    exact ft_forget (by simp [fc_le, fc_st1, fc_st2, fc_kill]) (hk5 _ _ hf)
set_option maxHeartbeats 4000000 in
set_option maxRecDepth 100000 in
theorem t_J7_fill_53178 {d : Nat} {sh : fc_Sh} {P : fc_P} {c : Nat} {N : Nat} {J : fc_I} {I : fc_I} {x1 : Int32} (hc : sh[c]? = some (0, N)) (hN : N < 2147483648) (hf : f_J7_fill_53178 c N I x1 = some J) : fc_Cv J7_fill_53178 d [.ref c, .int x1] sh I P (fun I' P' => I' = J ∧ P' = P) := by
  unfold f_J7_fill_53178 at hf
  refine fc_Cv.of (ls := [some (.ref c), some (.int x1), none, none]) ⟨rfl, rfl⟩ (Nat.le_of_ble_eq_true rfl) rfl ?_
  refine ft_iconst (v := 0) dJ7_fill_53178_0 rfl ?_
  refine ft_istore_n dJ7_fill_53178_1 (by decide) ?_
  refine ft_aload_n dJ7_fill_53178_2 rfl ?_
  refine ft_alen (hc) (by decide) rfl dJ7_fill_53178_3 ?_
  refine ft_istore_n dJ7_fill_53178_4 (by decide) ?_
  exact ft_forget (by simp [fc_le, fc_st1, fc_st2, fc_kill]) (t_J7_fill_53178_5 hc hN  _ _ _ hf)
def f_X5_fail (I : fc_I) : Option fc_I :=
if (I 43 9).toInt = ((-1) : Int32).toInt then (
fq_l (fc_wI I 43 9 (I 43 5)) fun I13 =>
fq_l (fc_wI I13 43 7 10) fun I19 =>
some I19)
else (
fq_l (fc_wI I 43 7 10) fun I19 =>
some I19)
set_option maxHeartbeats 4000000 in
set_option maxRecDepth 100000 in
theorem t_X5_fail {d : Nat} {sh : fc_Sh} {P : fc_P} {v : Nat} {J : fc_I} {I : fc_I} (hw : fc_wd sh P v) (hf : f_X5_fail I = some J) : fc_Cv X5_fail d [.ref 43] sh I P (fun I' P' => I' = J ∧ P' = P) := by
  unfold f_X5_fail at hf
  refine fc_Cv.of (ls := [some (.ref 43)]) ⟨rfl, rfl⟩ (Nat.le_of_ble_eq_true rfl) rfl ?_
  refine ft_aload_n dX5_fail_0 rfl ?_
  refine ft_getI fl_X5_29 rfl (ws_43 hw) (by decide) dX5_fail_1 ?_
  refine ft_iconst (v := (-1)) dX5_fail_4 rfl ?_
  refine fk_icmp_ne (tgt := 16) dX5_fail_5 (by decide) hf (fun hf => ?_) (fun hf => ?_)
  · refine ft_aload_n dX5_fail_16 rfl ?_
    refine ft_bipush (v := 10) dX5_fail_17 rfl ?_
    refine ft_putI fl_X5_46 rfl (fun q h => by cases h; rfl) (ws_43 hw) (by decide) dX5_fail_19 ?_
    exact fk_retv hf dX5_fail_22 rfl
  · refine ft_aload_n dX5_fail_8 rfl ?_
    refine ft_aload_n dX5_fail_9 rfl ?_
    refine ft_getI fl_X5_52 rfl (ws_43 hw) (by decide) dX5_fail_10 ?_
    refine ft_putI fl_X5_29 rfl (fun q h => by cases h; rfl) (ws_43 hw) (by decide) dX5_fail_13 ?_
    refine ft_aload_n dX5_fail_16 rfl ?_
    refine ft_bipush (v := 10) dX5_fail_17 rfl ?_
    refine ft_putI fl_X5_46 rfl (fun q h => by cases h; rfl) (ws_43 hw) (by decide) dX5_fail_19 ?_
    exact fk_retv hf dX5_fail_22 rfl
def f_X5_isDigit (x0 : Int32) : Option Int32 :=
if x0.toInt < (48 : Int32).toInt then (
some 0)
else (
if (57 : Int32).toInt < x0.toInt then (
some 0)
else (
some 1))
set_option maxHeartbeats 4000000 in
set_option maxRecDepth 100000 in
theorem t_X5_isDigit {d : Nat} {sh : fc_Sh} {P : fc_P} {r : Int32} {I : fc_I} {x0 : Int32} (hf : f_X5_isDigit  x0 = some r) : fc_Cp X5_isDigit d [.int x0] sh I P r := by
  unfold f_X5_isDigit at hf
  refine fc_Cp.of (ls := [some (.int x0)]) ⟨rfl, rfl⟩ (Nat.le_of_ble_eq_true rfl) rfl ?_
  refine ft_iload_n dX5_isDigit_0 rfl ?_
  refine ft_bipush (v := 48) dX5_isDigit_1 rfl ?_
  refine fk_icmp_lt (tgt := 16) dX5_isDigit_3 (by decide) hf (fun hf => ?_) (fun hf => ?_)
  · refine ft_iconst (v := 0) dX5_isDigit_16 rfl ?_
    exact fk_retp hf dX5_isDigit_17 rfl rfl
  · refine ft_iload_n dX5_isDigit_6 rfl ?_
    refine ft_bipush (v := 57) dX5_isDigit_7 rfl ?_
    refine fk_icmp_gt (tgt := 16) dX5_isDigit_9 (by decide) hf (fun hf => ?_) (fun hf => ?_)
    · refine ft_iconst (v := 0) dX5_isDigit_16 rfl ?_
      exact fk_retp hf dX5_isDigit_17 rfl rfl
    · refine ft_iconst (v := 1) dX5_isDigit_12 rfl ?_
      refine ft_goto (tgt := 17) dX5_isDigit_13 (by decide) ?_
      exact fk_retp hf dX5_isDigit_17 rfl rfl
def f_X5_isLetter (x0 : Int32) : Option Int32 :=
if x0.toInt < (97 : Int32).toInt then (
some 0)
else (
if (122 : Int32).toInt < x0.toInt then (
some 0)
else (
some 1))
set_option maxHeartbeats 4000000 in
set_option maxRecDepth 100000 in
theorem t_X5_isLetter {d : Nat} {sh : fc_Sh} {P : fc_P} {r : Int32} {I : fc_I} {x0 : Int32} (hf : f_X5_isLetter  x0 = some r) : fc_Cp X5_isLetter d [.int x0] sh I P r := by
  unfold f_X5_isLetter at hf
  refine fc_Cp.of (ls := [some (.int x0)]) ⟨rfl, rfl⟩ (Nat.le_of_ble_eq_true rfl) rfl ?_
  refine ft_iload_n dX5_isLetter_0 rfl ?_
  refine ft_bipush (v := 97) dX5_isLetter_1 rfl ?_
  refine fk_icmp_lt (tgt := 16) dX5_isLetter_3 (by decide) hf (fun hf => ?_) (fun hf => ?_)
  · refine ft_iconst (v := 0) dX5_isLetter_16 rfl ?_
    exact fk_retp hf dX5_isLetter_17 rfl rfl
  · refine ft_iload_n dX5_isLetter_6 rfl ?_
    refine ft_bipush (v := 122) dX5_isLetter_7 rfl ?_
    refine fk_icmp_gt (tgt := 16) dX5_isLetter_9 (by decide) hf (fun hf => ?_) (fun hf => ?_)
    · refine ft_iconst (v := 0) dX5_isLetter_16 rfl ?_
      exact fk_retp hf dX5_isLetter_17 rfl rfl
    · refine ft_iconst (v := 1) dX5_isLetter_12 rfl ?_
      refine ft_goto (tgt := 17) dX5_isLetter_13 (by decide) ?_
      exact fk_retp hf dX5_isLetter_17 rfl rfl
def f_X5_isSign (x0 : Int32) : Option Int32 :=
if x0.toInt < (40 : Int32).toInt then (
if x0.toInt = (45 : Int32).toInt then (
some 1)
else (
if x0.toInt = (59 : Int32).toInt then (
some 1)
else (
if x0.toInt = (60 : Int32).toInt then (
some 1)
else (
if x0.toInt = (61 : Int32).toInt then (
some 1)
else (
some 0)))))
else (
if (43 : Int32).toInt < x0.toInt then (
if x0.toInt = (45 : Int32).toInt then (
some 1)
else (
if x0.toInt = (59 : Int32).toInt then (
some 1)
else (
if x0.toInt = (60 : Int32).toInt then (
some 1)
else (
if x0.toInt = (61 : Int32).toInt then (
some 1)
else (
some 0)))))
else (
some 1))
set_option maxHeartbeats 4000000 in
set_option maxRecDepth 100000 in
theorem t_X5_isSign {d : Nat} {sh : fc_Sh} {P : fc_P} {r : Int32} {I : fc_I} {x0 : Int32} (hf : f_X5_isSign  x0 = some r) : fc_Cp X5_isSign d [.int x0] sh I P r := by
  unfold f_X5_isSign at hf
  refine fc_Cp.of (ls := [some (.int x0)]) ⟨rfl, rfl⟩ (Nat.le_of_ble_eq_true rfl) rfl ?_
  refine ft_iload_n dX5_isSign_0 rfl ?_
  refine ft_bipush (v := 40) dX5_isSign_1 rfl ?_
  refine fk_icmp_lt (tgt := 12) dX5_isSign_3 (by decide) hf (fun hf => ?_) (fun hf => ?_)
  · refine ft_iload_n dX5_isSign_12 rfl ?_
    refine ft_bipush (v := 45) dX5_isSign_13 rfl ?_
    refine fk_icmp_eq (tgt := 36) dX5_isSign_15 (by decide) hf (fun hf => ?_) (fun hf => ?_)
    · refine ft_iconst (v := 1) dX5_isSign_36 rfl ?_
      refine ft_goto (tgt := 41) dX5_isSign_37 (by decide) ?_
      exact fk_retp hf dX5_isSign_41 rfl rfl
    · refine ft_iload_n dX5_isSign_18 rfl ?_
      refine ft_bipush (v := 59) dX5_isSign_19 rfl ?_
      refine fk_icmp_eq (tgt := 36) dX5_isSign_21 (by decide) hf (fun hf => ?_) (fun hf => ?_)
      · refine ft_iconst (v := 1) dX5_isSign_36 rfl ?_
        refine ft_goto (tgt := 41) dX5_isSign_37 (by decide) ?_
        exact fk_retp hf dX5_isSign_41 rfl rfl
      · refine ft_iload_n dX5_isSign_24 rfl ?_
        refine ft_bipush (v := 60) dX5_isSign_25 rfl ?_
        refine fk_icmp_eq (tgt := 36) dX5_isSign_27 (by decide) hf (fun hf => ?_) (fun hf => ?_)
        · refine ft_iconst (v := 1) dX5_isSign_36 rfl ?_
          refine ft_goto (tgt := 41) dX5_isSign_37 (by decide) ?_
          exact fk_retp hf dX5_isSign_41 rfl rfl
        · refine ft_iload_n dX5_isSign_30 rfl ?_
          refine ft_bipush (v := 61) dX5_isSign_31 rfl ?_
          refine fk_icmp_ne (tgt := 40) dX5_isSign_33 (by decide) hf (fun hf => ?_) (fun hf => ?_)
          · refine ft_iconst (v := 0) dX5_isSign_40 rfl ?_
            exact fk_retp hf dX5_isSign_41 rfl rfl
          · refine ft_iconst (v := 1) dX5_isSign_36 rfl ?_
            refine ft_goto (tgt := 41) dX5_isSign_37 (by decide) ?_
            exact fk_retp hf dX5_isSign_41 rfl rfl
  · refine ft_iload_n dX5_isSign_6 rfl ?_
    refine ft_bipush (v := 43) dX5_isSign_7 rfl ?_
    refine fk_icmp_le (tgt := 36) dX5_isSign_9 (by decide) hf (fun hf => ?_) (fun hf => ?_)
    · refine ft_iconst (v := 1) dX5_isSign_36 rfl ?_
      refine ft_goto (tgt := 41) dX5_isSign_37 (by decide) ?_
      exact fk_retp hf dX5_isSign_41 rfl rfl
    · refine ft_iload_n dX5_isSign_12 rfl ?_
      refine ft_bipush (v := 45) dX5_isSign_13 rfl ?_
      refine fk_icmp_eq (tgt := 36) dX5_isSign_15 (by decide) hf (fun hf => ?_) (fun hf => ?_)
      · refine ft_iconst (v := 1) dX5_isSign_36 rfl ?_
        refine ft_goto (tgt := 41) dX5_isSign_37 (by decide) ?_
        exact fk_retp hf dX5_isSign_41 rfl rfl
      · refine ft_iload_n dX5_isSign_18 rfl ?_
        refine ft_bipush (v := 59) dX5_isSign_19 rfl ?_
        refine fk_icmp_eq (tgt := 36) dX5_isSign_21 (by decide) hf (fun hf => ?_) (fun hf => ?_)
        · refine ft_iconst (v := 1) dX5_isSign_36 rfl ?_
          refine ft_goto (tgt := 41) dX5_isSign_37 (by decide) ?_
          exact fk_retp hf dX5_isSign_41 rfl rfl
        · refine ft_iload_n dX5_isSign_24 rfl ?_
          refine ft_bipush (v := 60) dX5_isSign_25 rfl ?_
          refine fk_icmp_eq (tgt := 36) dX5_isSign_27 (by decide) hf (fun hf => ?_) (fun hf => ?_)
          · refine ft_iconst (v := 1) dX5_isSign_36 rfl ?_
            refine ft_goto (tgt := 41) dX5_isSign_37 (by decide) ?_
            exact fk_retp hf dX5_isSign_41 rfl rfl
          · refine ft_iload_n dX5_isSign_30 rfl ?_
            refine ft_bipush (v := 61) dX5_isSign_31 rfl ?_
            refine fk_icmp_ne (tgt := 40) dX5_isSign_33 (by decide) hf (fun hf => ?_) (fun hf => ?_)
            · refine ft_iconst (v := 0) dX5_isSign_40 rfl ?_
              exact fk_retp hf dX5_isSign_41 rfl rfl
            · refine ft_iconst (v := 1) dX5_isSign_36 rfl ?_
              refine ft_goto (tgt := 41) dX5_isSign_37 (by decide) ?_
              exact fk_retp hf dX5_isSign_41 rfl rfl
def f_X5_takeNumber_5_B (k5 : fc_I → Option fc_I) (I : fc_I) : Option fc_I :=
if (I 43 6).toInt < (I 43 4).toInt then (
fq_g 160 (I 43 6) (
fq_v (f_X5_isDigit (I 32 (cn (I 43 6)))) fun r25 =>
if r25.toInt = 0 then (
if (4 : Int32).toInt < ((I 43 6) - (I 43 5)).toInt then (
fq_l (fc_wI I 43 7 10) fun I89 =>
some I89)
else (
fq_l (fc_wI I 43 7 12) fun I89 =>
some I89))
else (
fq_g 160 (I 43 6) (
fq_l (fc_wI I 43 8 ((((I 43 8) * 10) + (I 32 (cn (I 43 6)))) - 48)) fun I52 =>
fq_l (fc_wI I52 43 6 ((I52 43 6) + 1)) fun I62 =>
k5 I62))))
else (
if (4 : Int32).toInt < ((I 43 6) - (I 43 5)).toInt then (
fq_l (fc_wI I 43 7 10) fun I89 =>
some I89)
else (
fq_l (fc_wI I 43 7 12) fun I89 =>
some I89))
def f_X5_takeNumber_5 (n : Nat) : fc_I → Option fc_I := lpm0 (f_X5_takeNumber_5_B ) n
def f_X5_takeNumber (I : fc_I) : Option fc_I :=
fq_l (fc_wI I 43 8 0) fun I2 =>
f_X5_takeNumber_5  4000 I2
set_option maxHeartbeats 4000000 in
set_option maxRecDepth 100000 in
theorem t_X5_takeNumber_5 {d : Nat} {sh : fc_Sh} {P : fc_P} {v : Nat} {J : fc_I} (hw : fc_wd sh P v) : ∀ (n : Nat) (I : fc_I) , f_X5_takeNumber_5 n I = some J → fc_T X5_takeNumber (d + 1) 0 0 5 [some (.ref 43)] [] sh I P (fc_Qv sh (fun I' P' => I' = J ∧ P' = P)) := by
  unfold f_X5_takeNumber_5
  refine lpm0_T (fun k5 hk5 I hf => ?_)
  unfold f_X5_takeNumber_5_B at hf
  refine ft_aload_n dX5_takeNumber_5 rfl ?_
  refine ft_getI fl_X5_26 rfl (ws_43 hw) (by decide) dX5_takeNumber_6 ?_
  refine ft_aload_n dX5_takeNumber_9 rfl ?_
  refine ft_getI fl_X5_19 rfl (ws_43 hw) (by decide) dX5_takeNumber_10 ?_
  refine fk_icmp_ge (tgt := 68) dX5_takeNumber_13 (by decide) hf (fun hf => ?_) (fun hf => ?_)
  · refine ft_aload_n dX5_takeNumber_68 rfl ?_
    refine ft_aload_n dX5_takeNumber_69 rfl ?_
    refine ft_getI fl_X5_26 rfl (ws_43 hw) (by decide) dX5_takeNumber_70 ?_
    refine ft_aload_n dX5_takeNumber_73 rfl ?_
    refine ft_getI fl_X5_52 rfl (ws_43 hw) (by decide) dX5_takeNumber_74 ?_
    refine ft_isub dX5_takeNumber_77 ?_
    refine ft_iconst (v := 4) dX5_takeNumber_78 rfl ?_
    refine fk_icmp_le (tgt := 87) dX5_takeNumber_79 (by decide) hf (fun hf => ?_) (fun hf => ?_)
    · refine ft_bipush (v := 12) dX5_takeNumber_87 rfl ?_
      refine ft_putI fl_X5_46 rfl (fun q h => by cases h; rfl) (ws_43 hw) (by decide) dX5_takeNumber_89 ?_
      exact fk_retv hf dX5_takeNumber_92 rfl
    · refine ft_bipush (v := 10) dX5_takeNumber_82 rfl ?_
      refine ft_goto (tgt := 89) dX5_takeNumber_84 (by decide) ?_
      refine ft_putI fl_X5_46 rfl (fun q h => by cases h; rfl) (ws_43 hw) (by decide) dX5_takeNumber_89 ?_
      exact fk_retv hf dX5_takeNumber_92 rfl
  · refine ft_aload_n dX5_takeNumber_16 rfl ?_
    refine ft_getR fl_X5_11 rfl (ws_43 hw) (by decide) (wp_43_0 hw) dX5_takeNumber_17 ?_
    refine ft_aload_n dX5_takeNumber_20 rfl ?_
    refine ft_getI fl_X5_26 rfl (ws_43 hw) (by decide) dX5_takeNumber_21 ?_
    refine fk_bald (ws_32 hw) hf dX5_takeNumber_24 (fun hf => ?_)
    obtain ⟨r25, hc25, hf⟩ := fq_vs hf
    refine ft_S1p cf_X5_78 (t_X5_isDigit hc25) (Nat.le_of_ble_eq_true rfl) dX5_takeNumber_25 ?_
    refine fk_if_eq (tgt := 68) dX5_takeNumber_28 (by decide) hf (fun hf => ?_) (fun hf => ?_)
    · refine ft_aload_n dX5_takeNumber_68 rfl ?_
      refine ft_aload_n dX5_takeNumber_69 rfl ?_
      refine ft_getI fl_X5_26 rfl (ws_43 hw) (by decide) dX5_takeNumber_70 ?_
      refine ft_aload_n dX5_takeNumber_73 rfl ?_
      refine ft_getI fl_X5_52 rfl (ws_43 hw) (by decide) dX5_takeNumber_74 ?_
      refine ft_isub dX5_takeNumber_77 ?_
      refine ft_iconst (v := 4) dX5_takeNumber_78 rfl ?_
      refine fk_icmp_le (tgt := 87) dX5_takeNumber_79 (by decide) hf (fun hf => ?_) (fun hf => ?_)
      · refine ft_bipush (v := 12) dX5_takeNumber_87 rfl ?_
        refine ft_putI fl_X5_46 rfl (fun q h => by cases h; rfl) (ws_43 hw) (by decide) dX5_takeNumber_89 ?_
        exact fk_retv hf dX5_takeNumber_92 rfl
      · refine ft_bipush (v := 10) dX5_takeNumber_82 rfl ?_
        refine ft_goto (tgt := 89) dX5_takeNumber_84 (by decide) ?_
        refine ft_putI fl_X5_46 rfl (fun q h => by cases h; rfl) (ws_43 hw) (by decide) dX5_takeNumber_89 ?_
        exact fk_retv hf dX5_takeNumber_92 rfl
    · refine ft_aload_n dX5_takeNumber_31 rfl ?_
      refine ft_aload_n dX5_takeNumber_32 rfl ?_
      refine ft_getI fl_X5_68 rfl (ws_43 hw) (by decide) dX5_takeNumber_33 ?_
      refine ft_bipush (v := 10) dX5_takeNumber_36 rfl ?_
      refine ft_imul dX5_takeNumber_38 ?_
      refine ft_aload_n dX5_takeNumber_39 rfl ?_
      refine ft_getR fl_X5_11 rfl (ws_43 hw) (by decide) (wp_43_0 hw) dX5_takeNumber_40 ?_
      refine ft_aload_n dX5_takeNumber_43 rfl ?_
      refine ft_getI fl_X5_26 rfl (ws_43 hw) (by decide) dX5_takeNumber_44 ?_
      refine fk_bald (ws_32 hw) hf dX5_takeNumber_47 (fun hf => ?_)
      refine ft_iadd dX5_takeNumber_48 ?_
      refine ft_bipush (v := 48) dX5_takeNumber_49 rfl ?_
      refine ft_isub dX5_takeNumber_51 ?_
      refine ft_putI fl_X5_68 rfl (fun q h => by cases h; rfl) (ws_43 hw) (by decide) dX5_takeNumber_52 ?_
      refine ft_aload_n dX5_takeNumber_55 rfl ?_
      refine ft_dup dX5_takeNumber_56 rfl ?_
      refine ft_getI fl_X5_26 rfl (ws_43 hw) (by decide) dX5_takeNumber_57 ?_
      refine ft_iconst (v := 1) dX5_takeNumber_60 rfl ?_
      refine ft_iadd dX5_takeNumber_61 ?_
      refine ft_putI fl_X5_26 rfl (fun q h => by cases h; rfl) (ws_43 hw) (by decide) dX5_takeNumber_62 ?_
      refine ft_goto (tgt := 5) dX5_takeNumber_65 (by decide) ?_
      exact ft_forget (by simp [fc_le, fc_st1, fc_st2, fc_kill]) (hk5 _ hf)
set_option maxHeartbeats 4000000 in
set_option maxRecDepth 100000 in
theorem t_X5_takeNumber {d : Nat} {sh : fc_Sh} {P : fc_P} {v : Nat} {J : fc_I} {I : fc_I} (hw : fc_wd sh P v) (hf : f_X5_takeNumber I = some J) : fc_Cv X5_takeNumber (d + 1) [.ref 43] sh I P (fun I' P' => I' = J ∧ P' = P) := by
  unfold f_X5_takeNumber at hf
  refine fc_Cv.of (ls := [some (.ref 43)]) ⟨rfl, rfl⟩ (Nat.le_of_ble_eq_true rfl) rfl ?_
  refine ft_aload_n dX5_takeNumber_0 rfl ?_
  refine ft_iconst (v := 0) dX5_takeNumber_1 rfl ?_
  refine ft_putI fl_X5_68 rfl (fun q h => by cases h; rfl) (ws_43 hw) (by decide) dX5_takeNumber_2 ?_
  exact ft_forget (by simp [fc_le, fc_st1, fc_st2, fc_kill]) (t_X5_takeNumber_5 hw  _ _ hf)
def f_X5_spells_20_B (k : Nat) (I : fc_I) (k20 : Int32 → Option Int32) (x2 : Int32) : Option Int32 :=
fq_v (f_J0_length_8abf5 k) fun r22 =>
if x2.toInt < r22.toInt then (
fq_g 160 ((I 43 5) + x2) (
fq_v (f_J0_charAt_5068e k x2) fun r41 =>
if (I 32 (cn ((I 43 5) + x2))).toInt = r41.toInt then (
fq_l (x2 + 1) fun y49 =>
k20 y49)
else (
some 0)))
else (
some 1)
def f_X5_spells_20 (k : Nat) (I : fc_I) (n : Nat) : Int32 → Option Int32 := lpp1 (f_X5_spells_20_B k I ) n
def f_X5_spells (k : Nat) (I : fc_I) : Option Int32 :=
fq_v (f_J0_length_8abf5 k) fun r10 =>
if ((I 43 6) - (I 43 5)).toInt = r10.toInt then (
f_X5_spells_20 k I  4000 0)
else (
some 0)
set_option maxHeartbeats 4000000 in
set_option maxRecDepth 100000 in
theorem t_X5_spells_20 {d : Nat} {sh : fc_Sh} {P : fc_P} {v : Nat} {k : Nat} {r : Int32} {I : fc_I} (hw : fc_wd sh P v) (hkk : k < 12) : ∀ (n : Nat) (x2 : Int32) , f_X5_spells_20 k I n x2 = some r → fc_T X5_spells (d + 4) 0 0 20 [some (.ref 43), some (.ref (1000 + k)), some (.int x2)] [] sh I P (fc_Qi sh (fun r' I' P' => r' = r ∧ I' = I ∧ P' = P)) := by
  unfold f_X5_spells_20
  refine lpp1_T (fun k20 hk20 x2 hf => ?_)
  unfold f_X5_spells_20_B at hf
  refine ft_iload_n dX5_spells_20 rfl ?_
  refine ft_aload_n dX5_spells_21 rfl ?_
  obtain ⟨r22, hc22, hf⟩ := fq_vs hf
  refine ft_VS0p cf_X5_113 hkk (t_J0_length_8abf5 hkk hc22) (Nat.le_of_ble_eq_true rfl) dX5_spells_22 ?_
  refine fk_icmp_ge (tgt := 55) dX5_spells_25 (by decide) hf (fun hf => ?_) (fun hf => ?_)
  · refine ft_iconst (v := 1) dX5_spells_55 rfl ?_
    exact fk_retp hf dX5_spells_56 rfl rfl
  · refine ft_aload_n dX5_spells_28 rfl ?_
    refine ft_getR fl_X5_11 rfl (ws_43 hw) (by decide) (wp_43_0 hw) dX5_spells_29 ?_
    refine ft_aload_n dX5_spells_32 rfl ?_
    refine ft_getI fl_X5_52 rfl (ws_43 hw) (by decide) dX5_spells_33 ?_
    refine ft_iload_n dX5_spells_36 rfl ?_
    refine ft_iadd dX5_spells_37 ?_
    refine fk_bald (ws_32 hw) hf dX5_spells_38 (fun hf => ?_)
    refine ft_aload_n dX5_spells_39 rfl ?_
    refine ft_iload_n dX5_spells_40 rfl ?_
    obtain ⟨r41, hc41, hf⟩ := fq_vs hf
    refine ft_VS1p cf_X5_118 hkk (t_J0_charAt_5068e hkk hc41) (Nat.le_of_ble_eq_true rfl) dX5_spells_41 ?_
    refine fk_icmp_eq (tgt := 49) dX5_spells_44 (by decide) hf (fun hf => ?_) (fun hf => ?_)
    · refine fk_iinc (c := 1) dX5_spells_49 rfl (by decide) rfl ?_
      refine ft_goto (tgt := 20) dX5_spells_52 (by decide) ?_
      exact ft_forget (by simp [fc_le, fc_st1, fc_st2, fc_kill]) (hk20 _ hf)
    · refine ft_iconst (v := 0) dX5_spells_47 rfl ?_
      exact fk_retp hf dX5_spells_48 rfl rfl
set_option maxHeartbeats 4000000 in
set_option maxRecDepth 100000 in
theorem t_X5_spells {d : Nat} {sh : fc_Sh} {P : fc_P} {v : Nat} {k : Nat} {r : Int32} {I : fc_I} (hw : fc_wd sh P v) (hkk : k < 12) (hf : f_X5_spells k I = some r) : fc_Cp X5_spells (d + 4) [.ref 43, .ref (1000 + k)] sh I P r := by
  unfold f_X5_spells at hf
  refine fc_Cp.of (ls := [some (.ref 43), some (.ref (1000 + k)), none]) ⟨rfl, rfl⟩ (Nat.le_of_ble_eq_true rfl) rfl ?_
  refine ft_aload_n dX5_spells_0 rfl ?_
  refine ft_getI fl_X5_26 rfl (ws_43 hw) (by decide) dX5_spells_1 ?_
  refine ft_aload_n dX5_spells_4 rfl ?_
  refine ft_getI fl_X5_52 rfl (ws_43 hw) (by decide) dX5_spells_5 ?_
  refine ft_isub dX5_spells_8 ?_
  refine ft_aload_n dX5_spells_9 rfl ?_
  obtain ⟨r10, hc10, hf⟩ := fq_vs hf
  refine ft_VS0p cf_X5_113 hkk (t_J0_length_8abf5 hkk hc10) (Nat.le_of_ble_eq_true rfl) dX5_spells_10 ?_
  refine fk_icmp_eq (tgt := 18) dX5_spells_13 (by decide) hf (fun hf => ?_) (fun hf => ?_)
  · refine ft_iconst (v := 0) dX5_spells_18 rfl ?_
    refine ft_istore_n dX5_spells_19 (by decide) ?_
    exact ft_forget (by simp [fc_le, fc_st1, fc_st2, fc_kill]) (t_X5_spells_20 hw hkk  _ _ hf)
  · refine ft_iconst (v := 0) dX5_spells_16 rfl ?_
    exact fk_retp hf dX5_spells_17 rfl rfl
def f_X5_takeWord_119 (s1 : Int32) (I : fc_I) : Option fc_I :=
fq_l (fc_wI I 43 8 s1) fun I119 =>
if (I119 43 8).toInt = ((-1) : Int32).toInt then (
fq_v (f_X5_spells 7 I119) fun r141 =>
if r141.toInt = 0 then (
fq_v (f_X5_spells 8 I119) fun r155 =>
if r155.toInt = 0 then (
fq_v (f_X5_spells 9 I119) fun r169 =>
if r169.toInt = 0 then (
fq_v (f_X5_spells 10 I119) fun r183 =>
if r183.toInt = 0 then (
fq_v (f_X5_spells 11 I119) fun r197 =>
if r197.toInt = 0 then (
fq_l (fc_wI I119 43 7 10) fun I210 =>
some I210)
else (
fq_l (fc_wI I119 43 7 18) fun I210 =>
some I210))
else (
fq_l (fc_wI I119 43 7 17) fun I210 =>
some I210))
else (
fq_l (fc_wI I119 43 7 16) fun I210 =>
some I210))
else (
fq_l (fc_wI I119 43 7 15) fun I210 =>
some I210))
else (
fq_l (fc_wI I119 43 7 14) fun I210 =>
some I210))
else (
fq_l (fc_wI I119 43 7 13) fun I133 =>
some I133)
def f_X5_takeWord_39 (I : fc_I) : Option fc_I :=
fq_v (f_X5_spells 1 I) fun r43 =>
if r43.toInt = 0 then (
fq_v (f_X5_spells 2 I) fun r56 =>
if r56.toInt = 0 then (
fq_v (f_X5_spells 3 I) fun r69 =>
if r69.toInt = 0 then (
fq_v (f_X5_spells 4 I) fun r82 =>
if r82.toInt = 0 then (
fq_v (f_X5_spells 5 I) fun r95 =>
if r95.toInt = 0 then (
fq_v (f_X5_spells 6 I) fun r108 =>
if r108.toInt = 0 then (
f_X5_takeWord_119  (-1) I)
else (
f_X5_takeWord_119  5 I))
else (
f_X5_takeWord_119  4 I))
else (
f_X5_takeWord_119  3 I))
else (
f_X5_takeWord_119  2 I))
else (
f_X5_takeWord_119  1 I))
else (
f_X5_takeWord_119  0 I)
def f_X5_takeWord_0_B (k0 : fc_I → Option fc_I) (I : fc_I) : Option fc_I :=
if (I 43 6).toInt < (I 43 4).toInt then (
fq_g 160 (I 43 6) (
fq_v (f_X5_isLetter (I 32 (cn (I 43 6)))) fun r20 =>
if r20.toInt = 0 then (
f_X5_takeWord_39  I)
else (
fq_l (fc_wI I 43 6 ((I 43 6) + 1)) fun I33 =>
k0 I33)))
else (
f_X5_takeWord_39  I)
def f_X5_takeWord_0 (n : Nat) : fc_I → Option fc_I := lpm0 (f_X5_takeWord_0_B ) n
def f_X5_takeWord (I : fc_I) : Option fc_I :=
f_X5_takeWord_0  4000 I
set_option maxHeartbeats 4000000 in
set_option maxRecDepth 100000 in
theorem t_X5_takeWord_119 {d : Nat} {sh : fc_Sh} {P : fc_P} {v : Nat} {J : fc_I} (hw : fc_wd sh P v) : ∀ (s1 : Int32) (I : fc_I) , f_X5_takeWord_119  s1 I = some J → fc_T X5_takeWord (d + 5) 0 0 119 [some (.ref 43)] [.int s1, .ref 43] sh I P (fc_Qv sh (fun I' P' => I' = J ∧ P' = P)) := by
  intro s1 I hf
  unfold f_X5_takeWord_119 at hf
  refine ft_putI fl_X5_68 rfl (fun q h => by cases h; rfl) (ws_43 hw) (by decide) dX5_takeWord_119 ?_
  refine ft_aload_n dX5_takeWord_122 rfl ?_
  refine ft_getI fl_X5_68 rfl (ws_43 hw) (by decide) dX5_takeWord_123 ?_
  refine ft_iconst (v := (-1)) dX5_takeWord_126 rfl ?_
  refine fk_icmp_eq (tgt := 137) dX5_takeWord_127 (by decide) hf (fun hf => ?_) (fun hf => ?_)
  · refine ft_aload_n dX5_takeWord_137 rfl ?_
    refine ft_aload_n dX5_takeWord_138 rfl ?_
    refine ft_ldcS (List.mem_of_getElem? (i := 7) rfl) dX5_takeWord_139 ?_
    obtain ⟨r141, hc141, hf⟩ := fq_vs hf
    refine ft_V1p cf_X5_89 (ws_43 hw) (t_X5_spells hw (by decide) hc141) (Nat.le_of_ble_eq_true rfl) dX5_takeWord_141 ?_
    refine fk_if_eq (tgt := 152) dX5_takeWord_144 (by decide) hf (fun hf => ?_) (fun hf => ?_)
    · refine ft_aload_n dX5_takeWord_152 rfl ?_
      refine ft_ldcS (List.mem_of_getElem? (i := 8) rfl) dX5_takeWord_153 ?_
      obtain ⟨r155, hc155, hf⟩ := fq_vs hf
      refine ft_V1p cf_X5_89 (ws_43 hw) (t_X5_spells hw (by decide) hc155) (Nat.le_of_ble_eq_true rfl) dX5_takeWord_155 ?_
      refine fk_if_eq (tgt := 166) dX5_takeWord_158 (by decide) hf (fun hf => ?_) (fun hf => ?_)
      · refine ft_aload_n dX5_takeWord_166 rfl ?_
        refine ft_ldcS (List.mem_of_getElem? (i := 9) rfl) dX5_takeWord_167 ?_
        obtain ⟨r169, hc169, hf⟩ := fq_vs hf
        refine ft_V1p cf_X5_89 (ws_43 hw) (t_X5_spells hw (by decide) hc169) (Nat.le_of_ble_eq_true rfl) dX5_takeWord_169 ?_
        refine fk_if_eq (tgt := 180) dX5_takeWord_172 (by decide) hf (fun hf => ?_) (fun hf => ?_)
        · refine ft_aload_n dX5_takeWord_180 rfl ?_
          refine ft_ldcS (List.mem_of_getElem? (i := 10) rfl) dX5_takeWord_181 ?_
          obtain ⟨r183, hc183, hf⟩ := fq_vs hf
          refine ft_V1p cf_X5_89 (ws_43 hw) (t_X5_spells hw (by decide) hc183) (Nat.le_of_ble_eq_true rfl) dX5_takeWord_183 ?_
          refine fk_if_eq (tgt := 194) dX5_takeWord_186 (by decide) hf (fun hf => ?_) (fun hf => ?_)
          · refine ft_aload_n dX5_takeWord_194 rfl ?_
            refine ft_ldcS (List.mem_of_getElem? (i := 11) rfl) dX5_takeWord_195 ?_
            obtain ⟨r197, hc197, hf⟩ := fq_vs hf
            refine ft_V1p cf_X5_89 (ws_43 hw) (t_X5_spells hw (by decide) hc197) (Nat.le_of_ble_eq_true rfl) dX5_takeWord_197 ?_
            refine fk_if_eq (tgt := 208) dX5_takeWord_200 (by decide) hf (fun hf => ?_) (fun hf => ?_)
            · refine ft_bipush (v := 10) dX5_takeWord_208 rfl ?_
              refine ft_putI fl_X5_46 rfl (fun q h => by cases h; rfl) (ws_43 hw) (by decide) dX5_takeWord_210 ?_
              exact fk_retv hf dX5_takeWord_213 rfl
            · refine ft_bipush (v := 18) dX5_takeWord_203 rfl ?_
              refine ft_goto (tgt := 210) dX5_takeWord_205 (by decide) ?_
              refine ft_putI fl_X5_46 rfl (fun q h => by cases h; rfl) (ws_43 hw) (by decide) dX5_takeWord_210 ?_
              exact fk_retv hf dX5_takeWord_213 rfl
          · refine ft_bipush (v := 17) dX5_takeWord_189 rfl ?_
            refine ft_goto (tgt := 210) dX5_takeWord_191 (by decide) ?_
            refine ft_putI fl_X5_46 rfl (fun q h => by cases h; rfl) (ws_43 hw) (by decide) dX5_takeWord_210 ?_
            exact fk_retv hf dX5_takeWord_213 rfl
        · refine ft_bipush (v := 16) dX5_takeWord_175 rfl ?_
          refine ft_goto (tgt := 210) dX5_takeWord_177 (by decide) ?_
          refine ft_putI fl_X5_46 rfl (fun q h => by cases h; rfl) (ws_43 hw) (by decide) dX5_takeWord_210 ?_
          exact fk_retv hf dX5_takeWord_213 rfl
      · refine ft_bipush (v := 15) dX5_takeWord_161 rfl ?_
        refine ft_goto (tgt := 210) dX5_takeWord_163 (by decide) ?_
        refine ft_putI fl_X5_46 rfl (fun q h => by cases h; rfl) (ws_43 hw) (by decide) dX5_takeWord_210 ?_
        exact fk_retv hf dX5_takeWord_213 rfl
    · refine ft_bipush (v := 14) dX5_takeWord_147 rfl ?_
      refine ft_goto (tgt := 210) dX5_takeWord_149 (by decide) ?_
      refine ft_putI fl_X5_46 rfl (fun q h => by cases h; rfl) (ws_43 hw) (by decide) dX5_takeWord_210 ?_
      exact fk_retv hf dX5_takeWord_213 rfl
  · refine ft_aload_n dX5_takeWord_130 rfl ?_
    refine ft_bipush (v := 13) dX5_takeWord_131 rfl ?_
    refine ft_putI fl_X5_46 rfl (fun q h => by cases h; rfl) (ws_43 hw) (by decide) dX5_takeWord_133 ?_
    exact fk_retv hf dX5_takeWord_136 rfl
set_option maxHeartbeats 4000000 in
set_option maxRecDepth 100000 in
theorem t_X5_takeWord_39 {d : Nat} {sh : fc_Sh} {P : fc_P} {v : Nat} {J : fc_I} (hw : fc_wd sh P v) : ∀ (I : fc_I) , f_X5_takeWord_39  I = some J → fc_T X5_takeWord (d + 5) 0 0 39 [some (.ref 43)] [] sh I P (fc_Qv sh (fun I' P' => I' = J ∧ P' = P)) := by
  intro I hf
  unfold f_X5_takeWord_39 at hf
  refine ft_aload_n dX5_takeWord_39 rfl ?_
  refine ft_aload_n dX5_takeWord_40 rfl ?_
  refine ft_ldcS (List.mem_of_getElem? (i := 1) rfl) dX5_takeWord_41 ?_
  obtain ⟨r43, hc43, hf⟩ := fq_vs hf
  refine ft_V1p cf_X5_89 (ws_43 hw) (t_X5_spells hw (by decide) hc43) (Nat.le_of_ble_eq_true rfl) dX5_takeWord_43 ?_
  refine fk_if_eq (tgt := 53) dX5_takeWord_46 (by decide) hf (fun hf => ?_) (fun hf => ?_)
  · refine ft_aload_n dX5_takeWord_53 rfl ?_
    refine ft_ldcS (List.mem_of_getElem? (i := 2) rfl) dX5_takeWord_54 ?_
    obtain ⟨r56, hc56, hf⟩ := fq_vs hf
    refine ft_V1p cf_X5_89 (ws_43 hw) (t_X5_spells hw (by decide) hc56) (Nat.le_of_ble_eq_true rfl) dX5_takeWord_56 ?_
    refine fk_if_eq (tgt := 66) dX5_takeWord_59 (by decide) hf (fun hf => ?_) (fun hf => ?_)
    · refine ft_aload_n dX5_takeWord_66 rfl ?_
      refine ft_ldcS (List.mem_of_getElem? (i := 3) rfl) dX5_takeWord_67 ?_
      obtain ⟨r69, hc69, hf⟩ := fq_vs hf
      refine ft_V1p cf_X5_89 (ws_43 hw) (t_X5_spells hw (by decide) hc69) (Nat.le_of_ble_eq_true rfl) dX5_takeWord_69 ?_
      refine fk_if_eq (tgt := 79) dX5_takeWord_72 (by decide) hf (fun hf => ?_) (fun hf => ?_)
      · refine ft_aload_n dX5_takeWord_79 rfl ?_
        refine ft_ldcS (List.mem_of_getElem? (i := 4) rfl) dX5_takeWord_80 ?_
        obtain ⟨r82, hc82, hf⟩ := fq_vs hf
        refine ft_V1p cf_X5_89 (ws_43 hw) (t_X5_spells hw (by decide) hc82) (Nat.le_of_ble_eq_true rfl) dX5_takeWord_82 ?_
        refine fk_if_eq (tgt := 92) dX5_takeWord_85 (by decide) hf (fun hf => ?_) (fun hf => ?_)
        · refine ft_aload_n dX5_takeWord_92 rfl ?_
          refine ft_ldcS (List.mem_of_getElem? (i := 5) rfl) dX5_takeWord_93 ?_
          obtain ⟨r95, hc95, hf⟩ := fq_vs hf
          refine ft_V1p cf_X5_89 (ws_43 hw) (t_X5_spells hw (by decide) hc95) (Nat.le_of_ble_eq_true rfl) dX5_takeWord_95 ?_
          refine fk_if_eq (tgt := 105) dX5_takeWord_98 (by decide) hf (fun hf => ?_) (fun hf => ?_)
          · refine ft_aload_n dX5_takeWord_105 rfl ?_
            refine ft_ldcS (List.mem_of_getElem? (i := 6) rfl) dX5_takeWord_106 ?_
            obtain ⟨r108, hc108, hf⟩ := fq_vs hf
            refine ft_V1p cf_X5_89 (ws_43 hw) (t_X5_spells hw (by decide) hc108) (Nat.le_of_ble_eq_true rfl) dX5_takeWord_108 ?_
            refine fk_if_eq (tgt := 118) dX5_takeWord_111 (by decide) hf (fun hf => ?_) (fun hf => ?_)
            · refine ft_iconst (v := (-1)) dX5_takeWord_118 rfl ?_
              exact ft_forget (by simp [fc_le, fc_st1, fc_st2, fc_kill]) (t_X5_takeWord_119 hw   _ _ hf)
            · refine ft_iconst (v := 5) dX5_takeWord_114 rfl ?_
              refine ft_goto (tgt := 119) dX5_takeWord_115 (by decide) ?_
              exact ft_forget (by simp [fc_le, fc_st1, fc_st2, fc_kill]) (t_X5_takeWord_119 hw   _ _ hf)
          · refine ft_iconst (v := 4) dX5_takeWord_101 rfl ?_
            refine ft_goto (tgt := 119) dX5_takeWord_102 (by decide) ?_
            exact ft_forget (by simp [fc_le, fc_st1, fc_st2, fc_kill]) (t_X5_takeWord_119 hw   _ _ hf)
        · refine ft_iconst (v := 3) dX5_takeWord_88 rfl ?_
          refine ft_goto (tgt := 119) dX5_takeWord_89 (by decide) ?_
          exact ft_forget (by simp [fc_le, fc_st1, fc_st2, fc_kill]) (t_X5_takeWord_119 hw   _ _ hf)
      · refine ft_iconst (v := 2) dX5_takeWord_75 rfl ?_
        refine ft_goto (tgt := 119) dX5_takeWord_76 (by decide) ?_
        exact ft_forget (by simp [fc_le, fc_st1, fc_st2, fc_kill]) (t_X5_takeWord_119 hw   _ _ hf)
    · refine ft_iconst (v := 1) dX5_takeWord_62 rfl ?_
      refine ft_goto (tgt := 119) dX5_takeWord_63 (by decide) ?_
      exact ft_forget (by simp [fc_le, fc_st1, fc_st2, fc_kill]) (t_X5_takeWord_119 hw   _ _ hf)
  · refine ft_iconst (v := 0) dX5_takeWord_49 rfl ?_
    refine ft_goto (tgt := 119) dX5_takeWord_50 (by decide) ?_
    exact ft_forget (by simp [fc_le, fc_st1, fc_st2, fc_kill]) (t_X5_takeWord_119 hw   _ _ hf)
set_option maxHeartbeats 4000000 in
set_option maxRecDepth 100000 in
theorem t_X5_takeWord_0 {d : Nat} {sh : fc_Sh} {P : fc_P} {v : Nat} {J : fc_I} (hw : fc_wd sh P v) : ∀ (n : Nat) (I : fc_I) , f_X5_takeWord_0 n I = some J → fc_T X5_takeWord (d + 5) 0 0 0 [some (.ref 43)] [] sh I P (fc_Qv sh (fun I' P' => I' = J ∧ P' = P)) := by
  unfold f_X5_takeWord_0
  refine lpm0_T (fun k0 hk0 I hf => ?_)
  unfold f_X5_takeWord_0_B at hf
  refine ft_aload_n dX5_takeWord_0 rfl ?_
  refine ft_getI fl_X5_26 rfl (ws_43 hw) (by decide) dX5_takeWord_1 ?_
  refine ft_aload_n dX5_takeWord_4 rfl ?_
  refine ft_getI fl_X5_19 rfl (ws_43 hw) (by decide) dX5_takeWord_5 ?_
  refine fk_icmp_ge (tgt := 39) dX5_takeWord_8 (by decide) hf (fun hf => ?_) (fun hf => ?_)
  · exact ft_forget (by simp [fc_le, fc_st1, fc_st2, fc_kill]) (t_X5_takeWord_39 hw   _ hf)
  · refine ft_aload_n dX5_takeWord_11 rfl ?_
    refine ft_getR fl_X5_11 rfl (ws_43 hw) (by decide) (wp_43_0 hw) dX5_takeWord_12 ?_
    refine ft_aload_n dX5_takeWord_15 rfl ?_
    refine ft_getI fl_X5_26 rfl (ws_43 hw) (by decide) dX5_takeWord_16 ?_
    refine fk_bald (ws_32 hw) hf dX5_takeWord_19 (fun hf => ?_)
    obtain ⟨r20, hc20, hf⟩ := fq_vs hf
    refine ft_S1p cf_X5_71 (t_X5_isLetter hc20) (Nat.le_of_ble_eq_true rfl) dX5_takeWord_20 ?_
    refine fk_if_eq (tgt := 39) dX5_takeWord_23 (by decide) hf (fun hf => ?_) (fun hf => ?_)
    · exact ft_forget (by simp [fc_le, fc_st1, fc_st2, fc_kill]) (t_X5_takeWord_39 hw   _ hf)
    · refine ft_aload_n dX5_takeWord_26 rfl ?_
      refine ft_dup dX5_takeWord_27 rfl ?_
      refine ft_getI fl_X5_26 rfl (ws_43 hw) (by decide) dX5_takeWord_28 ?_
      refine ft_iconst (v := 1) dX5_takeWord_31 rfl ?_
      refine ft_iadd dX5_takeWord_32 ?_
      refine ft_putI fl_X5_26 rfl (fun q h => by cases h; rfl) (ws_43 hw) (by decide) dX5_takeWord_33 ?_
      refine ft_goto (tgt := 0) dX5_takeWord_36 (by decide) ?_
      exact ft_forget (by simp [fc_le, fc_st1, fc_st2, fc_kill]) (hk0 _ hf)
set_option maxHeartbeats 4000000 in
set_option maxRecDepth 100000 in
theorem t_X5_takeWord {d : Nat} {sh : fc_Sh} {P : fc_P} {v : Nat} {J : fc_I} {I : fc_I} (hw : fc_wd sh P v) (hf : f_X5_takeWord I = some J) : fc_Cv X5_takeWord (d + 5) [.ref 43] sh I P (fun I' P' => I' = J ∧ P' = P) := by
  unfold f_X5_takeWord at hf
  refine fc_Cv.of (ls := [some (.ref 43)]) ⟨rfl, rfl⟩ (Nat.le_of_ble_eq_true rfl) rfl ?_
  exact ft_forget (by simp [fc_le, fc_st1, fc_st2, fc_kill]) (t_X5_takeWord_0 hw  _ _ hf)
def f_X5_nextToken_52 (I : fc_I) : Option fc_I :=
fq_l (fc_wI I 43 5 (I 43 6)) fun I57 =>
if (I57 43 6).toInt < (I57 43 4).toInt then (
fq_g 160 (I57 43 6) (
fq_v (f_X5_isLetter (I57 32 (cn (I57 43 6)))) fun r89 =>
if r89.toInt = 0 then (
fq_g 160 (I57 43 6) (
fq_v (f_X5_isDigit (I57 32 (cn (I57 43 6)))) fun r111 =>
if r111.toInt = 0 then (
fq_g 160 (I57 43 6) (
fq_v (f_X5_isSign (I57 32 (cn (I57 43 6)))) fun r134 =>
if r134.toInt = 0 then (
fq_l (fc_wI I57 43 7 10) fun I154 =>
fq_l (fc_wI I154 43 6 ((I154 43 6) + 1)) fun I164 =>
some I164)
else (
fq_g 160 (I57 43 6) (
fq_l (fc_wI I57 43 7 (I57 32 (cn (I57 43 6)))) fun I154 =>
fq_l (fc_wI I154 43 6 ((I154 43 6) + 1)) fun I164 =>
some I164))))
else (
fq_u (f_X5_takeNumber I57) fun I118 =>
some I118)))
else (
fq_u (f_X5_takeWord I57) fun I96 =>
some I96)))
else (
fq_l (fc_wI I57 43 7 11) fun I74 =>
some I74)
def f_X5_nextToken_0_B (k0 : fc_I → Option fc_I) (I : fc_I) : Option fc_I :=
if (I 43 6).toInt < (I 43 4).toInt then (
fq_g 160 (I 43 6) (
if (I 32 (cn (I 43 6))).toInt = (32 : Int32).toInt then (
fq_l (fc_wI I 43 6 ((I 43 6) + 1)) fun I46 =>
k0 I46)
else (
fq_g 160 (I 43 6) (
if (I 32 (cn (I 43 6))).toInt = (10 : Int32).toInt then (
fq_l (fc_wI I 43 6 ((I 43 6) + 1)) fun I46 =>
k0 I46)
else (
f_X5_nextToken_52  I)))))
else (
f_X5_nextToken_52  I)
def f_X5_nextToken_0 (n : Nat) : fc_I → Option fc_I := lpm0 (f_X5_nextToken_0_B ) n
def f_X5_nextToken (I : fc_I) : Option fc_I :=
f_X5_nextToken_0  4000 I
set_option maxHeartbeats 4000000 in
set_option maxRecDepth 100000 in
theorem t_X5_nextToken_52 {d : Nat} {sh : fc_Sh} {P : fc_P} {v : Nat} {J : fc_I} (hw : fc_wd sh P v) : ∀ (I : fc_I) , f_X5_nextToken_52  I = some J → fc_T X5_nextToken (d + 6) 0 0 52 [some (.ref 43)] [] sh I P (fc_Qv sh (fun I' P' => I' = J ∧ P' = P)) := by
  intro I hf
  unfold f_X5_nextToken_52 at hf
  refine ft_aload_n dX5_nextToken_52 rfl ?_
  refine ft_aload_n dX5_nextToken_53 rfl ?_
  refine ft_getI fl_X5_26 rfl (ws_43 hw) (by decide) dX5_nextToken_54 ?_
  refine ft_putI fl_X5_52 rfl (fun q h => by cases h; rfl) (ws_43 hw) (by decide) dX5_nextToken_57 ?_
  refine ft_aload_n dX5_nextToken_60 rfl ?_
  refine ft_getI fl_X5_26 rfl (ws_43 hw) (by decide) dX5_nextToken_61 ?_
  refine ft_aload_n dX5_nextToken_64 rfl ?_
  refine ft_getI fl_X5_19 rfl (ws_43 hw) (by decide) dX5_nextToken_65 ?_
  refine fk_icmp_lt (tgt := 80) dX5_nextToken_68 (by decide) hf (fun hf => ?_) (fun hf => ?_)
  · refine ft_aload_n dX5_nextToken_80 rfl ?_
    refine ft_getR fl_X5_11 rfl (ws_43 hw) (by decide) (wp_43_0 hw) dX5_nextToken_81 ?_
    refine ft_aload_n dX5_nextToken_84 rfl ?_
    refine ft_getI fl_X5_26 rfl (ws_43 hw) (by decide) dX5_nextToken_85 ?_
    refine fk_bald (ws_32 hw) hf dX5_nextToken_88 (fun hf => ?_)
    obtain ⟨r89, hc89, hf⟩ := fq_vs hf
    refine ft_S1p cf_X5_71 (t_X5_isLetter hc89) (Nat.le_of_ble_eq_true rfl) dX5_nextToken_89 ?_
    refine fk_if_eq (tgt := 102) dX5_nextToken_92 (by decide) hf (fun hf => ?_) (fun hf => ?_)
    · refine ft_aload_n dX5_nextToken_102 rfl ?_
      refine ft_getR fl_X5_11 rfl (ws_43 hw) (by decide) (wp_43_0 hw) dX5_nextToken_103 ?_
      refine ft_aload_n dX5_nextToken_106 rfl ?_
      refine ft_getI fl_X5_26 rfl (ws_43 hw) (by decide) dX5_nextToken_107 ?_
      refine fk_bald (ws_32 hw) hf dX5_nextToken_110 (fun hf => ?_)
      obtain ⟨r111, hc111, hf⟩ := fq_vs hf
      refine ft_S1p cf_X5_78 (t_X5_isDigit hc111) (Nat.le_of_ble_eq_true rfl) dX5_nextToken_111 ?_
      refine fk_if_eq (tgt := 124) dX5_nextToken_114 (by decide) hf (fun hf => ?_) (fun hf => ?_)
      · refine ft_aload_n dX5_nextToken_124 rfl ?_
        refine ft_aload_n dX5_nextToken_125 rfl ?_
        refine ft_getR fl_X5_11 rfl (ws_43 hw) (by decide) (wp_43_0 hw) dX5_nextToken_126 ?_
        refine ft_aload_n dX5_nextToken_129 rfl ?_
        refine ft_getI fl_X5_26 rfl (ws_43 hw) (by decide) dX5_nextToken_130 ?_
        refine fk_bald (ws_32 hw) hf dX5_nextToken_133 (fun hf => ?_)
        obtain ⟨r134, hc134, hf⟩ := fq_vs hf
        refine ft_S1p cf_X5_84 (t_X5_isSign hc134) (Nat.le_of_ble_eq_true rfl) dX5_nextToken_134 ?_
        refine fk_if_eq (tgt := 152) dX5_nextToken_137 (by decide) hf (fun hf => ?_) (fun hf => ?_)
        · refine ft_bipush (v := 10) dX5_nextToken_152 rfl ?_
          refine ft_putI fl_X5_46 rfl (fun q h => by cases h; rfl) (ws_43 hw) (by decide) dX5_nextToken_154 ?_
          refine ft_aload_n dX5_nextToken_157 rfl ?_
          refine ft_dup dX5_nextToken_158 rfl ?_
          refine ft_getI fl_X5_26 rfl (ws_43 hw) (by decide) dX5_nextToken_159 ?_
          refine ft_iconst (v := 1) dX5_nextToken_162 rfl ?_
          refine ft_iadd dX5_nextToken_163 ?_
          refine ft_putI fl_X5_26 rfl (fun q h => by cases h; rfl) (ws_43 hw) (by decide) dX5_nextToken_164 ?_
          exact fk_retv hf dX5_nextToken_167 rfl
        · refine ft_aload_n dX5_nextToken_140 rfl ?_
          refine ft_getR fl_X5_11 rfl (ws_43 hw) (by decide) (wp_43_0 hw) dX5_nextToken_141 ?_
          refine ft_aload_n dX5_nextToken_144 rfl ?_
          refine ft_getI fl_X5_26 rfl (ws_43 hw) (by decide) dX5_nextToken_145 ?_
          refine fk_bald (ws_32 hw) hf dX5_nextToken_148 (fun hf => ?_)
          refine ft_goto (tgt := 154) dX5_nextToken_149 (by decide) ?_
          refine ft_putI fl_X5_46 rfl (fun q h => by cases h; rfl) (ws_43 hw) (by decide) dX5_nextToken_154 ?_
          refine ft_aload_n dX5_nextToken_157 rfl ?_
          refine ft_dup dX5_nextToken_158 rfl ?_
          refine ft_getI fl_X5_26 rfl (ws_43 hw) (by decide) dX5_nextToken_159 ?_
          refine ft_iconst (v := 1) dX5_nextToken_162 rfl ?_
          refine ft_iadd dX5_nextToken_163 ?_
          refine ft_putI fl_X5_26 rfl (fun q h => by cases h; rfl) (ws_43 hw) (by decide) dX5_nextToken_164 ?_
          exact fk_retv hf dX5_nextToken_167 rfl
      · refine ft_aload_n dX5_nextToken_117 rfl ?_
        obtain ⟨I118, hc118, hf⟩ := fq_us hf
        refine ft_V0v cf_X5_81 (ws_43 hw) (t_X5_takeNumber hw hc118) (Nat.le_of_ble_eq_true rfl) dX5_nextToken_118 (fun J P' q => ?_)
        obtain ⟨rfl, rfl⟩ := q
        refine ft_goto (tgt := 167) dX5_nextToken_121 (by decide) ?_
        exact fk_retv hf dX5_nextToken_167 rfl
    · refine ft_aload_n dX5_nextToken_95 rfl ?_
      obtain ⟨I96, hc96, hf⟩ := fq_us hf
      refine ft_V0v cf_X5_75 (ws_43 hw) (t_X5_takeWord hw hc96) (Nat.le_of_ble_eq_true rfl) dX5_nextToken_96 (fun J P' q => ?_)
      obtain ⟨rfl, rfl⟩ := q
      refine ft_goto (tgt := 167) dX5_nextToken_99 (by decide) ?_
      exact fk_retv hf dX5_nextToken_167 rfl
  · refine ft_aload_n dX5_nextToken_71 rfl ?_
    refine ft_bipush (v := 11) dX5_nextToken_72 rfl ?_
    refine ft_putI fl_X5_46 rfl (fun q h => by cases h; rfl) (ws_43 hw) (by decide) dX5_nextToken_74 ?_
    refine ft_goto (tgt := 167) dX5_nextToken_77 (by decide) ?_
    exact fk_retv hf dX5_nextToken_167 rfl
set_option maxHeartbeats 4000000 in
set_option maxRecDepth 100000 in
theorem t_X5_nextToken_0 {d : Nat} {sh : fc_Sh} {P : fc_P} {v : Nat} {J : fc_I} (hw : fc_wd sh P v) : ∀ (n : Nat) (I : fc_I) , f_X5_nextToken_0 n I = some J → fc_T X5_nextToken (d + 6) 0 0 0 [some (.ref 43)] [] sh I P (fc_Qv sh (fun I' P' => I' = J ∧ P' = P)) := by
  unfold f_X5_nextToken_0
  refine lpm0_T (fun k0 hk0 I hf => ?_)
  unfold f_X5_nextToken_0_B at hf
  refine ft_aload_n dX5_nextToken_0 rfl ?_
  refine ft_getI fl_X5_26 rfl (ws_43 hw) (by decide) dX5_nextToken_1 ?_
  refine ft_aload_n dX5_nextToken_4 rfl ?_
  refine ft_getI fl_X5_19 rfl (ws_43 hw) (by decide) dX5_nextToken_5 ?_
  refine fk_icmp_ge (tgt := 52) dX5_nextToken_8 (by decide) hf (fun hf => ?_) (fun hf => ?_)
  · exact ft_forget (by simp [fc_le, fc_st1, fc_st2, fc_kill]) (t_X5_nextToken_52 hw   _ hf)
  · refine ft_aload_n dX5_nextToken_11 rfl ?_
    refine ft_getR fl_X5_11 rfl (ws_43 hw) (by decide) (wp_43_0 hw) dX5_nextToken_12 ?_
    refine ft_aload_n dX5_nextToken_15 rfl ?_
    refine ft_getI fl_X5_26 rfl (ws_43 hw) (by decide) dX5_nextToken_16 ?_
    refine fk_bald (ws_32 hw) hf dX5_nextToken_19 (fun hf => ?_)
    refine ft_bipush (v := 32) dX5_nextToken_20 rfl ?_
    refine fk_icmp_eq (tgt := 39) dX5_nextToken_22 (by decide) hf (fun hf => ?_) (fun hf => ?_)
    · refine ft_aload_n dX5_nextToken_39 rfl ?_
      refine ft_dup dX5_nextToken_40 rfl ?_
      refine ft_getI fl_X5_26 rfl (ws_43 hw) (by decide) dX5_nextToken_41 ?_
      refine ft_iconst (v := 1) dX5_nextToken_44 rfl ?_
      refine ft_iadd dX5_nextToken_45 ?_
      refine ft_putI fl_X5_26 rfl (fun q h => by cases h; rfl) (ws_43 hw) (by decide) dX5_nextToken_46 ?_
      refine ft_goto (tgt := 0) dX5_nextToken_49 (by decide) ?_
      exact ft_forget (by simp [fc_le, fc_st1, fc_st2, fc_kill]) (hk0 _ hf)
    · refine ft_aload_n dX5_nextToken_25 rfl ?_
      refine ft_getR fl_X5_11 rfl (ws_43 hw) (by decide) (wp_43_0 hw) dX5_nextToken_26 ?_
      refine ft_aload_n dX5_nextToken_29 rfl ?_
      refine ft_getI fl_X5_26 rfl (ws_43 hw) (by decide) dX5_nextToken_30 ?_
      refine fk_bald (ws_32 hw) hf dX5_nextToken_33 (fun hf => ?_)
      refine ft_bipush (v := 10) dX5_nextToken_34 rfl ?_
      refine fk_icmp_ne (tgt := 52) dX5_nextToken_36 (by decide) hf (fun hf => ?_) (fun hf => ?_)
      · exact ft_forget (by simp [fc_le, fc_st1, fc_st2, fc_kill]) (t_X5_nextToken_52 hw   _ hf)
      · refine ft_aload_n dX5_nextToken_39 rfl ?_
        refine ft_dup dX5_nextToken_40 rfl ?_
        refine ft_getI fl_X5_26 rfl (ws_43 hw) (by decide) dX5_nextToken_41 ?_
        refine ft_iconst (v := 1) dX5_nextToken_44 rfl ?_
        refine ft_iadd dX5_nextToken_45 ?_
        refine ft_putI fl_X5_26 rfl (fun q h => by cases h; rfl) (ws_43 hw) (by decide) dX5_nextToken_46 ?_
        refine ft_goto (tgt := 0) dX5_nextToken_49 (by decide) ?_
        exact ft_forget (by simp [fc_le, fc_st1, fc_st2, fc_kill]) (hk0 _ hf)
set_option maxHeartbeats 4000000 in
set_option maxRecDepth 100000 in
theorem t_X5_nextToken {d : Nat} {sh : fc_Sh} {P : fc_P} {v : Nat} {J : fc_I} {I : fc_I} (hw : fc_wd sh P v) (hf : f_X5_nextToken I = some J) : fc_Cv X5_nextToken (d + 6) [.ref 43] sh I P (fun I' P' => I' = J ∧ P' = P) := by
  unfold f_X5_nextToken at hf
  refine fc_Cv.of (ls := [some (.ref 43)]) ⟨rfl, rfl⟩ (Nat.le_of_ble_eq_true rfl) rfl ?_
  exact ft_forget (by simp [fc_le, fc_st1, fc_st2, fc_kill]) (t_X5_nextToken_0 hw  _ _ hf)
def f_X5_expect (I : fc_I) (x1 : Int32) : Option fc_I :=
if (I 43 7).toInt = x1.toInt then (
fq_u (f_X5_nextToken I) fun I9 =>
some I9)
else (
fq_u (f_X5_fail I) fun I16 =>
some I16)
set_option maxHeartbeats 4000000 in
set_option maxRecDepth 100000 in
theorem t_X5_expect {d : Nat} {sh : fc_Sh} {P : fc_P} {v : Nat} {J : fc_I} {I : fc_I} {x1 : Int32} (hw : fc_wd sh P v) (hf : f_X5_expect I x1 = some J) : fc_Cv X5_expect (d + 7) [.ref 43, .int x1] sh I P (fun I' P' => I' = J ∧ P' = P) := by
  unfold f_X5_expect at hf
  refine fc_Cv.of (ls := [some (.ref 43), some (.int x1)]) ⟨rfl, rfl⟩ (Nat.le_of_ble_eq_true rfl) rfl ?_
  refine ft_aload_n dX5_expect_0 rfl ?_
  refine ft_getI fl_X5_46 rfl (ws_43 hw) (by decide) dX5_expect_1 ?_
  refine ft_iload_n dX5_expect_4 rfl ?_
  refine fk_icmp_ne (tgt := 15) dX5_expect_5 (by decide) hf (fun hf => ?_) (fun hf => ?_)
  · refine ft_aload_n dX5_expect_15 rfl ?_
    obtain ⟨I16, hc16, hf⟩ := fq_us hf
    refine ft_V0v cf_X5_49 (ws_43 hw) (t_X5_fail hw hc16) (Nat.le_of_ble_eq_true rfl) dX5_expect_16 (fun J P' q => ?_)
    obtain ⟨rfl, rfl⟩ := q
    exact fk_retv hf dX5_expect_19 rfl
  · refine ft_aload_n dX5_expect_8 rfl ?_
    obtain ⟨I9, hc9, hf⟩ := fq_us hf
    refine ft_V0v cf_X5_32 (ws_43 hw) (t_X5_nextToken hw hc9) (Nat.le_of_ble_eq_true rfl) dX5_expect_9 (fun J P' q => ?_)
    obtain ⟨rfl, rfl⟩ := q
    refine ft_goto (tgt := 19) dX5_expect_12 (by decide) ?_
    exact fk_retv hf dX5_expect_19 rfl
def f_X5_joinLevel (x0 : Int32) : Option Int32 :=
if x0.toInt = 16 then (
some 0)
else if x0.toInt = 17 then (
some 1)
else if x0.toInt = 42 then (
some 4)
else if x0.toInt = 43 then (
some 3)
else if x0.toInt = 45 then (
some 3)
else if x0.toInt = 60 then (
some 2)
else if x0.toInt = 61 then (
some 2)
else (
some (-1))
set_option maxHeartbeats 4000000 in
set_option maxRecDepth 100000 in
theorem t_X5_joinLevel {d : Nat} {sh : fc_Sh} {P : fc_P} {r : Int32} {I : fc_I} {x0 : Int32} (hf : f_X5_joinLevel  x0 = some r) : fc_Cp X5_joinLevel d [.int x0] sh I P r := by
  unfold f_X5_joinLevel at hf
  refine fc_Cp.of (ls := [some (.int x0)]) ⟨rfl, rfl⟩ (Nat.le_of_ble_eq_true rfl) rfl ?_
  refine ft_iload_n dX5_joinLevel_0 rfl ?_
  rcases fq_is hf with ⟨e_1_0, hf⟩ | ⟨e_1_0, hf⟩
  · refine ft_lookup (off := 67) (tgt := 68) dX5_joinLevel_1 (by decide) (by rw [e_1_0]; try rfl) (by decide) ?_
    refine ft_iconst (v := 0) dX5_joinLevel_68 rfl ?_
    exact fk_retp hf dX5_joinLevel_69 rfl rfl
  rcases fq_is hf with ⟨e_1_1, hf⟩ | ⟨e_1_1, hf⟩
  · refine ft_lookup (off := 69) (tgt := 70) dX5_joinLevel_1 (by decide) (by rw [e_1_1]; try rfl) (by decide) ?_
    refine ft_iconst (v := 1) dX5_joinLevel_70 rfl ?_
    exact fk_retp hf dX5_joinLevel_71 rfl rfl
  rcases fq_is hf with ⟨e_1_2, hf⟩ | ⟨e_1_2, hf⟩
  · refine ft_lookup (off := 75) (tgt := 76) dX5_joinLevel_1 (by decide) (by rw [e_1_2]; try rfl) (by decide) ?_
    refine ft_iconst (v := 4) dX5_joinLevel_76 rfl ?_
    exact fk_retp hf dX5_joinLevel_77 rfl rfl
  rcases fq_is hf with ⟨e_1_3, hf⟩ | ⟨e_1_3, hf⟩
  · refine ft_lookup (off := 73) (tgt := 74) dX5_joinLevel_1 (by decide) (by rw [e_1_3]; try rfl) (by decide) ?_
    refine ft_iconst (v := 3) dX5_joinLevel_74 rfl ?_
    exact fk_retp hf dX5_joinLevel_75 rfl rfl
  rcases fq_is hf with ⟨e_1_4, hf⟩ | ⟨e_1_4, hf⟩
  · refine ft_lookup (off := 73) (tgt := 74) dX5_joinLevel_1 (by decide) (by rw [e_1_4]; try rfl) (by decide) ?_
    refine ft_iconst (v := 3) dX5_joinLevel_74 rfl ?_
    exact fk_retp hf dX5_joinLevel_75 rfl rfl
  rcases fq_is hf with ⟨e_1_5, hf⟩ | ⟨e_1_5, hf⟩
  · refine ft_lookup (off := 71) (tgt := 72) dX5_joinLevel_1 (by decide) (by rw [e_1_5]; try rfl) (by decide) ?_
    refine ft_iconst (v := 2) dX5_joinLevel_72 rfl ?_
    exact fk_retp hf dX5_joinLevel_73 rfl rfl
  rcases fq_is hf with ⟨e_1_6, hf⟩ | ⟨e_1_6, hf⟩
  · refine ft_lookup (off := 71) (tgt := 72) dX5_joinLevel_1 (by decide) (by rw [e_1_6]; try rfl) (by decide) ?_
    refine ft_iconst (v := 2) dX5_joinLevel_72 rfl ?_
    exact fk_retp hf dX5_joinLevel_73 rfl rfl
  refine ft_lookup (off := 77) (tgt := 78) dX5_joinLevel_1 (by decide) (by simp [Op.lookupswitch.offset, e_1_0, Ne.symm e_1_0, e_1_1, Ne.symm e_1_1, e_1_2, Ne.symm e_1_2, e_1_3, Ne.symm e_1_3, e_1_4, Ne.symm e_1_4, e_1_5, Ne.symm e_1_5, e_1_6, Ne.symm e_1_6]) (by decide) ?_
  refine ft_iconst (v := (-1)) dX5_joinLevel_78 rfl ?_
  exact fk_retp hf dX5_joinLevel_79 rfl rfl
def f_X5_put (v : Nat) (I : fc_I) (x1 : Int32) : Option fc_I :=
if (I 43 2).toInt < (160 : Int32).toInt then (
fq_l (fc_wI I 43 2 ((I 43 2) + 1)) fun I24 =>
fq_g 160 (I 43 2) (fq_l (fc_wI I24 v (cn (I 43 2)) x1) fun I28 =>
some I28))
else (
some I)
set_option maxHeartbeats 4000000 in
set_option maxRecDepth 100000 in
theorem t_X5_put {d : Nat} {sh : fc_Sh} {P : fc_P} {v : Nat} {J : fc_I} {I : fc_I} {x1 : Int32} (hw : fc_wd sh P v) (hv : fc_v v) (hf : f_X5_put v I x1 = some J) : fc_Cv X5_put d [.ref 43, .int x1] sh I P (fun I' P' => I' = J ∧ P' = P) := by
  unfold f_X5_put at hf
  refine fc_Cv.of (ls := [some (.ref 43), some (.int x1)]) ⟨rfl, rfl⟩ (Nat.le_of_ble_eq_true rfl) rfl ?_
  refine ft_aload_n dX5_put_0 rfl ?_
  refine ft_getI fl_X5_23 rfl (ws_43 hw) (by decide) dX5_put_1 ?_
  refine ft_aload_n dX5_put_4 rfl ?_
  refine ft_getR fl_X5_15 rfl (ws_43 hw) (by decide) (wp_43_1 hw) dX5_put_5 ?_
  refine ft_alen ((ws_v hw hv)) (by decide) rfl dX5_put_8 ?_
  refine fk_icmp_ge (tgt := 29) dX5_put_9 (by decide) hf (fun hf => ?_) (fun hf => ?_)
  · exact fk_retv hf dX5_put_29 rfl
  · refine ft_aload_n dX5_put_12 rfl ?_
    refine ft_getR fl_X5_15 rfl (ws_43 hw) (by decide) (wp_43_1 hw) dX5_put_13 ?_
    refine ft_aload_n dX5_put_16 rfl ?_
    refine ft_dup dX5_put_17 rfl ?_
    refine ft_getI fl_X5_23 rfl (ws_43 hw) (by decide) dX5_put_18 ?_
    refine ft_dup_x1 dX5_put_21 rfl rfl ?_
    refine ft_iconst (v := 1) dX5_put_22 rfl ?_
    refine ft_iadd dX5_put_23 ?_
    refine ft_putI fl_X5_23 rfl (fun q h => by cases h; rfl) (ws_43 hw) (by decide) dX5_put_24 ?_
    refine ft_iload_n dX5_put_27 rfl ?_
    refine fk_iast ((ws_v hw hv)) hf dX5_put_28 (fun hf => ?_)
    exact fk_retv hf dX5_put_29 rfl
def f_X5_readLeaf (v : Nat) (I : fc_I) : Option fc_I :=
if (I 43 7).toInt = (12 : Int32).toInt then (
if (I 43 7).toInt = (12 : Int32).toInt then (
fq_u (f_X5_put v I (I 43 8)) fun I41 =>
fq_u (f_X5_nextToken I41) fun I45 =>
some I45)
else (
fq_u (f_X5_put v I (((-1) : Int32) - (I 43 8))) fun I41 =>
fq_u (f_X5_nextToken I41) fun I45 =>
some I45))
else (
if (I 43 7).toInt = (13 : Int32).toInt then (
if (I 43 7).toInt = (12 : Int32).toInt then (
fq_u (f_X5_put v I (I 43 8)) fun I41 =>
fq_u (f_X5_nextToken I41) fun I45 =>
some I45)
else (
fq_u (f_X5_put v I (((-1) : Int32) - (I 43 8))) fun I41 =>
fq_u (f_X5_nextToken I41) fun I45 =>
some I45))
else (
fq_u (f_X5_fail I) fun I52 =>
some I52))
set_option maxHeartbeats 4000000 in
set_option maxRecDepth 100000 in
theorem t_X5_readLeaf {d : Nat} {sh : fc_Sh} {P : fc_P} {v : Nat} {J : fc_I} {I : fc_I} (hw : fc_wd sh P v) (hv : fc_v v) (hf : f_X5_readLeaf v I = some J) : fc_Cv X5_readLeaf (d + 7) [.ref 43] sh I P (fun I' P' => I' = J ∧ P' = P) := by
  unfold f_X5_readLeaf at hf
  refine fc_Cv.of (ls := [some (.ref 43)]) ⟨rfl, rfl⟩ (Nat.le_of_ble_eq_true rfl) rfl ?_
  refine ft_aload_n dX5_readLeaf_0 rfl ?_
  refine ft_getI fl_X5_46 rfl (ws_43 hw) (by decide) dX5_readLeaf_1 ?_
  refine ft_bipush (v := 12) dX5_readLeaf_4 rfl ?_
  refine fk_icmp_eq (tgt := 18) dX5_readLeaf_6 (by decide) hf (fun hf => ?_) (fun hf => ?_)
  · refine ft_aload_n dX5_readLeaf_18 rfl ?_
    refine ft_aload_n dX5_readLeaf_19 rfl ?_
    refine ft_getI fl_X5_46 rfl (ws_43 hw) (by decide) dX5_readLeaf_20 ?_
    refine ft_bipush (v := 12) dX5_readLeaf_23 rfl ?_
    refine fk_icmp_ne (tgt := 35) dX5_readLeaf_25 (by decide) hf (fun hf => ?_) (fun hf => ?_)
    · refine ft_iconst (v := (-1)) dX5_readLeaf_35 rfl ?_
      refine ft_aload_n dX5_readLeaf_36 rfl ?_
      refine ft_getI fl_X5_68 rfl (ws_43 hw) (by decide) dX5_readLeaf_37 ?_
      refine ft_isub dX5_readLeaf_40 ?_
      obtain ⟨I41, hc41, hf⟩ := fq_us hf
      refine ft_V1v cf_X5_65 (ws_43 hw) (t_X5_put hw hv hc41) (Nat.le_of_ble_eq_true rfl) dX5_readLeaf_41 (fun J P' q => ?_)
      obtain ⟨rfl, rfl⟩ := q
      refine ft_aload_n dX5_readLeaf_44 rfl ?_
      obtain ⟨I45, hc45, hf⟩ := fq_us hf
      refine ft_V0v cf_X5_32 (ws_43 hw) (t_X5_nextToken hw hc45) (Nat.le_of_ble_eq_true rfl) dX5_readLeaf_45 (fun J P' q => ?_)
      obtain ⟨rfl, rfl⟩ := q
      refine ft_goto (tgt := 55) dX5_readLeaf_48 (by decide) ?_
      exact fk_retv hf dX5_readLeaf_55 rfl
    · refine ft_aload_n dX5_readLeaf_28 rfl ?_
      refine ft_getI fl_X5_68 rfl (ws_43 hw) (by decide) dX5_readLeaf_29 ?_
      refine ft_goto (tgt := 41) dX5_readLeaf_32 (by decide) ?_
      obtain ⟨I41, hc41, hf⟩ := fq_us hf
      refine ft_V1v cf_X5_65 (ws_43 hw) (t_X5_put hw hv hc41) (Nat.le_of_ble_eq_true rfl) dX5_readLeaf_41 (fun J P' q => ?_)
      obtain ⟨rfl, rfl⟩ := q
      refine ft_aload_n dX5_readLeaf_44 rfl ?_
      obtain ⟨I45, hc45, hf⟩ := fq_us hf
      refine ft_V0v cf_X5_32 (ws_43 hw) (t_X5_nextToken hw hc45) (Nat.le_of_ble_eq_true rfl) dX5_readLeaf_45 (fun J P' q => ?_)
      obtain ⟨rfl, rfl⟩ := q
      refine ft_goto (tgt := 55) dX5_readLeaf_48 (by decide) ?_
      exact fk_retv hf dX5_readLeaf_55 rfl
  · refine ft_aload_n dX5_readLeaf_9 rfl ?_
    refine ft_getI fl_X5_46 rfl (ws_43 hw) (by decide) dX5_readLeaf_10 ?_
    refine ft_bipush (v := 13) dX5_readLeaf_13 rfl ?_
    refine fk_icmp_ne (tgt := 51) dX5_readLeaf_15 (by decide) hf (fun hf => ?_) (fun hf => ?_)
    · refine ft_aload_n dX5_readLeaf_51 rfl ?_
      obtain ⟨I52, hc52, hf⟩ := fq_us hf
      refine ft_V0v cf_X5_49 (ws_43 hw) (t_X5_fail hw hc52) (Nat.le_of_ble_eq_true rfl) dX5_readLeaf_52 (fun J P' q => ?_)
      obtain ⟨rfl, rfl⟩ := q
      exact fk_retv hf dX5_readLeaf_55 rfl
    · refine ft_aload_n dX5_readLeaf_18 rfl ?_
      refine ft_aload_n dX5_readLeaf_19 rfl ?_
      refine ft_getI fl_X5_46 rfl (ws_43 hw) (by decide) dX5_readLeaf_20 ?_
      refine ft_bipush (v := 12) dX5_readLeaf_23 rfl ?_
      refine fk_icmp_ne (tgt := 35) dX5_readLeaf_25 (by decide) hf (fun hf => ?_) (fun hf => ?_)
      · refine ft_iconst (v := (-1)) dX5_readLeaf_35 rfl ?_
        refine ft_aload_n dX5_readLeaf_36 rfl ?_
        refine ft_getI fl_X5_68 rfl (ws_43 hw) (by decide) dX5_readLeaf_37 ?_
        refine ft_isub dX5_readLeaf_40 ?_
        obtain ⟨I41, hc41, hf⟩ := fq_us hf
        refine ft_V1v cf_X5_65 (ws_43 hw) (t_X5_put hw hv hc41) (Nat.le_of_ble_eq_true rfl) dX5_readLeaf_41 (fun J P' q => ?_)
        obtain ⟨rfl, rfl⟩ := q
        refine ft_aload_n dX5_readLeaf_44 rfl ?_
        obtain ⟨I45, hc45, hf⟩ := fq_us hf
        refine ft_V0v cf_X5_32 (ws_43 hw) (t_X5_nextToken hw hc45) (Nat.le_of_ble_eq_true rfl) dX5_readLeaf_45 (fun J P' q => ?_)
        obtain ⟨rfl, rfl⟩ := q
        refine ft_goto (tgt := 55) dX5_readLeaf_48 (by decide) ?_
        exact fk_retv hf dX5_readLeaf_55 rfl
      · refine ft_aload_n dX5_readLeaf_28 rfl ?_
        refine ft_getI fl_X5_68 rfl (ws_43 hw) (by decide) dX5_readLeaf_29 ?_
        refine ft_goto (tgt := 41) dX5_readLeaf_32 (by decide) ?_
        obtain ⟨I41, hc41, hf⟩ := fq_us hf
        refine ft_V1v cf_X5_65 (ws_43 hw) (t_X5_put hw hv hc41) (Nat.le_of_ble_eq_true rfl) dX5_readLeaf_41 (fun J P' q => ?_)
        obtain ⟨rfl, rfl⟩ := q
        refine ft_aload_n dX5_readLeaf_44 rfl ?_
        obtain ⟨I45, hc45, hf⟩ := fq_us hf
        refine ft_V0v cf_X5_32 (ws_43 hw) (t_X5_nextToken hw hc45) (Nat.le_of_ble_eq_true rfl) dX5_readLeaf_45 (fun J P' q => ?_)
        obtain ⟨rfl, rfl⟩ := q
        refine ft_goto (tgt := 55) dX5_readLeaf_48 (by decide) ?_
        exact fk_retv hf dX5_readLeaf_55 rfl
