theorem hty_0 : ∀ j, j < 9 → fc_ty 0 j = .int ∨ fc_isR (fc_ty 0 j) = true := by
  intro j hj
  rcases (show j = 0 ∨ j = 1 ∨ j = 2 ∨ j = 3 ∨ j = 4 ∨ j = 5 ∨ j = 6 ∨ j = 7 ∨ j = 8 by omega) with rfl | rfl | rfl | rfl | rfl | rfl | rfl | rfl | rfl <;> first | exact Or.inl rfl | exact Or.inr rfl
theorem hty_1 : ∀ j, j < 5 → fc_ty 1 j = .int ∨ fc_isR (fc_ty 1 j) = true := by
  intro j hj
  rcases (show j = 0 ∨ j = 1 ∨ j = 2 ∨ j = 3 ∨ j = 4 by omega) with rfl | rfl | rfl | rfl | rfl <;> first | exact Or.inl rfl | exact Or.inr rfl
theorem hty_2 : ∀ j, j < 10 → fc_ty 2 j = .int ∨ fc_isR (fc_ty 2 j) = true := by
  intro j hj
  rcases (show j = 0 ∨ j = 1 ∨ j = 2 ∨ j = 3 ∨ j = 4 ∨ j = 5 ∨ j = 6 ∨ j = 7 ∨ j = 8 ∨ j = 9 by omega) with rfl | rfl | rfl | rfl | rfl | rfl | rfl | rfl | rfl | rfl <;> first | exact Or.inl rfl | exact Or.inr rfl
theorem hty_3 : ∀ j, j < 8 → fc_ty 3 j = .int ∨ fc_isR (fc_ty 3 j) = true := by
  intro j hj
  rcases (show j = 0 ∨ j = 1 ∨ j = 2 ∨ j = 3 ∨ j = 4 ∨ j = 5 ∨ j = 6 ∨ j = 7 by omega) with rfl | rfl | rfl | rfl | rfl | rfl | rfl | rfl <;> first | exact Or.inl rfl | exact Or.inr rfl
theorem hty_4 : ∀ j, j < 7 → fc_ty 4 j = .int ∨ fc_isR (fc_ty 4 j) = true := by
  intro j hj
  rcases (show j = 0 ∨ j = 1 ∨ j = 2 ∨ j = 3 ∨ j = 4 ∨ j = 5 ∨ j = 6 by omega) with rfl | rfl | rfl | rfl | rfl | rfl | rfl <;> first | exact Or.inl rfl | exact Or.inr rfl
theorem hty_5 : ∀ j, j < 10 → fc_ty 5 j = .int ∨ fc_isR (fc_ty 5 j) = true := by
  intro j hj
  rcases (show j = 0 ∨ j = 1 ∨ j = 2 ∨ j = 3 ∨ j = 4 ∨ j = 5 ∨ j = 6 ∨ j = 7 ∨ j = 8 ∨ j = 9 by omega) with rfl | rfl | rfl | rfl | rfl | rfl | rfl | rfl | rfl | rfl <;> first | exact Or.inl rfl | exact Or.inr rfl
theorem hty_6 : ∀ j, j < 6 → fc_ty 6 j = .int ∨ fc_isR (fc_ty 6 j) = true := by
  intro j hj
  rcases (show j = 0 ∨ j = 1 ∨ j = 2 ∨ j = 3 ∨ j = 4 ∨ j = 5 by omega) with rfl | rfl | rfl | rfl | rfl | rfl <;> first | exact Or.inl rfl | exact Or.inr rfl
theorem hty_7 : ∀ j, j < 3 → fc_ty 7 j = .int ∨ fc_isR (fc_ty 7 j) = true := by
  intro j hj
  rcases (show j = 0 ∨ j = 1 ∨ j = 2 by omega) with rfl | rfl | rfl <;> first | exact Or.inl rfl | exact Or.inr rfl
theorem hty_8 : ∀ j, j < 12 → fc_ty 8 j = .int ∨ fc_isR (fc_ty 8 j) = true := by
  intro j hj
  rcases (show j = 0 ∨ j = 1 ∨ j = 2 ∨ j = 3 ∨ j = 4 ∨ j = 5 ∨ j = 6 ∨ j = 7 ∨ j = 8 ∨ j = 9 ∨ j = 10 ∨ j = 11 by omega) with rfl | rfl | rfl | rfl | rfl | rfl | rfl | rfl | rfl | rfl | rfl | rfl <;> first | exact Or.inl rfl | exact Or.inr rfl
theorem hty_9 : ∀ j, j < 4 → fc_ty 9 j = .int ∨ fc_isR (fc_ty 9 j) = true := by
  intro j hj
  rcases (show j = 0 ∨ j = 1 ∨ j = 2 ∨ j = 3 by omega) with rfl | rfl | rfl | rfl <;> first | exact Or.inl rfl | exact Or.inr rfl
theorem hty_10 : ∀ j, j < 9 → fc_ty 10 j = .int ∨ fc_isR (fc_ty 10 j) = true := by
  intro j hj
  rcases (show j = 0 ∨ j = 1 ∨ j = 2 ∨ j = 3 ∨ j = 4 ∨ j = 5 ∨ j = 6 ∨ j = 7 ∨ j = 8 by omega) with rfl | rfl | rfl | rfl | rfl | rfl | rfl | rfl | rfl <;> first | exact Or.inl rfl | exact Or.inr rfl
theorem hty_11 : ∀ j, j < 75 → fc_ty 11 j = .int ∨ fc_isR (fc_ty 11 j) = true := by
  intro j hj
  rcases (show j = 0 ∨ j = 1 ∨ j = 2 ∨ j = 3 ∨ j = 4 ∨ j = 5 ∨ j = 6 ∨ j = 7 ∨ j = 8 ∨ j = 9 ∨ j = 10 ∨ j = 11 ∨ j = 12 ∨ j = 13 ∨ j = 14 ∨ j = 15 ∨ j = 16 ∨ j = 17 ∨ j = 18 ∨ j = 19 ∨ j = 20 ∨ j = 21 ∨ j = 22 ∨ j = 23 ∨ j = 24 ∨ j = 25 ∨ j = 26 ∨ j = 27 ∨ j = 28 ∨ j = 29 ∨ j = 30 ∨ j = 31 ∨ j = 32 ∨ j = 33 ∨ j = 34 ∨ j = 35 ∨ j = 36 ∨ j = 37 ∨ j = 38 ∨ j = 39 ∨ j = 40 ∨ j = 41 ∨ j = 42 ∨ j = 43 ∨ j = 44 ∨ j = 45 ∨ j = 46 ∨ j = 47 ∨ j = 48 ∨ j = 49 ∨ j = 50 ∨ j = 51 ∨ j = 52 ∨ j = 53 ∨ j = 54 ∨ j = 55 ∨ j = 56 ∨ j = 57 ∨ j = 58 ∨ j = 59 ∨ j = 60 ∨ j = 61 ∨ j = 62 ∨ j = 63 ∨ j = 64 ∨ j = 65 ∨ j = 66 ∨ j = 67 ∨ j = 68 ∨ j = 69 ∨ j = 70 ∨ j = 71 ∨ j = 72 ∨ j = 73 ∨ j = 74 by omega) with rfl | rfl | rfl | rfl | rfl | rfl | rfl | rfl | rfl | rfl | rfl | rfl | rfl | rfl | rfl | rfl | rfl | rfl | rfl | rfl | rfl | rfl | rfl | rfl | rfl | rfl | rfl | rfl | rfl | rfl | rfl | rfl | rfl | rfl | rfl | rfl | rfl | rfl | rfl | rfl | rfl | rfl | rfl | rfl | rfl | rfl | rfl | rfl | rfl | rfl | rfl | rfl | rfl | rfl | rfl | rfl | rfl | rfl | rfl | rfl | rfl | rfl | rfl | rfl | rfl | rfl | rfl | rfl | rfl | rfl | rfl | rfl | rfl | rfl | rfl <;> first | exact Or.inl rfl | exact Or.inr rfl
/-- a row all of one number -/
def fc_fI (I : fc_I) (c N : Nat) (x : Int32) : fc_I := fun c' k => if c' = c ∧ k < N then x else I c' k
theorem e_fill {c N : Nat} {I : fc_I} {x : Int32} (hN : N ≤ 1000) : f_J7_fill_53178 c N I x = some (fc_fI I c N x) := by
  have eN : (Int32.ofNat N).toInt = (N : Int) := Int32.toInt_ofNat_of_lt (by omega)
  show lpm1 (f_J7_fill_53178_5_B c N x (Int32.ofNat N)) 4000 0 I = _
  have key := lpm1_S (B := f_J7_fill_53178_5_B c N x (Int32.ofNat N)) (fun i _ => N - cn i) (fun i _ => 0 ≤ i.toInt ∧ i.toInt ≤ (N : Int)) (fun i J => some (fun c' k => if c' = c ∧ cn i ≤ k ∧ k < N then x else J c' k)) (fun k i J hi ih => by
    have ei := cn_int hi.1
    unfold f_J7_fill_53178_5_B
    by_cases h : i.toInt < (Int32.ofNat N).toInt
    · rw [if_pos h, fq_gp ⟨hi.1, by omega⟩]
      rw [eN] at h
      have e1 : (i + 1).toInt = i.toInt + 1 := i_add (by rw [kt_1]; omega) (by rw [kt_1]; omega)
      have e2 : cn (i + 1) = cn i + 1 := by have := cn_int (x := i + 1) (by omega); omega
      show k (i + 1) (fc_wI J c (cn i) x) = _
      rw [ih (i + 1) (fc_wI J c (cn i) x) ⟨by omega, by omega⟩ (by omega)]
      congr 1
      funext c' j
      unfold fc_wI
      rw [e2]
      by_cases q1 : c' = c <;> by_cases q2 : j = cn i <;> simp only [q1, q2, true_and, false_and, and_true, and_false, if_true, if_false]
      · rw [if_neg (by omega), if_pos (by omega)]
      · by_cases q3 : cn i ≤ j ∧ j < N
        · rw [if_pos (by omega), if_pos q3]
        · rw [if_neg (by omega), if_neg q3]
    · rw [if_neg h]
      rw [eN] at h
      congr 1
      funext c' j
      rw [if_neg (by omega)])
  rw [key 4000 0 I ⟨by rw [kt_0]; omega, by rw [kt_0]; omega⟩ (by show N - cn 0 < 4000; omega)]
  congr 1
  funext c' j
  have e0 : cn 0 = 0 := rfl
  unfold fc_fI
  rw [e0]
  by_cases q : c' = c ∧ j < N
  · rw [if_pos ⟨q.1, Nat.zero_le _, q.2⟩, if_pos q]
  · rw [if_neg (fun z => q ⟨z.1, z.2.2⟩), if_neg q]
def cI_k_X9_init (I : fc_I) : fc_I := (fc_fI (fc_zI (fc_zI I 2) 3) 3 6 (-1))
def cP_k_X9_init (P : fc_P) : fc_P := (fc_wP (fc_zP (fc_wP (fc_zP P 2) 1 0 2) 3) 1 1 3)
set_option maxHeartbeats 4000000 in
set_option maxRecDepth 100000 in
theorem k_X9_init {d : Nat} {I : fc_I} {P : fc_P} : fc_C X9_init (d + 1) 2 12 [.ref 1] (fc_SH.take 2) I P (fun v sh' I' P' => v = none ∧ sh' = fc_SH.take 4 ∧ I' = cI_k_X9_init I ∧ P' = cP_k_X9_init P) := by
  refine fc_C.of (ls := [some (.ref 1)]) ⟨rfl, rfl⟩ (Nat.le_of_ble_eq_true rfl) rfl ?_
  refine ft_aload_n dX9_init_0 rfl ?_
  refine ft_objInit cf_X9_3 (Nat.le_of_ble_eq_true rfl) dX9_init_1 ?_
  refine ft_aload_n dX9_init_4 rfl ?_
  refine ft_bipush (v := 6) dX9_init_5 rfl ?_
  refine ft_newI (nb := 1) (zb := 6) (N := 6) ac_I (by decide) rfl (by decide) rfl (by decide) dX9_init_7 ?_
  show fc_T _ _ _ _ _ _ (.ref 2 :: _) (fc_SH.take 3) _ _ _
  refine ft_putRF fl_X9_9 rfl (fun q h => by cases h; exact ⟨rfl, rfl⟩) rfl rfl (by decide) (by decide) dX9_init_9 ?_
  refine ft_aload_n dX9_init_12 rfl ?_
  refine ft_bipush (v := 6) dX9_init_13 rfl ?_
  refine ft_newI (nb := 0) (zb := 0) (N := 6) ac_I (by decide) rfl (by decide) rfl (by decide) dX9_init_15 ?_
  show fc_T _ _ _ _ _ _ (.ref 3 :: _) (fc_SH.take 4) _ _ _
  refine ft_putRF fl_X9_15 rfl (fun q h => by cases h; exact ⟨rfl, rfl⟩) rfl rfl (by decide) (by decide) dX9_init_17 ?_
  refine ft_aload_n dX9_init_20 rfl ?_
  refine ft_getR (v := 3) fl_X9_15 rfl rfl (by decide) rfl dX9_init_21 ?_
  refine ft_iconst (v := (-1)) dX9_init_24 rfl ?_
  refine ft_S2v cf_X9_18 (t_J7_fill_53178 (c := 3) (N := 6) rfl (by decide) (e_fill (by decide))) (Nat.le_of_ble_eq_true rfl) dX9_init_25 (fun J P' q => ?_)
  obtain ⟨rfl, rfl⟩ := q
  exact ft_vret dX9_init_28 rfl ⟨rfl, rfl, rfl, rfl⟩
def cI_k_X6_init (I : fc_I) : fc_I := (fc_zI (fc_zI (fc_zI (fc_zI (fc_zI I 5) 6) 7) 8) 9)
def cP_k_X6_init (P : fc_P) : fc_P := (fc_wP (fc_zP (fc_wP (fc_zP (fc_wP (fc_zP (fc_wP (fc_zP (fc_wP (fc_zP P 5) 4 0 5) 6) 4 1 6) 7) 4 2 7) 8) 4 3 8) 9) 4 4 9)
set_option maxHeartbeats 4000000 in
set_option maxRecDepth 100000 in
theorem k_X6_init {d : Nat} {I : fc_I} {P : fc_P} : fc_C X6_init (d + 1) 5 70 [.ref 4] (fc_SH.take 5) I P (fun v sh' I' P' => v = none ∧ sh' = fc_SH.take 10 ∧ I' = cI_k_X6_init I ∧ P' = cP_k_X6_init P) := by
  refine fc_C.of (ls := [some (.ref 4)]) ⟨rfl, rfl⟩ (Nat.le_of_ble_eq_true rfl) rfl ?_
  refine ft_aload_n dX6_init_0 rfl ?_
  refine ft_objInit cf_X6_3 (Nat.le_of_ble_eq_true rfl) dX6_init_1 ?_
  refine ft_aload_n dX6_init_4 rfl ?_
  refine ft_bipush (v := 14) dX6_init_5 rfl ?_
  refine ft_newI (nb := 4) (zb := 56) (N := 14) ac_I (by decide) rfl (by decide) rfl (by decide) dX6_init_7 ?_
  show fc_T _ _ _ _ _ _ (.ref 5 :: _) (fc_SH.take 6) _ _ _
  refine ft_putRF fl_X6_9 rfl (fun q h => by cases h; exact ⟨rfl, rfl⟩) rfl rfl (by decide) (by decide) dX6_init_9 ?_
  refine ft_aload_n dX6_init_12 rfl ?_
  refine ft_bipush (v := 14) dX6_init_13 rfl ?_
  refine ft_newI (nb := 3) (zb := 42) (N := 14) ac_I (by decide) rfl (by decide) rfl (by decide) dX6_init_15 ?_
  show fc_T _ _ _ _ _ _ (.ref 6 :: _) (fc_SH.take 7) _ _ _
  refine ft_putRF fl_X6_15 rfl (fun q h => by cases h; exact ⟨rfl, rfl⟩) rfl rfl (by decide) (by decide) dX6_init_17 ?_
  refine ft_aload_n dX6_init_20 rfl ?_
  refine ft_bipush (v := 14) dX6_init_21 rfl ?_
  refine ft_newI (nb := 2) (zb := 28) (N := 14) ac_I (by decide) rfl (by decide) rfl (by decide) dX6_init_23 ?_
  show fc_T _ _ _ _ _ _ (.ref 7 :: _) (fc_SH.take 8) _ _ _
  refine ft_putRF fl_X6_18 rfl (fun q h => by cases h; exact ⟨rfl, rfl⟩) rfl rfl (by decide) (by decide) dX6_init_25 ?_
  refine ft_aload_n dX6_init_28 rfl ?_
  refine ft_bipush (v := 14) dX6_init_29 rfl ?_
  refine ft_newI (nb := 1) (zb := 14) (N := 14) ac_I (by decide) rfl (by decide) rfl (by decide) dX6_init_31 ?_
  show fc_T _ _ _ _ _ _ (.ref 8 :: _) (fc_SH.take 9) _ _ _
  refine ft_putRF fl_X6_21 rfl (fun q h => by cases h; exact ⟨rfl, rfl⟩) rfl rfl (by decide) (by decide) dX6_init_33 ?_
  refine ft_aload_n dX6_init_36 rfl ?_
  refine ft_bipush (v := 14) dX6_init_37 rfl ?_
  refine ft_newI (nb := 0) (zb := 0) (N := 14) ac_I (by decide) rfl (by decide) rfl (by decide) dX6_init_39 ?_
  show fc_T _ _ _ _ _ _ (.ref 9 :: _) (fc_SH.take 10) _ _ _
  refine ft_putRF fl_X6_24 rfl (fun q h => by cases h; exact ⟨rfl, rfl⟩) rfl rfl (by decide) (by decide) dX6_init_41 ?_
  exact ft_vret dX6_init_44 rfl ⟨rfl, rfl, rfl, rfl⟩
def cI_k_X1_init (I : fc_I) : fc_I := (fc_zI (fc_zI (fc_zI (fc_zI I 11) 12) 13) 14)
def cP_k_X1_init (P : fc_P) : fc_P := (fc_wP (fc_zP (fc_wP (fc_zP (fc_wP (fc_zP (fc_wP (fc_zP P 11) 10 0 11) 12) 10 1 12) 13) 10 2 13) 14) 10 3 14)
set_option maxHeartbeats 4000000 in
set_option maxRecDepth 100000 in
theorem k_X1_init {d : Nat} {I : fc_I} {P : fc_P} : fc_C X1_init (d + 1) 4 16 [.ref 10] (fc_SH.take 11) I P (fun v sh' I' P' => v = none ∧ sh' = fc_SH.take 15 ∧ I' = cI_k_X1_init I ∧ P' = cP_k_X1_init P) := by
  refine fc_C.of (ls := [some (.ref 10)]) ⟨rfl, rfl⟩ (Nat.le_of_ble_eq_true rfl) rfl ?_
  refine ft_aload_n dX1_init_0 rfl ?_
  refine ft_objInit cf_X1_3 (Nat.le_of_ble_eq_true rfl) dX1_init_1 ?_
  refine ft_aload_n dX1_init_4 rfl ?_
  refine ft_iconst (v := 4) dX1_init_5 rfl ?_
  refine ft_newI (nb := 3) (zb := 12) (N := 4) ac_I (by decide) rfl (by decide) rfl (by decide) dX1_init_6 ?_
  show fc_T _ _ _ _ _ _ (.ref 11 :: _) (fc_SH.take 12) _ _ _
  refine ft_putRF fl_X1_9 rfl (fun q h => by cases h; exact ⟨rfl, rfl⟩) rfl rfl (by decide) (by decide) dX1_init_8 ?_
  refine ft_aload_n dX1_init_11 rfl ?_
  refine ft_iconst (v := 4) dX1_init_12 rfl ?_
  refine ft_newI (nb := 2) (zb := 8) (N := 4) ac_I (by decide) rfl (by decide) rfl (by decide) dX1_init_13 ?_
  show fc_T _ _ _ _ _ _ (.ref 12 :: _) (fc_SH.take 13) _ _ _
  refine ft_putRF fl_X1_15 rfl (fun q h => by cases h; exact ⟨rfl, rfl⟩) rfl rfl (by decide) (by decide) dX1_init_15 ?_
  refine ft_aload_n dX1_init_18 rfl ?_
  refine ft_iconst (v := 4) dX1_init_19 rfl ?_
  refine ft_newI (nb := 1) (zb := 4) (N := 4) ac_I (by decide) rfl (by decide) rfl (by decide) dX1_init_20 ?_
  show fc_T _ _ _ _ _ _ (.ref 13 :: _) (fc_SH.take 14) _ _ _
  refine ft_putRF fl_X1_18 rfl (fun q h => by cases h; exact ⟨rfl, rfl⟩) rfl rfl (by decide) (by decide) dX1_init_22 ?_
  refine ft_aload_n dX1_init_25 rfl ?_
  refine ft_iconst (v := 4) dX1_init_26 rfl ?_
  refine ft_newI (nb := 0) (zb := 0) (N := 4) ac_I (by decide) rfl (by decide) rfl (by decide) dX1_init_27 ?_
  show fc_T _ _ _ _ _ _ (.ref 14 :: _) (fc_SH.take 15) _ _ _
  refine ft_putRF fl_X1_21 rfl (fun q h => by cases h; exact ⟨rfl, rfl⟩) rfl rfl (by decide) (by decide) dX1_init_29 ?_
  exact ft_vret dX1_init_32 rfl ⟨rfl, rfl, rfl, rfl⟩
def cI_k_X8_init (I : fc_I) : fc_I := (fc_wI (fc_wI (fc_zI (fc_zI (fc_zI (fc_zI (fc_zI (fc_zI (fc_mI (fc_mI (fc_zI I 16) 17 3) 21 3) 25) 26) 27) 28) 29) 30) 15 11 30) 16 (cn 0) 1)
def cP_k_X8_init (P : fc_P) : fc_P := (fc_wP (fc_zP (fc_wP (fc_zP (fc_wP (fc_zP (fc_wP (fc_zP (fc_wP (fc_zP (fc_wP (fc_zP (fc_wP (fc_mP (fc_wP (fc_mP (fc_wP (fc_zP P 16) 15 0 16) 17 3) 15 1 17) 21 3) 15 2 21) 25) 15 3 25) 26) 15 4 26) 27) 15 5 27) 28) 15 6 28) 29) 15 7 29) 30) 15 8 30)
set_option maxHeartbeats 4000000 in
set_option maxRecDepth 100000 in
theorem k_X8_init {d : Nat} {I : fc_I} {P : fc_P} : fc_C X8_init (d + 1) 15 615 [.ref 15] (fc_SH.take 16) I P (fun v sh' I' P' => v = none ∧ sh' = fc_SH.take 31 ∧ I' = cI_k_X8_init I ∧ P' = cP_k_X8_init P) := by
  refine fc_C.of (ls := [some (.ref 15)]) ⟨rfl, rfl⟩ (Nat.le_of_ble_eq_true rfl) rfl ?_
  refine ft_aload_n dX8_init_0 rfl ?_
  refine ft_objInit cf_X8_3 (Nat.le_of_ble_eq_true rfl) dX8_init_1 ?_
  refine ft_aload_n dX8_init_4 rfl ?_
  refine ft_iconst (v := 3) dX8_init_5 rfl ?_
  refine ft_newZ (nb := 14) (zb := 612) (N := 3) ac_Z (by decide) rfl (by decide) rfl (by decide) dX8_init_6 ?_
  show fc_T _ _ _ _ _ _ (.ref 16 :: _) (fc_SH.take 17) _ _ _
  refine ft_putRF fl_X8_9 rfl (fun q h => by cases h; exact ⟨rfl, rfl⟩) rfl rfl (by decide) (by decide) dX8_init_8 ?_
  refine ft_aload_n dX8_init_11 rfl ?_
  refine ft_iconst (v := 3) dX8_init_12 rfl ?_
  refine ft_bipush (v := 61) dX8_init_13 rfl ?_
  refine ft_mna (nb := 10) (zb := 426) (N := 3) (K := 61) ⟨(fc_b1 126 rfl rfl), ac_I⟩ (by decide) (by decide) rfl rfl (by decide) rfl (by decide) dX8_init_15 ?_
  show fc_T _ _ _ _ _ _ (.ref 17 :: _) (fc_SH.take 21) _ _ _
  refine ft_putRF fl_X8_17 rfl (fun q h => by cases h; exact ⟨rfl, rfl⟩) rfl rfl (by decide) (by decide) dX8_init_19 ?_
  refine ft_aload_n dX8_init_22 rfl ?_
  refine ft_iconst (v := 3) dX8_init_23 rfl ?_
  refine ft_bipush (v := 61) dX8_init_24 rfl ?_
  refine ft_mna (nb := 6) (zb := 240) (N := 3) (K := 61) ⟨(fc_b1 126 rfl rfl), ac_I⟩ (by decide) (by decide) rfl rfl (by decide) rfl (by decide) dX8_init_26 ?_
  show fc_T _ _ _ _ _ _ (.ref 21 :: _) (fc_SH.take 25) _ _ _
  refine ft_putRF fl_X8_20 rfl (fun q h => by cases h; exact ⟨rfl, rfl⟩) rfl rfl (by decide) (by decide) dX8_init_30 ?_
  refine ft_aload_n dX8_init_33 rfl ?_
  refine ft_bipush (v := 40) dX8_init_34 rfl ?_
  refine ft_newI (nb := 5) (zb := 200) (N := 40) ac_I (by decide) rfl (by decide) rfl (by decide) dX8_init_36 ?_
  show fc_T _ _ _ _ _ _ (.ref 25 :: _) (fc_SH.take 26) _ _ _
  refine ft_putRF fl_X8_23 rfl (fun q h => by cases h; exact ⟨rfl, rfl⟩) rfl rfl (by decide) (by decide) dX8_init_38 ?_
  refine ft_aload_n dX8_init_41 rfl ?_
  refine ft_bipush (v := 40) dX8_init_42 rfl ?_
  refine ft_newI (nb := 4) (zb := 160) (N := 40) ac_I (by decide) rfl (by decide) rfl (by decide) dX8_init_44 ?_
  show fc_T _ _ _ _ _ _ (.ref 26 :: _) (fc_SH.take 27) _ _ _
  refine ft_putRF fl_X8_27 rfl (fun q h => by cases h; exact ⟨rfl, rfl⟩) rfl rfl (by decide) (by decide) dX8_init_46 ?_
  refine ft_aload_n dX8_init_49 rfl ?_
  refine ft_bipush (v := 40) dX8_init_50 rfl ?_
  refine ft_newI (nb := 3) (zb := 120) (N := 40) ac_I (by decide) rfl (by decide) rfl (by decide) dX8_init_52 ?_
  show fc_T _ _ _ _ _ _ (.ref 27 :: _) (fc_SH.take 28) _ _ _
  refine ft_putRF fl_X8_30 rfl (fun q h => by cases h; exact ⟨rfl, rfl⟩) rfl rfl (by decide) (by decide) dX8_init_54 ?_
  refine ft_aload_n dX8_init_57 rfl ?_
  refine ft_bipush (v := 40) dX8_init_58 rfl ?_
  refine ft_newI (nb := 2) (zb := 80) (N := 40) ac_I (by decide) rfl (by decide) rfl (by decide) dX8_init_60 ?_
  show fc_T _ _ _ _ _ _ (.ref 28 :: _) (fc_SH.take 29) _ _ _
  refine ft_putRF fl_X8_33 rfl (fun q h => by cases h; exact ⟨rfl, rfl⟩) rfl rfl (by decide) (by decide) dX8_init_62 ?_
  refine ft_aload_n dX8_init_65 rfl ?_
  refine ft_bipush (v := 40) dX8_init_66 rfl ?_
  refine ft_newI (nb := 1) (zb := 40) (N := 40) ac_I (by decide) rfl (by decide) rfl (by decide) dX8_init_68 ?_
  show fc_T _ _ _ _ _ _ (.ref 29 :: _) (fc_SH.take 30) _ _ _
  refine ft_putRF fl_X8_36 rfl (fun q h => by cases h; exact ⟨rfl, rfl⟩) rfl rfl (by decide) (by decide) dX8_init_70 ?_
  refine ft_aload_n dX8_init_73 rfl ?_
  refine ft_bipush (v := 40) dX8_init_74 rfl ?_
  refine ft_newI (nb := 0) (zb := 0) (N := 40) ac_I (by decide) rfl (by decide) rfl (by decide) dX8_init_76 ?_
  show fc_T _ _ _ _ _ _ (.ref 30 :: _) (fc_SH.take 31) _ _ _
  refine ft_putRF fl_X8_39 rfl (fun q h => by cases h; exact ⟨rfl, rfl⟩) rfl rfl (by decide) (by decide) dX8_init_78 ?_
  refine ft_aload_n dX8_init_81 rfl ?_
  refine ft_bipush (v := 30) dX8_init_82 rfl ?_
  refine ft_putI fl_X8_42 rfl (fun q h => by cases h; rfl) rfl (by decide) dX8_init_84 ?_
  refine ft_aload_n dX8_init_87 rfl ?_
  refine ft_getR (v := 16) fl_X8_9 rfl rfl (by decide) rfl dX8_init_88 ?_
  refine ft_iconst (v := 0) dX8_init_91 rfl ?_
  refine ft_iconst (v := 1) dX8_init_92 rfl ?_
  refine ft_zast (N := 3) rfl (vp_in_iff.mpr (by decide)) (y := 1) rfl dX8_init_93 ?_
  exact ft_vret dX8_init_94 rfl ⟨rfl, rfl, rfl, rfl⟩
def cI_k_X2_a (I : fc_I) : fc_I := (fc_fI (fc_fI (fc_zI (fc_zI (fc_zI (fc_zI (fc_zI (fc_zI (fc_zI (fc_zI I 46) 47) 48) 49) 50) 51) 52) 53) 49 6 (-1)) 53 4 (-1))
def cP_k_X2_a (P : fc_P) : fc_P := (fc_wP (fc_zP (fc_wP (fc_zP (fc_wP (fc_zP (fc_wP (fc_zP (fc_wP (fc_zP (fc_wP (fc_zP (fc_wP (fc_zP (fc_wP (fc_zP P 46) 45 0 46) 47) 45 1 47) 48) 45 2 48) 49) 45 3 49) 50) 45 4 50) 51) 45 5 51) 52) 45 6 52) 53) 45 7 53)
set_option maxHeartbeats 4000000 in
set_option maxRecDepth 100000 in
theorem k_X2_a {d : Nat} {I : fc_I} {P : fc_P} : fc_C X2_init (d + 1) 8 38 [.ref 45] (fc_SH.take 46) I P (fun v sh' I' P' => v = none ∧ sh' = fc_SH.take 54 ∧ I' = cI_k_X2_a I ∧ P' = cP_k_X2_a P) := by
  refine fc_C.of (ls := [some (.ref 45)]) ⟨rfl, rfl⟩ (Nat.le_of_ble_eq_true rfl) rfl ?_
  refine ft_aload_n dX2_init_0 rfl ?_
  refine ft_objInit cf_X2_3 (Nat.le_of_ble_eq_true rfl) dX2_init_1 ?_
  refine ft_aload_n dX2_init_4 rfl ?_
  refine ft_bipush (v := 6) dX2_init_5 rfl ?_
  refine ft_newI (nb := 7) (zb := 32) (N := 6) ac_I (by decide) rfl (by decide) rfl (by decide) dX2_init_7 ?_
  show fc_T _ _ _ _ _ _ (.ref 46 :: _) (fc_SH.take 47) _ _ _
  refine ft_putRF fl_X2_9 rfl (fun q h => by cases h; exact ⟨rfl, rfl⟩) rfl rfl (by decide) (by decide) dX2_init_9 ?_
  refine ft_aload_n dX2_init_12 rfl ?_
  refine ft_bipush (v := 6) dX2_init_13 rfl ?_
  refine ft_newI (nb := 6) (zb := 26) (N := 6) ac_I (by decide) rfl (by decide) rfl (by decide) dX2_init_15 ?_
  show fc_T _ _ _ _ _ _ (.ref 47 :: _) (fc_SH.take 48) _ _ _
  refine ft_putRF fl_X2_15 rfl (fun q h => by cases h; exact ⟨rfl, rfl⟩) rfl rfl (by decide) (by decide) dX2_init_17 ?_
  refine ft_aload_n dX2_init_20 rfl ?_
  refine ft_bipush (v := 6) dX2_init_21 rfl ?_
  refine ft_newI (nb := 5) (zb := 20) (N := 6) ac_I (by decide) rfl (by decide) rfl (by decide) dX2_init_23 ?_
  show fc_T _ _ _ _ _ _ (.ref 48 :: _) (fc_SH.take 49) _ _ _
  refine ft_putRF fl_X2_18 rfl (fun q h => by cases h; exact ⟨rfl, rfl⟩) rfl rfl (by decide) (by decide) dX2_init_25 ?_
  refine ft_aload_n dX2_init_28 rfl ?_
  refine ft_bipush (v := 6) dX2_init_29 rfl ?_
  refine ft_newI (nb := 4) (zb := 14) (N := 6) ac_I (by decide) rfl (by decide) rfl (by decide) dX2_init_31 ?_
  show fc_T _ _ _ _ _ _ (.ref 49 :: _) (fc_SH.take 50) _ _ _
  refine ft_putRF fl_X2_21 rfl (fun q h => by cases h; exact ⟨rfl, rfl⟩) rfl rfl (by decide) (by decide) dX2_init_33 ?_
  refine ft_aload_n dX2_init_36 rfl ?_
  refine ft_iconst (v := 3) dX2_init_37 rfl ?_
  refine ft_newI (nb := 3) (zb := 11) (N := 3) ac_I (by decide) rfl (by decide) rfl (by decide) dX2_init_38 ?_
  show fc_T _ _ _ _ _ _ (.ref 50 :: _) (fc_SH.take 51) _ _ _
  refine ft_putRF fl_X2_24 rfl (fun q h => by cases h; exact ⟨rfl, rfl⟩) rfl rfl (by decide) (by decide) dX2_init_40 ?_
  refine ft_aload_n dX2_init_43 rfl ?_
  refine ft_iconst (v := 3) dX2_init_44 rfl ?_
  refine ft_newI (nb := 2) (zb := 8) (N := 3) ac_I (by decide) rfl (by decide) rfl (by decide) dX2_init_45 ?_
  show fc_T _ _ _ _ _ _ (.ref 51 :: _) (fc_SH.take 52) _ _ _
  refine ft_putRF fl_X2_27 rfl (fun q h => by cases h; exact ⟨rfl, rfl⟩) rfl rfl (by decide) (by decide) dX2_init_47 ?_
  refine ft_aload_n dX2_init_50 rfl ?_
  refine ft_iconst (v := 4) dX2_init_51 rfl ?_
  refine ft_newI (nb := 1) (zb := 4) (N := 4) ac_I (by decide) rfl (by decide) rfl (by decide) dX2_init_52 ?_
  show fc_T _ _ _ _ _ _ (.ref 52 :: _) (fc_SH.take 53) _ _ _
  refine ft_putRF fl_X2_30 rfl (fun q h => by cases h; exact ⟨rfl, rfl⟩) rfl rfl (by decide) (by decide) dX2_init_54 ?_
  refine ft_aload_n dX2_init_57 rfl ?_
  refine ft_iconst (v := 4) dX2_init_58 rfl ?_
  refine ft_newI (nb := 0) (zb := 0) (N := 4) ac_I (by decide) rfl (by decide) rfl (by decide) dX2_init_59 ?_
  show fc_T _ _ _ _ _ _ (.ref 53 :: _) (fc_SH.take 54) _ _ _
  refine ft_putRF fl_X2_33 rfl (fun q h => by cases h; exact ⟨rfl, rfl⟩) rfl rfl (by decide) (by decide) dX2_init_61 ?_
  refine ft_aload_n dX2_init_64 rfl ?_
  refine ft_getR (v := 49) fl_X2_21 rfl rfl (by decide) rfl dX2_init_65 ?_
  refine ft_iconst (v := (-1)) dX2_init_68 rfl ?_
  refine ft_S2v cf_X2_36 (t_J7_fill_53178 (c := 49) (N := 6) rfl (by decide) (e_fill (by decide))) (Nat.le_of_ble_eq_true rfl) dX2_init_69 (fun J P' q => ?_)
  obtain ⟨rfl, rfl⟩ := q
  refine ft_aload_n dX2_init_72 rfl ?_
  refine ft_getR (v := 53) fl_X2_33 rfl rfl (by decide) rfl dX2_init_73 ?_
  refine ft_iconst (v := (-1)) dX2_init_76 rfl ?_
  refine ft_S2v cf_X2_36 (t_J7_fill_53178 (c := 53) (N := 4) rfl (by decide) (e_fill (by decide))) (Nat.le_of_ble_eq_true rfl) dX2_init_77 (fun J P' q => ?_)
  obtain ⟨rfl, rfl⟩ := q
  exact ft_vret dX2_init_80 rfl ⟨rfl, rfl, rfl, rfl⟩
def cI_k_X2_b (I : fc_I) : fc_I := (fc_fI (fc_fI (fc_zI (fc_zI (fc_zI (fc_zI (fc_zI (fc_zI (fc_zI (fc_zI I 59) 60) 61) 62) 63) 64) 65) 66) 62 6 (-1)) 66 4 (-1))
def cP_k_X2_b (P : fc_P) : fc_P := (fc_wP (fc_zP (fc_wP (fc_zP (fc_wP (fc_zP (fc_wP (fc_zP (fc_wP (fc_zP (fc_wP (fc_zP (fc_wP (fc_zP (fc_wP (fc_zP P 59) 58 0 59) 60) 58 1 60) 61) 58 2 61) 62) 58 3 62) 63) 58 4 63) 64) 58 5 64) 65) 58 6 65) 66) 58 7 66)
set_option maxHeartbeats 4000000 in
set_option maxRecDepth 100000 in
theorem k_X2_b {d : Nat} {I : fc_I} {P : fc_P} : fc_C X2_init (d + 1) 8 38 [.ref 58] (fc_SH.take 59) I P (fun v sh' I' P' => v = none ∧ sh' = fc_SH.take 67 ∧ I' = cI_k_X2_b I ∧ P' = cP_k_X2_b P) := by
  refine fc_C.of (ls := [some (.ref 58)]) ⟨rfl, rfl⟩ (Nat.le_of_ble_eq_true rfl) rfl ?_
  refine ft_aload_n dX2_init_0 rfl ?_
  refine ft_objInit cf_X2_3 (Nat.le_of_ble_eq_true rfl) dX2_init_1 ?_
  refine ft_aload_n dX2_init_4 rfl ?_
  refine ft_bipush (v := 6) dX2_init_5 rfl ?_
  refine ft_newI (nb := 7) (zb := 32) (N := 6) ac_I (by decide) rfl (by decide) rfl (by decide) dX2_init_7 ?_
  show fc_T _ _ _ _ _ _ (.ref 59 :: _) (fc_SH.take 60) _ _ _
  refine ft_putRF fl_X2_9 rfl (fun q h => by cases h; exact ⟨rfl, rfl⟩) rfl rfl (by decide) (by decide) dX2_init_9 ?_
  refine ft_aload_n dX2_init_12 rfl ?_
  refine ft_bipush (v := 6) dX2_init_13 rfl ?_
  refine ft_newI (nb := 6) (zb := 26) (N := 6) ac_I (by decide) rfl (by decide) rfl (by decide) dX2_init_15 ?_
  show fc_T _ _ _ _ _ _ (.ref 60 :: _) (fc_SH.take 61) _ _ _
  refine ft_putRF fl_X2_15 rfl (fun q h => by cases h; exact ⟨rfl, rfl⟩) rfl rfl (by decide) (by decide) dX2_init_17 ?_
  refine ft_aload_n dX2_init_20 rfl ?_
  refine ft_bipush (v := 6) dX2_init_21 rfl ?_
  refine ft_newI (nb := 5) (zb := 20) (N := 6) ac_I (by decide) rfl (by decide) rfl (by decide) dX2_init_23 ?_
  show fc_T _ _ _ _ _ _ (.ref 61 :: _) (fc_SH.take 62) _ _ _
  refine ft_putRF fl_X2_18 rfl (fun q h => by cases h; exact ⟨rfl, rfl⟩) rfl rfl (by decide) (by decide) dX2_init_25 ?_
  refine ft_aload_n dX2_init_28 rfl ?_
  refine ft_bipush (v := 6) dX2_init_29 rfl ?_
  refine ft_newI (nb := 4) (zb := 14) (N := 6) ac_I (by decide) rfl (by decide) rfl (by decide) dX2_init_31 ?_
  show fc_T _ _ _ _ _ _ (.ref 62 :: _) (fc_SH.take 63) _ _ _
  refine ft_putRF fl_X2_21 rfl (fun q h => by cases h; exact ⟨rfl, rfl⟩) rfl rfl (by decide) (by decide) dX2_init_33 ?_
  refine ft_aload_n dX2_init_36 rfl ?_
  refine ft_iconst (v := 3) dX2_init_37 rfl ?_
  refine ft_newI (nb := 3) (zb := 11) (N := 3) ac_I (by decide) rfl (by decide) rfl (by decide) dX2_init_38 ?_
  show fc_T _ _ _ _ _ _ (.ref 63 :: _) (fc_SH.take 64) _ _ _
  refine ft_putRF fl_X2_24 rfl (fun q h => by cases h; exact ⟨rfl, rfl⟩) rfl rfl (by decide) (by decide) dX2_init_40 ?_
  refine ft_aload_n dX2_init_43 rfl ?_
  refine ft_iconst (v := 3) dX2_init_44 rfl ?_
  refine ft_newI (nb := 2) (zb := 8) (N := 3) ac_I (by decide) rfl (by decide) rfl (by decide) dX2_init_45 ?_
  show fc_T _ _ _ _ _ _ (.ref 64 :: _) (fc_SH.take 65) _ _ _
  refine ft_putRF fl_X2_27 rfl (fun q h => by cases h; exact ⟨rfl, rfl⟩) rfl rfl (by decide) (by decide) dX2_init_47 ?_
  refine ft_aload_n dX2_init_50 rfl ?_
  refine ft_iconst (v := 4) dX2_init_51 rfl ?_
  refine ft_newI (nb := 1) (zb := 4) (N := 4) ac_I (by decide) rfl (by decide) rfl (by decide) dX2_init_52 ?_
  show fc_T _ _ _ _ _ _ (.ref 65 :: _) (fc_SH.take 66) _ _ _
  refine ft_putRF fl_X2_30 rfl (fun q h => by cases h; exact ⟨rfl, rfl⟩) rfl rfl (by decide) (by decide) dX2_init_54 ?_
  refine ft_aload_n dX2_init_57 rfl ?_
  refine ft_iconst (v := 4) dX2_init_58 rfl ?_
  refine ft_newI (nb := 0) (zb := 0) (N := 4) ac_I (by decide) rfl (by decide) rfl (by decide) dX2_init_59 ?_
  show fc_T _ _ _ _ _ _ (.ref 66 :: _) (fc_SH.take 67) _ _ _
  refine ft_putRF fl_X2_33 rfl (fun q h => by cases h; exact ⟨rfl, rfl⟩) rfl rfl (by decide) (by decide) dX2_init_61 ?_
  refine ft_aload_n dX2_init_64 rfl ?_
  refine ft_getR (v := 62) fl_X2_21 rfl rfl (by decide) rfl dX2_init_65 ?_
  refine ft_iconst (v := (-1)) dX2_init_68 rfl ?_
  refine ft_S2v cf_X2_36 (t_J7_fill_53178 (c := 62) (N := 6) rfl (by decide) (e_fill (by decide))) (Nat.le_of_ble_eq_true rfl) dX2_init_69 (fun J P' q => ?_)
  obtain ⟨rfl, rfl⟩ := q
  refine ft_aload_n dX2_init_72 rfl ?_
  refine ft_getR (v := 66) fl_X2_33 rfl rfl (by decide) rfl dX2_init_73 ?_
  refine ft_iconst (v := (-1)) dX2_init_76 rfl ?_
  refine ft_S2v cf_X2_36 (t_J7_fill_53178 (c := 66) (N := 4) rfl (by decide) (e_fill (by decide))) (Nat.le_of_ble_eq_true rfl) dX2_init_77 (fun J P' q => ?_)
  obtain ⟨rfl, rfl⟩ := q
  exact ft_vret dX2_init_80 rfl ⟨rfl, rfl, rfl, rfl⟩
def cI_k_X4_init (I : fc_I) : fc_I := (fc_zI (fc_zI I 55) 56)
def cP_k_X4_init (P : fc_P) : fc_P := (fc_wP (fc_wP (fc_wP (fc_wP (fc_wP (fc_wP (fc_zP (fc_wP (fc_zP P 55) 54 5 55) 56) 54 6 56) 54 0 1) 54 1 4) 54 2 10) 54 3 15) 54 4 31)
set_option maxHeartbeats 4000000 in
set_option maxRecDepth 100000 in
theorem k_X4_init {d : Nat} {I : fc_I} {P : fc_P} : fc_C X4_init (d + 1) 2 20 [.ref 54, .ref 1, .ref 4, .ref 10, .ref 15, .ref 31] (fc_SH.take 55) I P (fun v sh' I' P' => v = none ∧ sh' = fc_SH.take 57 ∧ I' = cI_k_X4_init I ∧ P' = cP_k_X4_init P) := by
  refine fc_C.of (ls := [some (.ref 54), some (.ref 1), some (.ref 4), some (.ref 10), some (.ref 15), some (.ref 31)]) ⟨rfl, rfl⟩ (Nat.le_of_ble_eq_true rfl) rfl ?_
  refine ft_aload_n dX4_init_0 rfl ?_
  refine ft_objInit cf_X4_3 (Nat.le_of_ble_eq_true rfl) dX4_init_1 ?_
  refine ft_aload_n dX4_init_4 rfl ?_
  refine ft_bipush (v := 6) dX4_init_5 rfl ?_
  refine ft_newI (nb := 1) (zb := 14) (N := 6) ac_I (by decide) rfl (by decide) rfl (by decide) dX4_init_7 ?_
  show fc_T _ _ _ _ _ _ (.ref 55 :: _) (fc_SH.take 56) _ _ _
  refine ft_putRF fl_X4_9 rfl (fun q h => by cases h; exact ⟨rfl, rfl⟩) rfl rfl (by decide) (by decide) dX4_init_9 ?_
  refine ft_aload_n dX4_init_12 rfl ?_
  refine ft_bipush (v := 14) dX4_init_13 rfl ?_
  refine ft_newI (nb := 0) (zb := 0) (N := 14) ac_I (by decide) rfl (by decide) rfl (by decide) dX4_init_15 ?_
  show fc_T _ _ _ _ _ _ (.ref 56 :: _) (fc_SH.take 57) _ _ _
  refine ft_putRF fl_X4_15 rfl (fun q h => by cases h; exact ⟨rfl, rfl⟩) rfl rfl (by decide) (by decide) dX4_init_17 ?_
  refine ft_aload_n dX4_init_20 rfl ?_
  refine ft_aload_n dX4_init_21 rfl ?_
  refine ft_putRF fl_X4_18 rfl (fun q h => by cases h; exact ⟨rfl, rfl⟩) rfl rfl (by decide) (by decide) dX4_init_22 ?_
  refine ft_aload_n dX4_init_25 rfl ?_
  refine ft_aload_n dX4_init_26 rfl ?_
  refine ft_putRF fl_X4_22 rfl (fun q h => by cases h; exact ⟨rfl, rfl⟩) rfl rfl (by decide) (by decide) dX4_init_27 ?_
  refine ft_aload_n dX4_init_30 rfl ?_
  refine ft_aload_n dX4_init_31 rfl ?_
  refine ft_putRF fl_X4_26 rfl (fun q h => by cases h; exact ⟨rfl, rfl⟩) rfl rfl (by decide) (by decide) dX4_init_32 ?_
  refine ft_aload_n dX4_init_35 rfl ?_
  refine ft_aload dX4_init_36 rfl ?_
  refine ft_putRF fl_X4_30 rfl (fun q h => by cases h; exact ⟨rfl, rfl⟩) rfl rfl (by decide) (by decide) dX4_init_38 ?_
  refine ft_aload_n dX4_init_41 rfl ?_
  refine ft_aload dX4_init_42 rfl ?_
  refine ft_putRF fl_X4_34 rfl (fun q h => by cases h; exact ⟨rfl, rfl⟩) rfl rfl (by decide) (by decide) dX4_init_44 ?_
  exact ft_vret dX4_init_47 rfl ⟨rfl, rfl, rfl, rfl⟩
def cI_k_X3_init (I : fc_I) : fc_I := (fc_fI (fc_zI (fc_zI (fc_zI (cI_k_X2_b (fc_zI I 58)) 67) 68) 69) 68 6 (-1))
def cP_k_X3_init (P : fc_P) : fc_P := (fc_wP (fc_wP (fc_wP (fc_wP (fc_wP (fc_zP (fc_wP (fc_zP (fc_wP (fc_zP (fc_wP (cP_k_X2_b (fc_zP P 58)) 57 4 58) 67) 57 5 67) 68) 57 6 68) 69) 57 7 69) 57 0 1) 57 1 15) 57 2 45) 57 3 54)
set_option maxHeartbeats 4000000 in
set_option maxRecDepth 100000 in
theorem k_X3_init {d : Nat} {I : fc_I} {P : fc_P} : fc_C X3_init (d + 2) 12 64 [.ref 57, .ref 1, .ref 15, .ref 45, .ref 54] (fc_SH.take 58) I P (fun v sh' I' P' => v = none ∧ sh' = fc_SH.take 70 ∧ I' = cI_k_X3_init I ∧ P' = cP_k_X3_init P) := by
  refine fc_C.of (ls := [some (.ref 57), some (.ref 1), some (.ref 15), some (.ref 45), some (.ref 54)]) ⟨rfl, rfl⟩ (Nat.le_of_ble_eq_true rfl) rfl ?_
  refine ft_aload_n dX3_init_0 rfl ?_
  refine ft_objInit cf_X3_3 (Nat.le_of_ble_eq_true rfl) dX3_init_1 ?_
  refine ft_aload_n dX3_init_4 rfl ?_
  refine ft_new (nb := 11) (zb := 54) (ci := 2) (q := (RX2, TX2, 10)) rfl ⟨(fc_b2 232 rfl rfl), (fc_b2 138 rfl rfl), (fc_b1 13 rfl rfl)⟩ hty_2 rfl (by decide) dX3_init_5 ?_
  show fc_T _ _ _ _ _ _ (.ref 58 :: _) (fc_SH.take 59) _ _ _
  refine ft_dup dX3_init_8 rfl ?_
  refine fc_callI (nb' := 8) (zb' := 38) (nb := 3) (zb := 16) (b := 58) (As := []) cf_X3_11 (k_X2_b) rfl (Nat.le_of_ble_eq_true rfl) rfl dX3_init_9 (fun v' sh' I' P' q => ?_)
  obtain ⟨rfl, rfl, rfl, rfl⟩ := q
  show fc_T _ _ _ _ _ _ _ (fc_SH.take 67) _ _ _
  refine ft_putRF fl_X3_12 rfl (fun q h => by cases h; exact ⟨rfl, rfl⟩) rfl rfl (by decide) (by decide) dX3_init_12 ?_
  refine ft_aload_n dX3_init_15 rfl ?_
  refine ft_bipush (v := 6) dX3_init_16 rfl ?_
  refine ft_newI (nb := 2) (zb := 10) (N := 6) ac_I (by decide) rfl (by decide) rfl (by decide) dX3_init_18 ?_
  show fc_T _ _ _ _ _ _ (.ref 67 :: _) (fc_SH.take 68) _ _ _
  refine ft_putRF fl_X3_18 rfl (fun q h => by cases h; exact ⟨rfl, rfl⟩) rfl rfl (by decide) (by decide) dX3_init_20 ?_
  refine ft_aload_n dX3_init_23 rfl ?_
  refine ft_bipush (v := 6) dX3_init_24 rfl ?_
  refine ft_newI (nb := 1) (zb := 4) (N := 6) ac_I (by decide) rfl (by decide) rfl (by decide) dX3_init_26 ?_
  show fc_T _ _ _ _ _ _ (.ref 68 :: _) (fc_SH.take 69) _ _ _
  refine ft_putRF fl_X3_22 rfl (fun q h => by cases h; exact ⟨rfl, rfl⟩) rfl rfl (by decide) (by decide) dX3_init_28 ?_
  refine ft_aload_n dX3_init_31 rfl ?_
  refine ft_iconst (v := 4) dX3_init_32 rfl ?_
  refine ft_newI (nb := 0) (zb := 0) (N := 4) ac_I (by decide) rfl (by decide) rfl (by decide) dX3_init_33 ?_
  show fc_T _ _ _ _ _ _ (.ref 69 :: _) (fc_SH.take 70) _ _ _
  refine ft_putRF fl_X3_25 rfl (fun q h => by cases h; exact ⟨rfl, rfl⟩) rfl rfl (by decide) (by decide) dX3_init_35 ?_
  refine ft_aload_n dX3_init_38 rfl ?_
  refine ft_aload_n dX3_init_39 rfl ?_
  refine ft_putRF fl_X3_28 rfl (fun q h => by cases h; exact ⟨rfl, rfl⟩) rfl rfl (by decide) (by decide) dX3_init_40 ?_
  refine ft_aload_n dX3_init_43 rfl ?_
  refine ft_aload_n dX3_init_44 rfl ?_
  refine ft_putRF fl_X3_32 rfl (fun q h => by cases h; exact ⟨rfl, rfl⟩) rfl rfl (by decide) (by decide) dX3_init_45 ?_
  refine ft_aload_n dX3_init_48 rfl ?_
  refine ft_aload_n dX3_init_49 rfl ?_
  refine ft_putRF fl_X3_36 rfl (fun q h => by cases h; exact ⟨rfl, rfl⟩) rfl rfl (by decide) (by decide) dX3_init_50 ?_
  refine ft_aload_n dX3_init_53 rfl ?_
  refine ft_aload dX3_init_54 rfl ?_
  refine ft_putRF fl_X3_39 rfl (fun q h => by cases h; exact ⟨rfl, rfl⟩) rfl rfl (by decide) (by decide) dX3_init_56 ?_
  refine ft_aload_n dX3_init_59 rfl ?_
  refine ft_getR (v := 68) fl_X3_22 rfl rfl (by decide) rfl dX3_init_60 ?_
  refine ft_iconst (v := (-1)) dX3_init_63 rfl ?_
  refine ft_S2v cf_X3_43 (t_J7_fill_53178 (c := 68) (N := 6) rfl (by decide) (e_fill (by decide))) (Nat.le_of_ble_eq_true rfl) dX3_init_64 (fun J P' q => ?_)
  obtain ⟨rfl, rfl⟩ := q
  exact ft_vret dX3_init_67 rfl ⟨rfl, rfl, rfl, rfl⟩
def cI_k_X7_init (I : fc_I) : fc_I := (fc_fI (fc_zI (fc_zI (fc_mI I 71 4) 76) 77) 76 4 (-1))
def cP_k_X7_init (P : fc_P) : fc_P := (fc_wP (fc_zP (fc_wP (fc_zP (fc_wP (fc_mP P 71 4) 70 0 71) 76) 70 1 76) 77) 70 2 77)
set_option maxHeartbeats 4000000 in
set_option maxRecDepth 100000 in
theorem k_X7_init {d : Nat} {I : fc_I} {P : fc_P} : fc_C X7_init (d + 1) 7 172 [.ref 70] (fc_SH.take 71) I P (fun v sh' I' P' => v = none ∧ sh' = fc_SH.take 78 ∧ I' = cI_k_X7_init I ∧ P' = cP_k_X7_init P) := by
  refine fc_C.of (ls := [some (.ref 70)]) ⟨rfl, rfl⟩ (Nat.le_of_ble_eq_true rfl) rfl ?_
  refine ft_aload_n dX7_init_0 rfl ?_
  refine ft_objInit cf_X7_3 (Nat.le_of_ble_eq_true rfl) dX7_init_1 ?_
  refine ft_aload_n dX7_init_4 rfl ?_
  refine ft_iconst (v := 4) dX7_init_5 rfl ?_
  refine ft_bipush (v := 40) dX7_init_6 rfl ?_
  refine ft_mna (nb := 2) (zb := 8) (N := 4) (K := 40) ⟨(fc_b3 28 rfl rfl), ac_I⟩ (by decide) (by decide) rfl rfl (by decide) rfl (by decide) dX7_init_8 ?_
  show fc_T _ _ _ _ _ _ (.ref 71 :: _) (fc_SH.take 76) _ _ _
  refine ft_putRF fl_X7_11 rfl (fun q h => by cases h; exact ⟨rfl, rfl⟩) rfl rfl (by decide) (by decide) dX7_init_12 ?_
  refine ft_aload_n dX7_init_15 rfl ?_
  refine ft_iconst (v := 4) dX7_init_16 rfl ?_
  refine ft_newI (nb := 1) (zb := 4) (N := 4) ac_I (by decide) rfl (by decide) rfl (by decide) dX7_init_17 ?_
  show fc_T _ _ _ _ _ _ (.ref 76 :: _) (fc_SH.take 77) _ _ _
  refine ft_putRF fl_X7_16 rfl (fun q h => by cases h; exact ⟨rfl, rfl⟩) rfl rfl (by decide) (by decide) dX7_init_19 ?_
  refine ft_aload_n dX7_init_22 rfl ?_
  refine ft_iconst (v := 4) dX7_init_23 rfl ?_
  refine ft_newI (nb := 0) (zb := 0) (N := 4) ac_I (by decide) rfl (by decide) rfl (by decide) dX7_init_24 ?_
  show fc_T _ _ _ _ _ _ (.ref 77 :: _) (fc_SH.take 78) _ _ _
  refine ft_putRF fl_X7_20 rfl (fun q h => by cases h; exact ⟨rfl, rfl⟩) rfl rfl (by decide) (by decide) dX7_init_26 ?_
  refine ft_aload_n dX7_init_29 rfl ?_
  refine ft_getR (v := 76) fl_X7_16 rfl rfl (by decide) rfl dX7_init_30 ?_
  refine ft_iconst (v := (-1)) dX7_init_33 rfl ?_
  refine ft_S2v cf_X7_23 (t_J7_fill_53178 (c := 76) (N := 4) rfl (by decide) (e_fill (by decide))) (Nat.le_of_ble_eq_true rfl) dX7_init_34 (fun J P' q => ?_)
  obtain ⟨rfl, rfl⟩ := q
  exact ft_vret dX7_init_37 rfl ⟨rfl, rfl, rfl, rfl⟩
def cI_k_X5_init (I : fc_I) : fc_I := (fc_zI I 44)
def cP_k_X5_init (P : fc_P) : fc_P := (fc_wP (fc_zP (fc_wP P 43 0 32) 44) 43 1 44)
set_option maxHeartbeats 4000000 in
set_option maxRecDepth 100000 in
theorem k_X5_init {d : Nat} {I : fc_I} {P : fc_P} : fc_C X5_init (d + 1) 1 0 [.ref 43, .ref 32] (fc_SH.take 44) I P (fun v sh' I' P' => v = none ∧ sh' = fc_SH.take 45 ∧ I' = cI_k_X5_init I ∧ P' = cP_k_X5_init P) := by
  refine fc_C.of (ls := [some (.ref 43), some (.ref 32)]) ⟨rfl, rfl⟩ (Nat.le_of_ble_eq_true rfl) rfl ?_
  refine ft_aload_n dX5_init_0 rfl ?_
  refine ft_objInit cf_X5_5 (Nat.le_of_ble_eq_true rfl) dX5_init_1 ?_
  refine ft_aload_n dX5_init_4 rfl ?_
  refine ft_aload_n dX5_init_5 rfl ?_
  refine ft_putRF fl_X5_11 rfl (fun q h => by cases h; exact ⟨rfl, rfl⟩) rfl rfl (by decide) (by decide) dX5_init_6 ?_
  refine ft_aload_n dX5_init_9 rfl ?_
  refine ft_iconst (v := 0) dX5_init_10 rfl ?_
  refine ft_newI (nb := 0) (zb := 0) (N := 0) ac_I (by decide) rfl (by decide) rfl (by decide) dX5_init_11 ?_
  show fc_T _ _ _ _ _ _ (.ref 44 :: _) (fc_SH.take 45) _ _ _
  refine ft_putR fl_X5_15 rfl (fun q h => by cases h; rfl) rfl (by decide) (by decide) dX5_init_13 ?_
  exact ft_vret dX5_init_16 rfl ⟨rfl, rfl, rfl, rfl⟩
def cI_k_X0_init (I : fc_I) : fc_I := (cI_k_X5_init (fc_zI (fc_zI (fc_zI (fc_zI (fc_mI (fc_zI I 32) 33 6) 40) 41) 42) 43))
def cP_k_X0_init (P : fc_P) : fc_P := (fc_wP (cP_k_X5_init (fc_zP (fc_wP (fc_zP (fc_wP (fc_zP (fc_wP (fc_zP (fc_wP (fc_mP (fc_wP (fc_zP P 32) 31 0 32) 33 6) 31 1 33) 40) 31 2 40) 41) 31 3 41) 42) 31 4 42) 43)) 31 5 43)
set_option maxHeartbeats 4000000 in
set_option maxRecDepth 100000 in
theorem k_X0_init {d : Nat} {I : fc_I} {P : fc_P} : fc_C X0_init (d + 2) 13 1308 [.ref 31] (fc_SH.take 32) I P (fun v sh' I' P' => v = none ∧ sh' = fc_SH.take 45 ∧ I' = cI_k_X0_init I ∧ P' = cP_k_X0_init P) := by
  refine fc_C.of (ls := [some (.ref 31)]) ⟨rfl, rfl⟩ (Nat.le_of_ble_eq_true rfl) rfl ?_
  refine ft_aload_n dX0_init_0 rfl ?_
  refine ft_objInit cf_X0_3 (Nat.le_of_ble_eq_true rfl) dX0_init_1 ?_
  refine ft_aload_n dX0_init_4 rfl ?_
  refine ft_sipush (v := 160) dX0_init_5 rfl ?_
  refine ft_newB (nb := 12) (zb := 1148) (N := 160) ac_B (by decide) rfl (by decide) rfl (by decide) dX0_init_8 ?_
  show fc_T _ _ _ _ _ _ (.ref 32 :: _) (fc_SH.take 33) _ _ _
  refine ft_putRF fl_X0_9 rfl (fun q h => by cases h; exact ⟨rfl, rfl⟩) rfl rfl (by decide) (by decide) dX0_init_10 ?_
  refine ft_aload_n dX0_init_13 rfl ?_
  refine ft_bipush (v := 6) dX0_init_14 rfl ?_
  refine ft_sipush (v := 160) dX0_init_16 rfl ?_
  refine ft_mna (nb := 5) (zb := 182) (N := 6) (K := 160) ⟨(fc_b1 179 rfl rfl), ac_I⟩ (by decide) (by decide) rfl rfl (by decide) rfl (by decide) dX0_init_19 ?_
  show fc_T _ _ _ _ _ _ (.ref 33 :: _) (fc_SH.take 40) _ _ _
  refine ft_putRF fl_X0_17 rfl (fun q h => by cases h; exact ⟨rfl, rfl⟩) rfl rfl (by decide) (by decide) dX0_init_23 ?_
  refine ft_aload_n dX0_init_26 rfl ?_
  refine ft_bipush (v := 6) dX0_init_27 rfl ?_
  refine ft_newI (nb := 4) (zb := 176) (N := 6) ac_I (by decide) rfl (by decide) rfl (by decide) dX0_init_29 ?_
  show fc_T _ _ _ _ _ _ (.ref 40 :: _) (fc_SH.take 41) _ _ _
  refine ft_putRF fl_X0_20 rfl (fun q h => by cases h; exact ⟨rfl, rfl⟩) rfl rfl (by decide) (by decide) dX0_init_31 ?_
  refine ft_aload_n dX0_init_34 rfl ?_
  refine ft_bipush (v := 6) dX0_init_35 rfl ?_
  refine ft_newI (nb := 3) (zb := 170) (N := 6) ac_I (by decide) rfl (by decide) rfl (by decide) dX0_init_37 ?_
  show fc_T _ _ _ _ _ _ (.ref 41 :: _) (fc_SH.take 42) _ _ _
  refine ft_putRF fl_X0_24 rfl (fun q h => by cases h; exact ⟨rfl, rfl⟩) rfl rfl (by decide) (by decide) dX0_init_39 ?_
  refine ft_aload_n dX0_init_42 rfl ?_
  refine ft_sipush (v := 160) dX0_init_43 rfl ?_
  refine ft_newI (nb := 2) (zb := 10) (N := 160) ac_I (by decide) rfl (by decide) rfl (by decide) dX0_init_46 ?_
  show fc_T _ _ _ _ _ _ (.ref 42 :: _) (fc_SH.take 43) _ _ _
  refine ft_putRF fl_X0_27 rfl (fun q h => by cases h; exact ⟨rfl, rfl⟩) rfl rfl (by decide) (by decide) dX0_init_48 ?_
  refine ft_aload_n dX0_init_51 rfl ?_
  refine ft_new (nb := 1) (zb := 0) (ci := 5) (q := (RX5, TX5, 10)) rfl ⟨(fc_b1 180 rfl rfl), (fc_b1 181 rfl rfl), (fc_b1 8 rfl rfl)⟩ hty_5 rfl (by decide) dX0_init_52 ?_
  show fc_T _ _ _ _ _ _ (.ref 43 :: _) (fc_SH.take 44) _ _ _
  refine ft_dup dX0_init_55 rfl ?_
  refine ft_aload_n dX0_init_56 rfl ?_
  refine ft_getR (v := 32) fl_X0_9 rfl rfl (by decide) rfl dX0_init_57 ?_
  refine fc_callI (nb' := 1) (zb' := 0) (nb := 0) (zb := 0) (b := 43) (As := [.ref 32]) cf_X0_32 (k_X5_init) rfl (Nat.le_of_ble_eq_true rfl) rfl dX0_init_60 (fun v' sh' I' P' q => ?_)
  obtain ⟨rfl, rfl, rfl, rfl⟩ := q
  show fc_T _ _ _ _ _ _ _ (fc_SH.take 45) _ _ _
  refine ft_putRF fl_X0_35 rfl (fun q h => by cases h; exact ⟨rfl, rfl⟩) rfl rfl (by decide) (by decide) dX0_init_63 ?_
  exact ft_vret dX0_init_66 rfl ⟨rfl, rfl, rfl, rfl⟩
theorem wd_ctor (P : fc_P) : fc_wd (fc_SH.take 45) ((fc_wP (cP_k_X0_init (fc_zP (fc_wP (cP_k_X8_init (fc_zP (fc_wP (cP_k_X1_init (fc_zP (fc_wP (cP_k_X6_init (fc_zP (fc_wP (cP_k_X9_init (fc_zP P 1)) 0 0 1) 4)) 0 1 4) 10)) 0 2 10) 15)) 0 3 15) 31)) 0 4 31)) 44 := by
  refine ⟨fun c h1 h2 => ?_, fun c h1 h2 k => ?_⟩
  · rcases (show c = 31 ∨ c = 32 ∨ c = 33 ∨ c = 34 ∨ c = 35 ∨ c = 36 ∨ c = 37 ∨ c = 38 ∨ c = 39 ∨ c = 40 ∨ c = 41 ∨ c = 42 ∨ c = 43 ∨ c = 44 by omega) with rfl | rfl | rfl | rfl | rfl | rfl | rfl | rfl | rfl | rfl | rfl | rfl | rfl | rfl <;> rfl
  · rcases (show c = 31 ∨ c = 32 ∨ c = 33 ∨ c = 34 ∨ c = 35 ∨ c = 36 ∨ c = 37 ∨ c = 38 ∨ c = 39 ∨ c = 40 ∨ c = 41 ∨ c = 42 ∨ c = 43 ∨ c = 44 by omega) with rfl | rfl | rfl | rfl | rfl | rfl | rfl | rfl | rfl | rfl | rfl | rfl | rfl | rfl <;> first | rfl | (match k with
      | 0 => rfl
      | 1 => rfl
      | 2 => rfl
      | 3 => rfl
      | 4 => rfl
      | 5 => rfl
      | 6 => rfl
      | 7 => rfl
      | 8 => rfl
      | 9 => rfl
      | k + 10 => simp [cP_k_X0_init, cP_k_X5_init, fc_wP, fc_zP, fc_mP, fc_PT])
def cI_0 (I : fc_I) : fc_I := (cI_k_X0_init (fc_zI (cI_k_X8_init (fc_zI (cI_k_X1_init (fc_zI (cI_k_X6_init (fc_zI (cI_k_X9_init (fc_zI I 1)) 4)) 10)) 15)) 31))
def cI_1 (J : fc_I) : fc_I := (cI_k_X7_init (fc_zI (cI_k_X3_init (fc_zI (cI_k_X4_init (fc_zI (cI_k_X2_a (fc_zI J 45)) 54)) 57)) 70))
def cP_1 (P : fc_P) (w : Nat) : fc_P := (fc_wP (cP_k_X7_init (fc_zP (fc_wP (cP_k_X3_init (fc_zP (fc_wP (cP_k_X4_init (fc_zP (fc_wP (cP_k_X2_a (fc_zP (fc_wP (fc_wP (cP_k_X0_init (fc_zP (fc_wP (cP_k_X8_init (fc_zP (fc_wP (cP_k_X1_init (fc_zP (fc_wP (cP_k_X6_init (fc_zP (fc_wP (cP_k_X9_init (fc_zP P 1)) 0 0 1) 4)) 0 1 4) 10)) 0 2 10) 15)) 0 3 15) 31)) 0 4 31) 43 1 w) 45)) 0 5 45) 54)) 0 6 54) 57)) 0 7 57) 70)) 0 8 70)
set_option maxHeartbeats 4000000 in
set_option maxRecDepth 100000 in
theorem k_X10_init {d : Nat} {I J0 J : fc_I} {P : fc_P} {r : Int32} (hw : f_X0_write 0 (cI_0 I) = some J0) (hl : f_X0_learn J0 = some (0, J)) : fc_C X10_init (d + 93) 77 2379 [.ref 0] (fc_SH.take 1) I P (fun v sh' I' P' => v = none ∧ sh' = fc_SH.take 78 ∧ I' = cI_1 J ∧ ∃ w, fc_v w ∧ P' = cP_1 P w) := by
  refine fc_C.of (ls := [some (.ref 0)]) ⟨rfl, rfl⟩ (Nat.le_of_ble_eq_true rfl) rfl ?_
  refine ft_aload_n dX10_init_0 rfl ?_
  refine ft_objInit cf_X10_1 (Nat.le_of_ble_eq_true rfl) dX10_init_1 ?_
  refine ft_aload_n dX10_init_4 rfl ?_
  refine ft_new (nb := 76) (zb := 2375) (ci := 9) (q := (RX9, TX9, 4)) rfl ⟨(fc_b1 29 rfl rfl), (fc_b1 30 rfl rfl), (fc_b1 2 rfl rfl)⟩ hty_9 rfl (by decide) dX10_init_5 ?_
  show fc_T _ _ _ _ _ _ (.ref 1 :: _) (fc_SH.take 2) _ _ _
  refine ft_dup dX10_init_8 rfl ?_
  refine fc_callI (nb' := 2) (zb' := 12) (nb := 74) (zb := 2363) (b := 1) (As := []) cf_X10_9 (k_X9_init) rfl (Nat.le_of_ble_eq_true rfl) rfl dX10_init_9 (fun v' sh' I' P' q => ?_)
  obtain ⟨rfl, rfl, rfl, rfl⟩ := q
  show fc_T _ _ _ _ _ _ _ (fc_SH.take 4) _ _ _
  refine ft_putRF fl_X10_10 rfl (fun q h => by cases h; exact ⟨rfl, rfl⟩) rfl rfl (by decide) (by decide) dX10_init_12 ?_
  refine ft_aload_n dX10_init_15 rfl ?_
  refine ft_new (nb := 73) (zb := 2357) (ci := 6) (q := (RX6, TX6, 6)) rfl ⟨(fc_b1 58 rfl rfl), (fc_b1 59 rfl rfl), (fc_b1 4 rfl rfl)⟩ hty_6 rfl (by decide) dX10_init_16 ?_
  show fc_T _ _ _ _ _ _ (.ref 4 :: _) (fc_SH.take 5) _ _ _
  refine ft_dup dX10_init_19 rfl ?_
  refine fc_callIN (nb' := 5) (zb' := 70) (nb := 68) (zb := 2287) (b := 4) (As := []) cf_X10_18 (k_X6_init) rfl (Nat.le_of_ble_eq_true rfl) rfl dX10_init_20 (fun v' sh' I' P' q => ?_)
  obtain ⟨rfl, rfl, rfl, rfl⟩ := q
  show fc_T _ _ _ _ _ _ _ (fc_SH.take 10) _ _ _
  refine ft_putRF fl_X10_19 rfl (fun q h => by cases h; exact ⟨rfl, rfl⟩) rfl rfl (by decide) (by decide) dX10_init_23 ?_
  refine ft_aload_n dX10_init_26 rfl ?_
  refine ft_new (nb := 67) (zb := 2282) (ci := 1) (q := (RX1, TX1, 5)) rfl ⟨(fc_b1 92 rfl rfl), (fc_b1 93 rfl rfl), (fc_b1 5 rfl rfl)⟩ hty_1 rfl (by decide) dX10_init_27 ?_
  show fc_T _ _ _ _ _ _ (.ref 10 :: _) (fc_SH.take 11) _ _ _
  refine ft_dup dX10_init_30 rfl ?_
  refine fc_callIN (nb' := 4) (zb' := 16) (nb := 63) (zb := 2266) (b := 10) (As := []) cf_X10_25 (k_X1_init) rfl (Nat.le_of_ble_eq_true rfl) rfl dX10_init_31 (fun v' sh' I' P' q => ?_)
  obtain ⟨rfl, rfl, rfl, rfl⟩ := q
  show fc_T _ _ _ _ _ _ _ (fc_SH.take 15) _ _ _
  refine ft_putRF fl_X10_26 rfl (fun q h => by cases h; exact ⟨rfl, rfl⟩) rfl rfl (by decide) (by decide) dX10_init_34 ?_
  refine ft_aload_n dX10_init_37 rfl ?_
  refine ft_new (nb := 62) (zb := 2254) (ci := 8) (q := (RX8, TX8, 12)) rfl ⟨(fc_b1 120 rfl rfl), (fc_b1 121 rfl rfl), (fc_b1 6 rfl rfl)⟩ hty_8 rfl (by decide) dX10_init_38 ?_
  show fc_T _ _ _ _ _ _ (.ref 15 :: _) (fc_SH.take 16) _ _ _
  refine ft_dup dX10_init_41 rfl ?_
  refine fc_callI (nb' := 15) (zb' := 615) (nb := 47) (zb := 1639) (b := 15) (As := []) cf_X10_32 (k_X8_init) rfl (Nat.le_of_ble_eq_true rfl) rfl dX10_init_42 (fun v' sh' I' P' q => ?_)
  obtain ⟨rfl, rfl, rfl, rfl⟩ := q
  show fc_T _ _ _ _ _ _ _ (fc_SH.take 31) _ _ _
  refine ft_putRF fl_X10_33 rfl (fun q h => by cases h; exact ⟨rfl, rfl⟩) rfl rfl (by decide) (by decide) dX10_init_45 ?_
  refine ft_aload_n dX10_init_48 rfl ?_
  refine ft_new (nb := 46) (zb := 1630) (ci := 0) (q := (RX0, TX0, 9)) rfl ⟨(fc_b1 173 rfl rfl), (fc_b1 174 rfl rfl), (fc_b1 7 rfl rfl)⟩ hty_0 rfl (by decide) dX10_init_49 ?_
  show fc_T _ _ _ _ _ _ (.ref 31 :: _) (fc_SH.take 32) _ _ _
  refine ft_dup dX10_init_52 rfl ?_
  refine fc_callIN (nb' := 13) (zb' := 1308) (nb := 33) (zb := 322) (b := 31) (As := []) cf_X10_39 (k_X0_init) rfl (Nat.le_of_ble_eq_true rfl) rfl dX10_init_53 (fun v' sh' I' P' q => ?_)
  obtain ⟨rfl, rfl, rfl, rfl⟩ := q
  show fc_T _ _ _ _ _ _ _ (fc_SH.take 45) _ _ _
  refine ft_putRF fl_X10_40 rfl (fun q h => by cases h; exact ⟨rfl, rfl⟩) rfl rfl (by decide) (by decide) dX10_init_56 ?_
  refine ft_aload_n dX10_init_59 rfl ?_
  refine ft_getR (v := 31) fl_X10_40 rfl rfl (by decide) rfl dX10_init_60 ?_
  refine ft_ldcS (List.mem_of_getElem? (i := 0) rfl) dX10_init_63 ?_
  refine ft_V1v cf_X10_46 rfl (t_X0_write (wd_ctor P) (by decide) hw) (Nat.le_of_ble_eq_true rfl) dX10_init_65 (fun J' P' q => ?_)
  obtain ⟨rfl, rfl⟩ := q
  refine ft_aload_n dX10_init_68 rfl ?_
  refine ft_getR (v := 31) fl_X10_40 rfl rfl (by decide) rfl dX10_init_69 ?_
  refine ft_V0i cf_X10_50 rfl (t_X0_learn (wd_ctor P) hl) (Nat.le_of_ble_eq_true rfl) dX10_init_72 (fun r' J' P' q => ?_)
  obtain ⟨rfl, rfl, q⟩ := q
  obtain ⟨w, hv, rfl⟩ := Or.resolve_left q (fun z => absurd z.1 (by decide))
  refine ft_pop dX10_init_75 rfl ?_
  refine ft_aload_n dX10_init_76 rfl ?_
  refine ft_new (nb := 32) (zb := 312) (ci := 2) (q := (RX2, TX2, 10)) rfl ⟨(fc_b2 137 rfl rfl), (fc_b2 138 rfl rfl), (fc_b1 13 rfl rfl)⟩ hty_2 rfl (by decide) dX10_init_77 ?_
  show fc_T _ _ _ _ _ _ (.ref 45 :: _) (fc_SH.take 46) _ _ _
  refine ft_dup dX10_init_80 rfl ?_
  refine fc_callI (nb' := 8) (zb' := 38) (nb := 24) (zb := 274) (b := 45) (As := []) cf_X10_56 (k_X2_a) rfl (Nat.le_of_ble_eq_true rfl) rfl dX10_init_81 (fun v' sh' I' P' q => ?_)
  obtain ⟨rfl, rfl, rfl, rfl⟩ := q
  show fc_T _ _ _ _ _ _ _ (fc_SH.take 54) _ _ _
  refine ft_putRF fl_X10_57 rfl (fun q h => by cases h; exact ⟨rfl, rfl⟩) rfl rfl (by decide) (by decide) dX10_init_84 ?_
  refine ft_aload_n dX10_init_87 rfl ?_
  refine ft_new (nb := 23) (zb := 267) (ci := 4) (q := (RX4, TX4, 7)) rfl ⟨(fc_b2 197 rfl rfl), (fc_b2 198 rfl rfl), (fc_b1 14 rfl rfl)⟩ hty_4 rfl (by decide) dX10_init_88 ?_
  show fc_T _ _ _ _ _ _ (.ref 54 :: _) (fc_SH.take 55) _ _ _
  refine ft_dup dX10_init_91 rfl ?_
  refine ft_aload_n dX10_init_92 rfl ?_
  refine ft_getR (v := 1) fl_X10_10 rfl rfl (by decide) rfl dX10_init_93 ?_
  refine ft_aload_n dX10_init_96 rfl ?_
  refine ft_getR (v := 4) fl_X10_19 rfl rfl (by decide) rfl dX10_init_97 ?_
  refine ft_aload_n dX10_init_100 rfl ?_
  refine ft_getR (v := 10) fl_X10_26 rfl rfl (by decide) rfl dX10_init_101 ?_
  refine ft_aload_n dX10_init_104 rfl ?_
  refine ft_getR (v := 15) fl_X10_33 rfl rfl (by decide) rfl dX10_init_105 ?_
  refine ft_aload_n dX10_init_108 rfl ?_
  refine ft_getR (v := 31) fl_X10_40 rfl rfl (by decide) rfl dX10_init_109 ?_
  refine fc_callI (nb' := 2) (zb' := 20) (nb := 21) (zb := 247) (b := 54) (As := [.ref 1, .ref 4, .ref 10, .ref 15, .ref 31]) cf_X10_63 (k_X4_init) rfl (Nat.le_of_ble_eq_true rfl) rfl dX10_init_112 (fun v' sh' I' P' q => ?_)
  obtain ⟨rfl, rfl, rfl, rfl⟩ := q
  show fc_T _ _ _ _ _ _ _ (fc_SH.take 57) _ _ _
  refine ft_putRF fl_X10_66 rfl (fun q h => by cases h; exact ⟨rfl, rfl⟩) rfl rfl (by decide) (by decide) dX10_init_115 ?_
  refine ft_aload_n dX10_init_118 rfl ?_
  refine ft_new (nb := 20) (zb := 239) (ci := 3) (q := (RX3, TX3, 8)) rfl ⟨(fc_b2 226 rfl rfl), (fc_b2 227 rfl rfl), (fc_b1 15 rfl rfl)⟩ hty_3 rfl (by decide) dX10_init_119 ?_
  show fc_T _ _ _ _ _ _ (.ref 57 :: _) (fc_SH.take 58) _ _ _
  refine ft_dup dX10_init_122 rfl ?_
  refine ft_aload_n dX10_init_123 rfl ?_
  refine ft_getR (v := 1) fl_X10_10 rfl rfl (by decide) rfl dX10_init_124 ?_
  refine ft_aload_n dX10_init_127 rfl ?_
  refine ft_getR (v := 15) fl_X10_33 rfl rfl (by decide) rfl dX10_init_128 ?_
  refine ft_aload_n dX10_init_131 rfl ?_
  refine ft_getR (v := 45) fl_X10_57 rfl rfl (by decide) rfl dX10_init_132 ?_
  refine ft_aload_n dX10_init_135 rfl ?_
  refine ft_getR (v := 54) fl_X10_66 rfl rfl (by decide) rfl dX10_init_136 ?_
  refine fc_callI (nb' := 12) (zb' := 64) (nb := 8) (zb := 175) (b := 57) (As := [.ref 1, .ref 15, .ref 45, .ref 54]) cf_X10_72 (k_X3_init) rfl (Nat.le_of_ble_eq_true rfl) rfl dX10_init_139 (fun v' sh' I' P' q => ?_)
  obtain ⟨rfl, rfl, rfl, rfl⟩ := q
  show fc_T _ _ _ _ _ _ _ (fc_SH.take 70) _ _ _
  refine ft_putRF fl_X10_75 rfl (fun q h => by cases h; exact ⟨rfl, rfl⟩) rfl rfl (by decide) (by decide) dX10_init_142 ?_
  refine ft_aload_n dX10_init_145 rfl ?_
  refine ft_new (nb := 7) (zb := 172) (ci := 7) (q := (RX7, TX7, 3)) rfl ⟨(fc_b3 22 rfl rfl), (fc_b3 23 rfl rfl), (fc_b1 16 rfl rfl)⟩ hty_7 rfl (by decide) dX10_init_146 ?_
  show fc_T _ _ _ _ _ _ (.ref 70 :: _) (fc_SH.take 71) _ _ _
  refine ft_dup dX10_init_149 rfl ?_
  refine fc_callI (nb' := 7) (zb' := 172) (nb := 0) (zb := 0) (b := 70) (As := []) cf_X10_81 (k_X7_init) rfl (Nat.le_of_ble_eq_true rfl) rfl dX10_init_150 (fun v' sh' I' P' q => ?_)
  obtain ⟨rfl, rfl, rfl, rfl⟩ := q
  show fc_T _ _ _ _ _ _ _ (fc_SH.take 78) _ _ _
  refine ft_putRF fl_X10_82 rfl (fun q h => by cases h; exact ⟨rfl, rfl⟩) rfl rfl (by decide) (by decide) dX10_init_153 ?_
  exact ft_vret dX10_init_156 rfl ⟨rfl, rfl, rfl, w, hv, rfl⟩
