/-! ===== the library's own methods on texts ===== -/
theorem js_38 : Cond.fieldLink "java/lang/String" 38 "java/lang/String" "COMPACT_STRINGS" "Z" ∈ fc_tbl := fc_b2 24 rfl rfl
theorem js_1053 : Cond.fieldLink "java/lang/String" 1053 "jdk/internal/util/Preconditions" "SIOOBE_FORMATTER" "Ljava/util/function/BiFunction;" ∈ fc_tbl := fc_b2 40 rfl rfl
theorem js_9 : Cond.fieldLink "java/lang/String" 9 "java/lang/String" "value" "[B" ∈ fc_tbl := fc_b6 233 rfl rfl
theorem js_15 : Cond.fieldLink "java/lang/String" 15 "java/lang/String" "coder" "B" ∈ fc_tbl := fc_b6 234 rfl rfl
theorem fc_bytes : ∀ k, k < 12 → ∀ j, j < fc_len.getD k 0 → ((((fc_byt.getD k []).getD j 0 &&& 255) : Int32).toUInt32 % 65536).toInt32 = (fc_byt.getD k []).getD j 0 ∧ 0 ≤ ((fc_byt.getD k []).getD j 0).toInt ∧ ((fc_byt.getD k []).getD j 0).toInt < 128 := by decide +kernel
theorem fc_nchar {x : Int32} (h : 0 ≤ x.toInt ∧ x.toInt < 128) : narrow .char (.int x) = .int x := by
  obtain ⟨j, hj, rfl⟩ := vp_in_of (vp_in_iff.mpr (show 0 ≤ x.toInt ∧ x.toInt < ((128 : Nat) : Int) from h)) (by decide)
  have q : ∀ j, j < 128 → narrow .char (.int (nI j)) = .int (nI j) := by decide +kernel
  exact q j hj
def f_J0_length_8abf5 (k : Nat) : Option Int32 := some (Int32.ofNat (fc_len.getD k 0))
def f_J0_charAt_5068e (k : Nat) (i : Int32) : Option Int32 := fq_g (fc_len.getD k 0) i (some ((fc_byt.getD k []).getD (cn i) 0))
section JDK
variable {d k : Nat} {sh : fc_Sh} {P : fc_P} {I : fc_I}
set_option maxHeartbeats 4000000 in
set_option maxRecDepth 100000 in
theorem t_J0_coder (hkk : k < 12) : fc_Cp J0_coder_7d493 d [.ref (1000 + k)] sh I P 0 := by
  refine fc_Cp.of ⟨rfl, rfl⟩ (Nat.le_of_ble_eq_true rfl) rfl ?_
  refine ft_compact js_38 dJ0_coder_7d493_0 ?_
  refine fj_if_eq (tgt := 13) dJ0_coder_7d493_3 (by decide) (fun h => absurd h (by decide)) (fun _ => ?_)
  refine ft_aload_n dJ0_coder_7d493_6 rfl ?_
  refine ft_strC hkk js_15 dJ0_coder_7d493_7 ?_
  refine ft_goto (tgt := 14) dJ0_coder_7d493_10 (by decide) ?_
  exact ft_reti dJ0_coder_7d493_14 rfl rfl ⟨rfl, rfl, rfl⟩
set_option maxHeartbeats 4000000 in
set_option maxRecDepth 100000 in
theorem t_J0_isLatin1 (hkk : k < 12) : fc_Cp J0_isLatin1_aae02 d [.ref (1000 + k)] sh I P 1 := by
  refine fc_Cp.of ⟨rfl, rfl⟩ (Nat.le_of_ble_eq_true rfl) rfl ?_
  refine ft_compact js_38 dJ0_isLatin1_aae02_0 ?_
  refine fj_if_eq (tgt := 17) dJ0_isLatin1_aae02_3 (by decide) (fun h => absurd h (by decide)) (fun _ => ?_)
  refine ft_aload_n dJ0_isLatin1_aae02_6 rfl ?_
  refine ft_strC hkk js_15 dJ0_isLatin1_aae02_7 ?_
  refine fj_if_ne (tgt := 17) dJ0_isLatin1_aae02_10 (by decide) (fun h => absurd rfl h) (fun _ => ?_)
  refine ft_iconst (v := 1) dJ0_isLatin1_aae02_13 rfl ?_
  refine ft_goto (tgt := 18) dJ0_isLatin1_aae02_14 (by decide) ?_
  exact ft_reti dJ0_isLatin1_aae02_18 rfl rfl ⟨rfl, rfl, rfl⟩
set_option maxHeartbeats 4000000 in
set_option maxRecDepth 100000 in
theorem t_J0_length_8abf5 {r : Int32} (hkk : k < 12) (hf : f_J0_length_8abf5 k = some r) : fc_Cp J0_length_8abf5 (d + 1) [.ref (1000 + k)] sh I P r := by
  have e : r = Int32.ofNat (fc_len.getD k 0) >>> ((0 : Int32) &&& 31) := by
    cases hf
    have q : ∀ k, k < 12 → Int32.ofNat (fc_len.getD k 0) = Int32.ofNat (fc_len.getD k 0) >>> ((0 : Int32) &&& 31) := by decide +kernel
    exact q k hkk
  subst e
  refine fc_Cp.of ⟨rfl, rfl⟩ (Nat.le_of_ble_eq_true rfl) rfl ?_
  refine ft_aload_n dJ0_length_8abf5_0 rfl ?_
  refine ft_strV hkk js_9 dJ0_length_8abf5_1 ?_
  refine ft_strL hkk rfl dJ0_length_8abf5_4 ?_
  refine ft_aload_n dJ0_length_8abf5_5 rfl ?_
  refine ft_VS0p cf_J0_335 hkk (t_J0_coder hkk) (Nat.le_of_ble_eq_true rfl) dJ0_length_8abf5_6 ?_
  refine ft_ishr dJ0_length_8abf5_9 ?_
  exact ft_reti dJ0_length_8abf5_10 rfl rfl ⟨rfl, rfl, rfl⟩
set_option maxHeartbeats 4000000 in
set_option maxRecDepth 100000 in
theorem t_J3_a {i n : Int32} (h : 0 ≤ i.toInt ∧ i.toInt < n.toInt) : fc_Cp J3_checkIndex_8e157 d [.int i, .int n, .null] sh I P i := by
  refine fc_Cp.of ⟨rfl, rfl⟩ (Nat.le_of_ble_eq_true rfl) rfl ?_
  refine ft_iload_n dJ3_checkIndex_8e157_0 rfl ?_
  refine fj_if_lt (tgt := 9) dJ3_checkIndex_8e157_1 (by decide) (fun h1 => absurd h.1 (by omega)) (fun _ => ?_)
  refine ft_iload_n dJ3_checkIndex_8e157_4 rfl ?_
  refine ft_iload_n dJ3_checkIndex_8e157_5 rfl ?_
  refine fj_icmp_lt (tgt := 16) dJ3_checkIndex_8e157_6 (by decide) (fun _ => ?_) (fun h1 => absurd h.2 (by omega))
  refine ft_iload_n dJ3_checkIndex_8e157_16 rfl ?_
  exact ft_reti dJ3_checkIndex_8e157_17 rfl rfl ⟨rfl, rfl, rfl⟩
set_option maxHeartbeats 4000000 in
set_option maxRecDepth 100000 in
theorem t_J3_b {i n : Int32} (h : 0 ≤ i.toInt ∧ i.toInt < n.toInt) : fc_Cp J3_checkIndex_8e157 d [.int i, .int n, (.ref 1300)] sh I P i := by
  refine fc_Cp.of ⟨rfl, rfl⟩ (Nat.le_of_ble_eq_true rfl) rfl ?_
  refine ft_iload_n dJ3_checkIndex_8e157_0 rfl ?_
  refine fj_if_lt (tgt := 9) dJ3_checkIndex_8e157_1 (by decide) (fun h1 => absurd h.1 (by omega)) (fun _ => ?_)
  refine ft_iload_n dJ3_checkIndex_8e157_4 rfl ?_
  refine ft_iload_n dJ3_checkIndex_8e157_5 rfl ?_
  refine fj_icmp_lt (tgt := 16) dJ3_checkIndex_8e157_6 (by decide) (fun _ => ?_) (fun h1 => absurd h.2 (by omega))
  refine ft_iload_n dJ3_checkIndex_8e157_16 rfl ?_
  exact ft_reti dJ3_checkIndex_8e157_17 rfl rfl ⟨rfl, rfl, rfl⟩
set_option maxHeartbeats 4000000 in
set_option maxRecDepth 100000 in
theorem t_J0_check {i n : Int32} (h : 0 ≤ i.toInt ∧ i.toInt < n.toInt) : fc_Cv J0_checkIndex_df160 (d + 1) [.int i, .int n] sh I P (fun I' P' => I' = I ∧ P' = P) := by
  refine fc_Cv.of ⟨rfl, rfl⟩ (Nat.le_of_ble_eq_true rfl) rfl ?_
  refine ft_iload_n dJ0_checkIndex_df160_0 rfl ?_
  refine ft_iload_n dJ0_checkIndex_df160_1 rfl ?_
  refine ft_fmt js_1053 dJ0_checkIndex_df160_2 (fun z hz => ?_)
  rcases hz with rfl | rfl
  · refine ft_S3p cf_J0_1059 (t_J3_a h) (Nat.le_of_ble_eq_true rfl) dJ0_checkIndex_df160_5 ?_
    refine ft_pop dJ0_checkIndex_df160_8 rfl ?_
    exact ft_retv dJ0_checkIndex_df160_9 rfl ⟨rfl, rfl⟩
  · refine ft_S3p cf_J0_1059 (t_J3_b h) (Nat.le_of_ble_eq_true rfl) dJ0_checkIndex_df160_5 ?_
    refine ft_pop dJ0_checkIndex_df160_8 rfl ?_
    exact ft_retv dJ0_checkIndex_df160_9 rfl ⟨rfl, rfl⟩
set_option maxHeartbeats 4000000 in
set_option maxRecDepth 100000 in
theorem t_J1_charAt {i : Int32} (hkk : k < 12) (h : 0 ≤ i.toInt ∧ i.toInt < ((fc_len.getD k 0 : Nat) : Int)) : fc_Cp J1_charAt_3b067 (d + 2) [.ref (1000 + (200 + k)), .int i] sh I P ((fc_byt.getD k []).getD (cn i) 0) := by
  have q : ∀ k, k < 12 → (Int32.ofNat (fc_len.getD k 0)).toInt = ((fc_len.getD k 0 : Nat) : Int) := by decide +kernel
  obtain ⟨e1, e2⟩ := fc_bytes k hkk (cn i) (cn_lt h)
  refine fc_Cp.of ⟨rfl, rfl⟩ (Nat.le_of_ble_eq_true rfl) rfl ?_
  refine ft_iload_n dJ1_charAt_3b067_0 rfl ?_
  refine ft_aload_n dJ1_charAt_3b067_1 rfl ?_
  refine ft_strL hkk rfl dJ1_charAt_3b067_2 ?_
  refine ft_S2v cf_J1_9 (t_J0_check (by rw [q k hkk]; exact h)) (Nat.le_of_ble_eq_true rfl) dJ1_charAt_3b067_3 (fun J P' z => ?_)
  obtain ⟨rfl, rfl⟩ := z
  refine ft_aload_n dJ1_charAt_3b067_6 rfl ?_
  refine ft_iload_n dJ1_charAt_3b067_7 rfl ?_
  refine ft_strB hkk (vp_in_iff.mpr h) dJ1_charAt_3b067_8 ?_
  refine ft_sipush (v := 255) dJ1_charAt_3b067_9 rfl ?_
  refine ft_iand dJ1_charAt_3b067_12 ?_
  refine ft_i2c dJ1_charAt_3b067_13 ?_
  exact ft_reti dJ1_charAt_3b067_14 rfl (by rw [e1]; exact fc_nchar e2) ⟨e1, rfl, rfl⟩
set_option maxHeartbeats 4000000 in
set_option maxRecDepth 100000 in
theorem t_J0_charAt_5068e {i r : Int32} (hkk : k < 12) (hf : f_J0_charAt_5068e k i = some r) : fc_Cp J0_charAt_5068e (d + 3) [.ref (1000 + k), .int i] sh I P r := by
  obtain ⟨h, hf⟩ := fq_gs hf
  cases hf
  refine fc_Cp.of ⟨rfl, rfl⟩ (Nat.le_of_ble_eq_true rfl) rfl ?_
  refine ft_aload_n dJ0_charAt_5068e_0 rfl ?_
  refine ft_VS0p cf_J0_492 hkk (t_J0_isLatin1 hkk) (Nat.le_of_ble_eq_true rfl) dJ0_charAt_5068e_1 ?_
  refine fj_if_eq (tgt := 16) dJ0_charAt_5068e_4 (by decide) (fun z => absurd z (by decide)) (fun _ => ?_)
  refine ft_aload_n dJ0_charAt_5068e_7 rfl ?_
  refine ft_strV hkk js_9 dJ0_charAt_5068e_8 ?_
  refine ft_iload_n dJ0_charAt_5068e_11 rfl ?_
  refine ft_S2p cf_J0_495 (t_J1_charAt hkk h) (Nat.le_of_ble_eq_true rfl) dJ0_charAt_5068e_12 ?_
  exact ft_reti dJ0_charAt_5068e_15 rfl (fc_nchar (fc_bytes k hkk (cn i) (cn_lt h)).2) ⟨rfl, rfl, rfl⟩
end JDK
