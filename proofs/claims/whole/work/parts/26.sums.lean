/-- sums of n numbers from the k-th on -/
def sf (f : Nat → Int32) : Nat → Nat → Int32 → Int32
  | 0, _, x => x
  | n + 1, k, x => sf f n (k + 1) (x + f k)
theorem i_p1 {x : Int32} {N : Nat} (h0 : 0 ≤ x.toInt) (h1 : x.toInt < (N : Int)) (hN : N ≤ 100000) : (x + 1).toInt = x.toInt + 1 ∧ cn (x + 1) = cn x + 1 := by
  have e1 : (x + 1).toInt = x.toInt + 1 := i_add (by rw [kt_1]; omega) (by rw [kt_1]; omega)
  have e2 := cn_int (x := x + 1) (by omega)
  have e3 := cn_int h0
  exact ⟨e1, by omega⟩
theorem i_z (x : Int32) : x + 0 = x := by
  apply Int32.toBitVec_inj.mp
  simp
theorem e_sumX {c N : Nat} {I : fc_I} (hN : N ≤ 1000) : f_X10_sum c N I = some (sf (I c) N 0 0) := by
  have eN : (Int32.ofNat N).toInt = (N : Int) := Int32.toInt_ofNat_of_lt (by omega)
  have key := lpp2_S (B := f_X10_sum_10_B c N I (Int32.ofNat N)) (fun _ i => N - cn i) (fun _ i => 0 ≤ i.toInt ∧ i.toInt ≤ (N : Int)) (fun x i => some (sf (I c) (N - cn i) (cn i) x)) (fun k x i hi ih => by
    have ei := cn_int hi.1
    unfold f_X10_sum_10_B
    by_cases h : i.toInt < (Int32.ofNat N).toInt
    · rw [if_pos h, fq_gp ⟨hi.1, by omega⟩]
      rw [eN] at h
      obtain ⟨e1, e2⟩ := i_p1 hi.1 h (by omega)
      show k (x + I c (cn i)) (i + 1) = _
      rw [ih _ _ ⟨by omega, by omega⟩ (by omega), e2, show N - cn i = (N - (cn i + 1)) + 1 by omega]
      rfl
    · rw [if_neg h]
      rw [eN] at h
      rw [show N - cn i = 0 by omega]
      rfl)
  exact key 4000 0 0 ⟨by rw [kt_0]; omega, by rw [kt_0]; omega⟩ (by show N - cn 0 < 4000; omega)
theorem e_sumM {c N : Nat} {I : fc_I} {y : Int32} (hN : N ≤ 1000) (hy : y.toInt = (N : Int)) : f_X11_sumOf c N I y = some (sf (I c) N 0 0) := by
  have key := lpp2_S (B := f_X11_sumOf_4_B c N I y) (fun _ i => N - cn i) (fun _ i => 0 ≤ i.toInt ∧ i.toInt ≤ (N : Int)) (fun x i => some (sf (I c) (N - cn i) (cn i) x)) (fun k x i hi ih => by
    have ei := cn_int hi.1
    unfold f_X11_sumOf_4_B
    by_cases h : i.toInt < y.toInt
    · rw [if_pos h, fq_gp ⟨hi.1, by omega⟩]
      obtain ⟨e1, e2⟩ := i_p1 (N := N) hi.1 (by omega) (by omega)
      show k (x + I c (cn i)) (i + 1) = _
      rw [ih _ _ ⟨by omega, by omega⟩ (by omega), e2, show N - cn i = (N - (cn i + 1)) + 1 by omega]
      rfl
    · rw [if_neg h]
      rw [show N - cn i = 0 by omega]
      rfl)
  exact key 4000 0 0 ⟨by rw [kt_0]; omega, by rw [kt_0]; omega⟩ (by show N - cn 0 < 4000; omega)
theorem e_wetX {I : fc_I} (z t h : Int32) : f_X4_isWet I z t h = fq_g 3 t (fq_g 61 h (fq_g 6 z (some (if (I 2 (cn z)).toInt < (I (18 + cn t) (cn h)).toInt then 1 else 0)))) := by
  unfold f_X4_isWet
  by_cases q : (I 2 (cn z)).toInt < (I (18 + cn t) (cn h)).toInt
  · rw [if_pos q, if_pos q]
  · rw [if_neg q, if_neg q]
theorem e_wetM {I : fc_I} (z t h : Int32) : f_X11_isWet I z t h = fq_g 183 (((61 : Int32) * t) + h) (fq_g 6 z (some (if (I 79 (cn z)).toInt < (I 106 (cn (((61 : Int32) * t) + h))).toInt then 1 else 0))) := by
  unfold f_X11_isWet
  by_cases q : (I 79 (cn z)).toInt < (I 106 (cn (((61 : Int32) * t) + h))).toInt
  · rw [if_pos q, if_pos q]
  · rw [if_neg q, if_neg q]
theorem wq_at {I : fc_I} (he : aX 45 I = aM I) (t h : Int32) (ht : 0 ≤ t.toInt ∧ t.toInt ≤ 2) (hh : 0 ≤ h.toInt ∧ h.toInt ≤ 60) : (((61 : Int32) * t) + h).toInt = 61 * t.toInt + h.toInt ∧ I 106 (cn (((61 : Int32) * t) + h)) = I (18 + cn t) (cn h) ∧ I 107 (cn (((61 : Int32) * t) + h)) = I (22 + cn t) (cn h) := by
  have e0 : ((61 : Int32) * t).toInt = 61 * t.toInt := i_mul (by rw [kt_61]; omega) (by rw [kt_61]; omega)
  have e1 : (((61 : Int32) * t) + h).toInt = 61 * t.toInt + h.toInt := by rw [i_add (by rw [e0]; omega) (by rw [e0]; omega), e0]
  have c1 := cn_int ht.1
  have c2 := cn_int hh.1
  have c3 := cn_int (x := ((61 : Int32) * t) + h) (by omega)
  have e2 : cn (((61 : Int32) * t) + h) = 61 * cn t + cn h := by omega
  have a1 := congrFun (congrFun he 30) (61 * cn t + cn h)
  have a2 := congrFun (congrFun he 31) (61 * cn t + cn h)
  have d1 : (61 * cn t + cn h) / 61 = cn t := by omega
  have d2 : (61 * cn t + cn h) % 61 = cn h := by omega
  rw [ax_30, am_30] at a1
  rw [ax_31, am_31] at a2
  unfold aWa mWa at a1
  unfold aWi mWi at a2
  rw [if_pos (by omega), if_pos (by omega), d1, d2] at a1 a2
  rw [e2]
  exact ⟨e1, a1.symm, a2.symm⟩
set_option maxHeartbeats 4000000 in
set_option maxRecDepth 100000 in
theorem r_zoneTold {I : fc_I} {x1 x2 : Int32} (hR : Rel I) : PR (f_X10_zoneTold I x1 x2) (f_X11_zoneTold I x1 x2) := by
  have he := hR.1
  have hw0 : (0 ≤ (I 45 9).toInt ∧ (I 45 9).toInt ≤ (I 15 11).toInt ∧ 1 ≤ (I 15 11).toInt ∧ (I 15 11).toInt ≤ 60) ∧ (0 ≤ (I 1 2).toInt ∧ (I 1 2).toInt ≤ 6) ∧ (0 ≤ (I 1 3).toInt ∧ (I 1 3).toInt ≤ 3) ∧ (0 ≤ (I 4 5).toInt ∧ (I 4 5).toInt ≤ 14) ∧ (0 ≤ (I 10 4).toInt ∧ (I 10 4).toInt ≤ 4) ∧ (0 ≤ (I 15 10).toInt ∧ (I 15 10).toInt ≤ 2) ∧ (0 ≤ (I 15 9).toInt ∧ (I 15 9).toInt ≤ 40) ∧ (0 ≤ (I 31 6).toInt ∧ (I 31 6).toInt ≤ 160) ∧ (1 ≤ (I 31 7).toInt ∧ (I 31 7).toInt ≤ 6) ∧ (0 ≤ (I 31 8).toInt ∧ (I 31 8).toInt < (I 31 7).toInt) := hR.2.1.1
  obtain ⟨⟨w1, w2, w3, w4⟩, ⟨w5, w6⟩, ⟨w7, w8⟩, ⟨w9, w10⟩, ⟨w11, w12⟩, ⟨w13, w14⟩, ⟨w15, w16⟩, ⟨w17, w18⟩, ⟨w19, w20⟩, ⟨w21, w22⟩⟩ := hw0
  have f3 := wq_at he (I 15 10) (I 45 9) ⟨by omega, by omega⟩ ⟨by omega, by omega⟩
  simp only [f_X10_zoneTold, f_X11_zoneTold, e_wetX, e_wetM, e_isOutside, e_isIn, e_isNoTrack, e_isNoSheet, e_isTrack, e_isSheet, e_isZone, e_isShelter, e_isRoad, e_isBus, e_isNoZone (I := I) (h := ⟨w5, by omega⟩), e_isNoShelter (I := I) (h := ⟨w7, by omega⟩), e_isNoRoad (I := I) (h := ⟨w9, by omega⟩), e_isNoGoal (I := I) (h := ⟨w5, w6, w7, w8⟩), e_isGoal, e_m1 (x := I 10 4) (h := ⟨w11, by omega⟩), e_m1 (x := I 31 7) (h := ⟨by omega, by omega⟩), e_l1, fq_b_g, fq_v_g, fq_u_g, fq_b_i, fq_v_i, fq_u_i, fq_usome, fq_vsome, fq_bsome, fq_l, fq_zb, b2i, Int32.toInt_toInt64, kt_m100, kl_m100, kt_m18, kl_m18, kt_m17, kl_m17, kt_m16, kl_m16, kt_m14, kl_m14, kt_m13, kl_m13, kt_m12, kl_m12, kt_m11, kl_m11, kt_m9, kl_m9, kt_m6, kl_m6, kt_m5, kl_m5, kt_m4, kl_m4, kt_m3, kl_m3, kt_m2, kl_m2, kt_m1, kl_m1, kt_0, kl_0, kt_1, kl_1, kt_2, kl_2, kt_3, kl_3, kt_4, kl_4, kt_5, kl_5, kt_6, kl_6, kt_7, kl_7, kt_8, kl_8, kt_9, kl_9, kt_10, kl_10, kt_11, kl_11, kt_12, kl_12, kt_13, kl_13, kt_14, kl_14, kt_15, kl_15, kt_16, kl_16, kt_17, kl_17, kt_18, kl_18, kt_19, kl_19, kt_20, kl_20, kt_21, kl_21, kt_22, kl_22, kt_23, kl_23, kt_24, kl_24, kt_25, kl_25, kt_26, kl_26, kt_27, kl_27, kt_28, kl_28, kt_29, kl_29, kt_30, kl_30, kt_31, kl_31, kt_32, kl_32, kt_33, kl_33, kt_34, kl_34, kt_35, kl_35, kt_36, kl_36, kt_37, kl_37, kt_38, kl_38, kt_39, kl_39, kt_40, kl_40, kt_41, kl_41, kt_42, kl_42, kt_43, kl_43, kt_44, kl_44, kt_45, kl_45, kt_46, kl_46, kt_47, kl_47, kt_48, kl_48, kt_49, kl_49, kt_50, kl_50, kt_51, kl_51, kt_52, kl_52, kt_53, kl_53, kt_54, kl_54, kt_55, kl_55, kt_56, kl_56, kt_57, kl_57, kt_58, kl_58, kt_59, kl_59, kt_60, kl_60, kt_61, kl_61, kt_62, kl_62, kt_63, kl_63, kt_64, kl_64, kt_65, kl_65, kt_97, kl_97, kt_99, kl_99, kt_100, kl_100, kt_122, kl_122, kt_159, kl_159, kt_160, kl_160, kt_161, kl_161, kt_170, kl_170, kt_999, kl_999, kt_9999, kl_9999, kt_99999, kl_99999, kt_1000000, kl_1000000]
  all_goals try simp only [kt_m100, kl_m100, kt_m18, kl_m18, kt_m17, kl_m17, kt_m16, kl_m16, kt_m14, kl_m14, kt_m13, kl_m13, kt_m12, kl_m12, kt_m11, kl_m11, kt_m9, kl_m9, kt_m6, kl_m6, kt_m5, kl_m5, kt_m4, kl_m4, kt_m3, kl_m3, kt_m2, kl_m2, kt_m1, kl_m1, kt_0, kl_0, kt_1, kl_1, kt_2, kl_2, kt_3, kl_3, kt_4, kl_4, kt_5, kl_5, kt_6, kl_6, kt_7, kl_7, kt_8, kl_8, kt_9, kl_9, kt_10, kl_10, kt_11, kl_11, kt_12, kl_12, kt_13, kl_13, kt_14, kl_14, kt_15, kl_15, kt_16, kl_16, kt_17, kl_17, kt_18, kl_18, kt_19, kl_19, kt_20, kl_20, kt_21, kl_21, kt_22, kl_22, kt_23, kl_23, kt_24, kl_24, kt_25, kl_25, kt_26, kl_26, kt_27, kl_27, kt_28, kl_28, kt_29, kl_29, kt_30, kl_30, kt_31, kl_31, kt_32, kl_32, kt_33, kl_33, kt_34, kl_34, kt_35, kl_35, kt_36, kl_36, kt_37, kl_37, kt_38, kl_38, kt_39, kl_39, kt_40, kl_40, kt_41, kl_41, kt_42, kl_42, kt_43, kl_43, kt_44, kl_44, kt_45, kl_45, kt_46, kl_46, kt_47, kl_47, kt_48, kl_48, kt_49, kl_49, kt_50, kl_50, kt_51, kl_51, kt_52, kl_52, kt_53, kl_53, kt_54, kl_54, kt_55, kl_55, kt_56, kl_56, kt_57, kl_57, kt_58, kl_58, kt_59, kl_59, kt_60, kl_60, kt_61, kl_61, kt_62, kl_62, kt_63, kl_63, kt_64, kl_64, kt_65, kl_65, kt_97, kl_97, kt_99, kl_99, kt_100, kl_100, kt_122, kl_122, kt_159, kl_159, kt_160, kl_160, kt_161, kl_161, kt_170, kl_170, kt_999, kl_999, kt_9999, kl_9999, kt_99999, kl_99999, kt_1000000, kl_1000000, e_m1 (x := I 10 4) (h := ⟨w11, by omega⟩), e_m1 (x := I 31 7) (h := ⟨by omega, by omega⟩), e_m1 (x := I 1 2) (h := ⟨by omega, by omega⟩), Int32.toInt_toInt64, e_l1, fc_wI_lo, fc_wI_at, fc_wI_c, ne_eq, Nat.reduceEqDiff, not_false_eq_true, reduceCtorEq, if_true, if_false, ite_true, ite_false, q0_0 he, q0_1 he, q0_2 he, q0_3 he, q0_4 he, q0_5 he, q0_6 he, q0_7 he, q0_8 he, q0_9 he, q0_10 he, q0_11 he, qr_79 he, qr_80 he, qr_81 he, qr_82 he, qr_83 he, qr_84 he, qr_86 he, qr_88 he, qr_89 he, qr_90 he, qr_91 he, qr_92 he, qr_93 he, qr_94 he, qr_95 he, qr_96 he, qr_97 he, qr_98 he, qr_99 he, qr_100 he, qr_101 he, qr_102 he, qr_103 he, qr_104 he, qr_105 he, qr_126 he, qr_127 he, qr_7 he, f3.1, f3.2.1, f3.2.2]
  repeat' (first | with_reducible refine PR_ite (fun _ => ?_) (fun _ => ?_) | refine PR_g (by constructor <;> omega) ?_ | refine PR_some ?_)
  all_goals repeat' (first | with_reducible refine PM_pos (by omega) ?_ | with_reducible refine PM_neg (by omega) ?_ | refine PM_g (by constructor <;> omega) ?_ | refine PM_some ?_ | with_reducible refine PM_ite (fun _ => ?_) (fun _ => ?_))
  all_goals first | rfl | skip
set_option maxHeartbeats 4000000 in
set_option maxRecDepth 100000 in
theorem r_count {I : fc_I} {x1 : Int32} (hR : Rel I) : PR (f_X10_count I x1) (f_X11_count I x1) := by
  have he := hR.1
  have hw0 : (0 ≤ (I 45 9).toInt ∧ (I 45 9).toInt ≤ (I 15 11).toInt ∧ 1 ≤ (I 15 11).toInt ∧ (I 15 11).toInt ≤ 60) ∧ (0 ≤ (I 1 2).toInt ∧ (I 1 2).toInt ≤ 6) ∧ (0 ≤ (I 1 3).toInt ∧ (I 1 3).toInt ≤ 3) ∧ (0 ≤ (I 4 5).toInt ∧ (I 4 5).toInt ≤ 14) ∧ (0 ≤ (I 10 4).toInt ∧ (I 10 4).toInt ≤ 4) ∧ (0 ≤ (I 15 10).toInt ∧ (I 15 10).toInt ≤ 2) ∧ (0 ≤ (I 15 9).toInt ∧ (I 15 9).toInt ≤ 40) ∧ (0 ≤ (I 31 6).toInt ∧ (I 31 6).toInt ≤ 160) ∧ (1 ≤ (I 31 7).toInt ∧ (I 31 7).toInt ≤ 6) ∧ (0 ≤ (I 31 8).toInt ∧ (I 31 8).toInt < (I 31 7).toInt) := hR.2.1.1
  obtain ⟨⟨w1, w2, w3, w4⟩, ⟨w5, w6⟩, ⟨w7, w8⟩, ⟨w9, w10⟩, ⟨w11, w12⟩, ⟨w13, w14⟩, ⟨w15, w16⟩, ⟨w17, w18⟩, ⟨w19, w20⟩, ⟨w21, w22⟩⟩ := hw0
  simp only [f_X10_count, f_X11_count, e_sumX (N := 6) (by decide), e_sumX (N := 4) (by decide), e_sumX (N := 3) (by decide), e_sumM (N := 6) (y := 6) (by decide) (by decide), e_sumM (N := 4) (y := 4) (by decide) (by decide), e_sumM (N := 3) (y := 3) (by decide) (by decide), e_isOutside, e_isIn, e_isNoTrack, e_isNoSheet, e_isTrack, e_isSheet, e_isZone, e_isShelter, e_isRoad, e_isBus, e_isNoZone (I := I) (h := ⟨w5, by omega⟩), e_isNoShelter (I := I) (h := ⟨w7, by omega⟩), e_isNoRoad (I := I) (h := ⟨w9, by omega⟩), e_isNoGoal (I := I) (h := ⟨w5, w6, w7, w8⟩), e_isGoal, e_m1 (x := I 10 4) (h := ⟨w11, by omega⟩), e_m1 (x := I 31 7) (h := ⟨by omega, by omega⟩), e_l1, fq_b_g, fq_v_g, fq_u_g, fq_b_i, fq_v_i, fq_u_i, fq_usome, fq_vsome, fq_bsome, fq_l, fq_zb, b2i, Int32.toInt_toInt64, kt_m100, kl_m100, kt_m18, kl_m18, kt_m17, kl_m17, kt_m16, kl_m16, kt_m14, kl_m14, kt_m13, kl_m13, kt_m12, kl_m12, kt_m11, kl_m11, kt_m9, kl_m9, kt_m6, kl_m6, kt_m5, kl_m5, kt_m4, kl_m4, kt_m3, kl_m3, kt_m2, kl_m2, kt_m1, kl_m1, kt_0, kl_0, kt_1, kl_1, kt_2, kl_2, kt_3, kl_3, kt_4, kl_4, kt_5, kl_5, kt_6, kl_6, kt_7, kl_7, kt_8, kl_8, kt_9, kl_9, kt_10, kl_10, kt_11, kl_11, kt_12, kl_12, kt_13, kl_13, kt_14, kl_14, kt_15, kl_15, kt_16, kl_16, kt_17, kl_17, kt_18, kl_18, kt_19, kl_19, kt_20, kl_20, kt_21, kl_21, kt_22, kl_22, kt_23, kl_23, kt_24, kl_24, kt_25, kl_25, kt_26, kl_26, kt_27, kl_27, kt_28, kl_28, kt_29, kl_29, kt_30, kl_30, kt_31, kl_31, kt_32, kl_32, kt_33, kl_33, kt_34, kl_34, kt_35, kl_35, kt_36, kl_36, kt_37, kl_37, kt_38, kl_38, kt_39, kl_39, kt_40, kl_40, kt_41, kl_41, kt_42, kl_42, kt_43, kl_43, kt_44, kl_44, kt_45, kl_45, kt_46, kl_46, kt_47, kl_47, kt_48, kl_48, kt_49, kl_49, kt_50, kl_50, kt_51, kl_51, kt_52, kl_52, kt_53, kl_53, kt_54, kl_54, kt_55, kl_55, kt_56, kl_56, kt_57, kl_57, kt_58, kl_58, kt_59, kl_59, kt_60, kl_60, kt_61, kl_61, kt_62, kl_62, kt_63, kl_63, kt_64, kl_64, kt_65, kl_65, kt_97, kl_97, kt_99, kl_99, kt_100, kl_100, kt_122, kl_122, kt_159, kl_159, kt_160, kl_160, kt_161, kl_161, kt_170, kl_170, kt_999, kl_999, kt_9999, kl_9999, kt_99999, kl_99999, kt_1000000, kl_1000000]
  all_goals try simp only [kt_m100, kl_m100, kt_m18, kl_m18, kt_m17, kl_m17, kt_m16, kl_m16, kt_m14, kl_m14, kt_m13, kl_m13, kt_m12, kl_m12, kt_m11, kl_m11, kt_m9, kl_m9, kt_m6, kl_m6, kt_m5, kl_m5, kt_m4, kl_m4, kt_m3, kl_m3, kt_m2, kl_m2, kt_m1, kl_m1, kt_0, kl_0, kt_1, kl_1, kt_2, kl_2, kt_3, kl_3, kt_4, kl_4, kt_5, kl_5, kt_6, kl_6, kt_7, kl_7, kt_8, kl_8, kt_9, kl_9, kt_10, kl_10, kt_11, kl_11, kt_12, kl_12, kt_13, kl_13, kt_14, kl_14, kt_15, kl_15, kt_16, kl_16, kt_17, kl_17, kt_18, kl_18, kt_19, kl_19, kt_20, kl_20, kt_21, kl_21, kt_22, kl_22, kt_23, kl_23, kt_24, kl_24, kt_25, kl_25, kt_26, kl_26, kt_27, kl_27, kt_28, kl_28, kt_29, kl_29, kt_30, kl_30, kt_31, kl_31, kt_32, kl_32, kt_33, kl_33, kt_34, kl_34, kt_35, kl_35, kt_36, kl_36, kt_37, kl_37, kt_38, kl_38, kt_39, kl_39, kt_40, kl_40, kt_41, kl_41, kt_42, kl_42, kt_43, kl_43, kt_44, kl_44, kt_45, kl_45, kt_46, kl_46, kt_47, kl_47, kt_48, kl_48, kt_49, kl_49, kt_50, kl_50, kt_51, kl_51, kt_52, kl_52, kt_53, kl_53, kt_54, kl_54, kt_55, kl_55, kt_56, kl_56, kt_57, kl_57, kt_58, kl_58, kt_59, kl_59, kt_60, kl_60, kt_61, kl_61, kt_62, kl_62, kt_63, kl_63, kt_64, kl_64, kt_65, kl_65, kt_97, kl_97, kt_99, kl_99, kt_100, kl_100, kt_122, kl_122, kt_159, kl_159, kt_160, kl_160, kt_161, kl_161, kt_170, kl_170, kt_999, kl_999, kt_9999, kl_9999, kt_99999, kl_99999, kt_1000000, kl_1000000, e_m1 (x := I 10 4) (h := ⟨w11, by omega⟩), e_m1 (x := I 31 7) (h := ⟨by omega, by omega⟩), e_m1 (x := I 1 2) (h := ⟨by omega, by omega⟩), Int32.toInt_toInt64, e_l1, fc_wI_lo, fc_wI_at, fc_wI_c, ne_eq, Nat.reduceEqDiff, not_false_eq_true, reduceCtorEq, if_true, if_false, ite_true, ite_false, q0_0 he, q0_1 he, q0_2 he, q0_3 he, q0_4 he, q0_5 he, q0_6 he, q0_7 he, q0_8 he, q0_9 he, q0_10 he, q0_11 he, qr_79 he, qr_80 he, qr_81 he, qr_82 he, qr_83 he, qr_84 he, qr_86 he, qr_88 he, qr_89 he, qr_90 he, qr_91 he, qr_92 he, qr_93 he, qr_94 he, qr_95 he, qr_96 he, qr_97 he, qr_98 he, qr_99 he, qr_100 he, qr_101 he, qr_102 he, qr_103 he, qr_104 he, qr_105 he, qr_126 he, qr_127 he, qr_7 he]
  repeat' (first | with_reducible refine PR_ite (fun _ => ?_) (fun _ => ?_) | refine PR_g (by constructor <;> omega) ?_ | refine PR_some ?_)
  all_goals repeat' (first | with_reducible refine PM_pos (by omega) ?_ | with_reducible refine PM_neg (by omega) ?_ | refine PM_g (by constructor <;> omega) ?_ | refine PM_some ?_ | with_reducible refine PM_ite (fun _ => ?_) (fun _ => ?_))
  all_goals first | rfl | skip
