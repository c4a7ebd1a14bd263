theorem wr_at {I : fc_I} (h : WfR (aX 45 I)) (x : Int32) : 0 ≤ x.toInt → x.toInt < (I 4 5).toInt → (0 ≤ (I 5 (cn x)).toInt ∧ (I 5 (cn x)).toInt ≤ 5) ∧ (0 ≤ (I 6 (cn x)).toInt ∧ (I 6 (cn x)).toInt < (I 1 2).toInt) ∧ (0 ≤ (I 7 (cn x)).toInt ∧ ((I 7 (cn x)).toInt < 6 ∨ 10 ≤ (I 7 (cn x)).toInt ∧ (I 7 (cn x)).toInt < 13 ∨ (I 7 (cn x)).toInt = 20)) ∧ (1 ≤ (I 8 (cn x)).toInt ∧ (I 8 (cn x)).toInt ≤ 9999) ∧ (-1 ≤ (I 9 (cn x)).toInt ∧ (I 9 (cn x)).toInt ≤ (I 45 9).toInt) := fun h1 h2 => h (cn x) (by have := cn_int h1; show (cn x : Int) < (I 4 5).toInt; omega)
theorem wl_at {I : fc_I} (h : WfL (aX 45 I)) (x : Int32) : 0 ≤ x.toInt → x.toInt ≤ 2 → (I 16 (cn x)).toInt = 0 ∨ (I 16 (cn x)).toInt = 1 := fun h1 h2 => h (cn x) (by have := cn_int h1; omega)
theorem e_m1 {x : Int32} (h : 0 ≤ x.toInt ∧ x.toInt ≤ 1000) : (x - 1).toInt = x.toInt - 1 := i_sub (by rw [show (1 : Int32).toInt = 1 from rfl]; omega) (by rw [show (1 : Int32).toInt = 1 from rfl]; omega)
theorem e_l1 {x : Int32} : (x.toInt64 - 1).toInt = x.toInt - 1 := by
  have h1 := Int32.le_toInt x
  have h2 := Int32.toInt_lt x
  rw [Int64.toInt_sub, Int32.toInt_toInt64, kl_1, Int.bmod_eq_of_le (by omega) (by omega)]
theorem e_isNoGoal {I : fc_I} (t : Int32) (h : 0 ≤ (I 1 2).toInt ∧ (I 1 2).toInt ≤ 6 ∧ 0 ≤ (I 1 3).toInt ∧ (I 1 3).toInt ≤ 3) : f_X10_isNoGoal I t = some (if (t.toInt < 0 ∨ (I 1 2).toInt ≤ t.toInt) ∧ (t.toInt < 10 ∨ 10 + (I 1 3).toInt ≤ t.toInt) ∧ ¬ t.toInt = 20 then 1 else 0) := by
  unfold f_X10_isNoGoal
  have e1 : ((10 : Int32) + I 1 3 - 1).toInt = 10 + (I 1 3).toInt - 1 := by rw [i_sub (by rw [i_add (by simp; omega) (by simp; omega)]; simp; omega) (by rw [i_add (by simp; omega) (by simp; omega)]; simp; omega), i_add (by simp; omega) (by simp; omega)]; rfl
  simp only [e_isNoZone (I := I) (h := ⟨h.1, by omega⟩), e_isOutside, fq_vsome, b2i, e1, kt_20, kt_10]
  by_cases h1 : t.toInt < 0 ∨ (I 1 2).toInt ≤ t.toInt
  · rw [if_neg (not_not_intro h1)]
    by_cases h2 : t.toInt < 10 ∨ 10 + (I 1 3).toInt - 1 < t.toInt
    · rw [if_neg (not_not_intro h2)]
      by_cases h3 : t.toInt = 20
      · rw [if_pos h3, if_neg (by omega)]
      · rw [if_neg h3, if_pos (by omega)]
    · rw [if_pos h2, if_neg (by omega)]
  · rw [if_pos h1, if_neg (by omega)]
theorem e_isGoal {I : fc_I} (t : Int32) : f_X11_isGoal I t = some (if t.toInt = 20 ∨ (0 ≤ t.toInt ∧ t.toInt < (I 78 2).toInt) ∨ (0 ≤ (t - 10).toInt ∧ (t - 10).toInt < (I 78 9).toInt) then 1 else 0) := by
  unfold f_X11_isGoal
  simp only [e_isZone, e_isShelter, fq_vsome, b2i, kt_20]
  by_cases h1 : t.toInt = 20
  · rw [if_pos h1, if_pos (Or.inl h1)]
  · rw [if_neg h1]
    by_cases h2 : 0 ≤ t.toInt ∧ t.toInt < (I 78 2).toInt
    · rw [if_neg (not_not_intro h2), if_pos (Or.inr (Or.inl h2))]
    · rw [if_pos h2]
      by_cases h3 : 0 ≤ (t - 10).toInt ∧ (t - 10).toInt < (I 78 9).toInt
      · rw [if_neg (not_not_intro h3), if_pos (Or.inr (Or.inr h3))]
      · rw [if_pos h3, if_neg (fun q => by rcases q with q | q | q; exact h1 q; exact h2 q; exact h3 q)]
theorem e_t10 (t : Int32) (h : -2147483638 ≤ t.toInt) : (t - 10).toInt = t.toInt - 10 := by
  have := Int32.toInt_le t
  exact i_sub (by rw [kt_10]; omega) (by rw [kt_10]; have := Int32.toInt_lt t; omega)
theorem e_t10' (t : Int32) : (-2147483638 ≤ t.toInt → (t - 10).toInt = t.toInt - 10) ∧ (t.toInt < -2147483638 → 1000 < (t - 10).toInt) := by
  have h1 := Int32.toInt_lt t
  have h2 := Int32.le_toInt t
  refine ⟨e_t10 t, fun h => ?_⟩
  rw [Int32.toInt_sub, kt_10, show t.toInt - 10 = t.toInt - 10 from rfl]
  have e : (t.toInt - 10).bmod (2 ^ 32) = t.toInt - 10 + 4294967296 := by
    have q := Int.add_bmod_right (t.toInt - 10) (2 ^ 32)
    rw [← q, Int.bmod_eq_of_le (by omega) (by omega)]
    omega
  rw [e]
  omega
set_option maxHeartbeats 4000000 in
set_option maxRecDepth 100000 in
theorem wf_zone {A : fc_I} (hw : Wf A) {h o l : Int32} (c0 : (A 0 0).toInt ≤ 0) (c1 : (A 0 2).toInt < 6) (ch : 0 ≤ h.toInt ∧ h.toInt ≤ 99) (co : 0 ≤ o.toInt ∧ o.toInt ≤ 99999) (cl : 0 ≤ l.toInt ∧ l.toInt ≤ 999) : Wf (fc_wI (fc_wI (fc_wI (fc_wI A 0 2 (A 0 2 + 1)) 1 (cn (A 0 2)) h) 2 (cn (A 0 2)) o) 4 (cn (A 0 2)) l) := by
  obtain ⟨h0, hr, hb, hs, hl, hz, hn⟩ := hw
  obtain ⟨⟨w1, w2, w3, w4⟩, ⟨w5, w6⟩, ⟨w7, w8⟩, ⟨w9, w10⟩, ⟨w11, w12⟩, ⟨w13, w14⟩, ⟨w15, w16⟩, ⟨w17, w18⟩, ⟨w19, w20⟩, ⟨w21, w22⟩⟩ := h0
  have e1 : (A 0 2 + 1).toInt = (A 0 2).toInt + 1 := i_add (by rw [kt_1]; omega) (by rw [kt_1]; omega)
  have e2 := cn_int (x := A 0 2) (by omega)
  have km1 : (-1 : Int32).toInt = -1 := rfl
  refine ⟨?_, ?_, ?_, ?_, ?_, ?_, ?_⟩
  · unfold Wf0
    simp only [fc_wI_lo, fc_wI_at, ne_eq, Nat.reduceEqDiff, not_false_eq_true, if_true, if_false, ite_true, ite_false, kt_1, kt_0, kt_m1]
    omega
  · intro r
    have q := hr r
    simp only [fc_wI_lo, fc_wI_at, ne_eq, Nat.reduceEqDiff, not_false_eq_true, if_true, if_false, ite_true, ite_false, kt_1, kt_0, kt_m1]
    first | exact q | (repeat' split) <;> omega
  · intro r
    have q := hb r
    simp only [fc_wI_lo, fc_wI_at, ne_eq, Nat.reduceEqDiff, not_false_eq_true, if_true, if_false, ite_true, ite_false, kt_1, kt_0, kt_m1]
    first | exact q | (repeat' split) <;> omega
  · intro r
    have q := hs r
    simp only [fc_wI_lo, fc_wI_at, ne_eq, Nat.reduceEqDiff, not_false_eq_true, if_true, if_false, ite_true, ite_false, kt_1, kt_0, kt_m1]
    first | exact q | (repeat' split) <;> omega
  · intro r
    have q := hl r
    simp only [fc_wI_lo, fc_wI_at, ne_eq, Nat.reduceEqDiff, not_false_eq_true, if_true, if_false, ite_true, ite_false, kt_1, kt_0, kt_m1]
    first | exact q | (repeat' split) <;> omega
  · intro r
    have q := hz r
    simp only [fc_wI_lo, fc_wI_at, ne_eq, Nat.reduceEqDiff, not_false_eq_true, if_true, if_false, ite_true, ite_false, kt_1, kt_0, kt_m1]
    first | exact q | (repeat' split) <;> omega
  · obtain ⟨hg, hh, ht⟩ := hn
    refine ⟨?_, ?_, ?_⟩
    · intro r
      have q := hg r
      simp only [fc_wI_lo, fc_wI_at, ne_eq, Nat.reduceEqDiff, not_false_eq_true, if_true, if_false, ite_true, ite_false, kt_1, kt_0, kt_m1]
      first | exact q | (repeat' split) <;> omega
    · unfold WfH wS at hh ⊢
      simp only [fc_wI_lo, fc_wI_at, ne_eq, Nat.reduceEqDiff, not_false_eq_true, if_true, if_false, ite_true, ite_false, kt_1, kt_0, kt_m1]
      first | exact hh | (
        obtain ⟨q1, q2⟩ := hh
        refine ⟨q1, ?_⟩
        have z0 := (hz 0 (by decide)).2.2.2.2.1
        have z1 := (hz 1 (by decide)).2.2.2.2.1
        have z2 := (hz 2 (by decide)).2.2.2.2.1
        have z3 := (hz 3 (by decide)).2.2.2.2.1
        have z4 := (hz 4 (by decide)).2.2.2.2.1
        have z5 := (hz 5 (by decide)).2.2.2.2.1
        rcases (show cn (A 0 2) = 0 ∨ cn (A 0 2) = 1 ∨ cn (A 0 2) = 2 ∨ cn (A 0 2) = 3 ∨ cn (A 0 2) = 4 ∨ cn (A 0 2) = 5 by omega) with e | e | e | e | e | e
        all_goals (simp (config := {decide := true}) only [e, if_true, if_false, ite_true, ite_false]; omega))
    · unfold WfT at ht ⊢
      simp only [fc_wI_lo, fc_wI_at, ne_eq, Nat.reduceEqDiff, not_false_eq_true, if_true, if_false, ite_true, ite_false, kt_1, kt_0, kt_m1]
      exact ht
set_option maxHeartbeats 4000000 in
set_option maxRecDepth 100000 in
theorem wf_use {A : fc_I} (hw : Wf A) {x z : Int32} (cx : 0 ≤ x.toInt ∧ x.toInt < (A 0 4).toInt) (cz : 0 ≤ z.toInt ∧ z.toInt < (A 0 2).toInt) : Wf (fc_wI A 6 (cn z) x) := by
  obtain ⟨h0, hr, hb, hs, hl, hz, hn⟩ := hw
  obtain ⟨⟨w1, w2, w3, w4⟩, ⟨w5, w6⟩, ⟨w7, w8⟩, ⟨w9, w10⟩, ⟨w11, w12⟩, ⟨w13, w14⟩, ⟨w15, w16⟩, ⟨w17, w18⟩, ⟨w19, w20⟩, ⟨w21, w22⟩⟩ := h0
  have e2 := cn_int (x := z) (by omega)
  have km1 : (-1 : Int32).toInt = -1 := rfl
  refine ⟨?_, ?_, ?_, ?_, ?_, ?_, ?_⟩
  · unfold Wf0
    simp only [fc_wI_lo, fc_wI_at, ne_eq, Nat.reduceEqDiff, not_false_eq_true, if_true, if_false, ite_true, ite_false, kt_1, kt_0, kt_m1]
    omega
  · intro r
    have q := hr r
    simp only [fc_wI_lo, fc_wI_at, ne_eq, Nat.reduceEqDiff, not_false_eq_true, if_true, if_false, ite_true, ite_false, kt_1, kt_0, kt_m1]
    first | exact q | (repeat' split) <;> omega
  · intro r
    have q := hb r
    simp only [fc_wI_lo, fc_wI_at, ne_eq, Nat.reduceEqDiff, not_false_eq_true, if_true, if_false, ite_true, ite_false, kt_1, kt_0, kt_m1]
    first | exact q | (repeat' split) <;> omega
  · intro r
    have q := hs r
    simp only [fc_wI_lo, fc_wI_at, ne_eq, Nat.reduceEqDiff, not_false_eq_true, if_true, if_false, ite_true, ite_false, kt_1, kt_0, kt_m1]
    first | exact q | (repeat' split) <;> omega
  · intro r
    have q := hl r
    simp only [fc_wI_lo, fc_wI_at, ne_eq, Nat.reduceEqDiff, not_false_eq_true, if_true, if_false, ite_true, ite_false, kt_1, kt_0, kt_m1]
    first | exact q | (repeat' split) <;> omega
  · intro r
    have q := hz r
    simp only [fc_wI_lo, fc_wI_at, ne_eq, Nat.reduceEqDiff, not_false_eq_true, if_true, if_false, ite_true, ite_false, kt_1, kt_0, kt_m1]
    first | exact q | (repeat' split) <;> omega
  · obtain ⟨hg, hh, ht⟩ := hn
    refine ⟨?_, ?_, ?_⟩
    · intro r
      have q := hg r
      simp only [fc_wI_lo, fc_wI_at, ne_eq, Nat.reduceEqDiff, not_false_eq_true, if_true, if_false, ite_true, ite_false, kt_1, kt_0, kt_m1]
      first | exact q | (repeat' split) <;> omega
    · unfold WfH wS at hh ⊢
      simp only [fc_wI_lo, fc_wI_at, ne_eq, Nat.reduceEqDiff, not_false_eq_true, if_true, if_false, ite_true, ite_false, kt_1, kt_0, kt_m1]
      first | exact hh | (exact hh)
    · unfold WfT at ht ⊢
      simp only [fc_wI_lo, fc_wI_at, ne_eq, Nat.reduceEqDiff, not_false_eq_true, if_true, if_false, ite_true, ite_false, kt_1, kt_0, kt_m1]
      exact ht
set_option maxHeartbeats 4000000 in
set_option maxRecDepth 100000 in
theorem r_zone {I : fc_I} {x1 x2 x3 : Int32} (hR : Rel I) : RR (f_X10_zone I x1 x2 x3) (fun I => f_X11_zone I x1 x2 x3) := by
  have he := hR.1
  have hw0 : (0 ≤ (I 45 9).toInt ∧ (I 45 9).toInt ≤ (I 15 11).toInt ∧ 1 ≤ (I 15 11).toInt ∧ (I 15 11).toInt ≤ 60) ∧ (0 ≤ (I 1 2).toInt ∧ (I 1 2).toInt ≤ 6) ∧ (0 ≤ (I 1 3).toInt ∧ (I 1 3).toInt ≤ 3) ∧ (0 ≤ (I 4 5).toInt ∧ (I 4 5).toInt ≤ 14) ∧ (0 ≤ (I 10 4).toInt ∧ (I 10 4).toInt ≤ 4) ∧ (0 ≤ (I 15 10).toInt ∧ (I 15 10).toInt ≤ 2) ∧ (0 ≤ (I 15 9).toInt ∧ (I 15 9).toInt ≤ 40) ∧ (0 ≤ (I 31 6).toInt ∧ (I 31 6).toInt ≤ 160) ∧ (1 ≤ (I 31 7).toInt ∧ (I 31 7).toInt ≤ 6) ∧ (0 ≤ (I 31 8).toInt ∧ (I 31 8).toInt < (I 31 7).toInt) := hR.2.1.1
  obtain ⟨⟨w1, w2, w3, w4⟩, ⟨w5, w6⟩, ⟨w7, w8⟩, ⟨w9, w10⟩, ⟨w11, w12⟩, ⟨w13, w14⟩, ⟨w15, w16⟩, ⟨w17, w18⟩, ⟨w19, w20⟩, ⟨w21, w22⟩⟩ := hw0
  simp only [f_X10_zone, f_X11_zone, e_isOutside, e_isIn, e_isNoTrack, e_isNoSheet, e_isTrack, e_isSheet, e_isZone, e_isShelter, e_isRoad, e_isBus, e_isNoZone (I := I) (h := ⟨w5, by omega⟩), e_isNoShelter (I := I) (h := ⟨w7, by omega⟩), e_isNoRoad (I := I) (h := ⟨w9, by omega⟩), e_isNoGoal (I := I) (h := ⟨w5, w6, w7, w8⟩), e_isGoal, e_m1 (x := I 10 4) (h := ⟨w11, by omega⟩), e_m1 (x := I 31 7) (h := ⟨by omega, by omega⟩), e_l1, fq_b_g, fq_v_g, fq_u_g, fq_b_i, fq_v_i, fq_u_i, fq_usome, fq_vsome, fq_bsome, fq_l, fq_zb, b2i, Int32.toInt_toInt64, kt_m100, kl_m100, kt_m18, kl_m18, kt_m17, kl_m17, kt_m16, kl_m16, kt_m14, kl_m14, kt_m13, kl_m13, kt_m12, kl_m12, kt_m11, kl_m11, kt_m9, kl_m9, kt_m6, kl_m6, kt_m5, kl_m5, kt_m4, kl_m4, kt_m3, kl_m3, kt_m2, kl_m2, kt_m1, kl_m1, kt_0, kl_0, kt_1, kl_1, kt_2, kl_2, kt_3, kl_3, kt_4, kl_4, kt_5, kl_5, kt_6, kl_6, kt_7, kl_7, kt_8, kl_8, kt_9, kl_9, kt_10, kl_10, kt_11, kl_11, kt_12, kl_12, kt_13, kl_13, kt_14, kl_14, kt_15, kl_15, kt_16, kl_16, kt_17, kl_17, kt_18, kl_18, kt_19, kl_19, kt_20, kl_20, kt_21, kl_21, kt_22, kl_22, kt_23, kl_23, kt_24, kl_24, kt_25, kl_25, kt_26, kl_26, kt_27, kl_27, kt_28, kl_28, kt_29, kl_29, kt_30, kl_30, kt_31, kl_31, kt_32, kl_32, kt_33, kl_33, kt_34, kl_34, kt_35, kl_35, kt_36, kl_36, kt_37, kl_37, kt_38, kl_38, kt_39, kl_39, kt_40, kl_40, kt_41, kl_41, kt_42, kl_42, kt_43, kl_43, kt_44, kl_44, kt_45, kl_45, kt_46, kl_46, kt_47, kl_47, kt_48, kl_48, kt_49, kl_49, kt_50, kl_50, kt_51, kl_51, kt_52, kl_52, kt_53, kl_53, kt_54, kl_54, kt_55, kl_55, kt_56, kl_56, kt_57, kl_57, kt_58, kl_58, kt_59, kl_59, kt_60, kl_60, kt_61, kl_61, kt_62, kl_62, kt_63, kl_63, kt_64, kl_64, kt_65, kl_65, kt_97, kl_97, kt_99, kl_99, kt_100, kl_100, kt_122, kl_122, kt_159, kl_159, kt_160, kl_160, kt_161, kl_161, kt_170, kl_170, kt_999, kl_999, kt_9999, kl_9999, kt_99999, kl_99999, kt_1000000, kl_1000000]
  repeat' (first | with_reducible refine RR_ite (fun _ => ?_) (fun _ => ?_) | refine RR_g (by constructor <;> omega) ?_ | refine RR_some ?_)
  all_goals try dsimp only
  all_goals try simp only [kt_m100, kl_m100, kt_m18, kl_m18, kt_m17, kl_m17, kt_m16, kl_m16, kt_m14, kl_m14, kt_m13, kl_m13, kt_m12, kl_m12, kt_m11, kl_m11, kt_m9, kl_m9, kt_m6, kl_m6, kt_m5, kl_m5, kt_m4, kl_m4, kt_m3, kl_m3, kt_m2, kl_m2, kt_m1, kl_m1, kt_0, kl_0, kt_1, kl_1, kt_2, kl_2, kt_3, kl_3, kt_4, kl_4, kt_5, kl_5, kt_6, kl_6, kt_7, kl_7, kt_8, kl_8, kt_9, kl_9, kt_10, kl_10, kt_11, kl_11, kt_12, kl_12, kt_13, kl_13, kt_14, kl_14, kt_15, kl_15, kt_16, kl_16, kt_17, kl_17, kt_18, kl_18, kt_19, kl_19, kt_20, kl_20, kt_21, kl_21, kt_22, kl_22, kt_23, kl_23, kt_24, kl_24, kt_25, kl_25, kt_26, kl_26, kt_27, kl_27, kt_28, kl_28, kt_29, kl_29, kt_30, kl_30, kt_31, kl_31, kt_32, kl_32, kt_33, kl_33, kt_34, kl_34, kt_35, kl_35, kt_36, kl_36, kt_37, kl_37, kt_38, kl_38, kt_39, kl_39, kt_40, kl_40, kt_41, kl_41, kt_42, kl_42, kt_43, kl_43, kt_44, kl_44, kt_45, kl_45, kt_46, kl_46, kt_47, kl_47, kt_48, kl_48, kt_49, kl_49, kt_50, kl_50, kt_51, kl_51, kt_52, kl_52, kt_53, kl_53, kt_54, kl_54, kt_55, kl_55, kt_56, kl_56, kt_57, kl_57, kt_58, kl_58, kt_59, kl_59, kt_60, kl_60, kt_61, kl_61, kt_62, kl_62, kt_63, kl_63, kt_64, kl_64, kt_65, kl_65, kt_97, kl_97, kt_99, kl_99, kt_100, kl_100, kt_122, kl_122, kt_159, kl_159, kt_160, kl_160, kt_161, kl_161, kt_170, kl_170, kt_999, kl_999, kt_9999, kl_9999, kt_99999, kl_99999, kt_1000000, kl_1000000, e_m1 (x := I 10 4) (h := ⟨w11, by omega⟩), e_m1 (x := I 31 7) (h := ⟨by omega, by omega⟩), e_m1 (x := I 1 2) (h := ⟨by omega, by omega⟩), Int32.toInt_toInt64, e_l1, fc_wI_lo, fc_wI_at, fc_wI_c, ne_eq, Nat.reduceEqDiff, not_false_eq_true, reduceCtorEq, if_true, if_false, ite_true, ite_false, q0_0 he, q0_1 he, q0_2 he, q0_3 he, q0_4 he, q0_5 he, q0_6 he, q0_7 he, q0_8 he, q0_9 he, q0_10 he, q0_11 he, qr_79 he, qr_80 he, qr_81 he, qr_82 he, qr_83 he, qr_84 he, qr_86 he, qr_88 he, qr_89 he, qr_90 he, qr_91 he, qr_92 he, qr_93 he, qr_94 he, qr_95 he, qr_96 he, qr_97 he, qr_98 he, qr_99 he, qr_100 he, qr_101 he, qr_102 he, qr_103 he, qr_104 he, qr_105 he, qr_126 he, qr_127 he, qr_7 he]
  all_goals repeat' (first | with_reducible refine MR_pos (by omega) ?_ | with_reducible refine MR_neg (by omega) ?_ | refine MR_g (by constructor <;> omega) ?_ | refine MR_some ?_ ?_)
  all_goals first | rfl | exact hR | exact i_ac _ | (refine ⟨?_, ?_, ?_, ?_⟩)
  all_goals first | (simp only [mC_ne, ne_eq, Nat.reduceEqDiff, not_false_eq_true, and_self]; exact hR.2.2.1) | (intro s h1 h2; simp only [fc_wI_lo, fc_wI_at, ne_eq, Nat.reduceEqDiff, not_false_eq_true, if_true, if_false, ite_true, ite_false, reduceCtorEq] at h1 ⊢; exact hR.2.2.2 s (by omega) h2) | fail | (simp only [bw_2, bw_3, bw_5, bw_6, bw_7, bw_8, bw_9, bw_11, bw_12, bw_13, bw_14, bw_16, bw_25, bw_26, bw_27, bw_28, bw_29, bw_30, bw_68, bw_46, bw_47, bw_48, bw_49, bw_50, bw_51, bw_53, bw_52, bw0_2, bw0_3, bw0_4, bw0_5, bw0_7, bw0_6, bw0_1, bw0_10, bw0_11, bw0_0, bs_42, bs_43, bs_44, bs_54, bs_55, bs_56, bs_57, bs_67, bs_69, mw_79, mw_80, mw_81, mw_82, mw_83, mw_84, mw_88, mw_89, mw_90, mw_91, mw_92, mw_93, mw_94, mw_95, mw_96, mw_97, mw_98, mw_99, mw_100, mw_101, mw_102, mw_103, mw_104, mw_105, mw_126, mw_85, mw_87, mw_86, mw0_0, mw0_1, mw0_2, mw0_3, mw0_4, mw0_5, mw0_6, mw0_7, mw0_10, mw0_11, ms_44, ms_45, ms_46, ms_47, ms_51, ms_52, ms_53, ms_55, ms_56, ms_67, ms_68, ms_c111, ms_c112, ms_c113, ms_c114, ms_c115, ms_c116, ms_c117, ms_c118, ms_c119, ms_c120, ms_c121, ms_c122, ms_c123, ms_c124, ms_c125, ms_c130, aX_hi, aM_lo, Nat.reduceLeDiff, Nat.reduceLT, fc_wI_lo, ne_eq, Nat.reduceEqDiff, not_false_eq_true]; (refine wf_zone hR.2.1 ?_ ?_ ?_ ?_ ?_ <;> first | omega | (simp only [ax0_0, ax0_1, ax0_2, ax0_3, ax0_4, ax0_5, ax0_6, ax0_7, ax0_8, ax0_9, ax0_10, ax0_11, ax_1, ax_2, ax_3, ax_4, ax_5, ax_6, ax_7, ax_8, ax_9, ax_10, ax_11, ax_12, ax_13, ax_14, ax_15, ax_16, ax_17, ax_18, ax_19, ax_20, ax_21, ax_22, ax_23, ax_24, ax_25, ax_26, ax_27, ax_28, kt_0, kt_1, kt_m1]; done) | (simp only [ax0_0, ax0_1, ax0_2, ax0_3, ax0_4, ax0_5, ax0_6, ax0_7, ax0_8, ax0_9, ax0_10, ax0_11, ax_1, ax_2, ax_3, ax_4, ax_5, ax_6, ax_7, ax_8, ax_9, ax_10, ax_11, ax_12, ax_13, ax_14, ax_15, ax_16, ax_17, ax_18, ax_19, ax_20, ax_21, ax_22, ax_23, ax_24, ax_25, ax_26, ax_27, ax_28, kt_0, kt_1, kt_m1]; omega))) | (simp only [bw_2, bw_3, bw_5, bw_6, bw_7, bw_8, bw_9, bw_11, bw_12, bw_13, bw_14, bw_16, bw_25, bw_26, bw_27, bw_28, bw_29, bw_30, bw_68, bw_46, bw_47, bw_48, bw_49, bw_50, bw_51, bw_53, bw_52, bw0_2, bw0_3, bw0_4, bw0_5, bw0_7, bw0_6, bw0_1, bw0_10, bw0_11, bw0_0, bs_42, bs_43, bs_44, bs_54, bs_55, bs_56, bs_57, bs_67, bs_69, mw_79, mw_80, mw_81, mw_82, mw_83, mw_84, mw_88, mw_89, mw_90, mw_91, mw_92, mw_93, mw_94, mw_95, mw_96, mw_97, mw_98, mw_99, mw_100, mw_101, mw_102, mw_103, mw_104, mw_105, mw_126, mw_85, mw_87, mw_86, mw0_0, mw0_1, mw0_2, mw0_3, mw0_4, mw0_5, mw0_6, mw0_7, mw0_10, mw0_11, ms_44, ms_45, ms_46, ms_47, ms_51, ms_52, ms_53, ms_55, ms_56, ms_67, ms_68, ms_c111, ms_c112, ms_c113, ms_c114, ms_c115, ms_c116, ms_c117, ms_c118, ms_c119, ms_c120, ms_c121, ms_c122, ms_c123, ms_c124, ms_c125, ms_c130, aX_hi, aM_lo, Nat.reduceLeDiff, Nat.reduceLT, fc_wI_lo, ne_eq, Nat.reduceEqDiff, not_false_eq_true]; rw [he]; first | done | rfl | (funext r k; simp only [fc_wI]; (repeat' split) <;> first | rfl | omega)) | skip
set_option maxHeartbeats 4000000 in
set_option maxRecDepth 100000 in
theorem r_use {I : fc_I} {x1 : Int32} (hR : Rel I) : RR (f_X10_use I x1) (fun I => f_X11_use I x1) := by
  have he := hR.1
  have hw0 : (0 ≤ (I 45 9).toInt ∧ (I 45 9).toInt ≤ (I 15 11).toInt ∧ 1 ≤ (I 15 11).toInt ∧ (I 15 11).toInt ≤ 60) ∧ (0 ≤ (I 1 2).toInt ∧ (I 1 2).toInt ≤ 6) ∧ (0 ≤ (I 1 3).toInt ∧ (I 1 3).toInt ≤ 3) ∧ (0 ≤ (I 4 5).toInt ∧ (I 4 5).toInt ≤ 14) ∧ (0 ≤ (I 10 4).toInt ∧ (I 10 4).toInt ≤ 4) ∧ (0 ≤ (I 15 10).toInt ∧ (I 15 10).toInt ≤ 2) ∧ (0 ≤ (I 15 9).toInt ∧ (I 15 9).toInt ≤ 40) ∧ (0 ≤ (I 31 6).toInt ∧ (I 31 6).toInt ≤ 160) ∧ (1 ≤ (I 31 7).toInt ∧ (I 31 7).toInt ≤ 6) ∧ (0 ≤ (I 31 8).toInt ∧ (I 31 8).toInt < (I 31 7).toInt) := hR.2.1.1
  obtain ⟨⟨w1, w2, w3, w4⟩, ⟨w5, w6⟩, ⟨w7, w8⟩, ⟨w9, w10⟩, ⟨w11, w12⟩, ⟨w13, w14⟩, ⟨w15, w16⟩, ⟨w17, w18⟩, ⟨w19, w20⟩, ⟨w21, w22⟩⟩ := hw0
  have f1 := wr_at hR.2.1.2.1 x1
  simp only [f_X10_use, f_X11_use, e_isOutside, e_isIn, e_isNoTrack, e_isNoSheet, e_isTrack, e_isSheet, e_isZone, e_isShelter, e_isRoad, e_isBus, e_isNoZone (I := I) (h := ⟨w5, by omega⟩), e_isNoShelter (I := I) (h := ⟨w7, by omega⟩), e_isNoRoad (I := I) (h := ⟨w9, by omega⟩), e_isNoGoal (I := I) (h := ⟨w5, w6, w7, w8⟩), e_isGoal, e_m1 (x := I 10 4) (h := ⟨w11, by omega⟩), e_m1 (x := I 31 7) (h := ⟨by omega, by omega⟩), e_l1, fq_b_g, fq_v_g, fq_u_g, fq_b_i, fq_v_i, fq_u_i, fq_usome, fq_vsome, fq_bsome, fq_l, fq_zb, b2i, Int32.toInt_toInt64, kt_m100, kl_m100, kt_m18, kl_m18, kt_m17, kl_m17, kt_m16, kl_m16, kt_m14, kl_m14, kt_m13, kl_m13, kt_m12, kl_m12, kt_m11, kl_m11, kt_m9, kl_m9, kt_m6, kl_m6, kt_m5, kl_m5, kt_m4, kl_m4, kt_m3, kl_m3, kt_m2, kl_m2, kt_m1, kl_m1, kt_0, kl_0, kt_1, kl_1, kt_2, kl_2, kt_3, kl_3, kt_4, kl_4, kt_5, kl_5, kt_6, kl_6, kt_7, kl_7, kt_8, kl_8, kt_9, kl_9, kt_10, kl_10, kt_11, kl_11, kt_12, kl_12, kt_13, kl_13, kt_14, kl_14, kt_15, kl_15, kt_16, kl_16, kt_17, kl_17, kt_18, kl_18, kt_19, kl_19, kt_20, kl_20, kt_21, kl_21, kt_22, kl_22, kt_23, kl_23, kt_24, kl_24, kt_25, kl_25, kt_26, kl_26, kt_27, kl_27, kt_28, kl_28, kt_29, kl_29, kt_30, kl_30, kt_31, kl_31, kt_32, kl_32, kt_33, kl_33, kt_34, kl_34, kt_35, kl_35, kt_36, kl_36, kt_37, kl_37, kt_38, kl_38, kt_39, kl_39, kt_40, kl_40, kt_41, kl_41, kt_42, kl_42, kt_43, kl_43, kt_44, kl_44, kt_45, kl_45, kt_46, kl_46, kt_47, kl_47, kt_48, kl_48, kt_49, kl_49, kt_50, kl_50, kt_51, kl_51, kt_52, kl_52, kt_53, kl_53, kt_54, kl_54, kt_55, kl_55, kt_56, kl_56, kt_57, kl_57, kt_58, kl_58, kt_59, kl_59, kt_60, kl_60, kt_61, kl_61, kt_62, kl_62, kt_63, kl_63, kt_64, kl_64, kt_65, kl_65, kt_97, kl_97, kt_99, kl_99, kt_100, kl_100, kt_122, kl_122, kt_159, kl_159, kt_160, kl_160, kt_161, kl_161, kt_170, kl_170, kt_999, kl_999, kt_9999, kl_9999, kt_99999, kl_99999, kt_1000000, kl_1000000]
  repeat' (first | with_reducible refine RR_ite (fun _ => ?_) (fun _ => ?_) | refine RR_g (by constructor <;> omega) ?_ | refine RR_some ?_)
  all_goals try dsimp only
  all_goals try simp only [kt_m100, kl_m100, kt_m18, kl_m18, kt_m17, kl_m17, kt_m16, kl_m16, kt_m14, kl_m14, kt_m13, kl_m13, kt_m12, kl_m12, kt_m11, kl_m11, kt_m9, kl_m9, kt_m6, kl_m6, kt_m5, kl_m5, kt_m4, kl_m4, kt_m3, kl_m3, kt_m2, kl_m2, kt_m1, kl_m1, kt_0, kl_0, kt_1, kl_1, kt_2, kl_2, kt_3, kl_3, kt_4, kl_4, kt_5, kl_5, kt_6, kl_6, kt_7, kl_7, kt_8, kl_8, kt_9, kl_9, kt_10, kl_10, kt_11, kl_11, kt_12, kl_12, kt_13, kl_13, kt_14, kl_14, kt_15, kl_15, kt_16, kl_16, kt_17, kl_17, kt_18, kl_18, kt_19, kl_19, kt_20, kl_20, kt_21, kl_21, kt_22, kl_22, kt_23, kl_23, kt_24, kl_24, kt_25, kl_25, kt_26, kl_26, kt_27, kl_27, kt_28, kl_28, kt_29, kl_29, kt_30, kl_30, kt_31, kl_31, kt_32, kl_32, kt_33, kl_33, kt_34, kl_34, kt_35, kl_35, kt_36, kl_36, kt_37, kl_37, kt_38, kl_38, kt_39, kl_39, kt_40, kl_40, kt_41, kl_41, kt_42, kl_42, kt_43, kl_43, kt_44, kl_44, kt_45, kl_45, kt_46, kl_46, kt_47, kl_47, kt_48, kl_48, kt_49, kl_49, kt_50, kl_50, kt_51, kl_51, kt_52, kl_52, kt_53, kl_53, kt_54, kl_54, kt_55, kl_55, kt_56, kl_56, kt_57, kl_57, kt_58, kl_58, kt_59, kl_59, kt_60, kl_60, kt_61, kl_61, kt_62, kl_62, kt_63, kl_63, kt_64, kl_64, kt_65, kl_65, kt_97, kl_97, kt_99, kl_99, kt_100, kl_100, kt_122, kl_122, kt_159, kl_159, kt_160, kl_160, kt_161, kl_161, kt_170, kl_170, kt_999, kl_999, kt_9999, kl_9999, kt_99999, kl_99999, kt_1000000, kl_1000000, e_m1 (x := I 10 4) (h := ⟨w11, by omega⟩), e_m1 (x := I 31 7) (h := ⟨by omega, by omega⟩), e_m1 (x := I 1 2) (h := ⟨by omega, by omega⟩), Int32.toInt_toInt64, e_l1, fc_wI_lo, fc_wI_at, fc_wI_c, ne_eq, Nat.reduceEqDiff, not_false_eq_true, reduceCtorEq, if_true, if_false, ite_true, ite_false, q0_0 he, q0_1 he, q0_2 he, q0_3 he, q0_4 he, q0_5 he, q0_6 he, q0_7 he, q0_8 he, q0_9 he, q0_10 he, q0_11 he, qr_79 he, qr_80 he, qr_81 he, qr_82 he, qr_83 he, qr_84 he, qr_86 he, qr_88 he, qr_89 he, qr_90 he, qr_91 he, qr_92 he, qr_93 he, qr_94 he, qr_95 he, qr_96 he, qr_97 he, qr_98 he, qr_99 he, qr_100 he, qr_101 he, qr_102 he, qr_103 he, qr_104 he, qr_105 he, qr_126 he, qr_127 he, qr_7 he]
  all_goals repeat' (first | with_reducible refine MR_pos (by omega) ?_ | with_reducible refine MR_neg (by omega) ?_ | refine MR_g (by constructor <;> omega) ?_ | refine MR_some ?_ ?_)
  all_goals first | rfl | exact hR | exact i_ac _ | (refine ⟨?_, ?_, ?_, ?_⟩)
  all_goals first | (simp only [mC_ne, ne_eq, Nat.reduceEqDiff, not_false_eq_true, and_self]; exact hR.2.2.1) | (intro s h1 h2; simp only [fc_wI_lo, fc_wI_at, ne_eq, Nat.reduceEqDiff, not_false_eq_true, if_true, if_false, ite_true, ite_false, reduceCtorEq] at h1 ⊢; exact hR.2.2.2 s (by omega) h2) | fail | (simp only [bw_2, bw_3, bw_5, bw_6, bw_7, bw_8, bw_9, bw_11, bw_12, bw_13, bw_14, bw_16, bw_25, bw_26, bw_27, bw_28, bw_29, bw_30, bw_68, bw_46, bw_47, bw_48, bw_49, bw_50, bw_51, bw_53, bw_52, bw0_2, bw0_3, bw0_4, bw0_5, bw0_7, bw0_6, bw0_1, bw0_10, bw0_11, bw0_0, bs_42, bs_43, bs_44, bs_54, bs_55, bs_56, bs_57, bs_67, bs_69, mw_79, mw_80, mw_81, mw_82, mw_83, mw_84, mw_88, mw_89, mw_90, mw_91, mw_92, mw_93, mw_94, mw_95, mw_96, mw_97, mw_98, mw_99, mw_100, mw_101, mw_102, mw_103, mw_104, mw_105, mw_126, mw_85, mw_87, mw_86, mw0_0, mw0_1, mw0_2, mw0_3, mw0_4, mw0_5, mw0_6, mw0_7, mw0_10, mw0_11, ms_44, ms_45, ms_46, ms_47, ms_51, ms_52, ms_53, ms_55, ms_56, ms_67, ms_68, ms_c111, ms_c112, ms_c113, ms_c114, ms_c115, ms_c116, ms_c117, ms_c118, ms_c119, ms_c120, ms_c121, ms_c122, ms_c123, ms_c124, ms_c125, ms_c130, aX_hi, aM_lo, Nat.reduceLeDiff, Nat.reduceLT, fc_wI_lo, ne_eq, Nat.reduceEqDiff, not_false_eq_true]; (refine wf_use hR.2.1 ?_ ?_ <;> first | omega | (simp only [ax0_0, ax0_1, ax0_2, ax0_3, ax0_4, ax0_5, ax0_6, ax0_7, ax0_8, ax0_9, ax0_10, ax0_11, ax_1, ax_2, ax_3, ax_4, ax_5, ax_6, ax_7, ax_8, ax_9, ax_10, ax_11, ax_12, ax_13, ax_14, ax_15, ax_16, ax_17, ax_18, ax_19, ax_20, ax_21, ax_22, ax_23, ax_24, ax_25, ax_26, ax_27, ax_28, kt_0, kt_1, kt_m1]; done) | (simp only [ax0_0, ax0_1, ax0_2, ax0_3, ax0_4, ax0_5, ax0_6, ax0_7, ax0_8, ax0_9, ax0_10, ax0_11, ax_1, ax_2, ax_3, ax_4, ax_5, ax_6, ax_7, ax_8, ax_9, ax_10, ax_11, ax_12, ax_13, ax_14, ax_15, ax_16, ax_17, ax_18, ax_19, ax_20, ax_21, ax_22, ax_23, ax_24, ax_25, ax_26, ax_27, ax_28, kt_0, kt_1, kt_m1]; omega))) | (simp only [bw_2, bw_3, bw_5, bw_6, bw_7, bw_8, bw_9, bw_11, bw_12, bw_13, bw_14, bw_16, bw_25, bw_26, bw_27, bw_28, bw_29, bw_30, bw_68, bw_46, bw_47, bw_48, bw_49, bw_50, bw_51, bw_53, bw_52, bw0_2, bw0_3, bw0_4, bw0_5, bw0_7, bw0_6, bw0_1, bw0_10, bw0_11, bw0_0, bs_42, bs_43, bs_44, bs_54, bs_55, bs_56, bs_57, bs_67, bs_69, mw_79, mw_80, mw_81, mw_82, mw_83, mw_84, mw_88, mw_89, mw_90, mw_91, mw_92, mw_93, mw_94, mw_95, mw_96, mw_97, mw_98, mw_99, mw_100, mw_101, mw_102, mw_103, mw_104, mw_105, mw_126, mw_85, mw_87, mw_86, mw0_0, mw0_1, mw0_2, mw0_3, mw0_4, mw0_5, mw0_6, mw0_7, mw0_10, mw0_11, ms_44, ms_45, ms_46, ms_47, ms_51, ms_52, ms_53, ms_55, ms_56, ms_67, ms_68, ms_c111, ms_c112, ms_c113, ms_c114, ms_c115, ms_c116, ms_c117, ms_c118, ms_c119, ms_c120, ms_c121, ms_c122, ms_c123, ms_c124, ms_c125, ms_c130, aX_hi, aM_lo, Nat.reduceLeDiff, Nat.reduceLT, fc_wI_lo, ne_eq, Nat.reduceEqDiff, not_false_eq_true]; rw [he]; first | done | rfl | (funext r k; simp only [fc_wI]; (repeat' split) <;> first | rfl | omega)) | skip
set_option maxHeartbeats 4000000 in
set_option maxRecDepth 100000 in
theorem wf_shelter {A : fc_I} (hw : Wf A) {x : Int32} (c1 : (A 0 3).toInt < 3) (cx : 0 ≤ x.toInt ∧ x.toInt ≤ 99999) : Wf (fc_wI (fc_wI A 0 3 (A 0 3 + 1)) 7 (cn (A 0 3)) x) := by
  obtain ⟨h0, hr, hb, hs, hl, hz, hn⟩ := hw
  obtain ⟨⟨w1, w2, w3, w4⟩, ⟨w5, w6⟩, ⟨w7, w8⟩, ⟨w9, w10⟩, ⟨w11, w12⟩, ⟨w13, w14⟩, ⟨w15, w16⟩, ⟨w17, w18⟩, ⟨w19, w20⟩, ⟨w21, w22⟩⟩ := h0
  have e1 : (A 0 3 + 1).toInt = (A 0 3).toInt + 1 := i_add (by rw [kt_1]; omega) (by rw [kt_1]; omega)
  have e2 := cn_int (x := A 0 3) (by omega)
  have km1 : (-1 : Int32).toInt = -1 := rfl
  refine ⟨?_, ?_, ?_, ?_, ?_, ?_, ?_⟩
  · unfold Wf0
    simp only [fc_wI_lo, fc_wI_at, ne_eq, Nat.reduceEqDiff, not_false_eq_true, if_true, if_false, ite_true, ite_false, kt_1, kt_0, kt_m1]
    omega
  · intro r
    have q := hr r
    simp only [fc_wI_lo, fc_wI_at, ne_eq, Nat.reduceEqDiff, not_false_eq_true, if_true, if_false, ite_true, ite_false, kt_1, kt_0, kt_m1]
    first | exact q | (repeat' split) <;> omega
  · intro r
    have q := hb r
    simp only [fc_wI_lo, fc_wI_at, ne_eq, Nat.reduceEqDiff, not_false_eq_true, if_true, if_false, ite_true, ite_false, kt_1, kt_0, kt_m1]
    first | exact q | (repeat' split) <;> omega
  · intro r
    have q := hs r
    simp only [fc_wI_lo, fc_wI_at, ne_eq, Nat.reduceEqDiff, not_false_eq_true, if_true, if_false, ite_true, ite_false, kt_1, kt_0, kt_m1]
    first | exact q | (repeat' split) <;> omega
  · intro r
    have q := hl r
    simp only [fc_wI_lo, fc_wI_at, ne_eq, Nat.reduceEqDiff, not_false_eq_true, if_true, if_false, ite_true, ite_false, kt_1, kt_0, kt_m1]
    first | exact q | (repeat' split) <;> omega
  · intro r
    have q := hz r
    simp only [fc_wI_lo, fc_wI_at, ne_eq, Nat.reduceEqDiff, not_false_eq_true, if_true, if_false, ite_true, ite_false, kt_1, kt_0, kt_m1]
    first | exact q | (repeat' split) <;> omega
  · obtain ⟨hg, hh, ht⟩ := hn
    refine ⟨?_, ?_, ?_⟩
    · intro r
      have q := hg r
      simp only [fc_wI_lo, fc_wI_at, ne_eq, Nat.reduceEqDiff, not_false_eq_true, if_true, if_false, ite_true, ite_false, kt_1, kt_0, kt_m1]
      first | exact q | (repeat' split) <;> omega
    · unfold WfH wS at hh ⊢
      simp only [fc_wI_lo, fc_wI_at, ne_eq, Nat.reduceEqDiff, not_false_eq_true, if_true, if_false, ite_true, ite_false, kt_1, kt_0, kt_m1]
      first | exact hh | (exact ⟨fun s hs => by have q := hh.1 s hs; split <;> omega, hh.2⟩)
    · unfold WfT at ht ⊢
      simp only [fc_wI_lo, fc_wI_at, ne_eq, Nat.reduceEqDiff, not_false_eq_true, if_true, if_false, ite_true, ite_false, kt_1, kt_0, kt_m1]
      exact ht
set_option maxHeartbeats 4000000 in
set_option maxRecDepth 100000 in
theorem r_shelter {I : fc_I} {x1 : Int32} (hR : Rel I) : RR (f_X10_shelter I x1) (fun I => f_X11_shelter I x1) := by
  have he := hR.1
  have hw0 : (0 ≤ (I 45 9).toInt ∧ (I 45 9).toInt ≤ (I 15 11).toInt ∧ 1 ≤ (I 15 11).toInt ∧ (I 15 11).toInt ≤ 60) ∧ (0 ≤ (I 1 2).toInt ∧ (I 1 2).toInt ≤ 6) ∧ (0 ≤ (I 1 3).toInt ∧ (I 1 3).toInt ≤ 3) ∧ (0 ≤ (I 4 5).toInt ∧ (I 4 5).toInt ≤ 14) ∧ (0 ≤ (I 10 4).toInt ∧ (I 10 4).toInt ≤ 4) ∧ (0 ≤ (I 15 10).toInt ∧ (I 15 10).toInt ≤ 2) ∧ (0 ≤ (I 15 9).toInt ∧ (I 15 9).toInt ≤ 40) ∧ (0 ≤ (I 31 6).toInt ∧ (I 31 6).toInt ≤ 160) ∧ (1 ≤ (I 31 7).toInt ∧ (I 31 7).toInt ≤ 6) ∧ (0 ≤ (I 31 8).toInt ∧ (I 31 8).toInt < (I 31 7).toInt) := hR.2.1.1
  obtain ⟨⟨w1, w2, w3, w4⟩, ⟨w5, w6⟩, ⟨w7, w8⟩, ⟨w9, w10⟩, ⟨w11, w12⟩, ⟨w13, w14⟩, ⟨w15, w16⟩, ⟨w17, w18⟩, ⟨w19, w20⟩, ⟨w21, w22⟩⟩ := hw0
  have e2 : (I 1 3).toInt < 3 → I 86 (cn (I 1 3)) = 0 ∧ I 87 (cn (I 1 3)) = 0 := fun h => hR.2.2.2 (cn (I 1 3)) (by have := cn_int w7; rw [q0_3 he]; omega) (by have := cn_int w7; omega)
  have e3 : (I 1 3).toInt < 3 → (I 1 3 + 1).toInt = (I 1 3).toInt + 1 := fun h => i_add (by rw [kt_1]; omega) (by rw [kt_1]; omega)
  simp only [f_X10_shelter, f_X11_shelter, e_isOutside, e_isIn, e_isNoTrack, e_isNoSheet, e_isTrack, e_isSheet, e_isZone, e_isShelter, e_isRoad, e_isBus, e_isNoZone (I := I) (h := ⟨w5, by omega⟩), e_isNoShelter (I := I) (h := ⟨w7, by omega⟩), e_isNoRoad (I := I) (h := ⟨w9, by omega⟩), e_isNoGoal (I := I) (h := ⟨w5, w6, w7, w8⟩), e_isGoal, e_m1 (x := I 10 4) (h := ⟨w11, by omega⟩), e_m1 (x := I 31 7) (h := ⟨by omega, by omega⟩), e_l1, fq_b_g, fq_v_g, fq_u_g, fq_b_i, fq_v_i, fq_u_i, fq_usome, fq_vsome, fq_bsome, fq_l, fq_zb, b2i, Int32.toInt_toInt64, kt_m100, kl_m100, kt_m18, kl_m18, kt_m17, kl_m17, kt_m16, kl_m16, kt_m14, kl_m14, kt_m13, kl_m13, kt_m12, kl_m12, kt_m11, kl_m11, kt_m9, kl_m9, kt_m6, kl_m6, kt_m5, kl_m5, kt_m4, kl_m4, kt_m3, kl_m3, kt_m2, kl_m2, kt_m1, kl_m1, kt_0, kl_0, kt_1, kl_1, kt_2, kl_2, kt_3, kl_3, kt_4, kl_4, kt_5, kl_5, kt_6, kl_6, kt_7, kl_7, kt_8, kl_8, kt_9, kl_9, kt_10, kl_10, kt_11, kl_11, kt_12, kl_12, kt_13, kl_13, kt_14, kl_14, kt_15, kl_15, kt_16, kl_16, kt_17, kl_17, kt_18, kl_18, kt_19, kl_19, kt_20, kl_20, kt_21, kl_21, kt_22, kl_22, kt_23, kl_23, kt_24, kl_24, kt_25, kl_25, kt_26, kl_26, kt_27, kl_27, kt_28, kl_28, kt_29, kl_29, kt_30, kl_30, kt_31, kl_31, kt_32, kl_32, kt_33, kl_33, kt_34, kl_34, kt_35, kl_35, kt_36, kl_36, kt_37, kl_37, kt_38, kl_38, kt_39, kl_39, kt_40, kl_40, kt_41, kl_41, kt_42, kl_42, kt_43, kl_43, kt_44, kl_44, kt_45, kl_45, kt_46, kl_46, kt_47, kl_47, kt_48, kl_48, kt_49, kl_49, kt_50, kl_50, kt_51, kl_51, kt_52, kl_52, kt_53, kl_53, kt_54, kl_54, kt_55, kl_55, kt_56, kl_56, kt_57, kl_57, kt_58, kl_58, kt_59, kl_59, kt_60, kl_60, kt_61, kl_61, kt_62, kl_62, kt_63, kl_63, kt_64, kl_64, kt_65, kl_65, kt_97, kl_97, kt_99, kl_99, kt_100, kl_100, kt_122, kl_122, kt_159, kl_159, kt_160, kl_160, kt_161, kl_161, kt_170, kl_170, kt_999, kl_999, kt_9999, kl_9999, kt_99999, kl_99999, kt_1000000, kl_1000000]
  repeat' (first | with_reducible refine RR_ite (fun _ => ?_) (fun _ => ?_) | refine RR_g (by constructor <;> omega) ?_ | refine RR_some ?_)
  all_goals try dsimp only
  all_goals try simp only [kt_m100, kl_m100, kt_m18, kl_m18, kt_m17, kl_m17, kt_m16, kl_m16, kt_m14, kl_m14, kt_m13, kl_m13, kt_m12, kl_m12, kt_m11, kl_m11, kt_m9, kl_m9, kt_m6, kl_m6, kt_m5, kl_m5, kt_m4, kl_m4, kt_m3, kl_m3, kt_m2, kl_m2, kt_m1, kl_m1, kt_0, kl_0, kt_1, kl_1, kt_2, kl_2, kt_3, kl_3, kt_4, kl_4, kt_5, kl_5, kt_6, kl_6, kt_7, kl_7, kt_8, kl_8, kt_9, kl_9, kt_10, kl_10, kt_11, kl_11, kt_12, kl_12, kt_13, kl_13, kt_14, kl_14, kt_15, kl_15, kt_16, kl_16, kt_17, kl_17, kt_18, kl_18, kt_19, kl_19, kt_20, kl_20, kt_21, kl_21, kt_22, kl_22, kt_23, kl_23, kt_24, kl_24, kt_25, kl_25, kt_26, kl_26, kt_27, kl_27, kt_28, kl_28, kt_29, kl_29, kt_30, kl_30, kt_31, kl_31, kt_32, kl_32, kt_33, kl_33, kt_34, kl_34, kt_35, kl_35, kt_36, kl_36, kt_37, kl_37, kt_38, kl_38, kt_39, kl_39, kt_40, kl_40, kt_41, kl_41, kt_42, kl_42, kt_43, kl_43, kt_44, kl_44, kt_45, kl_45, kt_46, kl_46, kt_47, kl_47, kt_48, kl_48, kt_49, kl_49, kt_50, kl_50, kt_51, kl_51, kt_52, kl_52, kt_53, kl_53, kt_54, kl_54, kt_55, kl_55, kt_56, kl_56, kt_57, kl_57, kt_58, kl_58, kt_59, kl_59, kt_60, kl_60, kt_61, kl_61, kt_62, kl_62, kt_63, kl_63, kt_64, kl_64, kt_65, kl_65, kt_97, kl_97, kt_99, kl_99, kt_100, kl_100, kt_122, kl_122, kt_159, kl_159, kt_160, kl_160, kt_161, kl_161, kt_170, kl_170, kt_999, kl_999, kt_9999, kl_9999, kt_99999, kl_99999, kt_1000000, kl_1000000, e_m1 (x := I 10 4) (h := ⟨w11, by omega⟩), e_m1 (x := I 31 7) (h := ⟨by omega, by omega⟩), e_m1 (x := I 1 2) (h := ⟨by omega, by omega⟩), Int32.toInt_toInt64, e_l1, fc_wI_lo, fc_wI_at, fc_wI_c, ne_eq, Nat.reduceEqDiff, not_false_eq_true, reduceCtorEq, if_true, if_false, ite_true, ite_false, q0_0 he, q0_1 he, q0_2 he, q0_3 he, q0_4 he, q0_5 he, q0_6 he, q0_7 he, q0_8 he, q0_9 he, q0_10 he, q0_11 he, qr_79 he, qr_80 he, qr_81 he, qr_82 he, qr_83 he, qr_84 he, qr_86 he, qr_88 he, qr_89 he, qr_90 he, qr_91 he, qr_92 he, qr_93 he, qr_94 he, qr_95 he, qr_96 he, qr_97 he, qr_98 he, qr_99 he, qr_100 he, qr_101 he, qr_102 he, qr_103 he, qr_104 he, qr_105 he, qr_126 he, qr_127 he, qr_7 he]
  all_goals repeat' (first | with_reducible refine MR_pos (by omega) ?_ | with_reducible refine MR_neg (by omega) ?_ | refine MR_g (by constructor <;> omega) ?_ | refine MR_some ?_ ?_)
  all_goals first | rfl | exact hR | exact i_ac _ | (refine ⟨?_, ?_, ?_, ?_⟩)
  all_goals first | (simp only [mC_ne, ne_eq, Nat.reduceEqDiff, not_false_eq_true, and_self]; exact hR.2.2.1) | (intro s h1 h2; simp only [fc_wI_lo, fc_wI_at, ne_eq, Nat.reduceEqDiff, not_false_eq_true, if_true, if_false, ite_true, ite_false, reduceCtorEq] at h1 ⊢; exact hR.2.2.2 s (by omega) h2) | (intro s h1 h2; simp only [fc_wI_lo, fc_wI_at, ne_eq, Nat.reduceEqDiff, not_false_eq_true, if_true, if_false, ite_true, ite_false, reduceCtorEq] at h1 ⊢; rw [e3 (by omega)] at h1; exact hR.2.2.2 s (by rw [q0_3 he]; omega) h2) | (simp only [bw_2, bw_3, bw_5, bw_6, bw_7, bw_8, bw_9, bw_11, bw_12, bw_13, bw_14, bw_16, bw_25, bw_26, bw_27, bw_28, bw_29, bw_30, bw_68, bw_46, bw_47, bw_48, bw_49, bw_50, bw_51, bw_53, bw_52, bw0_2, bw0_3, bw0_4, bw0_5, bw0_7, bw0_6, bw0_1, bw0_10, bw0_11, bw0_0, bs_42, bs_43, bs_44, bs_54, bs_55, bs_56, bs_57, bs_67, bs_69, mw_79, mw_80, mw_81, mw_82, mw_83, mw_84, mw_88, mw_89, mw_90, mw_91, mw_92, mw_93, mw_94, mw_95, mw_96, mw_97, mw_98, mw_99, mw_100, mw_101, mw_102, mw_103, mw_104, mw_105, mw_126, mw_85, mw_87, mw_86, mw0_0, mw0_1, mw0_2, mw0_3, mw0_4, mw0_5, mw0_6, mw0_7, mw0_10, mw0_11, ms_44, ms_45, ms_46, ms_47, ms_51, ms_52, ms_53, ms_55, ms_56, ms_67, ms_68, ms_c111, ms_c112, ms_c113, ms_c114, ms_c115, ms_c116, ms_c117, ms_c118, ms_c119, ms_c120, ms_c121, ms_c122, ms_c123, ms_c124, ms_c125, ms_c130, aX_hi, aM_lo, Nat.reduceLeDiff, Nat.reduceLT, fc_wI_lo, ne_eq, Nat.reduceEqDiff, not_false_eq_true]; rw [(e2 (by omega)).1, (e2 (by omega)).2, he]; funext r k; simp only [fc_wI, Int32.sub_zero]; (repeat' split) <;> first | rfl | omega) | (simp only [bw_2, bw_3, bw_5, bw_6, bw_7, bw_8, bw_9, bw_11, bw_12, bw_13, bw_14, bw_16, bw_25, bw_26, bw_27, bw_28, bw_29, bw_30, bw_68, bw_46, bw_47, bw_48, bw_49, bw_50, bw_51, bw_53, bw_52, bw0_2, bw0_3, bw0_4, bw0_5, bw0_7, bw0_6, bw0_1, bw0_10, bw0_11, bw0_0, bs_42, bs_43, bs_44, bs_54, bs_55, bs_56, bs_57, bs_67, bs_69, mw_79, mw_80, mw_81, mw_82, mw_83, mw_84, mw_88, mw_89, mw_90, mw_91, mw_92, mw_93, mw_94, mw_95, mw_96, mw_97, mw_98, mw_99, mw_100, mw_101, mw_102, mw_103, mw_104, mw_105, mw_126, mw_85, mw_87, mw_86, mw0_0, mw0_1, mw0_2, mw0_3, mw0_4, mw0_5, mw0_6, mw0_7, mw0_10, mw0_11, ms_44, ms_45, ms_46, ms_47, ms_51, ms_52, ms_53, ms_55, ms_56, ms_67, ms_68, ms_c111, ms_c112, ms_c113, ms_c114, ms_c115, ms_c116, ms_c117, ms_c118, ms_c119, ms_c120, ms_c121, ms_c122, ms_c123, ms_c124, ms_c125, ms_c130, aX_hi, aM_lo, Nat.reduceLeDiff, Nat.reduceLT, fc_wI_lo, ne_eq, Nat.reduceEqDiff, not_false_eq_true]; (refine wf_shelter hR.2.1 ?_ ?_ <;> first | omega | (simp only [ax0_0, ax0_1, ax0_2, ax0_3, ax0_4, ax0_5, ax0_6, ax0_7, ax0_8, ax0_9, ax0_10, ax0_11, ax_1, ax_2, ax_3, ax_4, ax_5, ax_6, ax_7, ax_8, ax_9, ax_10, ax_11, ax_12, ax_13, ax_14, ax_15, ax_16, ax_17, ax_18, ax_19, ax_20, ax_21, ax_22, ax_23, ax_24, ax_25, ax_26, ax_27, ax_28, kt_0, kt_1, kt_m1]; done) | (simp only [ax0_0, ax0_1, ax0_2, ax0_3, ax0_4, ax0_5, ax0_6, ax0_7, ax0_8, ax0_9, ax0_10, ax0_11, ax_1, ax_2, ax_3, ax_4, ax_5, ax_6, ax_7, ax_8, ax_9, ax_10, ax_11, ax_12, ax_13, ax_14, ax_15, ax_16, ax_17, ax_18, ax_19, ax_20, ax_21, ax_22, ax_23, ax_24, ax_25, ax_26, ax_27, ax_28, kt_0, kt_1, kt_m1]; omega))) | (simp only [bw_2, bw_3, bw_5, bw_6, bw_7, bw_8, bw_9, bw_11, bw_12, bw_13, bw_14, bw_16, bw_25, bw_26, bw_27, bw_28, bw_29, bw_30, bw_68, bw_46, bw_47, bw_48, bw_49, bw_50, bw_51, bw_53, bw_52, bw0_2, bw0_3, bw0_4, bw0_5, bw0_7, bw0_6, bw0_1, bw0_10, bw0_11, bw0_0, bs_42, bs_43, bs_44, bs_54, bs_55, bs_56, bs_57, bs_67, bs_69, mw_79, mw_80, mw_81, mw_82, mw_83, mw_84, mw_88, mw_89, mw_90, mw_91, mw_92, mw_93, mw_94, mw_95, mw_96, mw_97, mw_98, mw_99, mw_100, mw_101, mw_102, mw_103, mw_104, mw_105, mw_126, mw_85, mw_87, mw_86, mw0_0, mw0_1, mw0_2, mw0_3, mw0_4, mw0_5, mw0_6, mw0_7, mw0_10, mw0_11, ms_44, ms_45, ms_46, ms_47, ms_51, ms_52, ms_53, ms_55, ms_56, ms_67, ms_68, ms_c111, ms_c112, ms_c113, ms_c114, ms_c115, ms_c116, ms_c117, ms_c118, ms_c119, ms_c120, ms_c121, ms_c122, ms_c123, ms_c124, ms_c125, ms_c130, aX_hi, aM_lo, Nat.reduceLeDiff, Nat.reduceLT, fc_wI_lo, ne_eq, Nat.reduceEqDiff, not_false_eq_true]; rw [he]; first | done | rfl | (funext r k; simp only [fc_wI]; (repeat' split) <;> first | rfl | omega)) | skip
set_option maxHeartbeats 4000000 in
set_option maxRecDepth 100000 in
theorem wf_road {A : fc_I} (hw : Wf A) {k f t l : Int32} (c1 : (A 0 4).toInt < 14) (ck : 0 ≤ k.toInt ∧ k.toInt ≤ 5) (cf : 0 ≤ f.toInt ∧ f.toInt < (A 0 2).toInt) (ct : 0 ≤ t.toInt ∧ (t.toInt < 6 ∨ 10 ≤ t.toInt ∧ t.toInt < 13 ∨ t.toInt = 20)) (cl : 1 ≤ l.toInt ∧ l.toInt ≤ 9999) (cg : (t.toInt < 6 → t.toInt < (A 0 2).toInt) ∧ (10 ≤ t.toInt → t.toInt < 13 → t.toInt < 10 + (A 0 3).toInt)) : Wf (fc_wI (fc_wI (fc_wI (fc_wI (fc_wI (fc_wI A 0 4 (A 0 4 + 1)) 9 (cn (A 0 4)) k) 10 (cn (A 0 4)) f) 11 (cn (A 0 4)) t) 12 (cn (A 0 4)) l) 13 (cn (A 0 4)) (-1)) := by
  obtain ⟨h0, hr, hb, hs, hl, hz, hn⟩ := hw
  obtain ⟨⟨w1, w2, w3, w4⟩, ⟨w5, w6⟩, ⟨w7, w8⟩, ⟨w9, w10⟩, ⟨w11, w12⟩, ⟨w13, w14⟩, ⟨w15, w16⟩, ⟨w17, w18⟩, ⟨w19, w20⟩, ⟨w21, w22⟩⟩ := h0
  have e1 : (A 0 4 + 1).toInt = (A 0 4).toInt + 1 := i_add (by rw [kt_1]; omega) (by rw [kt_1]; omega)
  have e2 := cn_int (x := A 0 4) (by omega)
  have km1 : (-1 : Int32).toInt = -1 := rfl
  refine ⟨?_, ?_, ?_, ?_, ?_, ?_, ?_⟩
  · unfold Wf0
    simp only [fc_wI_lo, fc_wI_at, ne_eq, Nat.reduceEqDiff, not_false_eq_true, if_true, if_false, ite_true, ite_false, kt_1, kt_0, kt_m1]
    omega
  · intro r
    have q := hr r
    simp only [fc_wI_lo, fc_wI_at, ne_eq, Nat.reduceEqDiff, not_false_eq_true, if_true, if_false, ite_true, ite_false, kt_1, kt_0, kt_m1]
    first | exact q | (repeat' split) <;> omega
  · intro r
    have q := hb r
    simp only [fc_wI_lo, fc_wI_at, ne_eq, Nat.reduceEqDiff, not_false_eq_true, if_true, if_false, ite_true, ite_false, kt_1, kt_0, kt_m1]
    first | exact q | (repeat' split) <;> omega
  · intro r
    have q := hs r
    simp only [fc_wI_lo, fc_wI_at, ne_eq, Nat.reduceEqDiff, not_false_eq_true, if_true, if_false, ite_true, ite_false, kt_1, kt_0, kt_m1]
    first | exact q | (repeat' split) <;> omega
  · intro r
    have q := hl r
    simp only [fc_wI_lo, fc_wI_at, ne_eq, Nat.reduceEqDiff, not_false_eq_true, if_true, if_false, ite_true, ite_false, kt_1, kt_0, kt_m1]
    first | exact q | (repeat' split) <;> omega
  · intro r
    have q := hz r
    simp only [fc_wI_lo, fc_wI_at, ne_eq, Nat.reduceEqDiff, not_false_eq_true, if_true, if_false, ite_true, ite_false, kt_1, kt_0, kt_m1]
    first | exact q | (repeat' split) <;> omega
  · obtain ⟨hg, hh, ht⟩ := hn
    refine ⟨?_, ?_, ?_⟩
    · intro r
      have q := hg r
      simp only [fc_wI_lo, fc_wI_at, ne_eq, Nat.reduceEqDiff, not_false_eq_true, if_true, if_false, ite_true, ite_false, kt_1, kt_0, kt_m1]
      first | exact q | (repeat' split) <;> omega
    · unfold WfH wS at hh ⊢
      simp only [fc_wI_lo, fc_wI_at, ne_eq, Nat.reduceEqDiff, not_false_eq_true, if_true, if_false, ite_true, ite_false, kt_1, kt_0, kt_m1]
      first | exact hh | (exact hh)
    · unfold WfT at ht ⊢
      simp only [fc_wI_lo, fc_wI_at, ne_eq, Nat.reduceEqDiff, not_false_eq_true, if_true, if_false, ite_true, ite_false, kt_1, kt_0, kt_m1]
      exact ht
set_option maxHeartbeats 4000000 in
set_option maxRecDepth 100000 in
theorem r_road {I : fc_I} {x1 x2 x3 x4 : Int32} (hR : Rel I) : RR (f_X10_road I x1 x2 x3 x4) (fun I => f_X11_road I x1 x2 x3 x4) := by
  have he := hR.1
  have hw0 : (0 ≤ (I 45 9).toInt ∧ (I 45 9).toInt ≤ (I 15 11).toInt ∧ 1 ≤ (I 15 11).toInt ∧ (I 15 11).toInt ≤ 60) ∧ (0 ≤ (I 1 2).toInt ∧ (I 1 2).toInt ≤ 6) ∧ (0 ≤ (I 1 3).toInt ∧ (I 1 3).toInt ≤ 3) ∧ (0 ≤ (I 4 5).toInt ∧ (I 4 5).toInt ≤ 14) ∧ (0 ≤ (I 10 4).toInt ∧ (I 10 4).toInt ≤ 4) ∧ (0 ≤ (I 15 10).toInt ∧ (I 15 10).toInt ≤ 2) ∧ (0 ≤ (I 15 9).toInt ∧ (I 15 9).toInt ≤ 40) ∧ (0 ≤ (I 31 6).toInt ∧ (I 31 6).toInt ≤ 160) ∧ (1 ≤ (I 31 7).toInt ∧ (I 31 7).toInt ≤ 6) ∧ (0 ≤ (I 31 8).toInt ∧ (I 31 8).toInt < (I 31 7).toInt) := hR.2.1.1
  obtain ⟨⟨w1, w2, w3, w4⟩, ⟨w5, w6⟩, ⟨w7, w8⟩, ⟨w9, w10⟩, ⟨w11, w12⟩, ⟨w13, w14⟩, ⟨w15, w16⟩, ⟨w17, w18⟩, ⟨w19, w20⟩, ⟨w21, w22⟩⟩ := hw0
  have f1 := e_t10' x3
  simp only [f_X10_road, f_X11_road, f_X6_build, e_isOutside, e_isIn, e_isNoTrack, e_isNoSheet, e_isTrack, e_isSheet, e_isZone, e_isShelter, e_isRoad, e_isBus, e_isNoZone (I := I) (h := ⟨w5, by omega⟩), e_isNoShelter (I := I) (h := ⟨w7, by omega⟩), e_isNoRoad (I := I) (h := ⟨w9, by omega⟩), e_isNoGoal (I := I) (h := ⟨w5, w6, w7, w8⟩), e_isGoal, e_m1 (x := I 10 4) (h := ⟨w11, by omega⟩), e_m1 (x := I 31 7) (h := ⟨by omega, by omega⟩), e_l1, fq_b_g, fq_v_g, fq_u_g, fq_b_i, fq_v_i, fq_u_i, fq_usome, fq_vsome, fq_bsome, fq_l, fq_zb, b2i, Int32.toInt_toInt64, kt_m100, kl_m100, kt_m18, kl_m18, kt_m17, kl_m17, kt_m16, kl_m16, kt_m14, kl_m14, kt_m13, kl_m13, kt_m12, kl_m12, kt_m11, kl_m11, kt_m9, kl_m9, kt_m6, kl_m6, kt_m5, kl_m5, kt_m4, kl_m4, kt_m3, kl_m3, kt_m2, kl_m2, kt_m1, kl_m1, kt_0, kl_0, kt_1, kl_1, kt_2, kl_2, kt_3, kl_3, kt_4, kl_4, kt_5, kl_5, kt_6, kl_6, kt_7, kl_7, kt_8, kl_8, kt_9, kl_9, kt_10, kl_10, kt_11, kl_11, kt_12, kl_12, kt_13, kl_13, kt_14, kl_14, kt_15, kl_15, kt_16, kl_16, kt_17, kl_17, kt_18, kl_18, kt_19, kl_19, kt_20, kl_20, kt_21, kl_21, kt_22, kl_22, kt_23, kl_23, kt_24, kl_24, kt_25, kl_25, kt_26, kl_26, kt_27, kl_27, kt_28, kl_28, kt_29, kl_29, kt_30, kl_30, kt_31, kl_31, kt_32, kl_32, kt_33, kl_33, kt_34, kl_34, kt_35, kl_35, kt_36, kl_36, kt_37, kl_37, kt_38, kl_38, kt_39, kl_39, kt_40, kl_40, kt_41, kl_41, kt_42, kl_42, kt_43, kl_43, kt_44, kl_44, kt_45, kl_45, kt_46, kl_46, kt_47, kl_47, kt_48, kl_48, kt_49, kl_49, kt_50, kl_50, kt_51, kl_51, kt_52, kl_52, kt_53, kl_53, kt_54, kl_54, kt_55, kl_55, kt_56, kl_56, kt_57, kl_57, kt_58, kl_58, kt_59, kl_59, kt_60, kl_60, kt_61, kl_61, kt_62, kl_62, kt_63, kl_63, kt_64, kl_64, kt_65, kl_65, kt_97, kl_97, kt_99, kl_99, kt_100, kl_100, kt_122, kl_122, kt_159, kl_159, kt_160, kl_160, kt_161, kl_161, kt_170, kl_170, kt_999, kl_999, kt_9999, kl_9999, kt_99999, kl_99999, kt_1000000, kl_1000000]
  repeat' (first | with_reducible refine RR_ite (fun _ => ?_) (fun _ => ?_) | refine RR_g (by constructor <;> omega) ?_ | refine RR_some ?_)
  all_goals try dsimp only
  all_goals try simp only [kt_m100, kl_m100, kt_m18, kl_m18, kt_m17, kl_m17, kt_m16, kl_m16, kt_m14, kl_m14, kt_m13, kl_m13, kt_m12, kl_m12, kt_m11, kl_m11, kt_m9, kl_m9, kt_m6, kl_m6, kt_m5, kl_m5, kt_m4, kl_m4, kt_m3, kl_m3, kt_m2, kl_m2, kt_m1, kl_m1, kt_0, kl_0, kt_1, kl_1, kt_2, kl_2, kt_3, kl_3, kt_4, kl_4, kt_5, kl_5, kt_6, kl_6, kt_7, kl_7, kt_8, kl_8, kt_9, kl_9, kt_10, kl_10, kt_11, kl_11, kt_12, kl_12, kt_13, kl_13, kt_14, kl_14, kt_15, kl_15, kt_16, kl_16, kt_17, kl_17, kt_18, kl_18, kt_19, kl_19, kt_20, kl_20, kt_21, kl_21, kt_22, kl_22, kt_23, kl_23, kt_24, kl_24, kt_25, kl_25, kt_26, kl_26, kt_27, kl_27, kt_28, kl_28, kt_29, kl_29, kt_30, kl_30, kt_31, kl_31, kt_32, kl_32, kt_33, kl_33, kt_34, kl_34, kt_35, kl_35, kt_36, kl_36, kt_37, kl_37, kt_38, kl_38, kt_39, kl_39, kt_40, kl_40, kt_41, kl_41, kt_42, kl_42, kt_43, kl_43, kt_44, kl_44, kt_45, kl_45, kt_46, kl_46, kt_47, kl_47, kt_48, kl_48, kt_49, kl_49, kt_50, kl_50, kt_51, kl_51, kt_52, kl_52, kt_53, kl_53, kt_54, kl_54, kt_55, kl_55, kt_56, kl_56, kt_57, kl_57, kt_58, kl_58, kt_59, kl_59, kt_60, kl_60, kt_61, kl_61, kt_62, kl_62, kt_63, kl_63, kt_64, kl_64, kt_65, kl_65, kt_97, kl_97, kt_99, kl_99, kt_100, kl_100, kt_122, kl_122, kt_159, kl_159, kt_160, kl_160, kt_161, kl_161, kt_170, kl_170, kt_999, kl_999, kt_9999, kl_9999, kt_99999, kl_99999, kt_1000000, kl_1000000, e_m1 (x := I 10 4) (h := ⟨w11, by omega⟩), e_m1 (x := I 31 7) (h := ⟨by omega, by omega⟩), e_m1 (x := I 1 2) (h := ⟨by omega, by omega⟩), Int32.toInt_toInt64, e_l1, fc_wI_lo, fc_wI_at, fc_wI_c, ne_eq, Nat.reduceEqDiff, not_false_eq_true, reduceCtorEq, if_true, if_false, ite_true, ite_false, q0_0 he, q0_1 he, q0_2 he, q0_3 he, q0_4 he, q0_5 he, q0_6 he, q0_7 he, q0_8 he, q0_9 he, q0_10 he, q0_11 he, qr_79 he, qr_80 he, qr_81 he, qr_82 he, qr_83 he, qr_84 he, qr_86 he, qr_88 he, qr_89 he, qr_90 he, qr_91 he, qr_92 he, qr_93 he, qr_94 he, qr_95 he, qr_96 he, qr_97 he, qr_98 he, qr_99 he, qr_100 he, qr_101 he, qr_102 he, qr_103 he, qr_104 he, qr_105 he, qr_126 he, qr_127 he, qr_7 he]
  all_goals repeat' (first | with_reducible refine MR_pos (by omega) ?_ | with_reducible refine MR_neg (by omega) ?_ | refine MR_g (by constructor <;> omega) ?_ | refine MR_some ?_ ?_)
  all_goals first | rfl | exact hR | exact i_ac _ | (refine ⟨?_, ?_, ?_, ?_⟩)
  all_goals first | (simp only [mC_ne, ne_eq, Nat.reduceEqDiff, not_false_eq_true, and_self]; exact hR.2.2.1) | (intro s h1 h2; simp only [fc_wI_lo, fc_wI_at, ne_eq, Nat.reduceEqDiff, not_false_eq_true, if_true, if_false, ite_true, ite_false, reduceCtorEq] at h1 ⊢; exact hR.2.2.2 s (by omega) h2) | fail | (simp only [bw_2, bw_3, bw_5, bw_6, bw_7, bw_8, bw_9, bw_11, bw_12, bw_13, bw_14, bw_16, bw_25, bw_26, bw_27, bw_28, bw_29, bw_30, bw_68, bw_46, bw_47, bw_48, bw_49, bw_50, bw_51, bw_53, bw_52, bw0_2, bw0_3, bw0_4, bw0_5, bw0_7, bw0_6, bw0_1, bw0_10, bw0_11, bw0_0, bs_42, bs_43, bs_44, bs_54, bs_55, bs_56, bs_57, bs_67, bs_69, mw_79, mw_80, mw_81, mw_82, mw_83, mw_84, mw_88, mw_89, mw_90, mw_91, mw_92, mw_93, mw_94, mw_95, mw_96, mw_97, mw_98, mw_99, mw_100, mw_101, mw_102, mw_103, mw_104, mw_105, mw_126, mw_85, mw_87, mw_86, mw0_0, mw0_1, mw0_2, mw0_3, mw0_4, mw0_5, mw0_6, mw0_7, mw0_10, mw0_11, ms_44, ms_45, ms_46, ms_47, ms_51, ms_52, ms_53, ms_55, ms_56, ms_67, ms_68, ms_c111, ms_c112, ms_c113, ms_c114, ms_c115, ms_c116, ms_c117, ms_c118, ms_c119, ms_c120, ms_c121, ms_c122, ms_c123, ms_c124, ms_c125, ms_c130, aX_hi, aM_lo, Nat.reduceLeDiff, Nat.reduceLT, fc_wI_lo, ne_eq, Nat.reduceEqDiff, not_false_eq_true]; (refine wf_road hR.2.1 ?_ ?_ ?_ ?_ ?_ ?_ <;> first | omega | (simp only [ax0_0, ax0_1, ax0_2, ax0_3, ax0_4, ax0_5, ax0_6, ax0_7, ax0_8, ax0_9, ax0_10, ax0_11, ax_1, ax_2, ax_3, ax_4, ax_5, ax_6, ax_7, ax_8, ax_9, ax_10, ax_11, ax_12, ax_13, ax_14, ax_15, ax_16, ax_17, ax_18, ax_19, ax_20, ax_21, ax_22, ax_23, ax_24, ax_25, ax_26, ax_27, ax_28, kt_0, kt_1, kt_m1]; done) | (simp only [ax0_0, ax0_1, ax0_2, ax0_3, ax0_4, ax0_5, ax0_6, ax0_7, ax0_8, ax0_9, ax0_10, ax0_11, ax_1, ax_2, ax_3, ax_4, ax_5, ax_6, ax_7, ax_8, ax_9, ax_10, ax_11, ax_12, ax_13, ax_14, ax_15, ax_16, ax_17, ax_18, ax_19, ax_20, ax_21, ax_22, ax_23, ax_24, ax_25, ax_26, ax_27, ax_28, kt_0, kt_1, kt_m1]; omega))) | (simp only [bw_2, bw_3, bw_5, bw_6, bw_7, bw_8, bw_9, bw_11, bw_12, bw_13, bw_14, bw_16, bw_25, bw_26, bw_27, bw_28, bw_29, bw_30, bw_68, bw_46, bw_47, bw_48, bw_49, bw_50, bw_51, bw_53, bw_52, bw0_2, bw0_3, bw0_4, bw0_5, bw0_7, bw0_6, bw0_1, bw0_10, bw0_11, bw0_0, bs_42, bs_43, bs_44, bs_54, bs_55, bs_56, bs_57, bs_67, bs_69, mw_79, mw_80, mw_81, mw_82, mw_83, mw_84, mw_88, mw_89, mw_90, mw_91, mw_92, mw_93, mw_94, mw_95, mw_96, mw_97, mw_98, mw_99, mw_100, mw_101, mw_102, mw_103, mw_104, mw_105, mw_126, mw_85, mw_87, mw_86, mw0_0, mw0_1, mw0_2, mw0_3, mw0_4, mw0_5, mw0_6, mw0_7, mw0_10, mw0_11, ms_44, ms_45, ms_46, ms_47, ms_51, ms_52, ms_53, ms_55, ms_56, ms_67, ms_68, ms_c111, ms_c112, ms_c113, ms_c114, ms_c115, ms_c116, ms_c117, ms_c118, ms_c119, ms_c120, ms_c121, ms_c122, ms_c123, ms_c124, ms_c125, ms_c130, aX_hi, aM_lo, Nat.reduceLeDiff, Nat.reduceLT, fc_wI_lo, ne_eq, Nat.reduceEqDiff, not_false_eq_true]; rw [he]; first | done | rfl | (funext r k; simp only [fc_wI]; (repeat' split) <;> first | rfl | omega)) | skip
set_option maxHeartbeats 4000000 in
set_option maxRecDepth 100000 in
theorem wf_turn {A : fc_I} (hw : Wf A) {x : Int32} (cx : 0 ≤ x.toInt ∧ x.toInt < (A 0 4).toInt) (c0 : (A 0 0).toInt ≤ 60) : Wf (fc_wI A 13 (cn x) (A 0 0)) := by
  obtain ⟨h0, hr, hb, hs, hl, hz, hn⟩ := hw
  obtain ⟨⟨w1, w2, w3, w4⟩, ⟨w5, w6⟩, ⟨w7, w8⟩, ⟨w9, w10⟩, ⟨w11, w12⟩, ⟨w13, w14⟩, ⟨w15, w16⟩, ⟨w17, w18⟩, ⟨w19, w20⟩, ⟨w21, w22⟩⟩ := h0
  have e2 := cn_int (x := x) (by omega)
  have km1 : (-1 : Int32).toInt = -1 := rfl
  refine ⟨?_, ?_, ?_, ?_, ?_, ?_, ?_⟩
  · unfold Wf0
    simp only [fc_wI_lo, fc_wI_at, ne_eq, Nat.reduceEqDiff, not_false_eq_true, if_true, if_false, ite_true, ite_false, kt_1, kt_0, kt_m1]
    omega
  · intro r
    have q := hr r
    simp only [fc_wI_lo, fc_wI_at, ne_eq, Nat.reduceEqDiff, not_false_eq_true, if_true, if_false, ite_true, ite_false, kt_1, kt_0, kt_m1]
    first | exact q | (repeat' split) <;> omega
  · intro r
    have q := hb r
    simp only [fc_wI_lo, fc_wI_at, ne_eq, Nat.reduceEqDiff, not_false_eq_true, if_true, if_false, ite_true, ite_false, kt_1, kt_0, kt_m1]
    first | exact q | (repeat' split) <;> omega
  · intro r
    have q := hs r
    simp only [fc_wI_lo, fc_wI_at, ne_eq, Nat.reduceEqDiff, not_false_eq_true, if_true, if_false, ite_true, ite_false, kt_1, kt_0, kt_m1]
    first | exact q | (repeat' split) <;> omega
  · intro r
    have q := hl r
    simp only [fc_wI_lo, fc_wI_at, ne_eq, Nat.reduceEqDiff, not_false_eq_true, if_true, if_false, ite_true, ite_false, kt_1, kt_0, kt_m1]
    first | exact q | (repeat' split) <;> omega
  · intro r
    have q := hz r
    simp only [fc_wI_lo, fc_wI_at, ne_eq, Nat.reduceEqDiff, not_false_eq_true, if_true, if_false, ite_true, ite_false, kt_1, kt_0, kt_m1]
    first | exact q | (repeat' split) <;> omega
  · obtain ⟨hg, hh, ht⟩ := hn
    refine ⟨?_, ?_, ?_⟩
    · intro r
      have q := hg r
      simp only [fc_wI_lo, fc_wI_at, ne_eq, Nat.reduceEqDiff, not_false_eq_true, if_true, if_false, ite_true, ite_false, kt_1, kt_0, kt_m1]
      first | exact q | (repeat' split) <;> omega
    · unfold WfH wS at hh ⊢
      simp only [fc_wI_lo, fc_wI_at, ne_eq, Nat.reduceEqDiff, not_false_eq_true, if_true, if_false, ite_true, ite_false, kt_1, kt_0, kt_m1]
      first | exact hh | (exact hh)
    · unfold WfT at ht ⊢
      simp only [fc_wI_lo, fc_wI_at, ne_eq, Nat.reduceEqDiff, not_false_eq_true, if_true, if_false, ite_true, ite_false, kt_1, kt_0, kt_m1]
      exact ht
set_option maxHeartbeats 4000000 in
set_option maxRecDepth 100000 in
theorem r_turn {I : fc_I} {x1 : Int32} (hR : Rel I) : RR (f_X10_turn I x1) (fun I => f_X11_turn I x1) := by
  have he := hR.1
  have hw0 : (0 ≤ (I 45 9).toInt ∧ (I 45 9).toInt ≤ (I 15 11).toInt ∧ 1 ≤ (I 15 11).toInt ∧ (I 15 11).toInt ≤ 60) ∧ (0 ≤ (I 1 2).toInt ∧ (I 1 2).toInt ≤ 6) ∧ (0 ≤ (I 1 3).toInt ∧ (I 1 3).toInt ≤ 3) ∧ (0 ≤ (I 4 5).toInt ∧ (I 4 5).toInt ≤ 14) ∧ (0 ≤ (I 10 4).toInt ∧ (I 10 4).toInt ≤ 4) ∧ (0 ≤ (I 15 10).toInt ∧ (I 15 10).toInt ≤ 2) ∧ (0 ≤ (I 15 9).toInt ∧ (I 15 9).toInt ≤ 40) ∧ (0 ≤ (I 31 6).toInt ∧ (I 31 6).toInt ≤ 160) ∧ (1 ≤ (I 31 7).toInt ∧ (I 31 7).toInt ≤ 6) ∧ (0 ≤ (I 31 8).toInt ∧ (I 31 8).toInt < (I 31 7).toInt) := hR.2.1.1
  obtain ⟨⟨w1, w2, w3, w4⟩, ⟨w5, w6⟩, ⟨w7, w8⟩, ⟨w9, w10⟩, ⟨w11, w12⟩, ⟨w13, w14⟩, ⟨w15, w16⟩, ⟨w17, w18⟩, ⟨w19, w20⟩, ⟨w21, w22⟩⟩ := hw0
  have f1 := wr_at hR.2.1.2.1 x1
  simp only [f_X10_turn, f_X11_turn, e_isOutside, e_isIn, e_isNoTrack, e_isNoSheet, e_isTrack, e_isSheet, e_isZone, e_isShelter, e_isRoad, e_isBus, e_isNoZone (I := I) (h := ⟨w5, by omega⟩), e_isNoShelter (I := I) (h := ⟨w7, by omega⟩), e_isNoRoad (I := I) (h := ⟨w9, by omega⟩), e_isNoGoal (I := I) (h := ⟨w5, w6, w7, w8⟩), e_isGoal, e_m1 (x := I 10 4) (h := ⟨w11, by omega⟩), e_m1 (x := I 31 7) (h := ⟨by omega, by omega⟩), e_l1, fq_b_g, fq_v_g, fq_u_g, fq_b_i, fq_v_i, fq_u_i, fq_usome, fq_vsome, fq_bsome, fq_l, fq_zb, b2i, Int32.toInt_toInt64, kt_m100, kl_m100, kt_m18, kl_m18, kt_m17, kl_m17, kt_m16, kl_m16, kt_m14, kl_m14, kt_m13, kl_m13, kt_m12, kl_m12, kt_m11, kl_m11, kt_m9, kl_m9, kt_m6, kl_m6, kt_m5, kl_m5, kt_m4, kl_m4, kt_m3, kl_m3, kt_m2, kl_m2, kt_m1, kl_m1, kt_0, kl_0, kt_1, kl_1, kt_2, kl_2, kt_3, kl_3, kt_4, kl_4, kt_5, kl_5, kt_6, kl_6, kt_7, kl_7, kt_8, kl_8, kt_9, kl_9, kt_10, kl_10, kt_11, kl_11, kt_12, kl_12, kt_13, kl_13, kt_14, kl_14, kt_15, kl_15, kt_16, kl_16, kt_17, kl_17, kt_18, kl_18, kt_19, kl_19, kt_20, kl_20, kt_21, kl_21, kt_22, kl_22, kt_23, kl_23, kt_24, kl_24, kt_25, kl_25, kt_26, kl_26, kt_27, kl_27, kt_28, kl_28, kt_29, kl_29, kt_30, kl_30, kt_31, kl_31, kt_32, kl_32, kt_33, kl_33, kt_34, kl_34, kt_35, kl_35, kt_36, kl_36, kt_37, kl_37, kt_38, kl_38, kt_39, kl_39, kt_40, kl_40, kt_41, kl_41, kt_42, kl_42, kt_43, kl_43, kt_44, kl_44, kt_45, kl_45, kt_46, kl_46, kt_47, kl_47, kt_48, kl_48, kt_49, kl_49, kt_50, kl_50, kt_51, kl_51, kt_52, kl_52, kt_53, kl_53, kt_54, kl_54, kt_55, kl_55, kt_56, kl_56, kt_57, kl_57, kt_58, kl_58, kt_59, kl_59, kt_60, kl_60, kt_61, kl_61, kt_62, kl_62, kt_63, kl_63, kt_64, kl_64, kt_65, kl_65, kt_97, kl_97, kt_99, kl_99, kt_100, kl_100, kt_122, kl_122, kt_159, kl_159, kt_160, kl_160, kt_161, kl_161, kt_170, kl_170, kt_999, kl_999, kt_9999, kl_9999, kt_99999, kl_99999, kt_1000000, kl_1000000]
  repeat' (first | with_reducible refine RR_ite (fun _ => ?_) (fun _ => ?_) | refine RR_g (by constructor <;> omega) ?_ | refine RR_some ?_)
  all_goals try dsimp only
  all_goals try simp only [kt_m100, kl_m100, kt_m18, kl_m18, kt_m17, kl_m17, kt_m16, kl_m16, kt_m14, kl_m14, kt_m13, kl_m13, kt_m12, kl_m12, kt_m11, kl_m11, kt_m9, kl_m9, kt_m6, kl_m6, kt_m5, kl_m5, kt_m4, kl_m4, kt_m3, kl_m3, kt_m2, kl_m2, kt_m1, kl_m1, kt_0, kl_0, kt_1, kl_1, kt_2, kl_2, kt_3, kl_3, kt_4, kl_4, kt_5, kl_5, kt_6, kl_6, kt_7, kl_7, kt_8, kl_8, kt_9, kl_9, kt_10, kl_10, kt_11, kl_11, kt_12, kl_12, kt_13, kl_13, kt_14, kl_14, kt_15, kl_15, kt_16, kl_16, kt_17, kl_17, kt_18, kl_18, kt_19, kl_19, kt_20, kl_20, kt_21, kl_21, kt_22, kl_22, kt_23, kl_23, kt_24, kl_24, kt_25, kl_25, kt_26, kl_26, kt_27, kl_27, kt_28, kl_28, kt_29, kl_29, kt_30, kl_30, kt_31, kl_31, kt_32, kl_32, kt_33, kl_33, kt_34, kl_34, kt_35, kl_35, kt_36, kl_36, kt_37, kl_37, kt_38, kl_38, kt_39, kl_39, kt_40, kl_40, kt_41, kl_41, kt_42, kl_42, kt_43, kl_43, kt_44, kl_44, kt_45, kl_45, kt_46, kl_46, kt_47, kl_47, kt_48, kl_48, kt_49, kl_49, kt_50, kl_50, kt_51, kl_51, kt_52, kl_52, kt_53, kl_53, kt_54, kl_54, kt_55, kl_55, kt_56, kl_56, kt_57, kl_57, kt_58, kl_58, kt_59, kl_59, kt_60, kl_60, kt_61, kl_61, kt_62, kl_62, kt_63, kl_63, kt_64, kl_64, kt_65, kl_65, kt_97, kl_97, kt_99, kl_99, kt_100, kl_100, kt_122, kl_122, kt_159, kl_159, kt_160, kl_160, kt_161, kl_161, kt_170, kl_170, kt_999, kl_999, kt_9999, kl_9999, kt_99999, kl_99999, kt_1000000, kl_1000000, e_m1 (x := I 10 4) (h := ⟨w11, by omega⟩), e_m1 (x := I 31 7) (h := ⟨by omega, by omega⟩), e_m1 (x := I 1 2) (h := ⟨by omega, by omega⟩), Int32.toInt_toInt64, e_l1, fc_wI_lo, fc_wI_at, fc_wI_c, ne_eq, Nat.reduceEqDiff, not_false_eq_true, reduceCtorEq, if_true, if_false, ite_true, ite_false, q0_0 he, q0_1 he, q0_2 he, q0_3 he, q0_4 he, q0_5 he, q0_6 he, q0_7 he, q0_8 he, q0_9 he, q0_10 he, q0_11 he, qr_79 he, qr_80 he, qr_81 he, qr_82 he, qr_83 he, qr_84 he, qr_86 he, qr_88 he, qr_89 he, qr_90 he, qr_91 he, qr_92 he, qr_93 he, qr_94 he, qr_95 he, qr_96 he, qr_97 he, qr_98 he, qr_99 he, qr_100 he, qr_101 he, qr_102 he, qr_103 he, qr_104 he, qr_105 he, qr_126 he, qr_127 he, qr_7 he]
  all_goals repeat' (first | with_reducible refine MR_pos (by omega) ?_ | with_reducible refine MR_neg (by omega) ?_ | refine MR_g (by constructor <;> omega) ?_ | refine MR_some ?_ ?_)
  all_goals first | rfl | exact hR | exact i_ac _ | (refine ⟨?_, ?_, ?_, ?_⟩)
  all_goals first | (simp only [mC_ne, ne_eq, Nat.reduceEqDiff, not_false_eq_true, and_self]; exact hR.2.2.1) | (intro s h1 h2; simp only [fc_wI_lo, fc_wI_at, ne_eq, Nat.reduceEqDiff, not_false_eq_true, if_true, if_false, ite_true, ite_false, reduceCtorEq] at h1 ⊢; exact hR.2.2.2 s (by omega) h2) | fail | (simp only [bw_2, bw_3, bw_5, bw_6, bw_7, bw_8, bw_9, bw_11, bw_12, bw_13, bw_14, bw_16, bw_25, bw_26, bw_27, bw_28, bw_29, bw_30, bw_68, bw_46, bw_47, bw_48, bw_49, bw_50, bw_51, bw_53, bw_52, bw0_2, bw0_3, bw0_4, bw0_5, bw0_7, bw0_6, bw0_1, bw0_10, bw0_11, bw0_0, bs_42, bs_43, bs_44, bs_54, bs_55, bs_56, bs_57, bs_67, bs_69, mw_79, mw_80, mw_81, mw_82, mw_83, mw_84, mw_88, mw_89, mw_90, mw_91, mw_92, mw_93, mw_94, mw_95, mw_96, mw_97, mw_98, mw_99, mw_100, mw_101, mw_102, mw_103, mw_104, mw_105, mw_126, mw_85, mw_87, mw_86, mw0_0, mw0_1, mw0_2, mw0_3, mw0_4, mw0_5, mw0_6, mw0_7, mw0_10, mw0_11, ms_44, ms_45, ms_46, ms_47, ms_51, ms_52, ms_53, ms_55, ms_56, ms_67, ms_68, ms_c111, ms_c112, ms_c113, ms_c114, ms_c115, ms_c116, ms_c117, ms_c118, ms_c119, ms_c120, ms_c121, ms_c122, ms_c123, ms_c124, ms_c125, ms_c130, aX_hi, aM_lo, Nat.reduceLeDiff, Nat.reduceLT, fc_wI_lo, ne_eq, Nat.reduceEqDiff, not_false_eq_true]; (refine wf_turn hR.2.1 ?_ ?_ <;> first | omega | (simp only [ax0_0, ax0_1, ax0_2, ax0_3, ax0_4, ax0_5, ax0_6, ax0_7, ax0_8, ax0_9, ax0_10, ax0_11, ax_1, ax_2, ax_3, ax_4, ax_5, ax_6, ax_7, ax_8, ax_9, ax_10, ax_11, ax_12, ax_13, ax_14, ax_15, ax_16, ax_17, ax_18, ax_19, ax_20, ax_21, ax_22, ax_23, ax_24, ax_25, ax_26, ax_27, ax_28, kt_0, kt_1, kt_m1]; done) | (simp only [ax0_0, ax0_1, ax0_2, ax0_3, ax0_4, ax0_5, ax0_6, ax0_7, ax0_8, ax0_9, ax0_10, ax0_11, ax_1, ax_2, ax_3, ax_4, ax_5, ax_6, ax_7, ax_8, ax_9, ax_10, ax_11, ax_12, ax_13, ax_14, ax_15, ax_16, ax_17, ax_18, ax_19, ax_20, ax_21, ax_22, ax_23, ax_24, ax_25, ax_26, ax_27, ax_28, kt_0, kt_1, kt_m1]; omega))) | (simp only [bw_2, bw_3, bw_5, bw_6, bw_7, bw_8, bw_9, bw_11, bw_12, bw_13, bw_14, bw_16, bw_25, bw_26, bw_27, bw_28, bw_29, bw_30, bw_68, bw_46, bw_47, bw_48, bw_49, bw_50, bw_51, bw_53, bw_52, bw0_2, bw0_3, bw0_4, bw0_5, bw0_7, bw0_6, bw0_1, bw0_10, bw0_11, bw0_0, bs_42, bs_43, bs_44, bs_54, bs_55, bs_56, bs_57, bs_67, bs_69, mw_79, mw_80, mw_81, mw_82, mw_83, mw_84, mw_88, mw_89, mw_90, mw_91, mw_92, mw_93, mw_94, mw_95, mw_96, mw_97, mw_98, mw_99, mw_100, mw_101, mw_102, mw_103, mw_104, mw_105, mw_126, mw_85, mw_87, mw_86, mw0_0, mw0_1, mw0_2, mw0_3, mw0_4, mw0_5, mw0_6, mw0_7, mw0_10, mw0_11, ms_44, ms_45, ms_46, ms_47, ms_51, ms_52, ms_53, ms_55, ms_56, ms_67, ms_68, ms_c111, ms_c112, ms_c113, ms_c114, ms_c115, ms_c116, ms_c117, ms_c118, ms_c119, ms_c120, ms_c121, ms_c122, ms_c123, ms_c124, ms_c125, ms_c130, aX_hi, aM_lo, Nat.reduceLeDiff, Nat.reduceLT, fc_wI_lo, ne_eq, Nat.reduceEqDiff, not_false_eq_true]; rw [he]; first | done | rfl | (funext r k; simp only [fc_wI]; (repeat' split) <;> first | rfl | omega)) | skip
set_option maxHeartbeats 4000000 in
set_option maxRecDepth 100000 in
theorem wf_bus {A : fc_I} (hw : Wf A) {z s k t : Int32} (c1 : (A 0 5).toInt < 4) (cz : 0 ≤ z.toInt ∧ z.toInt < (A 0 2).toInt) (cs : 0 ≤ s.toInt ∧ s.toInt < (A 0 3).toInt) (ck : 1 ≤ k.toInt ∧ k.toInt ≤ 99) (ct : 1 ≤ t.toInt ∧ t.toInt ≤ 9) : Wf (fc_wI (fc_wI (fc_wI (fc_wI (fc_wI A 0 5 (A 0 5 + 1)) 14 (cn (A 0 5)) z) 15 (cn (A 0 5)) s) 16 (cn (A 0 5)) k) 17 (cn (A 0 5)) t) := by
  obtain ⟨h0, hr, hb, hs, hl, hz, hn⟩ := hw
  obtain ⟨⟨w1, w2, w3, w4⟩, ⟨w5, w6⟩, ⟨w7, w8⟩, ⟨w9, w10⟩, ⟨w11, w12⟩, ⟨w13, w14⟩, ⟨w15, w16⟩, ⟨w17, w18⟩, ⟨w19, w20⟩, ⟨w21, w22⟩⟩ := h0
  have e1 : (A 0 5 + 1).toInt = (A 0 5).toInt + 1 := i_add (by rw [kt_1]; omega) (by rw [kt_1]; omega)
  have e2 := cn_int (x := A 0 5) (by omega)
  have km1 : (-1 : Int32).toInt = -1 := rfl
  refine ⟨?_, ?_, ?_, ?_, ?_, ?_, ?_⟩
  · unfold Wf0
    simp only [fc_wI_lo, fc_wI_at, ne_eq, Nat.reduceEqDiff, not_false_eq_true, if_true, if_false, ite_true, ite_false, kt_1, kt_0, kt_m1]
    omega
  · intro r
    have q := hr r
    simp only [fc_wI_lo, fc_wI_at, ne_eq, Nat.reduceEqDiff, not_false_eq_true, if_true, if_false, ite_true, ite_false, kt_1, kt_0, kt_m1]
    first | exact q | (repeat' split) <;> omega
  · intro r
    have q := hb r
    simp only [fc_wI_lo, fc_wI_at, ne_eq, Nat.reduceEqDiff, not_false_eq_true, if_true, if_false, ite_true, ite_false, kt_1, kt_0, kt_m1]
    first | exact q | (repeat' split) <;> omega
  · intro r
    have q := hs r
    simp only [fc_wI_lo, fc_wI_at, ne_eq, Nat.reduceEqDiff, not_false_eq_true, if_true, if_false, ite_true, ite_false, kt_1, kt_0, kt_m1]
    first | exact q | (repeat' split) <;> omega
  · intro r
    have q := hl r
    simp only [fc_wI_lo, fc_wI_at, ne_eq, Nat.reduceEqDiff, not_false_eq_true, if_true, if_false, ite_true, ite_false, kt_1, kt_0, kt_m1]
    first | exact q | (repeat' split) <;> omega
  · intro r
    have q := hz r
    simp only [fc_wI_lo, fc_wI_at, ne_eq, Nat.reduceEqDiff, not_false_eq_true, if_true, if_false, ite_true, ite_false, kt_1, kt_0, kt_m1]
    first | exact q | (repeat' split) <;> omega
  · obtain ⟨hg, hh, ht⟩ := hn
    refine ⟨?_, ?_, ?_⟩
    · intro r
      have q := hg r
      simp only [fc_wI_lo, fc_wI_at, ne_eq, Nat.reduceEqDiff, not_false_eq_true, if_true, if_false, ite_true, ite_false, kt_1, kt_0, kt_m1]
      first | exact q | (repeat' split) <;> omega
    · unfold WfH wS at hh ⊢
      simp only [fc_wI_lo, fc_wI_at, ne_eq, Nat.reduceEqDiff, not_false_eq_true, if_true, if_false, ite_true, ite_false, kt_1, kt_0, kt_m1]
      first | exact hh | (exact hh)
    · unfold WfT at ht ⊢
      simp only [fc_wI_lo, fc_wI_at, ne_eq, Nat.reduceEqDiff, not_false_eq_true, if_true, if_false, ite_true, ite_false, kt_1, kt_0, kt_m1]
      exact ht
set_option maxHeartbeats 4000000 in
set_option maxRecDepth 100000 in
theorem r_bus {I : fc_I} {x1 x2 x3 x4 : Int32} (hR : Rel I) : RR (f_X10_bus I x1 x2 x3 x4) (fun I => f_X11_bus I x1 x2 x3 x4) := by
  have he := hR.1
  have hw0 : (0 ≤ (I 45 9).toInt ∧ (I 45 9).toInt ≤ (I 15 11).toInt ∧ 1 ≤ (I 15 11).toInt ∧ (I 15 11).toInt ≤ 60) ∧ (0 ≤ (I 1 2).toInt ∧ (I 1 2).toInt ≤ 6) ∧ (0 ≤ (I 1 3).toInt ∧ (I 1 3).toInt ≤ 3) ∧ (0 ≤ (I 4 5).toInt ∧ (I 4 5).toInt ≤ 14) ∧ (0 ≤ (I 10 4).toInt ∧ (I 10 4).toInt ≤ 4) ∧ (0 ≤ (I 15 10).toInt ∧ (I 15 10).toInt ≤ 2) ∧ (0 ≤ (I 15 9).toInt ∧ (I 15 9).toInt ≤ 40) ∧ (0 ≤ (I 31 6).toInt ∧ (I 31 6).toInt ≤ 160) ∧ (1 ≤ (I 31 7).toInt ∧ (I 31 7).toInt ≤ 6) ∧ (0 ≤ (I 31 8).toInt ∧ (I 31 8).toInt < (I 31 7).toInt) := hR.2.1.1
  obtain ⟨⟨w1, w2, w3, w4⟩, ⟨w5, w6⟩, ⟨w7, w8⟩, ⟨w9, w10⟩, ⟨w11, w12⟩, ⟨w13, w14⟩, ⟨w15, w16⟩, ⟨w17, w18⟩, ⟨w19, w20⟩, ⟨w21, w22⟩⟩ := hw0
  simp only [f_X10_bus, f_X11_bus, f_X1_hire, e_isOutside, e_isIn, e_isNoTrack, e_isNoSheet, e_isTrack, e_isSheet, e_isZone, e_isShelter, e_isRoad, e_isBus, e_isNoZone (I := I) (h := ⟨w5, by omega⟩), e_isNoShelter (I := I) (h := ⟨w7, by omega⟩), e_isNoRoad (I := I) (h := ⟨w9, by omega⟩), e_isNoGoal (I := I) (h := ⟨w5, w6, w7, w8⟩), e_isGoal, e_m1 (x := I 10 4) (h := ⟨w11, by omega⟩), e_m1 (x := I 31 7) (h := ⟨by omega, by omega⟩), e_l1, fq_b_g, fq_v_g, fq_u_g, fq_b_i, fq_v_i, fq_u_i, fq_usome, fq_vsome, fq_bsome, fq_l, fq_zb, b2i, Int32.toInt_toInt64, kt_m100, kl_m100, kt_m18, kl_m18, kt_m17, kl_m17, kt_m16, kl_m16, kt_m14, kl_m14, kt_m13, kl_m13, kt_m12, kl_m12, kt_m11, kl_m11, kt_m9, kl_m9, kt_m6, kl_m6, kt_m5, kl_m5, kt_m4, kl_m4, kt_m3, kl_m3, kt_m2, kl_m2, kt_m1, kl_m1, kt_0, kl_0, kt_1, kl_1, kt_2, kl_2, kt_3, kl_3, kt_4, kl_4, kt_5, kl_5, kt_6, kl_6, kt_7, kl_7, kt_8, kl_8, kt_9, kl_9, kt_10, kl_10, kt_11, kl_11, kt_12, kl_12, kt_13, kl_13, kt_14, kl_14, kt_15, kl_15, kt_16, kl_16, kt_17, kl_17, kt_18, kl_18, kt_19, kl_19, kt_20, kl_20, kt_21, kl_21, kt_22, kl_22, kt_23, kl_23, kt_24, kl_24, kt_25, kl_25, kt_26, kl_26, kt_27, kl_27, kt_28, kl_28, kt_29, kl_29, kt_30, kl_30, kt_31, kl_31, kt_32, kl_32, kt_33, kl_33, kt_34, kl_34, kt_35, kl_35, kt_36, kl_36, kt_37, kl_37, kt_38, kl_38, kt_39, kl_39, kt_40, kl_40, kt_41, kl_41, kt_42, kl_42, kt_43, kl_43, kt_44, kl_44, kt_45, kl_45, kt_46, kl_46, kt_47, kl_47, kt_48, kl_48, kt_49, kl_49, kt_50, kl_50, kt_51, kl_51, kt_52, kl_52, kt_53, kl_53, kt_54, kl_54, kt_55, kl_55, kt_56, kl_56, kt_57, kl_57, kt_58, kl_58, kt_59, kl_59, kt_60, kl_60, kt_61, kl_61, kt_62, kl_62, kt_63, kl_63, kt_64, kl_64, kt_65, kl_65, kt_97, kl_97, kt_99, kl_99, kt_100, kl_100, kt_122, kl_122, kt_159, kl_159, kt_160, kl_160, kt_161, kl_161, kt_170, kl_170, kt_999, kl_999, kt_9999, kl_9999, kt_99999, kl_99999, kt_1000000, kl_1000000]
  repeat' (first | with_reducible refine RR_ite (fun _ => ?_) (fun _ => ?_) | refine RR_g (by constructor <;> omega) ?_ | refine RR_some ?_)
  all_goals try dsimp only
  all_goals try simp only [kt_m100, kl_m100, kt_m18, kl_m18, kt_m17, kl_m17, kt_m16, kl_m16, kt_m14, kl_m14, kt_m13, kl_m13, kt_m12, kl_m12, kt_m11, kl_m11, kt_m9, kl_m9, kt_m6, kl_m6, kt_m5, kl_m5, kt_m4, kl_m4, kt_m3, kl_m3, kt_m2, kl_m2, kt_m1, kl_m1, kt_0, kl_0, kt_1, kl_1, kt_2, kl_2, kt_3, kl_3, kt_4, kl_4, kt_5, kl_5, kt_6, kl_6, kt_7, kl_7, kt_8, kl_8, kt_9, kl_9, kt_10, kl_10, kt_11, kl_11, kt_12, kl_12, kt_13, kl_13, kt_14, kl_14, kt_15, kl_15, kt_16, kl_16, kt_17, kl_17, kt_18, kl_18, kt_19, kl_19, kt_20, kl_20, kt_21, kl_21, kt_22, kl_22, kt_23, kl_23, kt_24, kl_24, kt_25, kl_25, kt_26, kl_26, kt_27, kl_27, kt_28, kl_28, kt_29, kl_29, kt_30, kl_30, kt_31, kl_31, kt_32, kl_32, kt_33, kl_33, kt_34, kl_34, kt_35, kl_35, kt_36, kl_36, kt_37, kl_37, kt_38, kl_38, kt_39, kl_39, kt_40, kl_40, kt_41, kl_41, kt_42, kl_42, kt_43, kl_43, kt_44, kl_44, kt_45, kl_45, kt_46, kl_46, kt_47, kl_47, kt_48, kl_48, kt_49, kl_49, kt_50, kl_50, kt_51, kl_51, kt_52, kl_52, kt_53, kl_53, kt_54, kl_54, kt_55, kl_55, kt_56, kl_56, kt_57, kl_57, kt_58, kl_58, kt_59, kl_59, kt_60, kl_60, kt_61, kl_61, kt_62, kl_62, kt_63, kl_63, kt_64, kl_64, kt_65, kl_65, kt_97, kl_97, kt_99, kl_99, kt_100, kl_100, kt_122, kl_122, kt_159, kl_159, kt_160, kl_160, kt_161, kl_161, kt_170, kl_170, kt_999, kl_999, kt_9999, kl_9999, kt_99999, kl_99999, kt_1000000, kl_1000000, e_m1 (x := I 10 4) (h := ⟨w11, by omega⟩), e_m1 (x := I 31 7) (h := ⟨by omega, by omega⟩), e_m1 (x := I 1 2) (h := ⟨by omega, by omega⟩), Int32.toInt_toInt64, e_l1, fc_wI_lo, fc_wI_at, fc_wI_c, ne_eq, Nat.reduceEqDiff, not_false_eq_true, reduceCtorEq, if_true, if_false, ite_true, ite_false, q0_0 he, q0_1 he, q0_2 he, q0_3 he, q0_4 he, q0_5 he, q0_6 he, q0_7 he, q0_8 he, q0_9 he, q0_10 he, q0_11 he, qr_79 he, qr_80 he, qr_81 he, qr_82 he, qr_83 he, qr_84 he, qr_86 he, qr_88 he, qr_89 he, qr_90 he, qr_91 he, qr_92 he, qr_93 he, qr_94 he, qr_95 he, qr_96 he, qr_97 he, qr_98 he, qr_99 he, qr_100 he, qr_101 he, qr_102 he, qr_103 he, qr_104 he, qr_105 he, qr_126 he, qr_127 he, qr_7 he]
  all_goals repeat' (first | with_reducible refine MR_pos (by omega) ?_ | with_reducible refine MR_neg (by omega) ?_ | refine MR_g (by constructor <;> omega) ?_ | refine MR_some ?_ ?_)
  all_goals first | rfl | exact hR | exact i_ac _ | (refine ⟨?_, ?_, ?_, ?_⟩)
  all_goals first | (simp only [mC_ne, ne_eq, Nat.reduceEqDiff, not_false_eq_true, and_self]; exact hR.2.2.1) | (intro s h1 h2; simp only [fc_wI_lo, fc_wI_at, ne_eq, Nat.reduceEqDiff, not_false_eq_true, if_true, if_false, ite_true, ite_false, reduceCtorEq] at h1 ⊢; exact hR.2.2.2 s (by omega) h2) | fail | (simp only [bw_2, bw_3, bw_5, bw_6, bw_7, bw_8, bw_9, bw_11, bw_12, bw_13, bw_14, bw_16, bw_25, bw_26, bw_27, bw_28, bw_29, bw_30, bw_68, bw_46, bw_47, bw_48, bw_49, bw_50, bw_51, bw_53, bw_52, bw0_2, bw0_3, bw0_4, bw0_5, bw0_7, bw0_6, bw0_1, bw0_10, bw0_11, bw0_0, bs_42, bs_43, bs_44, bs_54, bs_55, bs_56, bs_57, bs_67, bs_69, mw_79, mw_80, mw_81, mw_82, mw_83, mw_84, mw_88, mw_89, mw_90, mw_91, mw_92, mw_93, mw_94, mw_95, mw_96, mw_97, mw_98, mw_99, mw_100, mw_101, mw_102, mw_103, mw_104, mw_105, mw_126, mw_85, mw_87, mw_86, mw0_0, mw0_1, mw0_2, mw0_3, mw0_4, mw0_5, mw0_6, mw0_7, mw0_10, mw0_11, ms_44, ms_45, ms_46, ms_47, ms_51, ms_52, ms_53, ms_55, ms_56, ms_67, ms_68, ms_c111, ms_c112, ms_c113, ms_c114, ms_c115, ms_c116, ms_c117, ms_c118, ms_c119, ms_c120, ms_c121, ms_c122, ms_c123, ms_c124, ms_c125, ms_c130, aX_hi, aM_lo, Nat.reduceLeDiff, Nat.reduceLT, fc_wI_lo, ne_eq, Nat.reduceEqDiff, not_false_eq_true]; (refine wf_bus hR.2.1 ?_ ?_ ?_ ?_ ?_ <;> first | omega | (simp only [ax0_0, ax0_1, ax0_2, ax0_3, ax0_4, ax0_5, ax0_6, ax0_7, ax0_8, ax0_9, ax0_10, ax0_11, ax_1, ax_2, ax_3, ax_4, ax_5, ax_6, ax_7, ax_8, ax_9, ax_10, ax_11, ax_12, ax_13, ax_14, ax_15, ax_16, ax_17, ax_18, ax_19, ax_20, ax_21, ax_22, ax_23, ax_24, ax_25, ax_26, ax_27, ax_28, kt_0, kt_1, kt_m1]; done) | (simp only [ax0_0, ax0_1, ax0_2, ax0_3, ax0_4, ax0_5, ax0_6, ax0_7, ax0_8, ax0_9, ax0_10, ax0_11, ax_1, ax_2, ax_3, ax_4, ax_5, ax_6, ax_7, ax_8, ax_9, ax_10, ax_11, ax_12, ax_13, ax_14, ax_15, ax_16, ax_17, ax_18, ax_19, ax_20, ax_21, ax_22, ax_23, ax_24, ax_25, ax_26, ax_27, ax_28, kt_0, kt_1, kt_m1]; omega))) | (simp only [bw_2, bw_3, bw_5, bw_6, bw_7, bw_8, bw_9, bw_11, bw_12, bw_13, bw_14, bw_16, bw_25, bw_26, bw_27, bw_28, bw_29, bw_30, bw_68, bw_46, bw_47, bw_48, bw_49, bw_50, bw_51, bw_53, bw_52, bw0_2, bw0_3, bw0_4, bw0_5, bw0_7, bw0_6, bw0_1, bw0_10, bw0_11, bw0_0, bs_42, bs_43, bs_44, bs_54, bs_55, bs_56, bs_57, bs_67, bs_69, mw_79, mw_80, mw_81, mw_82, mw_83, mw_84, mw_88, mw_89, mw_90, mw_91, mw_92, mw_93, mw_94, mw_95, mw_96, mw_97, mw_98, mw_99, mw_100, mw_101, mw_102, mw_103, mw_104, mw_105, mw_126, mw_85, mw_87, mw_86, mw0_0, mw0_1, mw0_2, mw0_3, mw0_4, mw0_5, mw0_6, mw0_7, mw0_10, mw0_11, ms_44, ms_45, ms_46, ms_47, ms_51, ms_52, ms_53, ms_55, ms_56, ms_67, ms_68, ms_c111, ms_c112, ms_c113, ms_c114, ms_c115, ms_c116, ms_c117, ms_c118, ms_c119, ms_c120, ms_c121, ms_c122, ms_c123, ms_c124, ms_c125, ms_c130, aX_hi, aM_lo, Nat.reduceLeDiff, Nat.reduceLT, fc_wI_lo, ne_eq, Nat.reduceEqDiff, not_false_eq_true]; rw [he]; first | done | rfl | (funext r k; simp only [fc_wI]; (repeat' split) <;> first | rfl | omega)) | skip
set_option maxHeartbeats 4000000 in
set_option maxRecDepth 100000 in
theorem wf_end {A : fc_I} (hw : Wf A) {x : Int32} (c1 : (A 0 0).toInt ≤ x.toInt ∧ 1 ≤ x.toInt ∧ x.toInt ≤ 60) : Wf (fc_wI A 0 1 x) := by
  obtain ⟨h0, hr, hb, hs, hl, hz, hn⟩ := hw
  obtain ⟨⟨w1, w2, w3, w4⟩, ⟨w5, w6⟩, ⟨w7, w8⟩, ⟨w9, w10⟩, ⟨w11, w12⟩, ⟨w13, w14⟩, ⟨w15, w16⟩, ⟨w17, w18⟩, ⟨w19, w20⟩, ⟨w21, w22⟩⟩ := h0
  have km1 : (-1 : Int32).toInt = -1 := rfl
  refine ⟨?_, ?_, ?_, ?_, ?_, ?_, ?_⟩
  · unfold Wf0
    simp only [fc_wI_lo, fc_wI_at, ne_eq, Nat.reduceEqDiff, not_false_eq_true, if_true, if_false, ite_true, ite_false, kt_1, kt_0, kt_m1]
    omega
  · intro r
    have q := hr r
    simp only [fc_wI_lo, fc_wI_at, ne_eq, Nat.reduceEqDiff, not_false_eq_true, if_true, if_false, ite_true, ite_false, kt_1, kt_0, kt_m1]
    first | exact q | (repeat' split) <;> omega
  · intro r
    have q := hb r
    simp only [fc_wI_lo, fc_wI_at, ne_eq, Nat.reduceEqDiff, not_false_eq_true, if_true, if_false, ite_true, ite_false, kt_1, kt_0, kt_m1]
    first | exact q | (repeat' split) <;> omega
  · intro r
    have q := hs r
    simp only [fc_wI_lo, fc_wI_at, ne_eq, Nat.reduceEqDiff, not_false_eq_true, if_true, if_false, ite_true, ite_false, kt_1, kt_0, kt_m1]
    first | exact q | (repeat' split) <;> omega
  · intro r
    have q := hl r
    simp only [fc_wI_lo, fc_wI_at, ne_eq, Nat.reduceEqDiff, not_false_eq_true, if_true, if_false, ite_true, ite_false, kt_1, kt_0, kt_m1]
    first | exact q | (repeat' split) <;> omega
  · intro r
    have q := hz r
    simp only [fc_wI_lo, fc_wI_at, ne_eq, Nat.reduceEqDiff, not_false_eq_true, if_true, if_false, ite_true, ite_false, kt_1, kt_0, kt_m1]
    first | exact q | (repeat' split) <;> omega
  · obtain ⟨hg, hh, ht⟩ := hn
    refine ⟨?_, ?_, ?_⟩
    · intro r
      have q := hg r
      simp only [fc_wI_lo, fc_wI_at, ne_eq, Nat.reduceEqDiff, not_false_eq_true, if_true, if_false, ite_true, ite_false, kt_1, kt_0, kt_m1]
      first | exact q | (repeat' split) <;> omega
    · unfold WfH wS at hh ⊢
      simp only [fc_wI_lo, fc_wI_at, ne_eq, Nat.reduceEqDiff, not_false_eq_true, if_true, if_false, ite_true, ite_false, kt_1, kt_0, kt_m1]
      first | exact hh | (exact hh)
    · unfold WfT at ht ⊢
      simp only [fc_wI_lo, fc_wI_at, ne_eq, Nat.reduceEqDiff, not_false_eq_true, if_true, if_false, ite_true, ite_false, kt_1, kt_0, kt_m1]
      exact ht
set_option maxHeartbeats 4000000 in
set_option maxRecDepth 100000 in
theorem r_end {I : fc_I} {x1 : Int32} (hR : Rel I) : RR (f_X10_end I x1) (fun I => f_X11_end I x1) := by
  have he := hR.1
  have hw0 : (0 ≤ (I 45 9).toInt ∧ (I 45 9).toInt ≤ (I 15 11).toInt ∧ 1 ≤ (I 15 11).toInt ∧ (I 15 11).toInt ≤ 60) ∧ (0 ≤ (I 1 2).toInt ∧ (I 1 2).toInt ≤ 6) ∧ (0 ≤ (I 1 3).toInt ∧ (I 1 3).toInt ≤ 3) ∧ (0 ≤ (I 4 5).toInt ∧ (I 4 5).toInt ≤ 14) ∧ (0 ≤ (I 10 4).toInt ∧ (I 10 4).toInt ≤ 4) ∧ (0 ≤ (I 15 10).toInt ∧ (I 15 10).toInt ≤ 2) ∧ (0 ≤ (I 15 9).toInt ∧ (I 15 9).toInt ≤ 40) ∧ (0 ≤ (I 31 6).toInt ∧ (I 31 6).toInt ≤ 160) ∧ (1 ≤ (I 31 7).toInt ∧ (I 31 7).toInt ≤ 6) ∧ (0 ≤ (I 31 8).toInt ∧ (I 31 8).toInt < (I 31 7).toInt) := hR.2.1.1
  obtain ⟨⟨w1, w2, w3, w4⟩, ⟨w5, w6⟩, ⟨w7, w8⟩, ⟨w9, w10⟩, ⟨w11, w12⟩, ⟨w13, w14⟩, ⟨w15, w16⟩, ⟨w17, w18⟩, ⟨w19, w20⟩, ⟨w21, w22⟩⟩ := hw0
  simp only [f_X10_end, f_X11_end, e_isOutside, e_isIn, e_isNoTrack, e_isNoSheet, e_isTrack, e_isSheet, e_isZone, e_isShelter, e_isRoad, e_isBus, e_isNoZone (I := I) (h := ⟨w5, by omega⟩), e_isNoShelter (I := I) (h := ⟨w7, by omega⟩), e_isNoRoad (I := I) (h := ⟨w9, by omega⟩), e_isNoGoal (I := I) (h := ⟨w5, w6, w7, w8⟩), e_isGoal, e_m1 (x := I 10 4) (h := ⟨w11, by omega⟩), e_m1 (x := I 31 7) (h := ⟨by omega, by omega⟩), e_l1, fq_b_g, fq_v_g, fq_u_g, fq_b_i, fq_v_i, fq_u_i, fq_usome, fq_vsome, fq_bsome, fq_l, fq_zb, b2i, Int32.toInt_toInt64, kt_m100, kl_m100, kt_m18, kl_m18, kt_m17, kl_m17, kt_m16, kl_m16, kt_m14, kl_m14, kt_m13, kl_m13, kt_m12, kl_m12, kt_m11, kl_m11, kt_m9, kl_m9, kt_m6, kl_m6, kt_m5, kl_m5, kt_m4, kl_m4, kt_m3, kl_m3, kt_m2, kl_m2, kt_m1, kl_m1, kt_0, kl_0, kt_1, kl_1, kt_2, kl_2, kt_3, kl_3, kt_4, kl_4, kt_5, kl_5, kt_6, kl_6, kt_7, kl_7, kt_8, kl_8, kt_9, kl_9, kt_10, kl_10, kt_11, kl_11, kt_12, kl_12, kt_13, kl_13, kt_14, kl_14, kt_15, kl_15, kt_16, kl_16, kt_17, kl_17, kt_18, kl_18, kt_19, kl_19, kt_20, kl_20, kt_21, kl_21, kt_22, kl_22, kt_23, kl_23, kt_24, kl_24, kt_25, kl_25, kt_26, kl_26, kt_27, kl_27, kt_28, kl_28, kt_29, kl_29, kt_30, kl_30, kt_31, kl_31, kt_32, kl_32, kt_33, kl_33, kt_34, kl_34, kt_35, kl_35, kt_36, kl_36, kt_37, kl_37, kt_38, kl_38, kt_39, kl_39, kt_40, kl_40, kt_41, kl_41, kt_42, kl_42, kt_43, kl_43, kt_44, kl_44, kt_45, kl_45, kt_46, kl_46, kt_47, kl_47, kt_48, kl_48, kt_49, kl_49, kt_50, kl_50, kt_51, kl_51, kt_52, kl_52, kt_53, kl_53, kt_54, kl_54, kt_55, kl_55, kt_56, kl_56, kt_57, kl_57, kt_58, kl_58, kt_59, kl_59, kt_60, kl_60, kt_61, kl_61, kt_62, kl_62, kt_63, kl_63, kt_64, kl_64, kt_65, kl_65, kt_97, kl_97, kt_99, kl_99, kt_100, kl_100, kt_122, kl_122, kt_159, kl_159, kt_160, kl_160, kt_161, kl_161, kt_170, kl_170, kt_999, kl_999, kt_9999, kl_9999, kt_99999, kl_99999, kt_1000000, kl_1000000]
  repeat' (first | with_reducible refine RR_ite (fun _ => ?_) (fun _ => ?_) | refine RR_g (by constructor <;> omega) ?_ | refine RR_some ?_)
  all_goals try dsimp only
  all_goals try simp only [kt_m100, kl_m100, kt_m18, kl_m18, kt_m17, kl_m17, kt_m16, kl_m16, kt_m14, kl_m14, kt_m13, kl_m13, kt_m12, kl_m12, kt_m11, kl_m11, kt_m9, kl_m9, kt_m6, kl_m6, kt_m5, kl_m5, kt_m4, kl_m4, kt_m3, kl_m3, kt_m2, kl_m2, kt_m1, kl_m1, kt_0, kl_0, kt_1, kl_1, kt_2, kl_2, kt_3, kl_3, kt_4, kl_4, kt_5, kl_5, kt_6, kl_6, kt_7, kl_7, kt_8, kl_8, kt_9, kl_9, kt_10, kl_10, kt_11, kl_11, kt_12, kl_12, kt_13, kl_13, kt_14, kl_14, kt_15, kl_15, kt_16, kl_16, kt_17, kl_17, kt_18, kl_18, kt_19, kl_19, kt_20, kl_20, kt_21, kl_21, kt_22, kl_22, kt_23, kl_23, kt_24, kl_24, kt_25, kl_25, kt_26, kl_26, kt_27, kl_27, kt_28, kl_28, kt_29, kl_29, kt_30, kl_30, kt_31, kl_31, kt_32, kl_32, kt_33, kl_33, kt_34, kl_34, kt_35, kl_35, kt_36, kl_36, kt_37, kl_37, kt_38, kl_38, kt_39, kl_39, kt_40, kl_40, kt_41, kl_41, kt_42, kl_42, kt_43, kl_43, kt_44, kl_44, kt_45, kl_45, kt_46, kl_46, kt_47, kl_47, kt_48, kl_48, kt_49, kl_49, kt_50, kl_50, kt_51, kl_51, kt_52, kl_52, kt_53, kl_53, kt_54, kl_54, kt_55, kl_55, kt_56, kl_56, kt_57, kl_57, kt_58, kl_58, kt_59, kl_59, kt_60, kl_60, kt_61, kl_61, kt_62, kl_62, kt_63, kl_63, kt_64, kl_64, kt_65, kl_65, kt_97, kl_97, kt_99, kl_99, kt_100, kl_100, kt_122, kl_122, kt_159, kl_159, kt_160, kl_160, kt_161, kl_161, kt_170, kl_170, kt_999, kl_999, kt_9999, kl_9999, kt_99999, kl_99999, kt_1000000, kl_1000000, e_m1 (x := I 10 4) (h := ⟨w11, by omega⟩), e_m1 (x := I 31 7) (h := ⟨by omega, by omega⟩), e_m1 (x := I 1 2) (h := ⟨by omega, by omega⟩), Int32.toInt_toInt64, e_l1, fc_wI_lo, fc_wI_at, fc_wI_c, ne_eq, Nat.reduceEqDiff, not_false_eq_true, reduceCtorEq, if_true, if_false, ite_true, ite_false, q0_0 he, q0_1 he, q0_2 he, q0_3 he, q0_4 he, q0_5 he, q0_6 he, q0_7 he, q0_8 he, q0_9 he, q0_10 he, q0_11 he, qr_79 he, qr_80 he, qr_81 he, qr_82 he, qr_83 he, qr_84 he, qr_86 he, qr_88 he, qr_89 he, qr_90 he, qr_91 he, qr_92 he, qr_93 he, qr_94 he, qr_95 he, qr_96 he, qr_97 he, qr_98 he, qr_99 he, qr_100 he, qr_101 he, qr_102 he, qr_103 he, qr_104 he, qr_105 he, qr_126 he, qr_127 he, qr_7 he]
  all_goals repeat' (first | with_reducible refine MR_pos (by omega) ?_ | with_reducible refine MR_neg (by omega) ?_ | refine MR_g (by constructor <;> omega) ?_ | refine MR_some ?_ ?_)
  all_goals first | rfl | exact hR | exact i_ac _ | (refine ⟨?_, ?_, ?_, ?_⟩)
  all_goals first | (simp only [mC_ne, ne_eq, Nat.reduceEqDiff, not_false_eq_true, and_self]; exact hR.2.2.1) | (intro s h1 h2; simp only [fc_wI_lo, fc_wI_at, ne_eq, Nat.reduceEqDiff, not_false_eq_true, if_true, if_false, ite_true, ite_false, reduceCtorEq] at h1 ⊢; exact hR.2.2.2 s (by omega) h2) | fail | (simp only [bw_2, bw_3, bw_5, bw_6, bw_7, bw_8, bw_9, bw_11, bw_12, bw_13, bw_14, bw_16, bw_25, bw_26, bw_27, bw_28, bw_29, bw_30, bw_68, bw_46, bw_47, bw_48, bw_49, bw_50, bw_51, bw_53, bw_52, bw0_2, bw0_3, bw0_4, bw0_5, bw0_7, bw0_6, bw0_1, bw0_10, bw0_11, bw0_0, bs_42, bs_43, bs_44, bs_54, bs_55, bs_56, bs_57, bs_67, bs_69, mw_79, mw_80, mw_81, mw_82, mw_83, mw_84, mw_88, mw_89, mw_90, mw_91, mw_92, mw_93, mw_94, mw_95, mw_96, mw_97, mw_98, mw_99, mw_100, mw_101, mw_102, mw_103, mw_104, mw_105, mw_126, mw_85, mw_87, mw_86, mw0_0, mw0_1, mw0_2, mw0_3, mw0_4, mw0_5, mw0_6, mw0_7, mw0_10, mw0_11, ms_44, ms_45, ms_46, ms_47, ms_51, ms_52, ms_53, ms_55, ms_56, ms_67, ms_68, ms_c111, ms_c112, ms_c113, ms_c114, ms_c115, ms_c116, ms_c117, ms_c118, ms_c119, ms_c120, ms_c121, ms_c122, ms_c123, ms_c124, ms_c125, ms_c130, aX_hi, aM_lo, Nat.reduceLeDiff, Nat.reduceLT, fc_wI_lo, ne_eq, Nat.reduceEqDiff, not_false_eq_true]; (refine wf_end hR.2.1 ?_ <;> first | omega | (simp only [ax0_0, ax0_1, ax0_2, ax0_3, ax0_4, ax0_5, ax0_6, ax0_7, ax0_8, ax0_9, ax0_10, ax0_11, ax_1, ax_2, ax_3, ax_4, ax_5, ax_6, ax_7, ax_8, ax_9, ax_10, ax_11, ax_12, ax_13, ax_14, ax_15, ax_16, ax_17, ax_18, ax_19, ax_20, ax_21, ax_22, ax_23, ax_24, ax_25, ax_26, ax_27, ax_28, kt_0, kt_1, kt_m1]; done) | (simp only [ax0_0, ax0_1, ax0_2, ax0_3, ax0_4, ax0_5, ax0_6, ax0_7, ax0_8, ax0_9, ax0_10, ax0_11, ax_1, ax_2, ax_3, ax_4, ax_5, ax_6, ax_7, ax_8, ax_9, ax_10, ax_11, ax_12, ax_13, ax_14, ax_15, ax_16, ax_17, ax_18, ax_19, ax_20, ax_21, ax_22, ax_23, ax_24, ax_25, ax_26, ax_27, ax_28, kt_0, kt_1, kt_m1]; omega))) | (simp only [bw_2, bw_3, bw_5, bw_6, bw_7, bw_8, bw_9, bw_11, bw_12, bw_13, bw_14, bw_16, bw_25, bw_26, bw_27, bw_28, bw_29, bw_30, bw_68, bw_46, bw_47, bw_48, bw_49, bw_50, bw_51, bw_53, bw_52, bw0_2, bw0_3, bw0_4, bw0_5, bw0_7, bw0_6, bw0_1, bw0_10, bw0_11, bw0_0, bs_42, bs_43, bs_44, bs_54, bs_55, bs_56, bs_57, bs_67, bs_69, mw_79, mw_80, mw_81, mw_82, mw_83, mw_84, mw_88, mw_89, mw_90, mw_91, mw_92, mw_93, mw_94, mw_95, mw_96, mw_97, mw_98, mw_99, mw_100, mw_101, mw_102, mw_103, mw_104, mw_105, mw_126, mw_85, mw_87, mw_86, mw0_0, mw0_1, mw0_2, mw0_3, mw0_4, mw0_5, mw0_6, mw0_7, mw0_10, mw0_11, ms_44, ms_45, ms_46, ms_47, ms_51, ms_52, ms_53, ms_55, ms_56, ms_67, ms_68, ms_c111, ms_c112, ms_c113, ms_c114, ms_c115, ms_c116, ms_c117, ms_c118, ms_c119, ms_c120, ms_c121, ms_c122, ms_c123, ms_c124, ms_c125, ms_c130, aX_hi, aM_lo, Nat.reduceLeDiff, Nat.reduceLT, fc_wI_lo, ne_eq, Nat.reduceEqDiff, not_false_eq_true]; rw [he]; first | done | rfl | (funext r k; simp only [fc_wI]; (repeat' split) <;> first | rfl | omega)) | skip
set_option maxHeartbeats 4000000 in
set_option maxRecDepth 100000 in
theorem wf_truth {A : fc_I} (hw : Wf A) {x : Int32} (c1 : 0 ≤ x.toInt ∧ x.toInt ≤ 2) : Wf (fc_wI A 0 6 x) := by
  obtain ⟨h0, hr, hb, hs, hl, hz, hn⟩ := hw
  obtain ⟨⟨w1, w2, w3, w4⟩, ⟨w5, w6⟩, ⟨w7, w8⟩, ⟨w9, w10⟩, ⟨w11, w12⟩, ⟨w13, w14⟩, ⟨w15, w16⟩, ⟨w17, w18⟩, ⟨w19, w20⟩, ⟨w21, w22⟩⟩ := h0
  have km1 : (-1 : Int32).toInt = -1 := rfl
  refine ⟨?_, ?_, ?_, ?_, ?_, ?_, ?_⟩
  · unfold Wf0
    simp only [fc_wI_lo, fc_wI_at, ne_eq, Nat.reduceEqDiff, not_false_eq_true, if_true, if_false, ite_true, ite_false, kt_1, kt_0, kt_m1]
    omega
  · intro r
    have q := hr r
    simp only [fc_wI_lo, fc_wI_at, ne_eq, Nat.reduceEqDiff, not_false_eq_true, if_true, if_false, ite_true, ite_false, kt_1, kt_0, kt_m1]
    first | exact q | (repeat' split) <;> omega
  · intro r
    have q := hb r
    simp only [fc_wI_lo, fc_wI_at, ne_eq, Nat.reduceEqDiff, not_false_eq_true, if_true, if_false, ite_true, ite_false, kt_1, kt_0, kt_m1]
    first | exact q | (repeat' split) <;> omega
  · intro r
    have q := hs r
    simp only [fc_wI_lo, fc_wI_at, ne_eq, Nat.reduceEqDiff, not_false_eq_true, if_true, if_false, ite_true, ite_false, kt_1, kt_0, kt_m1]
    first | exact q | (repeat' split) <;> omega
  · intro r
    have q := hl r
    simp only [fc_wI_lo, fc_wI_at, ne_eq, Nat.reduceEqDiff, not_false_eq_true, if_true, if_false, ite_true, ite_false, kt_1, kt_0, kt_m1]
    first | exact q | (repeat' split) <;> omega
  · intro r
    have q := hz r
    simp only [fc_wI_lo, fc_wI_at, ne_eq, Nat.reduceEqDiff, not_false_eq_true, if_true, if_false, ite_true, ite_false, kt_1, kt_0, kt_m1]
    first | exact q | (repeat' split) <;> omega
  · obtain ⟨hg, hh, ht⟩ := hn
    refine ⟨?_, ?_, ?_⟩
    · intro r
      have q := hg r
      simp only [fc_wI_lo, fc_wI_at, ne_eq, Nat.reduceEqDiff, not_false_eq_true, if_true, if_false, ite_true, ite_false, kt_1, kt_0, kt_m1]
      first | exact q | (repeat' split) <;> omega
    · unfold WfH wS at hh ⊢
      simp only [fc_wI_lo, fc_wI_at, ne_eq, Nat.reduceEqDiff, not_false_eq_true, if_true, if_false, ite_true, ite_false, kt_1, kt_0, kt_m1]
      first | exact hh | (exact hh)
    · unfold WfT at ht ⊢
      simp only [fc_wI_lo, fc_wI_at, ne_eq, Nat.reduceEqDiff, not_false_eq_true, if_true, if_false, ite_true, ite_false, kt_1, kt_0, kt_m1]
      exact ht
set_option maxHeartbeats 4000000 in
set_option maxRecDepth 100000 in
theorem r_truth {I : fc_I} {x1 : Int32} (hR : Rel I) : RR (f_X10_truth I x1) (fun I => f_X11_truth I x1) := by
  have he := hR.1
  have hw0 : (0 ≤ (I 45 9).toInt ∧ (I 45 9).toInt ≤ (I 15 11).toInt ∧ 1 ≤ (I 15 11).toInt ∧ (I 15 11).toInt ≤ 60) ∧ (0 ≤ (I 1 2).toInt ∧ (I 1 2).toInt ≤ 6) ∧ (0 ≤ (I 1 3).toInt ∧ (I 1 3).toInt ≤ 3) ∧ (0 ≤ (I 4 5).toInt ∧ (I 4 5).toInt ≤ 14) ∧ (0 ≤ (I 10 4).toInt ∧ (I 10 4).toInt ≤ 4) ∧ (0 ≤ (I 15 10).toInt ∧ (I 15 10).toInt ≤ 2) ∧ (0 ≤ (I 15 9).toInt ∧ (I 15 9).toInt ≤ 40) ∧ (0 ≤ (I 31 6).toInt ∧ (I 31 6).toInt ≤ 160) ∧ (1 ≤ (I 31 7).toInt ∧ (I 31 7).toInt ≤ 6) ∧ (0 ≤ (I 31 8).toInt ∧ (I 31 8).toInt < (I 31 7).toInt) := hR.2.1.1
  obtain ⟨⟨w1, w2, w3, w4⟩, ⟨w5, w6⟩, ⟨w7, w8⟩, ⟨w9, w10⟩, ⟨w11, w12⟩, ⟨w13, w14⟩, ⟨w15, w16⟩, ⟨w17, w18⟩, ⟨w19, w20⟩, ⟨w21, w22⟩⟩ := hw0
  simp only [f_X10_truth, f_X11_truth, e_isOutside, e_isIn, e_isNoTrack, e_isNoSheet, e_isTrack, e_isSheet, e_isZone, e_isShelter, e_isRoad, e_isBus, e_isNoZone (I := I) (h := ⟨w5, by omega⟩), e_isNoShelter (I := I) (h := ⟨w7, by omega⟩), e_isNoRoad (I := I) (h := ⟨w9, by omega⟩), e_isNoGoal (I := I) (h := ⟨w5, w6, w7, w8⟩), e_isGoal, e_m1 (x := I 10 4) (h := ⟨w11, by omega⟩), e_m1 (x := I 31 7) (h := ⟨by omega, by omega⟩), e_l1, fq_b_g, fq_v_g, fq_u_g, fq_b_i, fq_v_i, fq_u_i, fq_usome, fq_vsome, fq_bsome, fq_l, fq_zb, b2i, Int32.toInt_toInt64, kt_m100, kl_m100, kt_m18, kl_m18, kt_m17, kl_m17, kt_m16, kl_m16, kt_m14, kl_m14, kt_m13, kl_m13, kt_m12, kl_m12, kt_m11, kl_m11, kt_m9, kl_m9, kt_m6, kl_m6, kt_m5, kl_m5, kt_m4, kl_m4, kt_m3, kl_m3, kt_m2, kl_m2, kt_m1, kl_m1, kt_0, kl_0, kt_1, kl_1, kt_2, kl_2, kt_3, kl_3, kt_4, kl_4, kt_5, kl_5, kt_6, kl_6, kt_7, kl_7, kt_8, kl_8, kt_9, kl_9, kt_10, kl_10, kt_11, kl_11, kt_12, kl_12, kt_13, kl_13, kt_14, kl_14, kt_15, kl_15, kt_16, kl_16, kt_17, kl_17, kt_18, kl_18, kt_19, kl_19, kt_20, kl_20, kt_21, kl_21, kt_22, kl_22, kt_23, kl_23, kt_24, kl_24, kt_25, kl_25, kt_26, kl_26, kt_27, kl_27, kt_28, kl_28, kt_29, kl_29, kt_30, kl_30, kt_31, kl_31, kt_32, kl_32, kt_33, kl_33, kt_34, kl_34, kt_35, kl_35, kt_36, kl_36, kt_37, kl_37, kt_38, kl_38, kt_39, kl_39, kt_40, kl_40, kt_41, kl_41, kt_42, kl_42, kt_43, kl_43, kt_44, kl_44, kt_45, kl_45, kt_46, kl_46, kt_47, kl_47, kt_48, kl_48, kt_49, kl_49, kt_50, kl_50, kt_51, kl_51, kt_52, kl_52, kt_53, kl_53, kt_54, kl_54, kt_55, kl_55, kt_56, kl_56, kt_57, kl_57, kt_58, kl_58, kt_59, kl_59, kt_60, kl_60, kt_61, kl_61, kt_62, kl_62, kt_63, kl_63, kt_64, kl_64, kt_65, kl_65, kt_97, kl_97, kt_99, kl_99, kt_100, kl_100, kt_122, kl_122, kt_159, kl_159, kt_160, kl_160, kt_161, kl_161, kt_170, kl_170, kt_999, kl_999, kt_9999, kl_9999, kt_99999, kl_99999, kt_1000000, kl_1000000]
  repeat' (first | with_reducible refine RR_ite (fun _ => ?_) (fun _ => ?_) | refine RR_g (by constructor <;> omega) ?_ | refine RR_some ?_)
  all_goals try dsimp only
  all_goals try simp only [kt_m100, kl_m100, kt_m18, kl_m18, kt_m17, kl_m17, kt_m16, kl_m16, kt_m14, kl_m14, kt_m13, kl_m13, kt_m12, kl_m12, kt_m11, kl_m11, kt_m9, kl_m9, kt_m6, kl_m6, kt_m5, kl_m5, kt_m4, kl_m4, kt_m3, kl_m3, kt_m2, kl_m2, kt_m1, kl_m1, kt_0, kl_0, kt_1, kl_1, kt_2, kl_2, kt_3, kl_3, kt_4, kl_4, kt_5, kl_5, kt_6, kl_6, kt_7, kl_7, kt_8, kl_8, kt_9, kl_9, kt_10, kl_10, kt_11, kl_11, kt_12, kl_12, kt_13, kl_13, kt_14, kl_14, kt_15, kl_15, kt_16, kl_16, kt_17, kl_17, kt_18, kl_18, kt_19, kl_19, kt_20, kl_20, kt_21, kl_21, kt_22, kl_22, kt_23, kl_23, kt_24, kl_24, kt_25, kl_25, kt_26, kl_26, kt_27, kl_27, kt_28, kl_28, kt_29, kl_29, kt_30, kl_30, kt_31, kl_31, kt_32, kl_32, kt_33, kl_33, kt_34, kl_34, kt_35, kl_35, kt_36, kl_36, kt_37, kl_37, kt_38, kl_38, kt_39, kl_39, kt_40, kl_40, kt_41, kl_41, kt_42, kl_42, kt_43, kl_43, kt_44, kl_44, kt_45, kl_45, kt_46, kl_46, kt_47, kl_47, kt_48, kl_48, kt_49, kl_49, kt_50, kl_50, kt_51, kl_51, kt_52, kl_52, kt_53, kl_53, kt_54, kl_54, kt_55, kl_55, kt_56, kl_56, kt_57, kl_57, kt_58, kl_58, kt_59, kl_59, kt_60, kl_60, kt_61, kl_61, kt_62, kl_62, kt_63, kl_63, kt_64, kl_64, kt_65, kl_65, kt_97, kl_97, kt_99, kl_99, kt_100, kl_100, kt_122, kl_122, kt_159, kl_159, kt_160, kl_160, kt_161, kl_161, kt_170, kl_170, kt_999, kl_999, kt_9999, kl_9999, kt_99999, kl_99999, kt_1000000, kl_1000000, e_m1 (x := I 10 4) (h := ⟨w11, by omega⟩), e_m1 (x := I 31 7) (h := ⟨by omega, by omega⟩), e_m1 (x := I 1 2) (h := ⟨by omega, by omega⟩), Int32.toInt_toInt64, e_l1, fc_wI_lo, fc_wI_at, fc_wI_c, ne_eq, Nat.reduceEqDiff, not_false_eq_true, reduceCtorEq, if_true, if_false, ite_true, ite_false, q0_0 he, q0_1 he, q0_2 he, q0_3 he, q0_4 he, q0_5 he, q0_6 he, q0_7 he, q0_8 he, q0_9 he, q0_10 he, q0_11 he, qr_79 he, qr_80 he, qr_81 he, qr_82 he, qr_83 he, qr_84 he, qr_86 he, qr_88 he, qr_89 he, qr_90 he, qr_91 he, qr_92 he, qr_93 he, qr_94 he, qr_95 he, qr_96 he, qr_97 he, qr_98 he, qr_99 he, qr_100 he, qr_101 he, qr_102 he, qr_103 he, qr_104 he, qr_105 he, qr_126 he, qr_127 he, qr_7 he]
  all_goals repeat' (first | with_reducible refine MR_pos (by omega) ?_ | with_reducible refine MR_neg (by omega) ?_ | refine MR_g (by constructor <;> omega) ?_ | refine MR_some ?_ ?_)
  all_goals first | rfl | exact hR | exact i_ac _ | (refine ⟨?_, ?_, ?_, ?_⟩)
  all_goals first | (simp only [mC_ne, ne_eq, Nat.reduceEqDiff, not_false_eq_true, and_self]; exact hR.2.2.1) | (intro s h1 h2; simp only [fc_wI_lo, fc_wI_at, ne_eq, Nat.reduceEqDiff, not_false_eq_true, if_true, if_false, ite_true, ite_false, reduceCtorEq] at h1 ⊢; exact hR.2.2.2 s (by omega) h2) | fail | (simp only [bw_2, bw_3, bw_5, bw_6, bw_7, bw_8, bw_9, bw_11, bw_12, bw_13, bw_14, bw_16, bw_25, bw_26, bw_27, bw_28, bw_29, bw_30, bw_68, bw_46, bw_47, bw_48, bw_49, bw_50, bw_51, bw_53, bw_52, bw0_2, bw0_3, bw0_4, bw0_5, bw0_7, bw0_6, bw0_1, bw0_10, bw0_11, bw0_0, bs_42, bs_43, bs_44, bs_54, bs_55, bs_56, bs_57, bs_67, bs_69, mw_79, mw_80, mw_81, mw_82, mw_83, mw_84, mw_88, mw_89, mw_90, mw_91, mw_92, mw_93, mw_94, mw_95, mw_96, mw_97, mw_98, mw_99, mw_100, mw_101, mw_102, mw_103, mw_104, mw_105, mw_126, mw_85, mw_87, mw_86, mw0_0, mw0_1, mw0_2, mw0_3, mw0_4, mw0_5, mw0_6, mw0_7, mw0_10, mw0_11, ms_44, ms_45, ms_46, ms_47, ms_51, ms_52, ms_53, ms_55, ms_56, ms_67, ms_68, ms_c111, ms_c112, ms_c113, ms_c114, ms_c115, ms_c116, ms_c117, ms_c118, ms_c119, ms_c120, ms_c121, ms_c122, ms_c123, ms_c124, ms_c125, ms_c130, aX_hi, aM_lo, Nat.reduceLeDiff, Nat.reduceLT, fc_wI_lo, ne_eq, Nat.reduceEqDiff, not_false_eq_true]; (refine wf_truth hR.2.1 ?_ <;> first | omega | (simp only [ax0_0, ax0_1, ax0_2, ax0_3, ax0_4, ax0_5, ax0_6, ax0_7, ax0_8, ax0_9, ax0_10, ax0_11, ax_1, ax_2, ax_3, ax_4, ax_5, ax_6, ax_7, ax_8, ax_9, ax_10, ax_11, ax_12, ax_13, ax_14, ax_15, ax_16, ax_17, ax_18, ax_19, ax_20, ax_21, ax_22, ax_23, ax_24, ax_25, ax_26, ax_27, ax_28, kt_0, kt_1, kt_m1]; done) | (simp only [ax0_0, ax0_1, ax0_2, ax0_3, ax0_4, ax0_5, ax0_6, ax0_7, ax0_8, ax0_9, ax0_10, ax0_11, ax_1, ax_2, ax_3, ax_4, ax_5, ax_6, ax_7, ax_8, ax_9, ax_10, ax_11, ax_12, ax_13, ax_14, ax_15, ax_16, ax_17, ax_18, ax_19, ax_20, ax_21, ax_22, ax_23, ax_24, ax_25, ax_26, ax_27, ax_28, kt_0, kt_1, kt_m1]; omega))) | (simp only [bw_2, bw_3, bw_5, bw_6, bw_7, bw_8, bw_9, bw_11, bw_12, bw_13, bw_14, bw_16, bw_25, bw_26, bw_27, bw_28, bw_29, bw_30, bw_68, bw_46, bw_47, bw_48, bw_49, bw_50, bw_51, bw_53, bw_52, bw0_2, bw0_3, bw0_4, bw0_5, bw0_7, bw0_6, bw0_1, bw0_10, bw0_11, bw0_0, bs_42, bs_43, bs_44, bs_54, bs_55, bs_56, bs_57, bs_67, bs_69, mw_79, mw_80, mw_81, mw_82, mw_83, mw_84, mw_88, mw_89, mw_90, mw_91, mw_92, mw_93, mw_94, mw_95, mw_96, mw_97, mw_98, mw_99, mw_100, mw_101, mw_102, mw_103, mw_104, mw_105, mw_126, mw_85, mw_87, mw_86, mw0_0, mw0_1, mw0_2, mw0_3, mw0_4, mw0_5, mw0_6, mw0_7, mw0_10, mw0_11, ms_44, ms_45, ms_46, ms_47, ms_51, ms_52, ms_53, ms_55, ms_56, ms_67, ms_68, ms_c111, ms_c112, ms_c113, ms_c114, ms_c115, ms_c116, ms_c117, ms_c118, ms_c119, ms_c120, ms_c121, ms_c122, ms_c123, ms_c124, ms_c125, ms_c130, aX_hi, aM_lo, Nat.reduceLeDiff, Nat.reduceLT, fc_wI_lo, ne_eq, Nat.reduceEqDiff, not_false_eq_true]; rw [he]; first | done | rfl | (funext r k; simp only [fc_wI]; (repeat' split) <;> first | rfl | omega)) | skip
set_option maxHeartbeats 4000000 in
set_option maxRecDepth 100000 in
theorem wf_force {A : fc_I} (hw : Wf A) {x : Int32} (c1 : 0 ≤ x.toInt ∧ x.toInt < (A 0 9).toInt) : Wf (fc_wI A 0 10 x) := by
  obtain ⟨h0, hr, hb, hs, hl, hz, hn⟩ := hw
  obtain ⟨⟨w1, w2, w3, w4⟩, ⟨w5, w6⟩, ⟨w7, w8⟩, ⟨w9, w10⟩, ⟨w11, w12⟩, ⟨w13, w14⟩, ⟨w15, w16⟩, ⟨w17, w18⟩, ⟨w19, w20⟩, ⟨w21, w22⟩⟩ := h0
  have km1 : (-1 : Int32).toInt = -1 := rfl
  refine ⟨?_, ?_, ?_, ?_, ?_, ?_, ?_⟩
  · unfold Wf0
    simp only [fc_wI_lo, fc_wI_at, ne_eq, Nat.reduceEqDiff, not_false_eq_true, if_true, if_false, ite_true, ite_false, kt_1, kt_0, kt_m1]
    omega
  · intro r
    have q := hr r
    simp only [fc_wI_lo, fc_wI_at, ne_eq, Nat.reduceEqDiff, not_false_eq_true, if_true, if_false, ite_true, ite_false, kt_1, kt_0, kt_m1]
    first | exact q | (repeat' split) <;> omega
  · intro r
    have q := hb r
    simp only [fc_wI_lo, fc_wI_at, ne_eq, Nat.reduceEqDiff, not_false_eq_true, if_true, if_false, ite_true, ite_false, kt_1, kt_0, kt_m1]
    first | exact q | (repeat' split) <;> omega
  · intro r
    have q := hs r
    simp only [fc_wI_lo, fc_wI_at, ne_eq, Nat.reduceEqDiff, not_false_eq_true, if_true, if_false, ite_true, ite_false, kt_1, kt_0, kt_m1]
    first | exact q | (repeat' split) <;> omega
  · intro r
    have q := hl r
    simp only [fc_wI_lo, fc_wI_at, ne_eq, Nat.reduceEqDiff, not_false_eq_true, if_true, if_false, ite_true, ite_false, kt_1, kt_0, kt_m1]
    first | exact q | (repeat' split) <;> omega
  · intro r
    have q := hz r
    simp only [fc_wI_lo, fc_wI_at, ne_eq, Nat.reduceEqDiff, not_false_eq_true, if_true, if_false, ite_true, ite_false, kt_1, kt_0, kt_m1]
    first | exact q | (repeat' split) <;> omega
  · obtain ⟨hg, hh, ht⟩ := hn
    refine ⟨?_, ?_, ?_⟩
    · intro r
      have q := hg r
      simp only [fc_wI_lo, fc_wI_at, ne_eq, Nat.reduceEqDiff, not_false_eq_true, if_true, if_false, ite_true, ite_false, kt_1, kt_0, kt_m1]
      first | exact q | (repeat' split) <;> omega
    · unfold WfH wS at hh ⊢
      simp only [fc_wI_lo, fc_wI_at, ne_eq, Nat.reduceEqDiff, not_false_eq_true, if_true, if_false, ite_true, ite_false, kt_1, kt_0, kt_m1]
      first | exact hh | (exact hh)
    · unfold WfT at ht ⊢
      simp only [fc_wI_lo, fc_wI_at, ne_eq, Nat.reduceEqDiff, not_false_eq_true, if_true, if_false, ite_true, ite_false, kt_1, kt_0, kt_m1]
      exact ht
set_option maxHeartbeats 4000000 in
set_option maxRecDepth 100000 in
theorem r_force {I : fc_I} {x1 : Int32} (hR : Rel I) : RR (f_X10_force I x1) (fun I => f_X11_force I x1) := by
  have he := hR.1
  have hw0 : (0 ≤ (I 45 9).toInt ∧ (I 45 9).toInt ≤ (I 15 11).toInt ∧ 1 ≤ (I 15 11).toInt ∧ (I 15 11).toInt ≤ 60) ∧ (0 ≤ (I 1 2).toInt ∧ (I 1 2).toInt ≤ 6) ∧ (0 ≤ (I 1 3).toInt ∧ (I 1 3).toInt ≤ 3) ∧ (0 ≤ (I 4 5).toInt ∧ (I 4 5).toInt ≤ 14) ∧ (0 ≤ (I 10 4).toInt ∧ (I 10 4).toInt ≤ 4) ∧ (0 ≤ (I 15 10).toInt ∧ (I 15 10).toInt ≤ 2) ∧ (0 ≤ (I 15 9).toInt ∧ (I 15 9).toInt ≤ 40) ∧ (0 ≤ (I 31 6).toInt ∧ (I 31 6).toInt ≤ 160) ∧ (1 ≤ (I 31 7).toInt ∧ (I 31 7).toInt ≤ 6) ∧ (0 ≤ (I 31 8).toInt ∧ (I 31 8).toInt < (I 31 7).toInt) := hR.2.1.1
  obtain ⟨⟨w1, w2, w3, w4⟩, ⟨w5, w6⟩, ⟨w7, w8⟩, ⟨w9, w10⟩, ⟨w11, w12⟩, ⟨w13, w14⟩, ⟨w15, w16⟩, ⟨w17, w18⟩, ⟨w19, w20⟩, ⟨w21, w22⟩⟩ := hw0
  simp only [f_X10_force, f_X11_force, e_isOutside, e_isIn, e_isNoTrack, e_isNoSheet, e_isTrack, e_isSheet, e_isZone, e_isShelter, e_isRoad, e_isBus, e_isNoZone (I := I) (h := ⟨w5, by omega⟩), e_isNoShelter (I := I) (h := ⟨w7, by omega⟩), e_isNoRoad (I := I) (h := ⟨w9, by omega⟩), e_isNoGoal (I := I) (h := ⟨w5, w6, w7, w8⟩), e_isGoal, e_m1 (x := I 10 4) (h := ⟨w11, by omega⟩), e_m1 (x := I 31 7) (h := ⟨by omega, by omega⟩), e_l1, fq_b_g, fq_v_g, fq_u_g, fq_b_i, fq_v_i, fq_u_i, fq_usome, fq_vsome, fq_bsome, fq_l, fq_zb, b2i, Int32.toInt_toInt64, kt_m100, kl_m100, kt_m18, kl_m18, kt_m17, kl_m17, kt_m16, kl_m16, kt_m14, kl_m14, kt_m13, kl_m13, kt_m12, kl_m12, kt_m11, kl_m11, kt_m9, kl_m9, kt_m6, kl_m6, kt_m5, kl_m5, kt_m4, kl_m4, kt_m3, kl_m3, kt_m2, kl_m2, kt_m1, kl_m1, kt_0, kl_0, kt_1, kl_1, kt_2, kl_2, kt_3, kl_3, kt_4, kl_4, kt_5, kl_5, kt_6, kl_6, kt_7, kl_7, kt_8, kl_8, kt_9, kl_9, kt_10, kl_10, kt_11, kl_11, kt_12, kl_12, kt_13, kl_13, kt_14, kl_14, kt_15, kl_15, kt_16, kl_16, kt_17, kl_17, kt_18, kl_18, kt_19, kl_19, kt_20, kl_20, kt_21, kl_21, kt_22, kl_22, kt_23, kl_23, kt_24, kl_24, kt_25, kl_25, kt_26, kl_26, kt_27, kl_27, kt_28, kl_28, kt_29, kl_29, kt_30, kl_30, kt_31, kl_31, kt_32, kl_32, kt_33, kl_33, kt_34, kl_34, kt_35, kl_35, kt_36, kl_36, kt_37, kl_37, kt_38, kl_38, kt_39, kl_39, kt_40, kl_40, kt_41, kl_41, kt_42, kl_42, kt_43, kl_43, kt_44, kl_44, kt_45, kl_45, kt_46, kl_46, kt_47, kl_47, kt_48, kl_48, kt_49, kl_49, kt_50, kl_50, kt_51, kl_51, kt_52, kl_52, kt_53, kl_53, kt_54, kl_54, kt_55, kl_55, kt_56, kl_56, kt_57, kl_57, kt_58, kl_58, kt_59, kl_59, kt_60, kl_60, kt_61, kl_61, kt_62, kl_62, kt_63, kl_63, kt_64, kl_64, kt_65, kl_65, kt_97, kl_97, kt_99, kl_99, kt_100, kl_100, kt_122, kl_122, kt_159, kl_159, kt_160, kl_160, kt_161, kl_161, kt_170, kl_170, kt_999, kl_999, kt_9999, kl_9999, kt_99999, kl_99999, kt_1000000, kl_1000000]
  repeat' (first | with_reducible refine RR_ite (fun _ => ?_) (fun _ => ?_) | refine RR_g (by constructor <;> omega) ?_ | refine RR_some ?_)
  all_goals try dsimp only
  all_goals try simp only [kt_m100, kl_m100, kt_m18, kl_m18, kt_m17, kl_m17, kt_m16, kl_m16, kt_m14, kl_m14, kt_m13, kl_m13, kt_m12, kl_m12, kt_m11, kl_m11, kt_m9, kl_m9, kt_m6, kl_m6, kt_m5, kl_m5, kt_m4, kl_m4, kt_m3, kl_m3, kt_m2, kl_m2, kt_m1, kl_m1, kt_0, kl_0, kt_1, kl_1, kt_2, kl_2, kt_3, kl_3, kt_4, kl_4, kt_5, kl_5, kt_6, kl_6, kt_7, kl_7, kt_8, kl_8, kt_9, kl_9, kt_10, kl_10, kt_11, kl_11, kt_12, kl_12, kt_13, kl_13, kt_14, kl_14, kt_15, kl_15, kt_16, kl_16, kt_17, kl_17, kt_18, kl_18, kt_19, kl_19, kt_20, kl_20, kt_21, kl_21, kt_22, kl_22, kt_23, kl_23, kt_24, kl_24, kt_25, kl_25, kt_26, kl_26, kt_27, kl_27, kt_28, kl_28, kt_29, kl_29, kt_30, kl_30, kt_31, kl_31, kt_32, kl_32, kt_33, kl_33, kt_34, kl_34, kt_35, kl_35, kt_36, kl_36, kt_37, kl_37, kt_38, kl_38, kt_39, kl_39, kt_40, kl_40, kt_41, kl_41, kt_42, kl_42, kt_43, kl_43, kt_44, kl_44, kt_45, kl_45, kt_46, kl_46, kt_47, kl_47, kt_48, kl_48, kt_49, kl_49, kt_50, kl_50, kt_51, kl_51, kt_52, kl_52, kt_53, kl_53, kt_54, kl_54, kt_55, kl_55, kt_56, kl_56, kt_57, kl_57, kt_58, kl_58, kt_59, kl_59, kt_60, kl_60, kt_61, kl_61, kt_62, kl_62, kt_63, kl_63, kt_64, kl_64, kt_65, kl_65, kt_97, kl_97, kt_99, kl_99, kt_100, kl_100, kt_122, kl_122, kt_159, kl_159, kt_160, kl_160, kt_161, kl_161, kt_170, kl_170, kt_999, kl_999, kt_9999, kl_9999, kt_99999, kl_99999, kt_1000000, kl_1000000, e_m1 (x := I 10 4) (h := ⟨w11, by omega⟩), e_m1 (x := I 31 7) (h := ⟨by omega, by omega⟩), e_m1 (x := I 1 2) (h := ⟨by omega, by omega⟩), Int32.toInt_toInt64, e_l1, fc_wI_lo, fc_wI_at, fc_wI_c, ne_eq, Nat.reduceEqDiff, not_false_eq_true, reduceCtorEq, if_true, if_false, ite_true, ite_false, q0_0 he, q0_1 he, q0_2 he, q0_3 he, q0_4 he, q0_5 he, q0_6 he, q0_7 he, q0_8 he, q0_9 he, q0_10 he, q0_11 he, qr_79 he, qr_80 he, qr_81 he, qr_82 he, qr_83 he, qr_84 he, qr_86 he, qr_88 he, qr_89 he, qr_90 he, qr_91 he, qr_92 he, qr_93 he, qr_94 he, qr_95 he, qr_96 he, qr_97 he, qr_98 he, qr_99 he, qr_100 he, qr_101 he, qr_102 he, qr_103 he, qr_104 he, qr_105 he, qr_126 he, qr_127 he, qr_7 he]
  all_goals repeat' (first | with_reducible refine MR_pos (by omega) ?_ | with_reducible refine MR_neg (by omega) ?_ | refine MR_g (by constructor <;> omega) ?_ | refine MR_some ?_ ?_)
  all_goals first | rfl | exact hR | exact i_ac _ | (refine ⟨?_, ?_, ?_, ?_⟩)
  all_goals first | (simp only [mC_ne, ne_eq, Nat.reduceEqDiff, not_false_eq_true, and_self]; exact hR.2.2.1) | (intro s h1 h2; simp only [fc_wI_lo, fc_wI_at, ne_eq, Nat.reduceEqDiff, not_false_eq_true, if_true, if_false, ite_true, ite_false, reduceCtorEq] at h1 ⊢; exact hR.2.2.2 s (by omega) h2) | fail | (simp only [bw_2, bw_3, bw_5, bw_6, bw_7, bw_8, bw_9, bw_11, bw_12, bw_13, bw_14, bw_16, bw_25, bw_26, bw_27, bw_28, bw_29, bw_30, bw_68, bw_46, bw_47, bw_48, bw_49, bw_50, bw_51, bw_53, bw_52, bw0_2, bw0_3, bw0_4, bw0_5, bw0_7, bw0_6, bw0_1, bw0_10, bw0_11, bw0_0, bs_42, bs_43, bs_44, bs_54, bs_55, bs_56, bs_57, bs_67, bs_69, mw_79, mw_80, mw_81, mw_82, mw_83, mw_84, mw_88, mw_89, mw_90, mw_91, mw_92, mw_93, mw_94, mw_95, mw_96, mw_97, mw_98, mw_99, mw_100, mw_101, mw_102, mw_103, mw_104, mw_105, mw_126, mw_85, mw_87, mw_86, mw0_0, mw0_1, mw0_2, mw0_3, mw0_4, mw0_5, mw0_6, mw0_7, mw0_10, mw0_11, ms_44, ms_45, ms_46, ms_47, ms_51, ms_52, ms_53, ms_55, ms_56, ms_67, ms_68, ms_c111, ms_c112, ms_c113, ms_c114, ms_c115, ms_c116, ms_c117, ms_c118, ms_c119, ms_c120, ms_c121, ms_c122, ms_c123, ms_c124, ms_c125, ms_c130, aX_hi, aM_lo, Nat.reduceLeDiff, Nat.reduceLT, fc_wI_lo, ne_eq, Nat.reduceEqDiff, not_false_eq_true]; (refine wf_force hR.2.1 ?_ <;> first | omega | (simp only [ax0_0, ax0_1, ax0_2, ax0_3, ax0_4, ax0_5, ax0_6, ax0_7, ax0_8, ax0_9, ax0_10, ax0_11, ax_1, ax_2, ax_3, ax_4, ax_5, ax_6, ax_7, ax_8, ax_9, ax_10, ax_11, ax_12, ax_13, ax_14, ax_15, ax_16, ax_17, ax_18, ax_19, ax_20, ax_21, ax_22, ax_23, ax_24, ax_25, ax_26, ax_27, ax_28, kt_0, kt_1, kt_m1]; done) | (simp only [ax0_0, ax0_1, ax0_2, ax0_3, ax0_4, ax0_5, ax0_6, ax0_7, ax0_8, ax0_9, ax0_10, ax0_11, ax_1, ax_2, ax_3, ax_4, ax_5, ax_6, ax_7, ax_8, ax_9, ax_10, ax_11, ax_12, ax_13, ax_14, ax_15, ax_16, ax_17, ax_18, ax_19, ax_20, ax_21, ax_22, ax_23, ax_24, ax_25, ax_26, ax_27, ax_28, kt_0, kt_1, kt_m1]; omega))) | (simp only [bw_2, bw_3, bw_5, bw_6, bw_7, bw_8, bw_9, bw_11, bw_12, bw_13, bw_14, bw_16, bw_25, bw_26, bw_27, bw_28, bw_29, bw_30, bw_68, bw_46, bw_47, bw_48, bw_49, bw_50, bw_51, bw_53, bw_52, bw0_2, bw0_3, bw0_4, bw0_5, bw0_7, bw0_6, bw0_1, bw0_10, bw0_11, bw0_0, bs_42, bs_43, bs_44, bs_54, bs_55, bs_56, bs_57, bs_67, bs_69, mw_79, mw_80, mw_81, mw_82, mw_83, mw_84, mw_88, mw_89, mw_90, mw_91, mw_92, mw_93, mw_94, mw_95, mw_96, mw_97, mw_98, mw_99, mw_100, mw_101, mw_102, mw_103, mw_104, mw_105, mw_126, mw_85, mw_87, mw_86, mw0_0, mw0_1, mw0_2, mw0_3, mw0_4, mw0_5, mw0_6, mw0_7, mw0_10, mw0_11, ms_44, ms_45, ms_46, ms_47, ms_51, ms_52, ms_53, ms_55, ms_56, ms_67, ms_68, ms_c111, ms_c112, ms_c113, ms_c114, ms_c115, ms_c116, ms_c117, ms_c118, ms_c119, ms_c120, ms_c121, ms_c122, ms_c123, ms_c124, ms_c125, ms_c130, aX_hi, aM_lo, Nat.reduceLeDiff, Nat.reduceLT, fc_wI_lo, ne_eq, Nat.reduceEqDiff, not_false_eq_true]; rw [he]; first | done | rfl | (funext r k; simp only [fc_wI]; (repeat' split) <;> first | rfl | omega)) | skip
set_option maxHeartbeats 4000000 in
set_option maxRecDepth 100000 in
theorem wf_call {A : fc_I} (hw : Wf A) {x : Int32} (cx : 0 ≤ x.toInt ∧ x.toInt < (A 0 2).toInt) : Wf (fc_wI A 5 (cn x) (A 0 0)) := by
  obtain ⟨h0, hr, hb, hs, hl, hz, hn⟩ := hw
  obtain ⟨⟨w1, w2, w3, w4⟩, ⟨w5, w6⟩, ⟨w7, w8⟩, ⟨w9, w10⟩, ⟨w11, w12⟩, ⟨w13, w14⟩, ⟨w15, w16⟩, ⟨w17, w18⟩, ⟨w19, w20⟩, ⟨w21, w22⟩⟩ := h0
  have e2 := cn_int (x := x) (by omega)
  have km1 : (-1 : Int32).toInt = -1 := rfl
  refine ⟨?_, ?_, ?_, ?_, ?_, ?_, ?_⟩
  · unfold Wf0
    simp only [fc_wI_lo, fc_wI_at, ne_eq, Nat.reduceEqDiff, not_false_eq_true, if_true, if_false, ite_true, ite_false, kt_1, kt_0, kt_m1]
    omega
  · intro r
    have q := hr r
    simp only [fc_wI_lo, fc_wI_at, ne_eq, Nat.reduceEqDiff, not_false_eq_true, if_true, if_false, ite_true, ite_false, kt_1, kt_0, kt_m1]
    first | exact q | (repeat' split) <;> omega
  · intro r
    have q := hb r
    simp only [fc_wI_lo, fc_wI_at, ne_eq, Nat.reduceEqDiff, not_false_eq_true, if_true, if_false, ite_true, ite_false, kt_1, kt_0, kt_m1]
    first | exact q | (repeat' split) <;> omega
  · intro r
    have q := hs r
    simp only [fc_wI_lo, fc_wI_at, ne_eq, Nat.reduceEqDiff, not_false_eq_true, if_true, if_false, ite_true, ite_false, kt_1, kt_0, kt_m1]
    first | exact q | (repeat' split) <;> omega
  · intro r
    have q := hl r
    simp only [fc_wI_lo, fc_wI_at, ne_eq, Nat.reduceEqDiff, not_false_eq_true, if_true, if_false, ite_true, ite_false, kt_1, kt_0, kt_m1]
    first | exact q | (repeat' split) <;> omega
  · intro r
    have q := hz r
    simp only [fc_wI_lo, fc_wI_at, ne_eq, Nat.reduceEqDiff, not_false_eq_true, if_true, if_false, ite_true, ite_false, kt_1, kt_0, kt_m1]
    first | exact q | (repeat' split) <;> omega
  · obtain ⟨hg, hh, ht⟩ := hn
    refine ⟨?_, ?_, ?_⟩
    · intro r
      have q := hg r
      simp only [fc_wI_lo, fc_wI_at, ne_eq, Nat.reduceEqDiff, not_false_eq_true, if_true, if_false, ite_true, ite_false, kt_1, kt_0, kt_m1]
      first | exact q | (repeat' split) <;> omega
    · unfold WfH wS at hh ⊢
      simp only [fc_wI_lo, fc_wI_at, ne_eq, Nat.reduceEqDiff, not_false_eq_true, if_true, if_false, ite_true, ite_false, kt_1, kt_0, kt_m1]
      first | exact hh | (exact hh)
    · unfold WfT at ht ⊢
      simp only [fc_wI_lo, fc_wI_at, ne_eq, Nat.reduceEqDiff, not_false_eq_true, if_true, if_false, ite_true, ite_false, kt_1, kt_0, kt_m1]
      exact ht
set_option maxHeartbeats 4000000 in
set_option maxRecDepth 100000 in
theorem r_call {I : fc_I} {x1 : Int32} (hR : Rel I) : RR (f_X10_call I x1) (fun I => f_X11_call I x1) := by
  have he := hR.1
  have hw0 : (0 ≤ (I 45 9).toInt ∧ (I 45 9).toInt ≤ (I 15 11).toInt ∧ 1 ≤ (I 15 11).toInt ∧ (I 15 11).toInt ≤ 60) ∧ (0 ≤ (I 1 2).toInt ∧ (I 1 2).toInt ≤ 6) ∧ (0 ≤ (I 1 3).toInt ∧ (I 1 3).toInt ≤ 3) ∧ (0 ≤ (I 4 5).toInt ∧ (I 4 5).toInt ≤ 14) ∧ (0 ≤ (I 10 4).toInt ∧ (I 10 4).toInt ≤ 4) ∧ (0 ≤ (I 15 10).toInt ∧ (I 15 10).toInt ≤ 2) ∧ (0 ≤ (I 15 9).toInt ∧ (I 15 9).toInt ≤ 40) ∧ (0 ≤ (I 31 6).toInt ∧ (I 31 6).toInt ≤ 160) ∧ (1 ≤ (I 31 7).toInt ∧ (I 31 7).toInt ≤ 6) ∧ (0 ≤ (I 31 8).toInt ∧ (I 31 8).toInt < (I 31 7).toInt) := hR.2.1.1
  obtain ⟨⟨w1, w2, w3, w4⟩, ⟨w5, w6⟩, ⟨w7, w8⟩, ⟨w9, w10⟩, ⟨w11, w12⟩, ⟨w13, w14⟩, ⟨w15, w16⟩, ⟨w17, w18⟩, ⟨w19, w20⟩, ⟨w21, w22⟩⟩ := hw0
  simp only [f_X10_call, f_X11_call, e_isOutside, e_isIn, e_isNoTrack, e_isNoSheet, e_isTrack, e_isSheet, e_isZone, e_isShelter, e_isRoad, e_isBus, e_isNoZone (I := I) (h := ⟨w5, by omega⟩), e_isNoShelter (I := I) (h := ⟨w7, by omega⟩), e_isNoRoad (I := I) (h := ⟨w9, by omega⟩), e_isNoGoal (I := I) (h := ⟨w5, w6, w7, w8⟩), e_isGoal, e_m1 (x := I 10 4) (h := ⟨w11, by omega⟩), e_m1 (x := I 31 7) (h := ⟨by omega, by omega⟩), e_l1, fq_b_g, fq_v_g, fq_u_g, fq_b_i, fq_v_i, fq_u_i, fq_usome, fq_vsome, fq_bsome, fq_l, fq_zb, b2i, Int32.toInt_toInt64, kt_m100, kl_m100, kt_m18, kl_m18, kt_m17, kl_m17, kt_m16, kl_m16, kt_m14, kl_m14, kt_m13, kl_m13, kt_m12, kl_m12, kt_m11, kl_m11, kt_m9, kl_m9, kt_m6, kl_m6, kt_m5, kl_m5, kt_m4, kl_m4, kt_m3, kl_m3, kt_m2, kl_m2, kt_m1, kl_m1, kt_0, kl_0, kt_1, kl_1, kt_2, kl_2, kt_3, kl_3, kt_4, kl_4, kt_5, kl_5, kt_6, kl_6, kt_7, kl_7, kt_8, kl_8, kt_9, kl_9, kt_10, kl_10, kt_11, kl_11, kt_12, kl_12, kt_13, kl_13, kt_14, kl_14, kt_15, kl_15, kt_16, kl_16, kt_17, kl_17, kt_18, kl_18, kt_19, kl_19, kt_20, kl_20, kt_21, kl_21, kt_22, kl_22, kt_23, kl_23, kt_24, kl_24, kt_25, kl_25, kt_26, kl_26, kt_27, kl_27, kt_28, kl_28, kt_29, kl_29, kt_30, kl_30, kt_31, kl_31, kt_32, kl_32, kt_33, kl_33, kt_34, kl_34, kt_35, kl_35, kt_36, kl_36, kt_37, kl_37, kt_38, kl_38, kt_39, kl_39, kt_40, kl_40, kt_41, kl_41, kt_42, kl_42, kt_43, kl_43, kt_44, kl_44, kt_45, kl_45, kt_46, kl_46, kt_47, kl_47, kt_48, kl_48, kt_49, kl_49, kt_50, kl_50, kt_51, kl_51, kt_52, kl_52, kt_53, kl_53, kt_54, kl_54, kt_55, kl_55, kt_56, kl_56, kt_57, kl_57, kt_58, kl_58, kt_59, kl_59, kt_60, kl_60, kt_61, kl_61, kt_62, kl_62, kt_63, kl_63, kt_64, kl_64, kt_65, kl_65, kt_97, kl_97, kt_99, kl_99, kt_100, kl_100, kt_122, kl_122, kt_159, kl_159, kt_160, kl_160, kt_161, kl_161, kt_170, kl_170, kt_999, kl_999, kt_9999, kl_9999, kt_99999, kl_99999, kt_1000000, kl_1000000]
  repeat' (first | with_reducible refine RR_ite (fun _ => ?_) (fun _ => ?_) | refine RR_g (by constructor <;> omega) ?_ | refine RR_some ?_)
  all_goals try dsimp only
  all_goals try simp only [kt_m100, kl_m100, kt_m18, kl_m18, kt_m17, kl_m17, kt_m16, kl_m16, kt_m14, kl_m14, kt_m13, kl_m13, kt_m12, kl_m12, kt_m11, kl_m11, kt_m9, kl_m9, kt_m6, kl_m6, kt_m5, kl_m5, kt_m4, kl_m4, kt_m3, kl_m3, kt_m2, kl_m2, kt_m1, kl_m1, kt_0, kl_0, kt_1, kl_1, kt_2, kl_2, kt_3, kl_3, kt_4, kl_4, kt_5, kl_5, kt_6, kl_6, kt_7, kl_7, kt_8, kl_8, kt_9, kl_9, kt_10, kl_10, kt_11, kl_11, kt_12, kl_12, kt_13, kl_13, kt_14, kl_14, kt_15, kl_15, kt_16, kl_16, kt_17, kl_17, kt_18, kl_18, kt_19, kl_19, kt_20, kl_20, kt_21, kl_21, kt_22, kl_22, kt_23, kl_23, kt_24, kl_24, kt_25, kl_25, kt_26, kl_26, kt_27, kl_27, kt_28, kl_28, kt_29, kl_29, kt_30, kl_30, kt_31, kl_31, kt_32, kl_32, kt_33, kl_33, kt_34, kl_34, kt_35, kl_35, kt_36, kl_36, kt_37, kl_37, kt_38, kl_38, kt_39, kl_39, kt_40, kl_40, kt_41, kl_41, kt_42, kl_42, kt_43, kl_43, kt_44, kl_44, kt_45, kl_45, kt_46, kl_46, kt_47, kl_47, kt_48, kl_48, kt_49, kl_49, kt_50, kl_50, kt_51, kl_51, kt_52, kl_52, kt_53, kl_53, kt_54, kl_54, kt_55, kl_55, kt_56, kl_56, kt_57, kl_57, kt_58, kl_58, kt_59, kl_59, kt_60, kl_60, kt_61, kl_61, kt_62, kl_62, kt_63, kl_63, kt_64, kl_64, kt_65, kl_65, kt_97, kl_97, kt_99, kl_99, kt_100, kl_100, kt_122, kl_122, kt_159, kl_159, kt_160, kl_160, kt_161, kl_161, kt_170, kl_170, kt_999, kl_999, kt_9999, kl_9999, kt_99999, kl_99999, kt_1000000, kl_1000000, e_m1 (x := I 10 4) (h := ⟨w11, by omega⟩), e_m1 (x := I 31 7) (h := ⟨by omega, by omega⟩), e_m1 (x := I 1 2) (h := ⟨by omega, by omega⟩), Int32.toInt_toInt64, e_l1, fc_wI_lo, fc_wI_at, fc_wI_c, ne_eq, Nat.reduceEqDiff, not_false_eq_true, reduceCtorEq, if_true, if_false, ite_true, ite_false, q0_0 he, q0_1 he, q0_2 he, q0_3 he, q0_4 he, q0_5 he, q0_6 he, q0_7 he, q0_8 he, q0_9 he, q0_10 he, q0_11 he, qr_79 he, qr_80 he, qr_81 he, qr_82 he, qr_83 he, qr_84 he, qr_86 he, qr_88 he, qr_89 he, qr_90 he, qr_91 he, qr_92 he, qr_93 he, qr_94 he, qr_95 he, qr_96 he, qr_97 he, qr_98 he, qr_99 he, qr_100 he, qr_101 he, qr_102 he, qr_103 he, qr_104 he, qr_105 he, qr_126 he, qr_127 he, qr_7 he]
  all_goals repeat' (first | with_reducible refine MR_pos (by omega) ?_ | with_reducible refine MR_neg (by omega) ?_ | refine MR_g (by constructor <;> omega) ?_ | refine MR_some ?_ ?_)
  all_goals first | rfl | exact hR | exact i_ac _ | (refine ⟨?_, ?_, ?_, ?_⟩)
  all_goals first | (simp only [mC_ne, ne_eq, Nat.reduceEqDiff, not_false_eq_true, and_self]; exact hR.2.2.1) | (intro s h1 h2; simp only [fc_wI_lo, fc_wI_at, ne_eq, Nat.reduceEqDiff, not_false_eq_true, if_true, if_false, ite_true, ite_false, reduceCtorEq] at h1 ⊢; exact hR.2.2.2 s (by omega) h2) | fail | (simp only [bw_2, bw_3, bw_5, bw_6, bw_7, bw_8, bw_9, bw_11, bw_12, bw_13, bw_14, bw_16, bw_25, bw_26, bw_27, bw_28, bw_29, bw_30, bw_68, bw_46, bw_47, bw_48, bw_49, bw_50, bw_51, bw_53, bw_52, bw0_2, bw0_3, bw0_4, bw0_5, bw0_7, bw0_6, bw0_1, bw0_10, bw0_11, bw0_0, bs_42, bs_43, bs_44, bs_54, bs_55, bs_56, bs_57, bs_67, bs_69, mw_79, mw_80, mw_81, mw_82, mw_83, mw_84, mw_88, mw_89, mw_90, mw_91, mw_92, mw_93, mw_94, mw_95, mw_96, mw_97, mw_98, mw_99, mw_100, mw_101, mw_102, mw_103, mw_104, mw_105, mw_126, mw_85, mw_87, mw_86, mw0_0, mw0_1, mw0_2, mw0_3, mw0_4, mw0_5, mw0_6, mw0_7, mw0_10, mw0_11, ms_44, ms_45, ms_46, ms_47, ms_51, ms_52, ms_53, ms_55, ms_56, ms_67, ms_68, ms_c111, ms_c112, ms_c113, ms_c114, ms_c115, ms_c116, ms_c117, ms_c118, ms_c119, ms_c120, ms_c121, ms_c122, ms_c123, ms_c124, ms_c125, ms_c130, aX_hi, aM_lo, Nat.reduceLeDiff, Nat.reduceLT, fc_wI_lo, ne_eq, Nat.reduceEqDiff, not_false_eq_true]; (refine wf_call hR.2.1 ?_ <;> first | omega | (simp only [ax0_0, ax0_1, ax0_2, ax0_3, ax0_4, ax0_5, ax0_6, ax0_7, ax0_8, ax0_9, ax0_10, ax0_11, ax_1, ax_2, ax_3, ax_4, ax_5, ax_6, ax_7, ax_8, ax_9, ax_10, ax_11, ax_12, ax_13, ax_14, ax_15, ax_16, ax_17, ax_18, ax_19, ax_20, ax_21, ax_22, ax_23, ax_24, ax_25, ax_26, ax_27, ax_28, kt_0, kt_1, kt_m1]; done) | (simp only [ax0_0, ax0_1, ax0_2, ax0_3, ax0_4, ax0_5, ax0_6, ax0_7, ax0_8, ax0_9, ax0_10, ax0_11, ax_1, ax_2, ax_3, ax_4, ax_5, ax_6, ax_7, ax_8, ax_9, ax_10, ax_11, ax_12, ax_13, ax_14, ax_15, ax_16, ax_17, ax_18, ax_19, ax_20, ax_21, ax_22, ax_23, ax_24, ax_25, ax_26, ax_27, ax_28, kt_0, kt_1, kt_m1]; omega))) | (simp only [bw_2, bw_3, bw_5, bw_6, bw_7, bw_8, bw_9, bw_11, bw_12, bw_13, bw_14, bw_16, bw_25, bw_26, bw_27, bw_28, bw_29, bw_30, bw_68, bw_46, bw_47, bw_48, bw_49, bw_50, bw_51, bw_53, bw_52, bw0_2, bw0_3, bw0_4, bw0_5, bw0_7, bw0_6, bw0_1, bw0_10, bw0_11, bw0_0, bs_42, bs_43, bs_44, bs_54, bs_55, bs_56, bs_57, bs_67, bs_69, mw_79, mw_80, mw_81, mw_82, mw_83, mw_84, mw_88, mw_89, mw_90, mw_91, mw_92, mw_93, mw_94, mw_95, mw_96, mw_97, mw_98, mw_99, mw_100, mw_101, mw_102, mw_103, mw_104, mw_105, mw_126, mw_85, mw_87, mw_86, mw0_0, mw0_1, mw0_2, mw0_3, mw0_4, mw0_5, mw0_6, mw0_7, mw0_10, mw0_11, ms_44, ms_45, ms_46, ms_47, ms_51, ms_52, ms_53, ms_55, ms_56, ms_67, ms_68, ms_c111, ms_c112, ms_c113, ms_c114, ms_c115, ms_c116, ms_c117, ms_c118, ms_c119, ms_c120, ms_c121, ms_c122, ms_c123, ms_c124, ms_c125, ms_c130, aX_hi, aM_lo, Nat.reduceLeDiff, Nat.reduceLT, fc_wI_lo, ne_eq, Nat.reduceEqDiff, not_false_eq_true]; rw [he]; first | done | rfl | (funext r k; simp only [fc_wI]; (repeat' split) <;> first | rfl | omega)) | skip
