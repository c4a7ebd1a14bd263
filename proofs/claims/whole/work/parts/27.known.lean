/-- the news that tell of an hour, as known in another one -/
def tlB (I : fc_I) (t h q : Int32) (k : Nat) : Bool := decide ((I 25 k).toInt = t.toInt) && decide ((I 30 k).toInt ≤ q.toInt) && decide ((I 26 k).toInt ≤ h.toInt) && decide (h.toInt < (I 27 k).toInt)
theorem tlB_iff {I : fc_I} {t h q : Int32} {k : Nat} : tlB I t h q k = true ↔ (I 25 k).toInt = t.toInt ∧ (I 30 k).toInt ≤ q.toInt ∧ (I 26 k).toInt ≤ h.toInt ∧ h.toInt < (I 27 k).toInt := by
  unfold tlB
  simp only [Bool.and_eq_true, decide_eq_true_eq]
  constructor
  · exact fun z => ⟨z.1.1.1, z.1.1.2, z.1.2, z.2⟩
  · exact fun z => ⟨⟨⟨z.1, z.2.1⟩, z.2.2.1⟩, z.2.2.2⟩
/-- the last of n places where p holds; -1: none -/
def lastB (p : Nat → Bool) : Nat → Int
  | 0 => -1
  | n + 1 => if p n = true then (n : Int) else lastB p n
theorem lastB_s {p : Nat → Bool} {n : Nat} : lastB p (n + 1) = if p n = true then (n : Int) else lastB p n := rfl
theorem lastB_le {p : Nat → Bool} : ∀ n : Nat, -1 ≤ lastB p n ∧ lastB p n < (n : Int)
  | 0 => ⟨by unfold lastB; omega, by unfold lastB; omega⟩
  | n + 1 => by
    have := lastB_le (p := p) n
    rw [lastB_s]
    split <;> omega
def valB (p : Nat → Bool) (n : Nat) (f : Nat → Int32) : Int32 := if lastB p n < 0 then 0 else f (lastB p n).toNat
theorem valB_s {p : Nat → Bool} {n : Nat} {f : Nat → Int32} : valB p (n + 1) f = if p n = true then f n else valB p n f := by
  unfold valB
  rw [lastB_s]
  by_cases c : p n = true
  · rw [if_pos c, if_pos c, if_neg (by omega)]
    rfl
  · rw [if_neg c, if_neg c]
theorem i_m1 {x : Int32} (h : 0 ≤ x.toInt) : (x + (-1)).toInt = x.toInt - 1 := by
  have := Int32.toInt_lt x
  rw [i_add (by rw [kt_m1]; omega) (by rw [kt_m1]; omega), kt_m1]
  omega
theorem e_teller {I : fc_I} {t h q : Int32} (hc : 0 ≤ (I 15 9).toInt ∧ (I 15 9).toInt ≤ 40) : f_X8_teller I t h q = some (Int32.ofInt (lastB (tlB I t h q) (cn (I 15 9)))) := by
  have key := lpp1_S (B := f_X8_teller_8_B I t h q) (fun x => (x.toInt + 1).toNat) (fun x => -1 ≤ x.toInt ∧ x.toInt ≤ 39) (fun x => some (Int32.ofInt (lastB (tlB I t h q) (x.toInt + 1).toNat))) (fun k x hi ih => by
    unfold f_X8_teller_8_B
    by_cases h0 : x.toInt < 0
    · rw [if_pos h0, show (x.toInt + 1).toNat = 0 by omega]
      rfl
    · rw [if_neg h0, fq_gp ⟨by omega, by omega⟩]
      have ec := cn_int (x := x) (by omega)
      have e1 := i_m1 (x := x) (by omega)
      have hk : k (x + (-1)) = some (Int32.ofInt (lastB (tlB I t h q) (cn x))) := by rw [ih _ ⟨by omega, by omega⟩ (by omega), show ((x + (-1)).toInt + 1).toNat = cn x by omega]
      rw [show (x.toInt + 1).toNat = cn x + 1 by omega, lastB_s]
      have hx : Int32.ofInt ((cn x : Nat) : Int) = x := by rw [ec]; exact Int32.ofInt_toInt x
      by_cases c1 : (I 25 (cn x)).toInt = t.toInt
      · rw [if_pos c1, fq_gp ⟨by omega, by omega⟩]
        by_cases c2 : q.toInt < (I 30 (cn x)).toInt
        · rw [if_pos c2, if_neg (fun z => by have := tlB_iff.mp z; omega)]
          exact hk
        · rw [if_neg c2, fq_gp ⟨by omega, by omega⟩]
          by_cases c3 : h.toInt < (I 26 (cn x)).toInt
          · rw [if_pos c3, if_neg (fun z => by have := tlB_iff.mp z; omega)]
            exact hk
          · rw [if_neg c3, fq_gp ⟨by omega, by omega⟩]
            by_cases c4 : h.toInt < (I 27 (cn x)).toInt
            · rw [if_pos c4, if_pos (tlB_iff.mpr ⟨c1, by omega, by omega, c4⟩), hx]
            · rw [if_neg c4, if_neg (fun z => by have := tlB_iff.mp z; omega)]
              exact hk
      · rw [if_neg c1, if_neg (fun z => by have := tlB_iff.mp z; omega)]
        exact hk)
  have e1 : ((I 15 9) - 1).toInt = (I 15 9).toInt - 1 := i_sub (by rw [kt_1]; omega) (by rw [kt_1]; omega)
  have ec := cn_int hc.1
  show lpp1 (f_X8_teller_8_B I t h q) 4000 ((I 15 9) - 1) = _
  rw [key 4000 _ ⟨by omega, by omega⟩ (by show (((I 15 9) - 1).toInt + 1).toNat < 4000; omega), show (((I 15 9) - 1).toInt + 1).toNat = cn (I 15 9) by omega]
theorem e_waterKnown {I : fc_I} {t h q : Int32} (hc : 0 ≤ (I 15 9).toInt ∧ (I 15 9).toInt ≤ 40) : f_X8_waterKnown I t h q = some (valB (tlB I t h q) (cn (I 15 9)) (I 28)) := by
  unfold f_X8_waterKnown
  have ec := cn_int hc.1
  have hb := lastB_le (p := tlB I t h q) (cn (I 15 9))
  have e0 : (Int32.ofInt (lastB (tlB I t h q) (cn (I 15 9)))).toInt = lastB (tlB I t h q) (cn (I 15 9)) := Int32.toInt_ofInt_of_le (by omega) (by omega)
  rw [e_teller hc, fq_vsome, e0, kt_m1]
  unfold valB
  by_cases c : lastB (tlB I t h q) (cn (I 15 9)) = -1
  · rw [if_pos c, if_pos (by omega)]
  · rw [if_neg c, if_neg (by omega), fq_gp ⟨by omega, by omega⟩]
    congr 2
    have e1 := cn_int (x := Int32.ofInt (lastB (tlB I t h q) (cn (I 15 9)))) (by omega)
    omega
theorem e_windKnown {I : fc_I} {t h q : Int32} (hc : 0 ≤ (I 15 9).toInt ∧ (I 15 9).toInt ≤ 40) : f_X8_windKnown I t h q = some (valB (tlB I t h q) (cn (I 15 9)) (I 29)) := by
  unfold f_X8_windKnown
  have ec := cn_int hc.1
  have hb := lastB_le (p := tlB I t h q) (cn (I 15 9))
  have e0 : (Int32.ofInt (lastB (tlB I t h q) (cn (I 15 9)))).toInt = lastB (tlB I t h q) (cn (I 15 9)) := Int32.toInt_ofInt_of_le (by omega) (by omega)
  rw [e_teller hc, fq_vsome, e0, kt_m1]
  unfold valB
  by_cases c : lastB (tlB I t h q) (cn (I 15 9)) = -1
  · rw [if_pos c, if_pos (by omega)]
  · rw [if_neg c, if_neg (by omega), fq_gp ⟨by omega, by omega⟩]
    congr 2
    have e1 := cn_int (x := Int32.ofInt (lastB (tlB I t h q) (cn (I 15 9)))) (by omega)
    omega
theorem e_knownOf {I : fc_I} (he : aX 45 I = aM I) {t h q w : Int32} (hw : w.toInt = 0 ∨ w.toInt = 1) (hc : 0 ≤ (I 15 9).toInt ∧ (I 15 9).toInt ≤ 40) : f_X11_knownOf I t h q w = some (valB (tlB I t h q) (cn (I 15 9)) (if w.toInt = 0 then I 28 else I 29)) := by
  have ec := cn_int hc.1
  have key := lpp2_S (B := f_X11_knownOf_6_B I t h q w) (fun _ i => cn (I 15 9) - cn i) (fun x i => 0 ≤ i.toInt ∧ i.toInt ≤ (I 15 9).toInt ∧ x = valB (tlB I t h q) (cn i) (if w.toInt = 0 then I 28 else I 29)) (fun _ _ => some (valB (tlB I t h q) (cn (I 15 9)) (if w.toInt = 0 then I 28 else I 29))) (fun k x i hi ih => by
    obtain ⟨h1, h2, h3⟩ := hi
    have ei := cn_int h1
    unfold f_X11_knownOf_6_B
    simp only [f_X11_knownOf_63, fq_l, q0_7 he, qr_100 he, qr_101 he, qr_102 he, qr_103 he, qr_104 he, qr_105 he]
    by_cases hlt : i.toInt < (I 15 9).toInt
    · obtain ⟨e1, e2⟩ := i_p1 (N := 40) h1 (by omega) (by omega)
      have go : ∀ y, y = valB (tlB I t h q) (cn i + 1) (if w.toInt = 0 then I 28 else I 29) → k y (i + 1) = some (valB (tlB I t h q) (cn (I 15 9)) (if w.toInt = 0 then I 28 else I 29)) := fun y hy => ih y (i + 1) ⟨by omega, by omega, by rw [e2]; exact hy⟩ (by omega)
      rw [if_pos hlt, fq_gp ⟨h1, by omega⟩]
      by_cases c1 : (I 25 (cn i)).toInt = t.toInt
      · rw [if_pos c1, fq_gp ⟨h1, by omega⟩]
        by_cases c2 : q.toInt < (I 30 (cn i)).toInt
        · rw [if_pos c2]
          exact go _ (by rw [valB_s, if_neg (fun z => by have := tlB_iff.mp z; omega)]; exact h3)
        · rw [if_neg c2, fq_gp ⟨h1, by omega⟩]
          by_cases c3 : h.toInt < (I 26 (cn i)).toInt
          · rw [if_pos c3]
            exact go _ (by rw [valB_s, if_neg (fun z => by have := tlB_iff.mp z; omega)]; exact h3)
          · rw [if_neg c3, fq_gp ⟨h1, by omega⟩]
            by_cases c4 : h.toInt < (I 27 (cn i)).toInt
            · rw [if_pos c4]
              have ht := tlB_iff.mpr ⟨c1, Int.not_lt.mp c2, Int.not_lt.mp c3, c4⟩
              by_cases cw : w.toInt = 0
              · rw [if_pos cw, fq_gp ⟨h1, by omega⟩]
                exact go _ (by rw [valB_s, if_pos ht, if_pos cw])
              · rw [if_neg cw, fq_gp ⟨h1, by omega⟩]
                exact go _ (by rw [valB_s, if_pos ht, if_neg cw])
            · rw [if_neg c4]
              exact go _ (by rw [valB_s, if_neg (fun z => by have := tlB_iff.mp z; omega)]; exact h3)
      · rw [if_neg c1]
        exact go _ (by rw [valB_s, if_neg (fun z => by have := tlB_iff.mp z; omega)]; exact h3)
    · rw [if_neg hlt, h3, show cn i = cn (I 15 9) by omega])
  exact key 4000 0 0 ⟨by rw [kt_0]; omega, by rw [kt_0]; omega, rfl⟩ (by show cn (I 15 9) - cn 0 < 4000; omega)
set_option maxHeartbeats 4000000 in
set_option maxRecDepth 100000 in
theorem r_known {I : fc_I} {x1 x2 x3 x4 : Int32} (hR : Rel I) : PR (f_X10_known I x1 x2 x3 x4) (f_X11_known I x1 x2 x3 x4) := by
  have he := hR.1
  have hw0 : (0 ≤ (I 45 9).toInt ∧ (I 45 9).toInt ≤ (I 15 11).toInt ∧ 1 ≤ (I 15 11).toInt ∧ (I 15 11).toInt ≤ 60) ∧ (0 ≤ (I 1 2).toInt ∧ (I 1 2).toInt ≤ 6) ∧ (0 ≤ (I 1 3).toInt ∧ (I 1 3).toInt ≤ 3) ∧ (0 ≤ (I 4 5).toInt ∧ (I 4 5).toInt ≤ 14) ∧ (0 ≤ (I 10 4).toInt ∧ (I 10 4).toInt ≤ 4) ∧ (0 ≤ (I 15 10).toInt ∧ (I 15 10).toInt ≤ 2) ∧ (0 ≤ (I 15 9).toInt ∧ (I 15 9).toInt ≤ 40) ∧ (0 ≤ (I 31 6).toInt ∧ (I 31 6).toInt ≤ 160) ∧ (1 ≤ (I 31 7).toInt ∧ (I 31 7).toInt ≤ 6) ∧ (0 ≤ (I 31 8).toInt ∧ (I 31 8).toInt < (I 31 7).toInt) := hR.2.1.1
  obtain ⟨⟨w1, w2, w3, w4⟩, ⟨w5, w6⟩, ⟨w7, w8⟩, ⟨w9, w10⟩, ⟨w11, w12⟩, ⟨w13, w14⟩, ⟨w15, w16⟩, ⟨w17, w18⟩, ⟨w19, w20⟩, ⟨w21, w22⟩⟩ := hw0
  have g1 := fun t h q => e_waterKnown (I := I) (t := t) (h := h) (q := q) ⟨w15, w16⟩
  have g2 := fun t h q => e_windKnown (I := I) (t := t) (h := h) (q := q) ⟨w15, w16⟩
  have g3 := fun t h q => e_knownOf (t := t) (h := h) (q := q) (w := 0) he (Or.inl rfl) ⟨w15, w16⟩
  have g4 := fun t h q => e_knownOf (t := t) (h := h) (q := q) (w := 1) he (Or.inr rfl) ⟨w15, w16⟩
  simp only [f_X10_known, f_X11_known, g1, g2, g3, g4, e_isOutside, e_isIn, e_isNoTrack, e_isNoSheet, e_isTrack, e_isSheet, e_isZone, e_isShelter, e_isRoad, e_isBus, e_isNoZone (I := I) (h := ⟨w5, by omega⟩), e_isNoShelter (I := I) (h := ⟨w7, by omega⟩), e_isNoRoad (I := I) (h := ⟨w9, by omega⟩), e_isNoGoal (I := I) (h := ⟨w5, w6, w7, w8⟩), e_isGoal, e_m1 (x := I 10 4) (h := ⟨w11, by omega⟩), e_m1 (x := I 31 7) (h := ⟨by omega, by omega⟩), e_l1, fq_b_g, fq_v_g, fq_u_g, fq_b_i, fq_v_i, fq_u_i, fq_usome, fq_vsome, fq_bsome, fq_l, fq_zb, b2i, Int32.toInt_toInt64, kt_m100, kl_m100, kt_m18, kl_m18, kt_m17, kl_m17, kt_m16, kl_m16, kt_m14, kl_m14, kt_m13, kl_m13, kt_m12, kl_m12, kt_m11, kl_m11, kt_m9, kl_m9, kt_m6, kl_m6, kt_m5, kl_m5, kt_m4, kl_m4, kt_m3, kl_m3, kt_m2, kl_m2, kt_m1, kl_m1, kt_0, kl_0, kt_1, kl_1, kt_2, kl_2, kt_3, kl_3, kt_4, kl_4, kt_5, kl_5, kt_6, kl_6, kt_7, kl_7, kt_8, kl_8, kt_9, kl_9, kt_10, kl_10, kt_11, kl_11, kt_12, kl_12, kt_13, kl_13, kt_14, kl_14, kt_15, kl_15, kt_16, kl_16, kt_17, kl_17, kt_18, kl_18, kt_19, kl_19, kt_20, kl_20, kt_21, kl_21, kt_22, kl_22, kt_23, kl_23, kt_24, kl_24, kt_25, kl_25, kt_26, kl_26, kt_27, kl_27, kt_28, kl_28, kt_29, kl_29, kt_30, kl_30, kt_31, kl_31, kt_32, kl_32, kt_33, kl_33, kt_34, kl_34, kt_35, kl_35, kt_36, kl_36, kt_37, kl_37, kt_38, kl_38, kt_39, kl_39, kt_40, kl_40, kt_41, kl_41, kt_42, kl_42, kt_43, kl_43, kt_44, kl_44, kt_45, kl_45, kt_46, kl_46, kt_47, kl_47, kt_48, kl_48, kt_49, kl_49, kt_50, kl_50, kt_51, kl_51, kt_52, kl_52, kt_53, kl_53, kt_54, kl_54, kt_55, kl_55, kt_56, kl_56, kt_57, kl_57, kt_58, kl_58, kt_59, kl_59, kt_60, kl_60, kt_61, kl_61, kt_62, kl_62, kt_63, kl_63, kt_64, kl_64, kt_65, kl_65, kt_97, kl_97, kt_99, kl_99, kt_100, kl_100, kt_122, kl_122, kt_159, kl_159, kt_160, kl_160, kt_161, kl_161, kt_170, kl_170, kt_999, kl_999, kt_9999, kl_9999, kt_99999, kl_99999, kt_1000000, kl_1000000]
  all_goals try simp only [kt_m100, kl_m100, kt_m18, kl_m18, kt_m17, kl_m17, kt_m16, kl_m16, kt_m14, kl_m14, kt_m13, kl_m13, kt_m12, kl_m12, kt_m11, kl_m11, kt_m9, kl_m9, kt_m6, kl_m6, kt_m5, kl_m5, kt_m4, kl_m4, kt_m3, kl_m3, kt_m2, kl_m2, kt_m1, kl_m1, kt_0, kl_0, kt_1, kl_1, kt_2, kl_2, kt_3, kl_3, kt_4, kl_4, kt_5, kl_5, kt_6, kl_6, kt_7, kl_7, kt_8, kl_8, kt_9, kl_9, kt_10, kl_10, kt_11, kl_11, kt_12, kl_12, kt_13, kl_13, kt_14, kl_14, kt_15, kl_15, kt_16, kl_16, kt_17, kl_17, kt_18, kl_18, kt_19, kl_19, kt_20, kl_20, kt_21, kl_21, kt_22, kl_22, kt_23, kl_23, kt_24, kl_24, kt_25, kl_25, kt_26, kl_26, kt_27, kl_27, kt_28, kl_28, kt_29, kl_29, kt_30, kl_30, kt_31, kl_31, kt_32, kl_32, kt_33, kl_33, kt_34, kl_34, kt_35, kl_35, kt_36, kl_36, kt_37, kl_37, kt_38, kl_38, kt_39, kl_39, kt_40, kl_40, kt_41, kl_41, kt_42, kl_42, kt_43, kl_43, kt_44, kl_44, kt_45, kl_45, kt_46, kl_46, kt_47, kl_47, kt_48, kl_48, kt_49, kl_49, kt_50, kl_50, kt_51, kl_51, kt_52, kl_52, kt_53, kl_53, kt_54, kl_54, kt_55, kl_55, kt_56, kl_56, kt_57, kl_57, kt_58, kl_58, kt_59, kl_59, kt_60, kl_60, kt_61, kl_61, kt_62, kl_62, kt_63, kl_63, kt_64, kl_64, kt_65, kl_65, kt_97, kl_97, kt_99, kl_99, kt_100, kl_100, kt_122, kl_122, kt_159, kl_159, kt_160, kl_160, kt_161, kl_161, kt_170, kl_170, kt_999, kl_999, kt_9999, kl_9999, kt_99999, kl_99999, kt_1000000, kl_1000000, e_m1 (x := I 10 4) (h := ⟨w11, by omega⟩), e_m1 (x := I 31 7) (h := ⟨by omega, by omega⟩), e_m1 (x := I 1 2) (h := ⟨by omega, by omega⟩), Int32.toInt_toInt64, e_l1, fc_wI_lo, fc_wI_at, fc_wI_c, ne_eq, Nat.reduceEqDiff, not_false_eq_true, reduceCtorEq, if_true, if_false, ite_true, ite_false, q0_0 he, q0_1 he, q0_2 he, q0_3 he, q0_4 he, q0_5 he, q0_6 he, q0_7 he, q0_8 he, q0_9 he, q0_10 he, q0_11 he, qr_79 he, qr_80 he, qr_81 he, qr_82 he, qr_83 he, qr_84 he, qr_86 he, qr_88 he, qr_89 he, qr_90 he, qr_91 he, qr_92 he, qr_93 he, qr_94 he, qr_95 he, qr_96 he, qr_97 he, qr_98 he, qr_99 he, qr_100 he, qr_101 he, qr_102 he, qr_103 he, qr_104 he, qr_105 he, qr_126 he, qr_127 he, qr_7 he]
  repeat' (first | with_reducible refine PR_ite (fun _ => ?_) (fun _ => ?_) | refine PR_g (by constructor <;> omega) ?_ | refine PR_some ?_)
  all_goals repeat' (first | with_reducible refine PM_pos (by omega) ?_ | with_reducible refine PM_neg (by omega) ?_ | refine PM_g (by constructor <;> omega) ?_ | refine PM_some ?_ | with_reducible refine PM_ite (fun _ => ?_) (fun _ => ?_))
  all_goals first | rfl | skip
