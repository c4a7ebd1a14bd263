set_option maxHeartbeats 4000000 in
set_option maxRecDepth 100000 in
theorem r_cell {I : fc_I} {x1 x2 x3 : Int32} (hR : Rel I) : RR (f_X10_cell I x1 x2 x3) (fun I => f_X11_cell I x1 x2 x3) := by
  have he := hR.1
  have hw0 : (0 ≤ (I 45 9).toInt ∧ (I 45 9).toInt ≤ (I 15 11).toInt ∧ 1 ≤ (I 15 11).toInt ∧ (I 15 11).toInt ≤ 60) ∧ (0 ≤ (I 1 2).toInt ∧ (I 1 2).toInt ≤ 6) ∧ (0 ≤ (I 1 3).toInt ∧ (I 1 3).toInt ≤ 3) ∧ (0 ≤ (I 4 5).toInt ∧ (I 4 5).toInt ≤ 14) ∧ (0 ≤ (I 10 4).toInt ∧ (I 10 4).toInt ≤ 4) ∧ (0 ≤ (I 15 10).toInt ∧ (I 15 10).toInt ≤ 2) ∧ (0 ≤ (I 15 9).toInt ∧ (I 15 9).toInt ≤ 40) ∧ (0 ≤ (I 31 6).toInt ∧ (I 31 6).toInt ≤ 160) ∧ (1 ≤ (I 31 7).toInt ∧ (I 31 7).toInt ≤ 6) ∧ (0 ≤ (I 31 8).toInt ∧ (I 31 8).toInt < (I 31 7).toInt) := hR.2.1.1
  obtain ⟨⟨w1, w2, w3, w4⟩, ⟨w5, w6⟩, ⟨w7, w8⟩, ⟨w9, w10⟩, ⟨w11, w12⟩, ⟨w13, w14⟩, ⟨w15, w16⟩, ⟨w17, w18⟩, ⟨w19, w20⟩, ⟨w21, w22⟩⟩ := hw0
  have km : (-1 : Int32).toInt = -1 := rfl
  by_cases c : x1.toInt < 0 ∨ 3 < x1.toInt
  · refine ⟨-2, I, I, ?_, ?_, hR⟩
    · unfold f_X10_cell
      rw [e_isNoSheet, fq_vsome, if_pos c]
      rfl
    · show f_X11_cell I x1 x2 x3 = _
      unfold f_X11_cell
      rw [e_isSheet, fq_vsome, if_neg (show ¬ (0 ≤ x1.toInt ∧ x1.toInt ≤ 3) by omega)]
      rfl
  · have e1 := cn_int (x := x1) (by omega)
    obtain ⟨s1, s2⟩ := ws_at hR.2.1.2.2.2.1 x1 (by omega) (by omega)
    have hX : f_X10_cell I x1 x2 x3 = (if (I 76 (cn x1)).toInt = -1 then some (-11, I) else fq_g 4 x1 (fq_v (f_X10_isOutside x2 0 ((I 77 (cn x1)) - 1)) fun r39 => if r39.toInt = 0 then fq_u (f_X7_write I x1 x2 x3) (fun J => some (1, J)) else some (-12, I))) := by
      unfold f_X10_cell
      rw [e_isNoSheet, fq_vsome, if_neg c, if_pos (by rfl), fq_gp ⟨by omega, by omega⟩, km]
    have hM : ∀ J : fc_I, f_X11_cell J x1 x2 x3 = (if (J 127 (cn x1)).toInt < 0 then some (-11, J) else fq_g 4 x1 (fq_v (f_X11_isIn (Int32.toInt64 x2) 0 (Int32.toInt64 ((J 128 (cn x1)) - 1))) fun r34 => if r34.toInt = 0 then some (-12, J) else fq_g 4 x1 (fq_v (f_X11_cutTo (J 127 (cn x1)) x3) fun r60 => fq_g 160 (((40 : Int32) * x1) + x2) (some (1, fc_wI J 129 (cn (((40 : Int32) * x1) + x2)) r60))))) := fun J => by
      unfold f_X11_cell
      rw [e_isSheet, fq_vsome, if_pos (show 0 ≤ x1.toInt ∧ x1.toInt ≤ 3 by omega), if_neg (by decide), fq_gp ⟨by omega, by omega⟩]
    by_cases d : (I 76 (cn x1)).toInt = -1
    · rw [if_pos d] at hX
      exact ⟨_, _, _, hX, by show f_X11_cell I x1 x2 x3 = _; rw [hM, qr_127 he, if_pos (by omega)], hR⟩
    · obtain ⟨z1, z2⟩ := s2 d
      have m1 := e_m1 (x := I 77 (cn x1)) ⟨z1, by omega⟩
      rw [if_neg d, fq_gp ⟨by omega, by omega⟩, e_isOutside, fq_vsome, m1, kt_0] at hX
      by_cases g : x2.toInt < 0 ∨ (I 77 (cn x1)).toInt - 1 < x2.toInt
      · rw [if_pos g, if_neg (by decide)] at hX
        refine ⟨_, _, _, hX, ?_, hR⟩
        show f_X11_cell I x1 x2 x3 = _
        rw [hM, qr_127 he, if_neg (by omega), fq_gp ⟨by omega, by omega⟩, qz_at he x1 d, e_isIn, fq_vsome, Int32.toInt_toInt64, Int32.toInt_toInt64, m1, kl_0, if_neg (show ¬ (0 ≤ x2.toInt ∧ x2.toInt ≤ (I 77 (cn x1)).toInt - 1) by omega), if_pos (by rfl)]
      · rw [if_neg g, if_pos (by rfl)] at hX
        have e2 := cn_int (x := x2) (by omega)
        have i1 : ((40 : Int32) * x1).toInt = 40 * x1.toInt := i_mul (by rw [kt_40]; omega) (by rw [kt_40]; omega)
        have i2 : (((40 : Int32) * x1) + x2).toInt = 40 * x1.toInt + x2.toInt := by rw [i_add (by rw [i1]; omega) (by rw [i1]; omega), i1]
        have i3 := cn_int (x := ((40 : Int32) * x1) + x2) (by omega)
        have i4 : cn (((40 : Int32) * x1) + x2) = 40 * cn x1 + cn x2 := by omega
        obtain ⟨w, hw⟩ : ∃ w : Int32, f_X7_write I x1 x2 x3 = some (fc_wI I (72 + cn x1) (cn x2) w) ∧ f_X11_cutTo (I 76 (cn x1)) x3 = some w := by
          unfold f_X7_write f_X11_cutTo
          rw [fq_gp ⟨by omega, by omega⟩, fq_gp ⟨by omega, by omega⟩]
          by_cases k0 : (I 76 (cn x1)).toInt = 0
          · rw [if_pos k0, if_pos k0, fq_gp ⟨by omega, by omega⟩]
            exact ⟨_, rfl, rfl⟩
          · rw [if_neg k0, if_neg k0, fq_gp ⟨by omega, by omega⟩]
            by_cases k1 : (I 76 (cn x1)).toInt = (1 : Int32).toInt
            · rw [if_pos k1, if_pos k1, fq_gp ⟨by omega, by omega⟩]
              exact ⟨_, rfl, rfl⟩
            · rw [if_neg k1, if_neg k1, fq_gp ⟨by omega, by omega⟩]
              exact ⟨_, rfl, rfl⟩
        rw [hw.1, fq_usome] at hX
        obtain ⟨J, hJ⟩ : ∃ J, J = fc_wI I (72 + cn x1) (cn x2) w := ⟨_, rfl⟩
        have hJc : ∀ c, 78 ≤ c → J c = I c := fun c hc => by subst hJ; exact fc_wI_ne (by omega)
        rw [← hJ] at hX
        have hn : ¬ I 76 (cn x1) = -1 := fun z => d (by rw [z]; rfl)
        have hn2 : ¬ J 127 ((40 * cn x1 + cn x2) / 40) = -1 := by
          rw [hJc 127 (by decide), qr_127 he, show (40 * cn x1 + cn x2) / 40 = cn x1 by omega]
          exact hn
        refine ⟨_, _, fc_wI J 129 (40 * cn x1 + cn x2) w, hX, ?_, ?_, ?_, ?_, ?_⟩
        · show f_X11_cell J x1 x2 x3 = _
          rw [hM, hJc 127 (by decide), hJc 128 (by decide), qr_127 he, if_neg (by omega), fq_gp ⟨by omega, by omega⟩, qz_at he x1 d, e_isIn, fq_vsome, Int32.toInt_toInt64, Int32.toInt_toInt64, m1, kl_0, if_pos (show 0 ≤ x2.toInt ∧ x2.toInt ≤ (I 77 (cn x1)).toInt - 1 by omega), if_neg (by decide), fq_gp ⟨by omega, by omega⟩, hw.2, fq_vsome, fq_gp ⟨by omega, by omega⟩, i4]
        · rw [aX_hi (by decide), mw_item (by omega) hn2, hJ, aw_item (by omega) (by omega) hn, aM_lo (by omega), he]
        · rw [aX_hi (by decide), hJ, aw_item (by omega) (by omega) hn]
          exact wf_cell hR.2.1
        · rw [mC_ne ⟨by decide, by decide⟩]
          unfold mC
          rw [hJc 111 (by decide), hJc 112 (by decide)]
          exact hR.2.2.1
        · unfold mK
          rw [fc_wI_lo (by decide), fc_wI_lo (by decide), fc_wI_lo (by decide), hJc 78 (by decide), hJc 86 (by decide), hJc 87 (by decide)]
          exact hR.2.2.2
