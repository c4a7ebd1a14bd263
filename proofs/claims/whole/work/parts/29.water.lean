/-- folk of a zone that is wet -/
def wg (f : Nat) (I : fc_I) (t h : Int32) (z : Nat) : Int32 := if (I 2 z).toInt < (I (18 + cn t) (cn h)).toInt then I (f + 1) z + I (f + 2) z + I (f + 3) z else 0
theorem e_stand {f : Nat} {I : fc_I} {t h : Int32} (hz : 0 ≤ (I 1 2).toInt ∧ (I 1 2).toInt ≤ 6) (ht : 0 ≤ t.toInt ∧ t.toInt ≤ 2) (hh : 0 ≤ h.toInt ∧ h.toInt ≤ 60) : f_X4_standInWater f I t h = some (sf (wg f I t h) (cn (I 1 2)) 0 0) := by
  have ez := cn_int hz.1
  have key := lpp2_S (B := f_X4_standInWater_6_B f I t h) (fun _ i => cn (I 1 2) - cn i) (fun _ i => 0 ≤ i.toInt ∧ i.toInt ≤ (I 1 2).toInt) (fun x i => some (sf (wg f I t h) (cn (I 1 2) - cn i) (cn i) x)) (fun k x i hi ih => by
    have ei := cn_int hi.1
    unfold f_X4_standInWater_6_B
    by_cases hl : i.toInt < (I 1 2).toInt
    · obtain ⟨e1, e2⟩ := i_p1 (N := 6) hi.1 (by omega) (by omega)
      have go : ∀ y, y = x + wg f I t h (cn i) → k y (i + 1) = some (sf (wg f I t h) (cn (I 1 2) - cn i) (cn i) x) := fun y hy => by
        rw [ih y (i + 1) ⟨by omega, by omega⟩ (by omega), e2, show cn (I 1 2) - cn i = (cn (I 1 2) - (cn i + 1)) + 1 by omega, hy]
        rfl
      rw [if_pos hl, e_wetX, fq_gp ⟨by omega, by omega⟩, fq_gp ⟨by omega, by omega⟩, fq_gp ⟨by omega, by omega⟩, fq_vsome]
      simp only [b2i, fq_l]
      by_cases c : (I 2 (cn i)).toInt < (I (18 + cn t) (cn h)).toInt
      · rw [if_neg (not_not_intro c), fq_gp ⟨by omega, by omega⟩, fq_gp ⟨by omega, by omega⟩, fq_gp ⟨by omega, by omega⟩]
        exact go _ (by unfold wg; rw [if_pos c])
      · rw [if_pos c]
        exact go _ (by unfold wg; rw [if_neg c, i_z])
    · rw [if_neg hl, show cn (I 1 2) - cn i = 0 by omega]
      rfl)
  exact key 4000 0 0 ⟨by rw [kt_0]; omega, by rw [kt_0]; omega⟩ (by show cn (I 1 2) - cn 0 < 4000; omega)
theorem e_inOf {I : fc_I} (he : aX 45 I = aM I) {t : Int32} (hz : 0 ≤ (I 1 2).toInt ∧ (I 1 2).toInt ≤ 6) (ht : 0 ≤ t.toInt ∧ t.toInt ≤ 2) (hh : 0 ≤ (I 45 9).toInt ∧ (I 45 9).toInt ≤ 60) : f_X11_inWaterOf I t = some (sf (wg 45 I t (I 45 9)) (cn (I 1 2)) 0 0) := by
  have ez := cn_int hz.1
  have q := wq_at he t (I 45 9) ht hh
  have key := lpp2_S (B := f_X11_inWaterOf_4_B I t) (fun _ i => cn (I 1 2) - cn i) (fun _ i => 0 ≤ i.toInt ∧ i.toInt ≤ (I 1 2).toInt) (fun x i => some (sf (wg 45 I t (I 45 9)) (cn (I 1 2) - cn i) (cn i) x)) (fun k x i hi ih => by
    have ei := cn_int hi.1
    unfold f_X11_inWaterOf_4_B
    simp only [e_wetM, q0_2 he, q0_0 he, qr_79 he, qr_80 he, qr_81 he, qr_82 he, q.2.1]
    by_cases hl : i.toInt < (I 1 2).toInt
    · obtain ⟨e1, e2⟩ := i_p1 (N := 6) hi.1 (by omega) (by omega)
      have go : ∀ y, y = x + wg 45 I t (I 45 9) (cn i) → k y (i + 1) = some (sf (wg 45 I t (I 45 9)) (cn (I 1 2) - cn i) (cn i) x) := fun y hy => by
        rw [ih y (i + 1) ⟨by omega, by omega⟩ (by omega), e2, show cn (I 1 2) - cn i = (cn (I 1 2) - (cn i + 1)) + 1 by omega, hy]
        rfl
      rw [if_pos hl, fq_gp ⟨by rw [q.1]; omega, by rw [q.1]; omega⟩, fq_gp ⟨by omega, by omega⟩, fq_vsome]
      simp only [b2i, fq_l]
      by_cases c : (I 2 (cn i)).toInt < (I (18 + cn t) (cn (I 45 9))).toInt
      · rw [if_neg (not_not_intro c), fq_gp ⟨by omega, by omega⟩, fq_gp ⟨by omega, by omega⟩, fq_gp ⟨by omega, by omega⟩]
        exact go _ (by unfold wg; rw [if_pos c])
      · rw [if_pos c]
        exact go _ (by unfold wg; rw [if_neg c])
    · rw [if_neg hl, show cn (I 1 2) - cn i = 0 by omega]
      rfl)
  exact key 4000 0 0 ⟨by rw [kt_0]; omega, by rw [kt_0]; omega⟩ (by show cn (I 1 2) - cn 0 < 4000; omega)
set_option maxHeartbeats 4000000 in
set_option maxRecDepth 100000 in
theorem r_inWater {I : fc_I} (hR : Rel I) : PR (f_X10_inWater I) (f_X11_inWater I) := by
  have he := hR.1
  have hw0 : (0 ≤ (I 45 9).toInt ∧ (I 45 9).toInt ≤ (I 15 11).toInt ∧ 1 ≤ (I 15 11).toInt ∧ (I 15 11).toInt ≤ 60) ∧ (0 ≤ (I 1 2).toInt ∧ (I 1 2).toInt ≤ 6) ∧ (0 ≤ (I 1 3).toInt ∧ (I 1 3).toInt ≤ 3) ∧ (0 ≤ (I 4 5).toInt ∧ (I 4 5).toInt ≤ 14) ∧ (0 ≤ (I 10 4).toInt ∧ (I 10 4).toInt ≤ 4) ∧ (0 ≤ (I 15 10).toInt ∧ (I 15 10).toInt ≤ 2) ∧ (0 ≤ (I 15 9).toInt ∧ (I 15 9).toInt ≤ 40) ∧ (0 ≤ (I 31 6).toInt ∧ (I 31 6).toInt ≤ 160) ∧ (1 ≤ (I 31 7).toInt ∧ (I 31 7).toInt ≤ 6) ∧ (0 ≤ (I 31 8).toInt ∧ (I 31 8).toInt < (I 31 7).toInt) := hR.2.1.1
  obtain ⟨⟨w1, w2, w3, w4⟩, ⟨w5, w6⟩, ⟨w7, w8⟩, ⟨w9, w10⟩, ⟨w11, w12⟩, ⟨w13, w14⟩, ⟨w15, w16⟩, ⟨w17, w18⟩, ⟨w19, w20⟩, ⟨w21, w22⟩⟩ := hw0
  unfold f_X10_inWater f_X11_inWater
  rw [q0_6 he, e_stand ⟨w5, w6⟩ ⟨w13, w14⟩ ⟨w1, by omega⟩, e_inOf he ⟨w5, w6⟩ ⟨w13, w14⟩ ⟨w1, by omega⟩, fq_vsome]
  exact ⟨_, rfl, rfl⟩
