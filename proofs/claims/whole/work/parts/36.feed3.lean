theorem fA_rows {b : Int64} : ∀ (n : Nat) (i : Int32) (A : fc_I), (∀ k, k ≠ 8 → fA b n i A 0 k = A 0 k) ∧ ∀ r, r ≠ 0 → r ≠ 32 → fA b n i A r = A r
  | 0, _, _ => ⟨fun _ _ => rfl, fun _ _ _ => rfl⟩
  | n + 1, i, A => by
    obtain ⟨a1, a2⟩ := fA_rows (b := b) n (i + 1) (fc_wI (fc_wI A 0 8 (A 0 8 + 1)) 32 (cn (A 0 8)) (fB b i))
    refine ⟨fun k hk => ?_, fun r h1 h2 => ?_⟩
    · show fA b n (i + 1) _ 0 k = _
      rw [a1 k hk, fc_wI_lo (by decide), fc_wI_at, if_neg hk]
    · show fA b n (i + 1) _ r = _
      rw [a2 r h1 h2, fc_wI_lo h2, fc_wI_lo h1]
theorem wf_tape {A B : fc_I} (hw : Wf A) (h0 : ∀ k, k ≠ 8 → B 0 k = A 0 k) (hr : ∀ r, r ≠ 0 → r ≠ 32 → B r = A r) (h8 : 0 ≤ (B 0 8).toInt ∧ (B 0 8).toInt ≤ 160) : Wf B := by
  obtain ⟨⟨w1, w2, w3, w4, w5, w6, w7, w8, w9, w10⟩, wr, wu, ws, wl, wz, wn⟩ := hw
  refine ⟨?_, ?_, ?_, ?_, ?_, ?_, ?_⟩
  · unfold Wf0
    simp only [h0 0 (by decide), h0 1 (by decide), h0 2 (by decide), h0 3 (by decide), h0 4 (by decide), h0 5 (by decide), h0 6 (by decide), h0 7 (by decide), h0 9 (by decide), h0 10 (by decide), h0 11 (by decide)]
    exact ⟨w1, w2, w3, w4, w5, w6, w7, h8, w9, w10⟩
  · unfold WfR
    simp only [h0 0 (by decide), h0 1 (by decide), h0 2 (by decide), h0 3 (by decide), h0 4 (by decide), h0 5 (by decide), h0 6 (by decide), h0 7 (by decide), h0 9 (by decide), h0 10 (by decide), h0 11 (by decide), hr 1 (by decide) (by decide), hr 2 (by decide) (by decide), hr 3 (by decide) (by decide), hr 4 (by decide) (by decide), hr 5 (by decide) (by decide), hr 6 (by decide) (by decide), hr 7 (by decide) (by decide), hr 8 (by decide) (by decide), hr 9 (by decide) (by decide), hr 10 (by decide) (by decide), hr 11 (by decide) (by decide), hr 12 (by decide) (by decide), hr 13 (by decide) (by decide), hr 14 (by decide) (by decide), hr 15 (by decide) (by decide), hr 16 (by decide) (by decide), hr 17 (by decide) (by decide), hr 18 (by decide) (by decide), hr 19 (by decide) (by decide), hr 20 (by decide) (by decide), hr 21 (by decide) (by decide), hr 22 (by decide) (by decide), hr 23 (by decide) (by decide), hr 24 (by decide) (by decide), hr 25 (by decide) (by decide), hr 26 (by decide) (by decide), hr 27 (by decide) (by decide), hr 28 (by decide) (by decide), hr 29 (by decide) (by decide), hr 30 (by decide) (by decide), hr 31 (by decide) (by decide), hr 33 (by decide) (by decide)]
    exact wr
  · unfold WfU
    simp only [h0 0 (by decide), h0 1 (by decide), h0 2 (by decide), h0 3 (by decide), h0 4 (by decide), h0 5 (by decide), h0 6 (by decide), h0 7 (by decide), h0 9 (by decide), h0 10 (by decide), h0 11 (by decide), hr 1 (by decide) (by decide), hr 2 (by decide) (by decide), hr 3 (by decide) (by decide), hr 4 (by decide) (by decide), hr 5 (by decide) (by decide), hr 6 (by decide) (by decide), hr 7 (by decide) (by decide), hr 8 (by decide) (by decide), hr 9 (by decide) (by decide), hr 10 (by decide) (by decide), hr 11 (by decide) (by decide), hr 12 (by decide) (by decide), hr 13 (by decide) (by decide), hr 14 (by decide) (by decide), hr 15 (by decide) (by decide), hr 16 (by decide) (by decide), hr 17 (by decide) (by decide), hr 18 (by decide) (by decide), hr 19 (by decide) (by decide), hr 20 (by decide) (by decide), hr 21 (by decide) (by decide), hr 22 (by decide) (by decide), hr 23 (by decide) (by decide), hr 24 (by decide) (by decide), hr 25 (by decide) (by decide), hr 26 (by decide) (by decide), hr 27 (by decide) (by decide), hr 28 (by decide) (by decide), hr 29 (by decide) (by decide), hr 30 (by decide) (by decide), hr 31 (by decide) (by decide), hr 33 (by decide) (by decide)]
    exact wu
  · unfold WfS
    simp only [hr 1 (by decide) (by decide), hr 2 (by decide) (by decide), hr 3 (by decide) (by decide), hr 4 (by decide) (by decide), hr 5 (by decide) (by decide), hr 6 (by decide) (by decide), hr 7 (by decide) (by decide), hr 8 (by decide) (by decide), hr 9 (by decide) (by decide), hr 10 (by decide) (by decide), hr 11 (by decide) (by decide), hr 12 (by decide) (by decide), hr 13 (by decide) (by decide), hr 14 (by decide) (by decide), hr 15 (by decide) (by decide), hr 16 (by decide) (by decide), hr 17 (by decide) (by decide), hr 18 (by decide) (by decide), hr 19 (by decide) (by decide), hr 20 (by decide) (by decide), hr 21 (by decide) (by decide), hr 22 (by decide) (by decide), hr 23 (by decide) (by decide), hr 24 (by decide) (by decide), hr 25 (by decide) (by decide), hr 26 (by decide) (by decide), hr 27 (by decide) (by decide), hr 28 (by decide) (by decide), hr 29 (by decide) (by decide), hr 30 (by decide) (by decide), hr 31 (by decide) (by decide), hr 33 (by decide) (by decide)]
    exact ws
  · unfold WfL
    simp only [hr 1 (by decide) (by decide), hr 2 (by decide) (by decide), hr 3 (by decide) (by decide), hr 4 (by decide) (by decide), hr 5 (by decide) (by decide), hr 6 (by decide) (by decide), hr 7 (by decide) (by decide), hr 8 (by decide) (by decide), hr 9 (by decide) (by decide), hr 10 (by decide) (by decide), hr 11 (by decide) (by decide), hr 12 (by decide) (by decide), hr 13 (by decide) (by decide), hr 14 (by decide) (by decide), hr 15 (by decide) (by decide), hr 16 (by decide) (by decide), hr 17 (by decide) (by decide), hr 18 (by decide) (by decide), hr 19 (by decide) (by decide), hr 20 (by decide) (by decide), hr 21 (by decide) (by decide), hr 22 (by decide) (by decide), hr 23 (by decide) (by decide), hr 24 (by decide) (by decide), hr 25 (by decide) (by decide), hr 26 (by decide) (by decide), hr 27 (by decide) (by decide), hr 28 (by decide) (by decide), hr 29 (by decide) (by decide), hr 30 (by decide) (by decide), hr 31 (by decide) (by decide), hr 33 (by decide) (by decide)]
    exact wl
  · unfold WfZ
    simp only [h0 0 (by decide), h0 1 (by decide), h0 2 (by decide), h0 3 (by decide), h0 4 (by decide), h0 5 (by decide), h0 6 (by decide), h0 7 (by decide), h0 9 (by decide), h0 10 (by decide), h0 11 (by decide), hr 1 (by decide) (by decide), hr 2 (by decide) (by decide), hr 3 (by decide) (by decide), hr 4 (by decide) (by decide), hr 5 (by decide) (by decide), hr 6 (by decide) (by decide), hr 7 (by decide) (by decide), hr 8 (by decide) (by decide), hr 9 (by decide) (by decide), hr 10 (by decide) (by decide), hr 11 (by decide) (by decide), hr 12 (by decide) (by decide), hr 13 (by decide) (by decide), hr 14 (by decide) (by decide), hr 15 (by decide) (by decide), hr 16 (by decide) (by decide), hr 17 (by decide) (by decide), hr 18 (by decide) (by decide), hr 19 (by decide) (by decide), hr 20 (by decide) (by decide), hr 21 (by decide) (by decide), hr 22 (by decide) (by decide), hr 23 (by decide) (by decide), hr 24 (by decide) (by decide), hr 25 (by decide) (by decide), hr 26 (by decide) (by decide), hr 27 (by decide) (by decide), hr 28 (by decide) (by decide), hr 29 (by decide) (by decide), hr 30 (by decide) (by decide), hr 31 (by decide) (by decide), hr 33 (by decide) (by decide)]
    exact wz
  · unfold WfN WfG WfH wS WfT
    simp only [h0 0 (by decide), h0 1 (by decide), h0 2 (by decide), h0 3 (by decide), h0 4 (by decide), h0 5 (by decide), h0 6 (by decide), h0 7 (by decide), h0 9 (by decide), h0 10 (by decide), h0 11 (by decide), hr 1 (by decide) (by decide), hr 2 (by decide) (by decide), hr 3 (by decide) (by decide), hr 4 (by decide) (by decide), hr 5 (by decide) (by decide), hr 6 (by decide) (by decide), hr 7 (by decide) (by decide), hr 8 (by decide) (by decide), hr 9 (by decide) (by decide), hr 10 (by decide) (by decide), hr 11 (by decide) (by decide), hr 12 (by decide) (by decide), hr 13 (by decide) (by decide), hr 14 (by decide) (by decide), hr 15 (by decide) (by decide), hr 16 (by decide) (by decide), hr 17 (by decide) (by decide), hr 18 (by decide) (by decide), hr 19 (by decide) (by decide), hr 20 (by decide) (by decide), hr 21 (by decide) (by decide), hr 22 (by decide) (by decide), hr 23 (by decide) (by decide), hr 24 (by decide) (by decide), hr 25 (by decide) (by decide), hr 26 (by decide) (by decide), hr 27 (by decide) (by decide), hr 28 (by decide) (by decide), hr 29 (by decide) (by decide), hr 30 (by decide) (by decide), hr 31 (by decide) (by decide), hr 33 (by decide) (by decide), hr 35 (by decide) (by decide), hr 36 (by decide) (by decide)]
    exact wn
set_option maxHeartbeats 4000000 in
set_option maxRecDepth 100000 in
theorem r_feed {I : fc_I} {x1 : Int32} {x2 : Int64} (hR : Rel I) : RR (f_X10_feed I x1 x2) (fun I => f_X11_feed I x1 x2) := by
  have he := hR.1
  have hw0 : (0 ≤ (I 45 9).toInt ∧ (I 45 9).toInt ≤ (I 15 11).toInt ∧ 1 ≤ (I 15 11).toInt ∧ (I 15 11).toInt ≤ 60) ∧ (0 ≤ (I 1 2).toInt ∧ (I 1 2).toInt ≤ 6) ∧ (0 ≤ (I 1 3).toInt ∧ (I 1 3).toInt ≤ 3) ∧ (0 ≤ (I 4 5).toInt ∧ (I 4 5).toInt ≤ 14) ∧ (0 ≤ (I 10 4).toInt ∧ (I 10 4).toInt ≤ 4) ∧ (0 ≤ (I 15 10).toInt ∧ (I 15 10).toInt ≤ 2) ∧ (0 ≤ (I 15 9).toInt ∧ (I 15 9).toInt ≤ 40) ∧ (0 ≤ (I 31 6).toInt ∧ (I 31 6).toInt ≤ 160) ∧ (1 ≤ (I 31 7).toInt ∧ (I 31 7).toInt ≤ 6) ∧ (0 ≤ (I 31 8).toInt ∧ (I 31 8).toInt < (I 31 7).toInt) := hR.2.1.1
  obtain ⟨⟨w1, w2, w3, w4⟩, ⟨w5, w6⟩, ⟨w7, w8⟩, ⟨w9, w10⟩, ⟨w11, w12⟩, ⟨w13, w14⟩, ⟨w15, w16⟩, ⟨w17, w18⟩, ⟨w19, w20⟩, ⟨w21, w22⟩⟩ := hw0
  have hX : f_X10_feed I x1 x2 = (if ¬ (x1.toInt < 1 ∨ 8 < x1.toInt) then fq_b (f_X0_append I x1 x2) (fun r J => some (r, J)) else some (-2, I)) := by
    unfold f_X10_feed
    rw [e_isOutside, fq_vsome]
    simp only [b2i, kt_1, kt_8]
  have hM : ∀ J, f_X11_feed J x1 x2 = (if ¬ (1 ≤ x1.toInt ∧ x1.toInt ≤ 8) then some (-2, J) else if 160 < ((J 78 39) + x1).toInt then some (-4, J) else f_X11_feed_33 x1 x2 4000 0 J) := fun J => by
    unfold f_X11_feed
    rw [e_isIn, fq_vsome]
    simp only [b2i, kl_1, kl_8, kt_160, Int32.toInt_toInt64]
  by_cases c : x1.toInt < 1 ∨ 8 < x1.toInt
  · rw [if_neg (not_not_intro c)] at hX
    exact ⟨_, _, _, hX, by show f_X11_feed I x1 x2 = _; rw [hM, if_pos (by omega)], hR⟩
  · rw [if_pos c] at hX
    have es : ((I 31 6) + x1).toInt = (I 31 6).toInt + x1.toInt := i_add (by omega) (by omega)
    have eA : f_X0_append I x1 x2 = (if 160 < ((I 31 6) + x1).toInt then some (-4, I) else f_X0_append_18 x1 x2 4000 0 I) := by
      unfold f_X0_append
      simp only [kt_160]
    rw [eA, es] at hX
    by_cases d : 160 < (I 31 6).toInt + x1.toInt
    · rw [if_pos d, fq_bsome] at hX
      exact ⟨_, _, _, hX, by show f_X11_feed I x1 x2 = _; rw [hM, if_neg (by omega), q0_8 he, es, if_pos d], hR⟩
    · rw [if_neg d, e_appX (by omega) (by omega) (by omega), fq_bsome] at hX
      obtain ⟨a1, a2, a3⟩ := fX_spec (b := x2) x1.toInt.toNat 0 I (by omega) (by omega)
      obtain ⟨J, hJ⟩ : ∃ J, J = fX x2 x1.toInt.toNat 0 I := ⟨_, rfl⟩
      rw [← hJ] at hX a1 a2 a3
      have j1 : J 78 39 = I 31 6 := by rw [a2 78 (by omega)]; exact q0_8 he
      obtain ⟨b1, b2, b3, b4⟩ := fM_spec (b := x2) x1.toInt.toNat 0 J (by rw [j1]; omega) (by rw [j1]; omega)
      have hm : f_X11_feed J x1 x2 = some (fM x2 x1.toInt.toNat 0 J 78 39, fM x2 x1.toInt.toNat 0 J) := by
        rw [hM, if_neg (by omega), j1, es, if_neg d, e_appM (by rw [j1]; omega) (by omega) (by rw [j1]; omega)]
      obtain ⟨K, hK⟩ : ∃ K, K = fM x2 x1.toInt.toNat 0 J := ⟨_, rfl⟩
      rw [← hK] at hm b1 b2 b3 b4
      have er : K 78 39 = J 31 6 := i_eq (by rw [b4, a3, j1])
      have eX : aX 45 K = fA x2 x1.toInt.toNat 0 (aX 45 I) := by
        rw [← a1]
        exact aX_frame (Or.inl rfl) (fun c hc => b2 c (by omega) (by omega))
      have eM : aM K = fA x2 x1.toInt.toNat 0 (aM I) := by
        rw [b1]
        exact congrArg _ (aM_frame (fun c hc => a2 c hc))
      obtain ⟨f1, f2⟩ := fA_rows (b := x2) x1.toInt.toNat 0 (aX 45 I)
      refine ⟨_, _, K, hX, by show f_X11_feed J x1 x2 = _; rw [hm, er], by rw [eX, eM, he], ?_, ?_, ?_⟩
      · refine wf_tape hR.2.1 (fun k hk => by rw [eX]; exact f1 k hk) (fun r h1 h2 => by rw [eX]; exact f2 r h1 h2) ?_
        have e8 : aX 45 K 0 8 = J 31 6 := by
          rw [show aX 45 K 0 8 = K 31 6 from rfl, b2 31 (by decide) (by decide)]
        rw [e8, a3]
        omega
      · have m1 : K 111 = I 111 := by rw [b2 111 (by decide) (by decide), a2 111 (by decide)]
        have m2 : K 112 = I 112 := by rw [b2 112 (by decide) (by decide), a2 112 (by decide)]
        unfold mC
        rw [m1, m2]
        exact hR.2.2.1
      · have m1 : K 78 9 = I 78 9 := by rw [b3 9 (by decide), a2 78 (by decide)]
        have m2 : K 86 = I 86 := by rw [b2 86 (by decide) (by decide), a2 86 (by decide)]
        have m3 : K 87 = I 87 := by rw [b2 87 (by decide) (by decide), a2 87 (by decide)]
        unfold mK
        rw [m1, m2, m3]
        exact hR.2.2.2
