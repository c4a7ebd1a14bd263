/-! ===== roads are gone: the class ===== -/
set_option maxHeartbeats 4000000 in
theorem e_moveX {f : Nat} (hf : f = 45 ∨ f = 58) {I : fc_I} {t : Int32} {A : fc_I} (hw : Wh A) (hA : aX f I = rdP t A 0 (cn (A 0 4))) (hm : ∀ n, n < cn (A 0 4) → I 56 n = mvA t A n) : ∃ J, f_X4_move f I = some J ∧ aX f J = rdA t A ∧ (∀ c, ¬ (c = f ∨ c = f + 2 ∨ c = f + 6) → J c = I c) ∧ ∀ j, j ≠ 8 → J f j = I f j := by
  have a4 : I 4 5 = A 0 4 := by
    have q := congrFun (congrFun hA 0) 4
    rw [rdP_0 (by decide)] at q
    exact q
  have a10 : I 6 = A 10 := by
    have q := congrFun hA 10
    rw [rdP_o (by decide)] at q
    exact q
  have a11 : I 7 = A 11 := by
    have q := congrFun hA 11
    rw [rdP_o (by decide)] at q
    exact q
  have w0 := hw.1
  obtain ⟨⟨w1, w2, w3, w4⟩, ⟨w5, w6⟩, ⟨w7, w8⟩, ⟨w9, w10⟩, _⟩ := w0
  have ez := cn_int (x := A 0 4) w9
  obtain ⟨R, hR⟩ : ∃ R, R = cn (A 0 4) := ⟨_, rfl⟩
  rw [← hR] at hm hA ez
  unfold rdA
  rw [← hR]
  obtain ⟨r, h1, h2⟩ := lpm1_R (B := f_X4_move_2_B f) R (by omega) (fun n J => aX f J = rdP t A n R ∧ (∀ c, ¬ (c = f ∨ c = f + 2 ∨ c = f + 6) → J c = I c) ∧ ∀ j, j ≠ 8 → J f j = I f j) (fun J => aX f J = rdP t A R R ∧ (∀ c, ¬ (c = f ∨ c = f + 2 ∨ c = f + 6) → J c = I c) ∧ ∀ j, j ≠ 8 → J f j = I f j) (fun k i n J hi hn hP => by
    obtain ⟨p1, p2, p3⟩ := hP
    obtain ⟨g1, ⟨g2, g3, g4⟩, g5, g6⟩ := wr_go hw (n := n) (by omega)
    have ec : cn i = n := cn_eq hi
    have j4 : J 4 = I 4 := p2 4 (by omega)
    have j6 : J 6 = A 10 := (p2 6 (by omega)).trans a10
    have j7 : J 7 = A 11 := (p2 7 (by omega)).trans a11
    have j56 : J 56 n = mvA t A n := by rw [p2 56 (by omega)]; exact hm n hn
    have jc : J (f + 2) = crA t A n := by
      have q := congrFun p1 3
      rw [show aX f J 3 = J (f + 2) from rfl] at q
      rw [q]
      funext z
      unfold rdP
      simp
    have js : J (f + 6) = shA t A n := by
      have q := congrFun p1 8
      rw [show aX f J 8 = J (f + 6) from rfl] at q
      rw [q]
      funext z
      unfold rdP
      simp
    have jo : J f 8 = ouA t A n := by
      have q := congrFun (congrFun p1 0) 11
      rw [show aX f J 0 11 = J f 8 from rfl] at q
      rw [q]
      unfold rdP
      simp
    unfold f_X4_move_2_B
    simp only [fq_l, kt_6, kt_20]
    rw [j4, a4, if_pos (by omega), fq_gp ⟨by omega, by omega⟩, fq_gp ⟨by omega, by omega⟩, fq_gp ⟨by omega, by omega⟩, ec, j6, j7, j56, jc]
    rw [fq_gp ⟨g2, g4⟩, fq_gp ⟨g2, g4⟩]
    have s1 : (A 11 n - 10).toInt = (A 11 n).toInt - 10 := i_sub (by rw [show (10 : Int32).toInt = 10 from rfl]; omega) (by rw [show (10 : Int32).toInt = 10 from rfl]; omega)
    by_cases c : (A 11 n).toInt < 6
    · clear s1
      rw [if_pos c, fq_gp ⟨g5, c⟩, fq_gp ⟨g5, c⟩, fc_wI_c, jc]
      refine ⟨_, ⟨?_, fun c hc => ?_, fun j hj => ?_⟩, rfl⟩
      · rw [awf_2 hf, awf_2 hf, p1, rdP_go, if_pos c]
      · rw [fc_wI_lo (by omega), fc_wI_lo (by omega), p2 c hc]
      · rw [fc_wI_lo (by omega), fc_wI_lo (by omega)]
        exact p3 j hj
    · rw [if_neg c]
      by_cases c2 : isS A n
      · have c3 := c2.1
        have c4 := c2.2
        generalize A 11 n - 10 = y at *
        have ey : cn y = cn (A 11 n) - 10 := by
          have q1 := cn_int (x := y) (by omega)
          have q2 := cn_int (x := A 11 n) (by omega)
          omega
        rw [if_pos (by omega), fq_gp ⟨by omega, by omega⟩, fq_gp ⟨by omega, by omega⟩, fc_wI_lo (show f + 6 ≠ f + 2 by omega), js, ey]
        refine ⟨_, ⟨?_, fun c hc => ?_, fun j hj => ?_⟩, rfl⟩
        · rw [awf_6 hf, awf_2 hf, p1, rdP_go, if_neg c, if_pos c2]
        · rw [fc_wI_lo (by omega), fc_wI_lo (by omega), p2 c hc]
        · rw [fc_wI_lo (by omega), fc_wI_lo (by omega)]
          exact p3 j hj
      · clear s1
        have c3 : ¬ (A 11 n).toInt < 20 := by
          rcases g6 with q | q | q
          · omega
          · exact absurd ⟨q.1, by omega⟩ c2
          · omega
        rw [if_neg c3, fc_wI_lo (show f ≠ f + 2 by omega), jo]
        refine ⟨_, ⟨?_, fun c hc => ?_, fun j hj => ?_⟩, rfl⟩
        · rw [aw0_11 hf, awf_2 hf, p1, rdP_go, if_neg c, if_neg c2]
        · rw [fc_wI_lo (by omega), fc_wI_lo (by omega), p2 c hc]
        · rw [fc_wI_at, if_neg hj, fc_wI_lo (by omega)]
          exact p3 j hj) (fun k i J hi hP => by
    obtain ⟨p1, p2, p3⟩ := hP
    refine ⟨J, ⟨p1, p2, p3⟩, ?_⟩
    unfold f_X4_move_2_B
    rw [p2 4 (by omega), a4, if_neg (by omega)]) 4000 0 0 I kt_0 (by omega) (by omega) ⟨hA, fun _ _ => rfl, fun _ _ => rfl⟩
  exact ⟨r, h2, h1⟩
