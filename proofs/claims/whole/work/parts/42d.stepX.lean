set_option maxHeartbeats 400000 in
theorem stepX {I : fc_I} {to x i : Int32} {q3 p n m d d' : Nat} {fa g : Nat → Int32} {k : Int32 → Int32 → fc_I → Option (Int32 × fc_I)} (hq3 : q3 ≠ 42) (hn : to.toInt = ((p + n : Nat) : Int)) (hn2 : p + n ≤ 160) (hi : i.toInt = ((p + m : Nat) : Int)) (hm : m < n) (hx : x.toInt = (d : Int)) (hd : d ≤ m) (hc : cpk (trc (I q3 (p + m))) d = some d') (hf : ∀ k, k < 6 → I 55 k = fa k) : ∃ x' : Int32, x'.toInt = (d' : Int) ∧ f_X0_worth_63_B q3 to k x i (stc I 42 g) = k x' (i + 1) (stc I 42 (ev1 fa (trc (I q3 (p + m))) d g)) := by
  have hcx : cn x = d := cn_eq hx
  have hci : cn i = p + m := cn_eq hi
  obtain ⟨b1, b2, b3, b4⟩ := cpk_ed hc
  have k6 : (-6 : Int32).toInt = -6 := rfl
  have k18 : (-18 : Int32).toInt = -18 := rfl
  have k9 : (-9 : Int32).toInt = -9 := rfl
  unfold f_X0_worth_63_B f_X0_worth_171
  simp only [fq_l, kt_160, k6, k18, k9, kt_1]
  rw [if_pos (show i.toInt < to.toInt by omega), if_pos (show x.toInt < 160 by omega), fq_gp ⟨by omega, by omega⟩, hci, stc_ne hq3]
  generalize I q3 (p + m) = c at *
  unfold ed1 at b1
  unfold ev1
  by_cases c1 : c.toInt < 0
  · rw [if_pos c1]
    by_cases c2 : c.toInt < -6
    · rw [if_pos c2]
      by_cases c3 : c = -18
      · subst c3
        rw [show trc (-18) = 13 by decide] at *
        have d1 := b3 (by decide)
        obtain ⟨m1, m2⟩ := i_m1' hx d1
        rw [if_neg (by decide), if_pos (by decide)] at b1
        subst b1
        rw [if_pos k18, if_pos (show 0 < x.toInt by omega), fq_gp ⟨by omega, by omega⟩, m2, stc_at, stc_w, stc_w, if_neg (show ¬ Int32.toInt 13 < 0 by decide), if_neg (show ¬ Int32.toInt 13 < 6 by decide), if_pos (show Int32.toInt 13 = 13 by decide)]
        by_cases c5 : (g (d - 1)).toInt = 0
        · rw [if_pos c5, if_pos c5, fq_gp ⟨by omega, by omega⟩]
          exact ⟨_, hx, rfl⟩
        · rw [if_neg c5, if_neg c5, fq_gp ⟨by omega, by omega⟩]
          exact ⟨_, hx, rfl⟩
      · have n18 : ¬ c.toInt = -18 := fun z => c3 (Int32.toInt_inj.mp (z.trans k18.symm))
        rw [if_neg n18]
        by_cases c4 : c = -9
        · subst c4
          rw [show trc (-9) = 14 by decide] at *
          have d1 := b3 (by decide)
          obtain ⟨m1, m2⟩ := i_m1' hx d1
          rw [if_neg (by decide), if_pos (by decide)] at b1
          subst b1
          rw [if_pos k9, if_pos (show 0 < x.toInt by omega), fq_gp ⟨by omega, by omega⟩, fq_gp ⟨by omega, by omega⟩, m2, stc_at, stc_w, if_neg (show ¬ Int32.toInt 14 < 0 by decide), if_neg (show ¬ Int32.toInt 14 < 6 by decide), if_neg (show ¬ Int32.toInt 14 = 13 by decide), if_pos (show Int32.toInt 14 = 14 by decide)]
          exact ⟨_, hx, rfl⟩
        · have n9 : ¬ c.toInt = -9 := fun z => c4 (Int32.toInt_inj.mp (z.trans k9.symm))
          obtain ⟨j1, j2, j3, j4⟩ := e_joined (c := c) (g (d - 2)) (g (d - 1)) c2 c3 c4
          have d2 := b4 (by omega) j3 j4
          rw [if_neg (by omega), if_neg (by omega)] at b1
          subst b1
          obtain ⟨p1, p2⟩ := i_pm1 hx (by omega)
          generalize x + (-1) = y at *
          obtain ⟨p3, p4⟩ := i_m1' p1 (by omega)
          generalize y - 1 = w at *
          rw [if_neg n9, if_pos (show 1 < x.toInt by omega), fq_gp ⟨by omega, by omega⟩, fq_gp ⟨by omega, by omega⟩, p4, p2, stc_at, show d - 1 - 1 = d - 2 by omega, j1, fq_vsome, fq_gp ⟨by omega, by omega⟩, stc_w, if_neg (by omega), if_neg (by omega), if_neg j3, if_neg j4]
          exact ⟨_, p1, rfl⟩
    · have ht := trc_n (c := c) (by omega)
      have ht2 := i_n1c c (by omega)
      have ht3 := i_mm c
      rw [ht] at b1 ⊢
      clear k6 k18 k9 ht b3 b4
      generalize -1 - c = e at *
      rw [if_pos (by omega)] at b1
      subst b1
      have hv : I 55 (cn e) = fa (cn e) := hf _ (by have := cn_int (x := e) (by omega); omega)
      rw [if_neg c2, fq_gp ⟨by omega, by omega⟩, fq_gp ⟨by omega, by omega⟩, stc_ne (by decide), stc_w, hcx, hv, if_neg (by omega), if_pos (by omega)]
      exact ⟨_, i_pp1 hx (by omega), rfl⟩
  · have ht := trc_n (c := c) (by omega)
    have ht2 := i_n1c c (by omega)
    have ht3 := i_mm c
    rw [ht] at b1 ⊢
    clear k6 k18 k9 ht b3 b4
    generalize -1 - c = e at *
    rw [if_pos (by omega)] at b1
    subst b1
    rw [if_neg c1, fq_gp ⟨by omega, by omega⟩, stc_w, hcx, if_pos (by omega), ht3]
    exact ⟨_, i_pp1 hx (by omega), rfl⟩
