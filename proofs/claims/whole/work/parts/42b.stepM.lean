set_option maxHeartbeats 400000 in
theorem stepM {I : fc_I} {z t h q x i : Int32} {Q n m d d' : Nat} {fa g : Nat → Int32} {k : Int32 → Int32 → fc_I → Option (Int32 × fc_I)} (hq : q.toInt = (Q : Int)) (hQ : Q < 12) (hn : (I 110 Q).toInt = (n : Int)) (hn2 : n ≤ 160) (hi : i.toInt = (m : Int)) (hm : m < n) (hx : x.toInt = (d : Int)) (hd : d ≤ m) (hc : cpk (I 109 (160 * Q + m)) d = some d') (hf : ∀ c : Int32, 0 ≤ c.toInt → c.toInt < 6 → ∀ g, f_X11_nameOf (stc I 115 g) c z t h = some (fa (cn c))) : ∃ x' : Int32, x'.toInt = (d' : Int) ∧ f_X11_worthOf_16_B z t h q k x i (stc I 115 g) = k x' (i + 1) (stc I 115 (ev1 fa (I 109 (160 * Q + m)) d g)) := by
  obtain ⟨l1, l2⟩ := i_lin (a := 160) (x := q) (y := i) (A := 160) rfl hq hi (by omega)
  have hcx : cn x = d := cn_eq hx
  obtain ⟨b1, b2, b3, b4⟩ := cpk_ed hc
  unfold f_X11_worthOf_16_B
  rw [fq_gp ⟨by omega, by omega⟩, cn_eq hq, stc_ne (by decide), hn, if_pos (by omega), fq_gp ⟨by omega, by omega⟩, l2, stc_ne (by decide)]
  generalize I 109 (160 * Q + m) = c at *
  unfold ed1 at b1
  unfold ev1
  simp only [fq_l, kt_6, kt_13, kt_14]
  by_cases c1 : c.toInt < 0
  · rw [if_pos (show c.toInt < 6 by omega)] at b1
    subst b1
    rw [if_pos c1, if_pos c1, fq_gp ⟨by omega, by omega⟩, stc_w, hcx]
    exact ⟨_, i_pp1 hx (by omega), rfl⟩
  · rw [if_neg c1, if_neg c1]
    by_cases c2 : c.toInt < 6
    · rw [if_pos c2] at b1
      subst b1
      rw [if_pos c2, if_pos c2, hf c (by omega) c2, fq_vsome, fq_gp ⟨by omega, by omega⟩, stc_w, hcx]
      exact ⟨_, i_pp1 hx (by omega), rfl⟩
    · rw [if_neg c2] at b1
      have d1 := b3 c2
      obtain ⟨m1, m2⟩ := i_m1' hx d1
      rw [if_neg c2, if_neg c2]
      by_cases c3 : c.toInt = 13
      · rw [if_pos (Or.inl c3)] at b1
        subst b1
        rw [if_pos c3, if_pos c3, fq_gp ⟨by omega, by omega⟩, m2, stc_at, stc_w, stc_w]
        by_cases c5 : (g (d - 1)).toInt = 0
        · rw [if_pos c5, if_pos c5, fq_gp ⟨by omega, by omega⟩]
          exact ⟨_, hx, rfl⟩
        · rw [if_neg c5, if_neg c5, fq_gp ⟨by omega, by omega⟩]
          exact ⟨_, hx, rfl⟩
      · rw [if_neg c3, if_neg c3]
        by_cases c4 : c.toInt = 14
        · rw [if_pos (Or.inr c4)] at b1
          subst b1
          rw [if_pos c4, if_pos c4, fq_gp ⟨by omega, by omega⟩, fq_gp ⟨by omega, by omega⟩, m2, stc_at, stc_w]
          exact ⟨_, hx, rfl⟩
        · have d2 := b4 c2 c3 c4
          rw [if_neg (by omega)] at b1
          subst b1
          obtain ⟨p1, p2⟩ := i_pm1 hx d1
          generalize x + (-1) = y at *
          obtain ⟨p3, p4⟩ := i_m1' p1 (by omega)
          generalize y - 1 = w at *
          rw [if_neg c4, if_neg c4, fq_gp ⟨by omega, by omega⟩, fq_gp ⟨by omega, by omega⟩, p4, p2, stc_at, e_done, fq_vsome, fq_gp ⟨by omega, by omega⟩, stc_w, show d - 1 - 1 = d - 2 by omega]
          exact ⟨_, p1, rfl⟩
