/-! ===== hours go by: the op pass ===== -/
def hN (t : Int32) (A : fc_I) : Nat → fc_I
  | 0 => A
  | n + 1 => hS (isCb (hN t A n)) (snA (hN t A n)) t (hN t A n)
theorem hN_o {t : Int32} {A : fc_I} {r : Nat} (h : r ≠ 0 ∧ r ≠ 2 ∧ r ≠ 3 ∧ r ≠ 4 ∧ r ≠ 7 ∧ r ≠ 8 ∧ r ≠ 18 ∧ r ≠ 19) : ∀ n, hN t A n r = A r
  | 0 => rfl
  | n + 1 => by
    show hS _ _ t (hN t A n) r = A r
    rw [hS_o h, hN_o h n]
theorem hN_0 {t : Int32} {A : fc_I} {k : Nat} (h : k ≠ 0 ∧ k ≠ 11) : ∀ n, hN t A n 0 k = A 0 k
  | 0 => rfl
  | n + 1 => by
    show hS _ _ t (hN t A n) 0 k = A 0 k
    rw [hS_0 h, hN_0 h n]
theorem hN_w {t : Int32} {A : fc_I} (hw : Wh A) : ∀ n : Nat, (A 0 0).toInt + (n : Int) ≤ (A 0 1).toInt → Wh (hN t A n) ∧ (hN t A n 0 0).toInt = (A 0 0).toInt + (n : Int)
  | 0, _ => ⟨hw, by show (A 0 0).toInt = (A 0 0).toInt + ((0 : Nat) : Int); omega⟩
  | n + 1, h => by
    obtain ⟨i1, i2⟩ := hN_w (t := t) hw n (by omega)
    obtain ⟨q1, q2⟩ := Wh_hS (C := isCb (hN t A n)) (S := snA (hN t A n)) (t := t) i1 (by rw [i2, hN_0 (k := 1) (by decide)]; omega)
    refine ⟨q1, ?_⟩
    show (hS _ _ t (hN t A n) 0 0).toInt = _
    rw [q2, i2]
    omega
theorem Wf_of {A B : fc_I} (hw : Wf A) (hB : Wh B) (h0 : ∀ k, k ≠ 0 ∧ k ≠ 11 → B 0 k = A 0 k) (hn : (A 0 0).toInt ≤ (B 0 0).toInt) (hr : ∀ r, r ≠ 0 ∧ r ≠ 2 ∧ r ≠ 3 ∧ r ≠ 4 ∧ r ≠ 7 ∧ r ≠ 8 ∧ r ≠ 18 ∧ r ≠ 19 → B r = A r) : Wf B := by
  obtain ⟨v0, v1, v2, v3, v4, v5, v6, v7, v8⟩ := hw
  obtain ⟨b0, b1, b2, b3, b4, b5, b6⟩ := hB
  refine ⟨b0, b1, b2, ?_, ?_, fun z hz => ?_, b4, b5, b6⟩
  · unfold WfS
    rw [hr 28 (by decide), hr 33 (by decide)]
    exact v3
  · unfold WfL
    rw [hr 20 (by decide)]
    exact v4
  · obtain ⟨a1, a2, a3, a4, a5, a6⟩ := v5 z hz
    obtain ⟨c1, c2, c3⟩ := b3 z hz
    rw [h0 2 (by decide)] at c3
    rw [h0 2 (by decide), h0 4 (by decide), hr 1 (by decide), hr 5 (by decide), hr 6 (by decide), hr 27 (by decide)]
    exact ⟨a1, c1, by omega, a4, fun q => ⟨(c3 q).1, (c3 q).2.1, (c3 q).2.2, (a5 q).2.2.2.1, (a5 q).2.2.2.2.1, (a5 q).2.2.2.2.2⟩, a6⟩
theorem e_passX {I : fc_I} {x : Int32} {n : Nat} (hw : Wh (aX 45 I)) (hx : x.toInt = (n : Int)) (hn : n ≤ 60) (he : (I 45 9).toInt + (n : Int) ≤ (I 15 11).toInt) : ∃ J, f_X10_pass_37 x 4000 0 I = some (J 45 9, J) ∧ aX 45 J = hN (I 15 10) (aX 45 I) n ∧ ∀ c, ¬ ((45 ≤ c ∧ c ≤ 53) ∨ c = 42 ∨ c = 55 ∨ c = 56) → J c = I c := by
  have e00 : aX 45 I 0 0 = I 45 9 := rfl
  have e01 : aX 45 I 0 1 = I 15 11 := rfl
  have ht := hw.1.2.2.2.2.2.1
  rw [show aX 45 I 0 6 = I 15 10 from rfl] at ht
  obtain ⟨r, h1, h2⟩ := lpm1_R (B := f_X10_pass_37_B x) n (by omega) (fun m J => aX 45 J = hN (I 15 10) (aX 45 I) m ∧ ∀ c, ¬ ((45 ≤ c ∧ c ≤ 53) ∨ c = 42 ∨ c = 55 ∨ c = 56) → J c = I c) (fun r => ∃ J, r = (J 45 9, J) ∧ aX 45 J = hN (I 15 10) (aX 45 I) n ∧ ∀ c, ¬ ((45 ≤ c ∧ c ≤ 53) ∨ c = 42 ∨ c = 55 ∨ c = 56) → J c = I c) (fun k i m J hi hm hP => by
    obtain ⟨p1, p2⟩ := hP
    obtain ⟨q1, q2⟩ := hN_w (t := I 15 10) hw m (by rw [e00, e01]; omega)
    obtain ⟨K, k1, k2, k3⟩ := e_goBy (f := 45) (Or.inl rfl) (I := J) (t := I 15 10) (by rw [p1]; exact q1) ht
    refine ⟨K, ⟨?_, fun c hc => ?_⟩, ?_⟩
    · rw [k2, p1]
      rfl
    · rw [k3 c (by omega), p2 c hc]
    · unfold f_X10_pass_37_B
      rw [if_pos (by omega), p2 15 (by omega), k1, fq_usome]) (fun k i J hi hP => by
    obtain ⟨p1, p2⟩ := hP
    refine ⟨_, ⟨J, rfl, p1, p2⟩, ?_⟩
    unfold f_X10_pass_37_B
    rw [if_neg (by omega)]) 4000 0 0 I kt_0 (by omega) (by omega) ⟨rfl, fun _ _ => rfl⟩
  obtain ⟨J, rfl, j1, j2⟩ := h1
  exact ⟨J, h2, j1, j2⟩
theorem e_passM {I : fc_I} {x : Int32} {n : Nat} (hw : Wh (aM I)) (hc5 : ∀ z, z < 6 → (I 83 z).toInt ≤ (I 78 0).toInt) (hx : x.toInt = (n : Int)) (hn : n ≤ 60) (he : (I 78 0).toInt + (n : Int) ≤ (I 78 1).toInt) : ∃ J, f_X11_pass_33 x 4000 0 I = some (J 78 0, J) ∧ aM J = hN (I 78 28) (aM I) n ∧ (∀ c, ¬ (c = 78 ∨ (80 ≤ c ∧ c ≤ 82) ∨ c = 86 ∨ c = 87 ∨ c = 97 ∨ c = 98 ∨ c = 115 ∨ c = 116) → J c = I c) ∧ (∀ j, j ≠ 0 ∧ j ≠ 26 → J 78 j = I 78 j) ∧ ∀ s : Nat, (I 78 9).toInt ≤ (s : Int) → J 86 s = I 86 s ∧ J 87 s = I 87 s := by
  have e00 : aM I 0 0 = I 78 0 := rfl
  have e01 : aM I 0 1 = I 78 1 := rfl
  have ht := hw.1.2.2.2.2.2.1
  rw [show aM I 0 6 = I 78 28 from rfl] at ht
  obtain ⟨r, h1, h2⟩ := lpm1_R (B := f_X11_pass_33_B x) n (by omega) (fun m J => aM J = hN (I 78 28) (aM I) m ∧ (∀ c, ¬ (c = 78 ∨ (80 ≤ c ∧ c ≤ 82) ∨ c = 86 ∨ c = 87 ∨ c = 97 ∨ c = 98 ∨ c = 115 ∨ c = 116) → J c = I c) ∧ (∀ j, j ≠ 0 ∧ j ≠ 26 → J 78 j = I 78 j) ∧ ∀ s : Nat, (I 78 9).toInt ≤ (s : Int) → J 86 s = I 86 s ∧ J 87 s = I 87 s) (fun r => ∃ J, r = (J 78 0, J) ∧ aM J = hN (I 78 28) (aM I) n ∧ (∀ c, ¬ (c = 78 ∨ (80 ≤ c ∧ c ≤ 82) ∨ c = 86 ∨ c = 87 ∨ c = 97 ∨ c = 98 ∨ c = 115 ∨ c = 116) → J c = I c) ∧ (∀ j, j ≠ 0 ∧ j ≠ 26 → J 78 j = I 78 j) ∧ ∀ s : Nat, (I 78 9).toInt ≤ (s : Int) → J 86 s = I 86 s ∧ J 87 s = I 87 s) (fun k i m J hi hm hP => by
    obtain ⟨p1, p2, p3, p4⟩ := hP
    obtain ⟨q1, q2⟩ := hN_w (t := I 78 28) hw m (by rw [e00, e01]; omega)
    have j0 : (J 78 0).toInt = (I 78 0).toInt + (m : Int) := by
      rw [← p1] at q2
      exact q2
    obtain ⟨K, k1, k2, k3, k4, k5⟩ := e_step (I := J) (t := I 78 28) (by rw [p1]; exact q1) (fun z hz => by rw [p2 83 (by omega), j0]; have := hc5 z hz; omega) ht
    refine ⟨K, ⟨?_, fun c hc => ?_, fun j hj => ?_, fun s hs => ?_⟩, ?_⟩
    · rw [k2, p1]
      rfl
    · rw [k3 c hc, p2 c hc]
    · rw [k4 j hj, p3 j hj]
    · obtain ⟨a1, a2⟩ := k5 s (by rw [p3 9 (by decide)]; exact hs)
      rw [a1, a2]
      exact p4 s hs
    · unfold f_X11_pass_33_B
      rw [if_pos (by omega), p3 28 (by decide), k1, fq_usome]) (fun k i J hi hP => by
    obtain ⟨p1, p2, p3, p4⟩ := hP
    refine ⟨_, ⟨J, rfl, p1, p2, p3, p4⟩, ?_⟩
    unfold f_X11_pass_33_B
    rw [if_neg (by omega)]) 4000 0 0 I kt_0 (by omega) (by omega) ⟨rfl, fun _ _ => rfl, fun _ _ => rfl, fun _ _ => ⟨rfl, rfl⟩⟩
  obtain ⟨J, rfl, j1, j2⟩ := h1
  exact ⟨J, h2, j1, j2⟩
set_option maxHeartbeats 4000000 in
set_option maxRecDepth 100000 in
theorem r_pass {I : fc_I} {x1 : Int32} (hR : Rel I) : RR (f_X10_pass I x1) (fun I => f_X11_pass I x1) := by
  have he := hR.1
  have hw0 : (0 ≤ (I 45 9).toInt ∧ (I 45 9).toInt ≤ (I 15 11).toInt ∧ 1 ≤ (I 15 11).toInt ∧ (I 15 11).toInt ≤ 60) ∧ (0 ≤ (I 1 2).toInt ∧ (I 1 2).toInt ≤ 6) ∧ (0 ≤ (I 1 3).toInt ∧ (I 1 3).toInt ≤ 3) ∧ (0 ≤ (I 4 5).toInt ∧ (I 4 5).toInt ≤ 14) ∧ (0 ≤ (I 10 4).toInt ∧ (I 10 4).toInt ≤ 4) ∧ (0 ≤ (I 15 10).toInt ∧ (I 15 10).toInt ≤ 2) ∧ (0 ≤ (I 15 9).toInt ∧ (I 15 9).toInt ≤ 40) ∧ (0 ≤ (I 31 6).toInt ∧ (I 31 6).toInt ≤ 160) ∧ (1 ≤ (I 31 7).toInt ∧ (I 31 7).toInt ≤ 6) ∧ (0 ≤ (I 31 8).toInt ∧ (I 31 8).toInt < (I 31 7).toInt) := hR.2.1.1
  obtain ⟨⟨w1, w2, w3, w4⟩, ⟨w5, w6⟩, ⟨w7, w8⟩, ⟨w9, w10⟩, ⟨w11, w12⟩, ⟨w13, w14⟩, ⟨w15, w16⟩, ⟨w17, w18⟩, ⟨w19, w20⟩, ⟨w21, w22⟩⟩ := hw0
  by_cases c1 : x1.toInt < 1 ∨ 60 < x1.toInt
  · refine ⟨-2, I, I, ?_, ?_, hR⟩
    · unfold f_X10_pass
      rw [e_isOutside, fq_vsome, kt_1, kt_60, if_pos c1, if_neg (by decide)]
    · show f_X11_pass I x1 = _
      unfold f_X11_pass
      rw [e_isIn, fq_vsome, Int32.toInt_toInt64, kl_1, kl_60, if_neg (show ¬ (1 ≤ x1.toInt ∧ x1.toInt ≤ 60) by omega), if_pos (by rfl)]
  · have ea : (I 45 9 + x1).toInt = (I 45 9).toInt + x1.toInt := i_add (by omega) (by omega)
    have hX : f_X10_pass I x1 = if (I 15 11).toInt < (I 45 9).toInt + x1.toInt then some (-4, I) else f_X10_pass_37 x1 4000 0 I := by
      unfold f_X10_pass
      rw [e_isOutside, fq_vsome, kt_1, kt_60, if_neg c1, if_pos (by rfl), ea]
    have hM : ∀ J : fc_I, J 78 0 = I 45 9 → J 78 1 = I 15 11 → f_X11_pass J x1 = if (I 15 11).toInt < (I 45 9).toInt + x1.toInt then some (-4, J) else f_X11_pass_33 x1 4000 0 J := fun J h0 h1 => by
      unfold f_X11_pass
      rw [e_isIn, fq_vsome, Int32.toInt_toInt64, kl_1, kl_60, if_pos (show 1 ≤ x1.toInt ∧ x1.toInt ≤ 60 by omega), if_neg (by decide), h0, h1, ea]
    by_cases c2 : (I 15 11).toInt < (I 45 9).toInt + x1.toInt
    · rw [if_pos c2] at hX
      exact ⟨_, _, _, hX, by show f_X11_pass I x1 = _; rw [hM I (q0_0 he) (q0_1 he), if_pos c2], hR⟩
    · rw [if_neg c2] at hX
      have en := cn_int (x := x1) (by omega)
      have hwh := Wh_of hR.2.1
      obtain ⟨J, j1, j2, j3⟩ := e_passX (I := I) (x := x1) (n := cn x1) hwh en.symm (by omega) (by omega)
      rw [j1] at hX
      have jM : aM J = aM I := aM_frame (fun c hc => j3 c (by omega))
      have j78 : J 78 = I 78 := j3 78 (by omega)
      have j83 : J 83 = I 83 := j3 83 (by omega)
      obtain ⟨K, k1, k2, k3, k4, k5⟩ := e_passM (I := J) (x := x1) (n := cn x1) (by rw [jM, ← he]; exact hwh) (fun z hz => by
        rw [j78, j83, qr_83 he, q0_0 he]
        exact (hR.2.1.2.2.2.2.2.1 z hz).2.2.1.2) en.symm (by omega) (by rw [j78, q0_0 he, q0_1 he]; omega)
      rw [jM, j78, q0_6 he, ← he] at k2
      have kX : aX 45 K = aX 45 J := aX_frame (Or.inl rfl) (fun c hc => k3 c (by omega))
      have eXM : aX 45 K = aM K := by rw [kX, j2, k2]
      obtain ⟨q1, q2⟩ := hN_w (t := I 15 10) hwh (cn x1) (by show (I 45 9).toInt + _ ≤ (I 15 11).toInt; omega)
      have er : J 45 9 = K 78 0 := by
        have a1 : aX 45 J 0 0 = J 45 9 := rfl
        have a2 : aM K 0 0 = K 78 0 := rfl
        rw [← a1, ← a2, j2, k2]
      refine ⟨J 45 9, J, K, hX, ?_, eXM, ?_, ?_, ?_⟩
      · show f_X11_pass J x1 = _
        rw [hM J (by rw [j78, q0_0 he]) (by rw [j78, q0_1 he]), if_neg c2, k1, er]
      · rw [kX, j2]
        exact Wf_of hR.2.1 q1 (fun k hk => hN_0 hk _) (by rw [q2]; omega) (fun r hr => hN_o hr _)
      · unfold mC
        rw [k3 111 (by omega), k3 112 (by omega), j3 111 (by omega), j3 112 (by omega)]
        exact hR.2.2.1
      · intro s h1 h2
        rw [k4 9 (by decide), j78] at h1
        obtain ⟨a1, a2⟩ := k5 s (by rw [j78]; exact h1)
        rw [a1, a2, j3 86 (by omega), j3 87 (by omega)]
        exact hR.2.2.2 s h1 h2
