/-! ===== the op copy ===== -/
def cpA (A : fc_I) (a b n : Nat) : fc_I := fun r k => if r = 34 ∧ b ≤ k ∧ k < b + n then A 34 (a + (k - b)) else A r k
theorem Wf_34 {A B : fc_I} (hw : Wf A) (o : ∀ r, r ≠ 34 → B r = A r) : Wf B := by
  obtain ⟨v0, v1, v2, v3, v4, v5, v6, v7, v8⟩ := hw
  refine ⟨?_, ?_, ?_, ?_, ?_, ?_, ?_, ?_, ?_⟩
  · unfold Wf0
    rw [o 0 (by decide)]
    exact v0
  · unfold WfR
    rw [o 0 (by decide), o 9 (by decide), o 10 (by decide), o 11 (by decide), o 12 (by decide), o 13 (by decide)]
    exact v1
  · unfold WfU
    rw [o 0 (by decide), o 14 (by decide), o 15 (by decide), o 16 (by decide), o 17 (by decide), o 18 (by decide), o 19 (by decide)]
    exact v2
  · unfold WfS
    rw [o 28 (by decide), o 33 (by decide)]
    exact v3
  · unfold WfL
    rw [o 20 (by decide)]
    exact v4
  · unfold WfZ
    rw [o 0 (by decide), o 1 (by decide), o 2 (by decide), o 3 (by decide), o 4 (by decide), o 5 (by decide), o 6 (by decide), o 27 (by decide)]
    exact v5
  · unfold WfG
    rw [o 0 (by decide), o 11 (by decide)]
    exact v6
  · unfold WfH wS
    rw [o 0 (by decide), o 7 (by decide), o 2 (by decide), o 3 (by decide), o 4 (by decide)]
    exact v7
  · unfold WfT
    rw [o 0 (by decide), o 35 (by decide), o 36 (by decide)]
    exact v8
theorem e_holds {I : fc_I} {s i n : Int32} (hs : 0 ≤ s.toInt ∧ s.toInt ≤ 3) (hz : 0 ≤ (I 77 (cn s)).toInt ∧ (I 77 (cn s)).toInt ≤ 40) (hn : 0 ≤ n.toInt) : f_X7_holds I s i n = some (if 0 ≤ i.toInt ∧ i.toInt + n.toInt ≤ (I 77 (cn s)).toInt then 1 else 0) := by
  have hl := Int32.toInt_lt n
  have es : (I 77 (cn s) - n).toInt = (I 77 (cn s)).toInt - n.toInt := i_sub (by omega) (by omega)
  unfold f_X7_holds
  by_cases c : i.toInt < 0
  · rw [if_pos c, if_neg (by omega)]
  · rw [if_neg c, fq_gp ⟨by omega, by omega⟩]
    by_cases d : (I 77 (cn s) - n).toInt < i.toInt
    · rw [if_pos d, if_neg (by omega)]
    · rw [if_neg d, if_pos (by omega)]
theorem cp_X {I : fc_I} {s1 s2 i j n : Nat} (h1 : s1 < 4) (h2 : s2 < 4) (hi : i + n ≤ 40) (hj : j + n ≤ 40) (g1 : ¬ I 76 s1 = -1) (g2 : ¬ I 76 s2 = -1) : aX 45 (fc_cpI I (72 + s1) (72 + s2) i j n) = cpA (aX 45 I) (40 * s1 + i) (40 * s2 + j) n := by
  have o : ∀ c, c ≠ 72 + s2 → fc_cpI I (72 + s1) (72 + s2) i j n c = I c := fun c hc => by
    funext k
    unfold fc_cpI
    rw [if_neg hc]
  funext r
  by_cases hr : r = 34
  · subst hr
    funext k
    show aIt (fc_cpI I (72 + s1) (72 + s2) i j n) k = cpA (aX 45 I) (40 * s1 + i) (40 * s2 + j) n 34 k
    unfold cpA
    rw [show ∀ q, aX 45 I 34 q = aIt I q from fun _ => rfl, show ∀ q, aX 45 I 34 q = aIt I q from fun _ => rfl]
    unfold aIt
    rw [o 76 (by omega)]
    by_cases c : 40 * s2 + j ≤ k ∧ k < 40 * s2 + j + n
    · rw [if_pos (show (34 : Nat) = 34 ∧ 40 * s2 + j ≤ k ∧ k < 40 * s2 + j + n from ⟨rfl, c⟩), show k / 40 = s2 by omega, if_pos ⟨by omega, g2⟩, show (40 * s1 + i + (k - (40 * s2 + j))) / 40 = s1 by omega, if_pos ⟨by omega, g1⟩]
      unfold fc_cpI va_cpy
      rw [if_pos rfl, if_pos ⟨by omega, by omega⟩]
      congr 1
      omega
    · rw [if_neg (show ¬ ((34 : Nat) = 34 ∧ _ ∧ _) from fun z => c z.2)]
      by_cases d : k / 40 = s2
      · by_cases q : k < 160 ∧ ¬ I 76 (k / 40) = -1
        · rw [if_pos q, if_pos q, d]
          unfold fc_cpI va_cpy
          rw [if_pos rfl, if_neg (by omega)]
        · rw [if_neg q, if_neg q]
      · rw [o (72 + k / 40) (by omega)]
  · have e : aX 45 (fc_cpI I (72 + s1) (72 + s2) i j n) r = aX 45 I r := by
      by_cases r28 : r = 28
      · subst r28
        exact o 76 (by omega)
      · by_cases r33 : r = 33
        · subst r33
          show aSz (fc_cpI I (72 + s1) (72 + s2) i j n) = aSz I
          unfold aSz
          rw [o 76 (by omega), o 77 (by omega)]
        · exact aX_sh (fun c hc => o c (by omega)) r (by omega)
    rw [e]
    funext k
    unfold cpA
    rw [if_neg (fun z => hr z.1)]
theorem e_cpM {I : fc_I} {x1 x2 x3 x4 x5 : Int32} {n : Nat} (h1 : 0 ≤ x1.toInt ∧ x1.toInt ≤ 3) (h3 : 0 ≤ x3.toInt ∧ x3.toInt ≤ 3) (h2 : 0 ≤ x2.toInt) (h4 : 0 ≤ x4.toInt) (h5 : x5.toInt = (n : Int)) (hi : cn x2 + n ≤ 40) (hj : cn x4 + n ≤ 40) : ∃ J, f_X11_copy_103 x1 x2 x3 x4 x5 4000 0 I = some (x5, J) ∧ (∀ c, ¬ (c = 129 ∨ c = 130) → J c = I c) ∧ ∀ k, J 129 k = if 40 * cn x3 + cn x4 ≤ k ∧ k < 40 * cn x3 + cn x4 + n then I 129 (40 * cn x1 + cn x2 + (k - (40 * cn x3 + cn x4))) else I 129 k := by
  have e1 := cn_int h1.1
  have e2 := cn_int h2
  have e3 := cn_int h3.1
  have e4 := cn_int h4
  obtain ⟨a1, a2⟩ := i_lin (a := 40) (x := x1) (y := x2) (A := 40) rfl e1.symm e2.symm (by omega)
  obtain ⟨b1, b2⟩ := i_lin (a := 40) (x := x3) (y := x4) (A := 40) rfl e3.symm e4.symm (by omega)
  have ad : ∀ (y i : Int32) (Y m : Nat), y.toInt = (Y : Int) → i.toInt = (m : Int) → Y + m < 100000 → (y + i).toInt = ((Y + m : Nat) : Int) ∧ cn (y + i) = Y + m := fun y i Y m hy hi hb => by
    have e : (y + i).toInt = ((Y + m : Nat) : Int) := by
      rw [i_add (by omega) (by omega)]
      omega
    exact ⟨e, cn_eq e⟩
  obtain ⟨a, ha⟩ : ∃ a, a = 40 * cn x1 + cn x2 := ⟨_, rfl⟩
  obtain ⟨b, hb⟩ : ∃ b, b = 40 * cn x3 + cn x4 := ⟨_, rfl⟩
  rw [← ha] at a1 ⊢
  rw [← hb] at b1 ⊢
  obtain ⟨r, h1', h2'⟩ := lpm1_R (B := f_X11_copy_103_B x1 x2 x3 x4 x5) n (by omega) (fun m J => (∀ c, c ≠ 130 → J c = I c) ∧ ∀ k, k < m → J 130 k = I 129 (a + k)) (fun q => q.1 = x5 ∧ (∀ c, ¬ (c = 129 ∨ c = 130) → q.2 c = I c) ∧ ∀ k, q.2 129 k = if b ≤ k ∧ k < b + n then I 129 (a + (k - b)) else I 129 k) (fun k i m J hi hm hP => by
    obtain ⟨p1, p2⟩ := hP
    obtain ⟨u1, u2⟩ := ad _ i a m a1 hi (by omega)
    unfold f_X11_copy_103_B
    simp only [fq_l]
    rw [if_pos (by omega), fq_gp ⟨by omega, by omega⟩, fq_gp ⟨by omega, by omega⟩, cn_eq hi, u2, p1 129 (by decide)]
    refine ⟨_, ⟨fun c hc => by rw [fc_wI_lo hc, p1 c hc], fun q hq => ?_⟩, rfl⟩
    rw [fc_wI_at]
    by_cases e : q = m
    · rw [if_pos e, e]
    · rw [if_neg e]
      exact p2 q (by omega)) (fun k i J hi hP => by
    obtain ⟨p1, p2⟩ := hP
    unfold f_X11_copy_103_B
    rw [if_neg (by omega)]
    exact lpm1_R (B := f_X11_copy_140_B x3 x4 x5) n (by omega) (fun m K => (∀ c, c ≠ 129 → K c = J c) ∧ ∀ k, K 129 k = if b ≤ k ∧ k < b + m then I 129 (a + (k - b)) else I 129 k) (fun q => q.1 = x5 ∧ (∀ c, ¬ (c = 129 ∨ c = 130) → q.2 c = I c) ∧ ∀ k, q.2 129 k = if b ≤ k ∧ k < b + n then I 129 (a + (k - b)) else I 129 k) (fun k i m K hi hm hP => by
      obtain ⟨q1, q2⟩ := hP
      obtain ⟨u1, u2⟩ := ad _ i b m b1 hi (by omega)
      unfold f_X11_copy_140_B
      simp only [fq_l]
      rw [if_pos (by omega), fq_gp ⟨by omega, by omega⟩, fq_gp ⟨by omega, by omega⟩, cn_eq hi, u2, q1 130 (by decide), p2 m hm]
      refine ⟨_, ⟨fun c hc => by rw [fc_wI_lo hc, q1 c hc], fun q => ?_⟩, rfl⟩
      rw [fc_wI_at, q2]
      by_cases e : q = b + m
      · rw [if_pos e, if_pos (by omega), e, show b + m - b = m by omega]
      · rw [if_neg e]
        by_cases c : b ≤ q ∧ q < b + m
        · rw [if_pos c, if_pos (by omega)]
        · rw [if_neg c, if_neg (by omega)]) (fun k i K hi hP => by
      obtain ⟨q1, q2⟩ := hP
      unfold f_X11_copy_140_B
      rw [if_neg (by omega)]
      exact ⟨(x5, K), ⟨rfl, fun c hc => by show K c = I c; rw [q1 c (by omega), p1 c (by omega)], q2⟩, rfl⟩) 4000 0 0 J kt_0 (by omega) (by omega) ⟨fun _ _ => rfl, fun q => by rw [if_neg (by omega), p1 129 (by decide)]⟩) 4000 0 0 I kt_0 (by omega) (by omega) ⟨fun _ _ => rfl, fun q hq => absurd hq (by omega)⟩
  exact ⟨r.2, h2'.trans (congrArg some (Prod.ext h1'.1 rfl)), h1'.2⟩
theorem cp_M {I J : fc_I} {s1 s2 i j n : Nat} (h1 : s1 < 4) (h2 : s2 < 4) (hi : i + n ≤ 40) (hj : j + n ≤ 40) (g1 : ¬ I 127 s1 = -1) (g2 : ¬ I 127 s2 = -1) (o : ∀ c, ¬ (c = 129 ∨ c = 130) → J c = I c) (h129 : ∀ k, J 129 k = if 40 * s2 + j ≤ k ∧ k < 40 * s2 + j + n then I 129 (40 * s1 + i + (k - (40 * s2 + j))) else I 129 k) : aM J = cpA (aM I) (40 * s1 + i) (40 * s2 + j) n := by
  funext r
  by_cases hr : r = 34
  · subst hr
    funext k
    show mIt J k = cpA (aM I) (40 * s1 + i) (40 * s2 + j) n 34 k
    unfold cpA
    rw [show ∀ q, aM I 34 q = mIt I q from fun _ => rfl, show ∀ q, aM I 34 q = mIt I q from fun _ => rfl]
    unfold mIt
    rw [o 127 (by decide), h129]
    by_cases c : 40 * s2 + j ≤ k ∧ k < 40 * s2 + j + n
    · rw [if_pos (show (34 : Nat) = 34 ∧ 40 * s2 + j ≤ k ∧ k < 40 * s2 + j + n from ⟨rfl, c⟩), if_pos c, show k / 40 = s2 by omega, if_pos ⟨by omega, g2⟩, show (40 * s1 + i + (k - (40 * s2 + j))) / 40 = s1 by omega, if_pos ⟨by omega, g1⟩]
    · rw [if_neg (show ¬ ((34 : Nat) = 34 ∧ 40 * s2 + j ≤ k ∧ k < 40 * s2 + j + n) from fun z => c z.2), if_neg c]
  · have e : aM J r = aM I r := by
      by_cases r28 : r = 28
      · subst r28
        exact o 127 (by decide)
      · by_cases r33 : r = 33
        · subst r33
          show mSz J = mSz I
          unfold mSz
          rw [o 127 (by decide), o 128 (by decide)]
        · exact aM_sh (fun c hc => o c (by omega)) r (by omega)
    rw [e]
    funext k
    unfold cpA
    rw [if_neg (fun z => hr z.1)]
set_option maxHeartbeats 4000000 in
set_option maxRecDepth 100000 in
theorem r_copy {I : fc_I} {x1 x2 x3 x4 x5 : Int32} (hR : Rel I) : RR (f_X10_copy I x1 x2 x3 x4 x5) (fun I => f_X11_copy I x1 x2 x3 x4 x5) := by
  have he := hR.1
  have hw0 : (0 ≤ (I 45 9).toInt ∧ (I 45 9).toInt ≤ (I 15 11).toInt ∧ 1 ≤ (I 15 11).toInt ∧ (I 15 11).toInt ≤ 60) ∧ (0 ≤ (I 1 2).toInt ∧ (I 1 2).toInt ≤ 6) ∧ (0 ≤ (I 1 3).toInt ∧ (I 1 3).toInt ≤ 3) ∧ (0 ≤ (I 4 5).toInt ∧ (I 4 5).toInt ≤ 14) ∧ (0 ≤ (I 10 4).toInt ∧ (I 10 4).toInt ≤ 4) ∧ (0 ≤ (I 15 10).toInt ∧ (I 15 10).toInt ≤ 2) ∧ (0 ≤ (I 15 9).toInt ∧ (I 15 9).toInt ≤ 40) ∧ (0 ≤ (I 31 6).toInt ∧ (I 31 6).toInt ≤ 160) ∧ (1 ≤ (I 31 7).toInt ∧ (I 31 7).toInt ≤ 6) ∧ (0 ≤ (I 31 8).toInt ∧ (I 31 8).toInt < (I 31 7).toInt) := hR.2.1.1
  obtain ⟨⟨w1, w2, w3, w4⟩, ⟨w5, w6⟩, ⟨w7, w8⟩, ⟨w9, w10⟩, ⟨w11, w12⟩, ⟨w13, w14⟩, ⟨w15, w16⟩, ⟨w17, w18⟩, ⟨w19, w20⟩, ⟨w21, w22⟩⟩ := hw0
  have km1 : (-1 : Int32).toInt = -1 := rfl
  by_cases c1 : x1.toInt < 0 ∨ 3 < x1.toInt
  · refine ⟨-2, I, I, ?_, ?_, hR⟩
    · unfold f_X10_copy
      rw [e_isNoSheet, fq_vsome, if_pos c1, if_neg (by decide)]
    · show f_X11_copy I x1 x2 x3 x4 x5 = _
      unfold f_X11_copy
      rw [e_isSheet, fq_vsome, if_neg (show ¬ (0 ≤ x1.toInt ∧ x1.toInt ≤ 3) by omega), if_pos (by rfl)]
  by_cases c3 : x3.toInt < 0 ∨ 3 < x3.toInt
  · refine ⟨-2, I, I, ?_, ?_, hR⟩
    · unfold f_X10_copy
      rw [e_isNoSheet, fq_vsome, if_neg c1, if_pos (by rfl), e_isNoSheet, fq_vsome, if_pos c3, if_neg (by decide)]
    · show f_X11_copy I x1 x2 x3 x4 x5 = _
      unfold f_X11_copy
      rw [e_isSheet, fq_vsome, if_pos (show 0 ≤ x1.toInt ∧ x1.toInt ≤ 3 by omega), if_neg (by decide), e_isSheet, fq_vsome, if_neg (show ¬ (0 ≤ x3.toInt ∧ x3.toInt ≤ 3) by omega), if_pos (by rfl)]
  have s1 : 0 ≤ x1.toInt ∧ x1.toInt ≤ 3 := by omega
  have s3 : 0 ≤ x3.toInt ∧ x3.toInt ≤ 3 := by omega
  have e1 := cn_int s1.1
  have e3 := cn_int s3.1
  obtain ⟨a1, a2⟩ := ws_at hR.2.1.2.2.2.1 x1 s1.1 s1.2
  obtain ⟨b1, b2⟩ := ws_at hR.2.1.2.2.2.1 x3 s3.1 s3.2
  have hg1 : ∀ {γ : Type} (y : Option γ), fq_g 4 x1 y = y := fun y => fq_gp ⟨by omega, by omega⟩
  have hg3 : ∀ {γ : Type} (y : Option γ), fq_g 4 x3 y = y := fun y => fq_gp ⟨by omega, by omega⟩
  have hX : f_X10_copy I x1 x2 x3 x4 x5 = if (I 76 (cn x1)).toInt = -1 then some (-11, I) else if (I 76 (cn x3)).toInt = -1 then some (-11, I) else if (I 76 (cn x1)).toInt = (I 76 (cn x3)).toInt then (if x5.toInt < 0 then some (-12, I) else fq_v (f_X7_holds I x1 x2 x5) fun r83 => if r83.toInt = 0 then some (-12, I) else fq_v (f_X7_holds I x3 x4 x5) fun r98 => if r98.toInt = 0 then some (-12, I) else fq_c 40 40 x2 x4 x5 (some (x5, fc_cpI I (72 + cn x1) (72 + cn x3) (cn x2) (cn x4) (cn x5)))) else some (-13, I) := by
    unfold f_X10_copy
    simp only [hg1, hg3, fq_l]
    rw [e_isNoSheet, fq_vsome, if_neg c1, if_pos (by rfl), e_isNoSheet, fq_vsome, if_neg c3, if_pos (by rfl), km1]
  have hM : ∀ J, f_X11_copy J x1 x2 x3 x4 x5 = if (J 127 (cn x1)).toInt < 0 then some (-11, J) else if (J 127 (cn x3)).toInt < 0 then some (-11, J) else if (J 127 (cn x1)).toInt = (J 127 (cn x3)).toInt then (if x5.toInt < 0 then some (-12, J) else if x2.toInt < 0 then some (-12, J) else if x4.toInt < 0 then some (-12, J) else if (J 128 (cn x1) - x2).toInt < x5.toInt then some (-12, J) else if (J 128 (cn x3) - x4).toInt < x5.toInt then some (-12, J) else f_X11_copy_103 x1 x2 x3 x4 x5 4000 0 J) else some (-13, J) := fun J => by
    unfold f_X11_copy
    simp only [hg1, hg3, fq_l]
    rw [e_isSheet, fq_vsome, if_pos s1, if_neg (by decide), e_isSheet, fq_vsome, if_pos s3, if_neg (by decide)]
  by_cases d1 : (I 76 (cn x1)).toInt = -1
  · rw [if_pos d1] at hX
    exact ⟨_, _, _, hX, by show f_X11_copy I x1 x2 x3 x4 x5 = _; rw [hM, qr_127 he, if_pos (by omega)], hR⟩
  by_cases d3 : (I 76 (cn x3)).toInt = -1
  · rw [if_neg d1, if_pos d3] at hX
    exact ⟨_, _, _, hX, by show f_X11_copy I x1 x2 x3 x4 x5 = _; rw [hM, qr_127 he, if_neg (by omega), if_pos (by omega)], hR⟩
  obtain ⟨z1, z2⟩ := a2 d1
  obtain ⟨y1, y2⟩ := b2 d3
  rw [if_neg d1, if_neg d3] at hX
  by_cases d : (I 76 (cn x1)).toInt = (I 76 (cn x3)).toInt
  · rw [if_pos d] at hX
    by_cases d5 : x5.toInt < 0
    · rw [if_pos d5] at hX
      exact ⟨_, _, _, hX, by show f_X11_copy I x1 x2 x3 x4 x5 = _; rw [hM, qr_127 he, if_neg (by omega), if_neg (by omega), if_pos d, if_pos d5], hR⟩
    · rw [if_neg d5, e_holds s1 ⟨z1, z2⟩ (by omega), fq_vsome] at hX
      have q1 := qz_at he x1 d1
      have q3 := qz_at he x3 d3
      have hl2 := Int32.toInt_lt x2
      have hl4 := Int32.toInt_lt x4
      have f2 : 0 ≤ x2.toInt → (I 77 (cn x1) - x2).toInt = (I 77 (cn x1)).toInt - x2.toInt := fun h => i_sub (by omega) (by omega)
      have f4 : 0 ≤ x4.toInt → (I 77 (cn x3) - x4).toInt = (I 77 (cn x3)).toInt - x4.toInt := fun h => i_sub (by omega) (by omega)
      have mM : ∀ J, J 127 = I 127 → J 128 = I 128 → f_X11_copy J x1 x2 x3 x4 x5 = if x2.toInt < 0 ∨ x4.toInt < 0 ∨ (I 77 (cn x1) - x2).toInt < x5.toInt ∨ (I 77 (cn x3) - x4).toInt < x5.toInt then some (-12, J) else f_X11_copy_103 x1 x2 x3 x4 x5 4000 0 J := fun J h7 h8 => by
        rw [hM, h7, h8, qr_127 he, if_neg (by omega), if_neg (by omega), if_pos d, if_neg d5, q1, q3]
        by_cases k1 : x2.toInt < 0
        · rw [if_pos k1, if_pos (Or.inl k1)]
        · rw [if_neg k1]
          by_cases k2 : x4.toInt < 0
          · rw [if_pos k2, if_pos (Or.inr (Or.inl k2))]
          · rw [if_neg k2]
            by_cases k3 : (I 77 (cn x1) - x2).toInt < x5.toInt
            · rw [if_pos k3, if_pos (Or.inr (Or.inr (Or.inl k3)))]
            · rw [if_neg k3]
              by_cases k4 : (I 77 (cn x3) - x4).toInt < x5.toInt
              · rw [if_pos k4, if_pos (Or.inr (Or.inr (Or.inr k4)))]
              · rw [if_neg k4, if_neg (fun q => by rcases q with q | q | q | q; exact k1 q; exact k2 q; exact k3 q; exact k4 q)]
      by_cases g1 : 0 ≤ x2.toInt ∧ x2.toInt + x5.toInt ≤ (I 77 (cn x1)).toInt
      · have f2 := f2 g1.1
        rw [if_pos g1, if_neg (by decide), e_holds s3 ⟨y1, y2⟩ (by omega), fq_vsome] at hX
        by_cases g3 : 0 ≤ x4.toInt ∧ x4.toInt + x5.toInt ≤ (I 77 (cn x3)).toInt
        · have f4 := f4 g3.1
          have e2 := cn_int g1.1
          have e4 := cn_int g3.1
          have e5 := cn_int (x := x5) (by omega)
          rw [if_pos g3, if_neg (by decide), fq_cp ⟨g1.1, g3.1, by omega, by omega, by omega⟩] at hX
          have n1 : ¬ I 76 (cn x1) = -1 := fun z => d1 (by rw [z]; rfl)
          have n3 : ¬ I 76 (cn x3) = -1 := fun z => d3 (by rw [z]; rfl)
          have eX := cp_X (I := I) (s1 := cn x1) (s2 := cn x3) (i := cn x2) (j := cn x4) (n := cn x5) (by omega) (by omega) (by omega) (by omega) n1 n3
          obtain ⟨J, hJ⟩ : ∃ J, J = fc_cpI I (72 + cn x1) (72 + cn x3) (cn x2) (cn x4) (cn x5) := ⟨_, rfl⟩
          have jc : ∀ c, c ≠ 72 + cn x3 → J c = I c := fun c hc => by
            rw [hJ]
            funext k
            unfold fc_cpI
            rw [if_neg hc]
          rw [← hJ] at hX eX
          obtain ⟨K, k1, k2, k3⟩ := e_cpM (I := J) (x1 := x1) (x2 := x2) (x3 := x3) (x4 := x4) (x5 := x5) (n := cn x5) s1 s3 g1.1 g3.1 e5.symm (by omega) (by omega)
          have j127 : J 127 = I 127 := jc 127 (by omega)
          have eM := cp_M (I := J) (J := K) (s1 := cn x1) (s2 := cn x3) (i := cn x2) (j := cn x4) (n := cn x5) (by omega) (by omega) (by omega) (by omega) (by rw [j127, qr_127 he]; exact n1) (by rw [j127, qr_127 he]; exact n3) k2 k3
          have jM : aM J = aM I := aM_frame (fun c hc => jc c (by omega))
          have kX : aX 45 K = aX 45 J := aX_frame (Or.inl rfl) (fun c hc => k2 c (by omega))
          refine ⟨x5, J, K, hX, ?_, ?_, ?_, ?_, ?_⟩
          · show f_X11_copy J x1 x2 x3 x4 x5 = _
            clear jM kX eX eM k3
            rw [mM J j127 (jc 128 (by omega)), if_neg (by rw [f2, f4]; omega), k1]
          · rw [kX, eX, eM, jM, he]
          · rw [kX, eX]
            exact Wf_34 hR.2.1 (fun r hr => by
              funext k
              unfold cpA
              rw [if_neg (fun z => hr z.1)])
          · unfold mC
            rw [k2 111 (by decide), k2 112 (by decide), jc 111 (by omega), jc 112 (by omega)]
            exact hR.2.2.1
          · unfold mK
            rw [k2 78 (by decide), k2 86 (by decide), k2 87 (by decide), jc 78 (by omega), jc 86 (by omega), jc 87 (by omega)]
            exact hR.2.2.2
        · rw [if_neg g3, if_pos (by rfl)] at hX
          refine ⟨_, _, _, hX, ?_, hR⟩
          show f_X11_copy I x1 x2 x3 x4 x5 = _
          rw [mM I rfl rfl, if_pos]
          by_cases k : x4.toInt < 0
          · exact Or.inr (Or.inl k)
          · have f4 := f4 (by omega)
            refine Or.inr (Or.inr (Or.inr ?_))
            rw [f4]
            omega
      · rw [if_neg g1, if_pos (by rfl)] at hX
        refine ⟨_, _, _, hX, ?_, hR⟩
        show f_X11_copy I x1 x2 x3 x4 x5 = _
        rw [mM I rfl rfl, if_pos]
        by_cases k : x2.toInt < 0
        · exact Or.inl k
        · have f2 := f2 (by omega)
          refine Or.inr (Or.inr (Or.inl ?_))
          rw [f2]
          omega
  · rw [if_neg d] at hX
    exact ⟨_, _, _, hX, by show f_X11_copy I x1 x2 x3 x4 x5 = _; rw [hM, qr_127 he, if_neg (by omega), if_neg (by omega), if_neg d], hR⟩
