/-! ===== scratch rows; the op says ===== -/
/-- the class's scratch rows -/
def scX (c : Nat) : Prop := c = 42 ∨ c = 55 ∨ c = 56
theorem aX_scr {f : Nat} (hf : f = 45 ∨ f = 58) {I J : fc_I} (h : ∀ c, ¬ scX c → J c = I c) : aX f J = aX f I := by
  unfold scX at h
  refine aX_eq ?_
  have eW : aWa J = aWa I := by
    funext k; unfold aWa; by_cases hk : k < 183
    · rw [if_pos hk, if_pos hk, h _ (by omega)]
    · rw [if_neg hk, if_neg hk]
  have eV : aWi J = aWi I := by
    funext k; unfold aWi; by_cases hk : k < 183
    · rw [if_pos hk, if_pos hk, h _ (by omega)]
    · rw [if_neg hk, if_neg hk]
  have eI : aIt J = aIt I := by
    funext k; unfold aIt; rw [h 76 (by decide)]; by_cases hk : k < 160
    · rw [h (72 + k / 40) (by omega)]
    · simp [hk]
  have eL : aLen J = aLen I := by funext q; unfold aLen; rw [h 40 (by decide), h 41 (by decide)]
  have eB : aBeg J = aBeg I := by funext q; unfold aBeg; rw [h 40 (by decide)]
  have eC : aCo J = aCo I := by
    funext k; unfold aCo; rw [h 31 (by decide), eL, eB]; by_cases hk : k < 1920
    · rw [h (34 + k / 320) (by omega)]
    · simp [hk]
  unfold aR
  rw [eW, eV, eI, eC]
  unfold aS aTp aSz aCm
  rw [eL]
  rcases hf with rfl | rfl <;> simp only [Nat.reduceAdd, h 0 (by decide), h 1 (by decide), h 2 (by decide), h 3 (by decide), h 4 (by decide), h 5 (by decide), h 6 (by decide), h 7 (by decide), h 8 (by decide), h 9 (by decide), h 10 (by decide), h 11 (by decide), h 12 (by decide), h 13 (by decide), h 14 (by decide), h 15 (by decide), h 16 (by decide), h 17 (by decide), h 18 (by decide), h 19 (by decide), h 20 (by decide), h 21 (by decide), h 22 (by decide), h 23 (by decide), h 24 (by decide), h 25 (by decide), h 26 (by decide), h 27 (by decide), h 28 (by decide), h 29 (by decide), h 30 (by decide), h 31 (by decide), h 32 (by decide), h 33 (by decide), h 34 (by decide), h 35 (by decide), h 36 (by decide), h 37 (by decide), h 38 (by decide), h 39 (by decide), h 40 (by decide), h 41 (by decide), h 43 (by decide), h 44 (by decide), h 45 (by decide), h 46 (by decide), h 47 (by decide), h 48 (by decide), h 49 (by decide), h 50 (by decide), h 51 (by decide), h 52 (by decide), h 53 (by decide), h 54 (by decide), h 57 (by decide), h 58 (by decide), h 59 (by decide), h 60 (by decide), h 61 (by decide), h 62 (by decide), h 63 (by decide), h 64 (by decide), h 65 (by decide), h 66 (by decide), h 67 (by decide), h 68 (by decide), h 69 (by decide), h 70 (by decide), h 71 (by decide), h 72 (by decide), h 73 (by decide), h 74 (by decide), h 75 (by decide), h 76 (by decide), h 77 (by decide)]
/-- the reference's scratch rows -/
def scM (c : Nat) : Prop := (113 ≤ c ∧ c ≤ 125) ∨ c = 130
theorem aM_scr {I J : fc_I} (h : ∀ c, ¬ scM c → J c = I c) : aM J = aM I := by
  unfold scM at h
  refine aM_eq ?_
  unfold mR mS mRo mWa mWi mTp mSz mIt mCo mCm
  simp only [h 78 (by decide), h 79 (by decide), h 80 (by decide), h 81 (by decide), h 82 (by decide), h 83 (by decide), h 84 (by decide), h 85 (by decide), h 86 (by decide), h 87 (by decide), h 88 (by decide), h 89 (by decide), h 90 (by decide), h 91 (by decide), h 92 (by decide), h 93 (by decide), h 94 (by decide), h 95 (by decide), h 96 (by decide), h 97 (by decide), h 98 (by decide), h 99 (by decide), h 100 (by decide), h 101 (by decide), h 102 (by decide), h 103 (by decide), h 104 (by decide), h 105 (by decide), h 106 (by decide), h 107 (by decide), h 108 (by decide), h 109 (by decide), h 110 (by decide), h 126 (by decide), h 127 (by decide), h 128 (by decide), h 129 (by decide)]
theorem Rel_scr {I J : fc_I} (hR : Rel I) (hx : aX 45 J = aX 45 I) (hm : aM J = aM I) (h1 : J 111 = I 111) (h2 : J 112 = I 112) (h3 : J 78 9 = I 78 9) (h4 : J 86 = I 86) (h5 : J 87 = I 87) : Rel J := by
  obtain ⟨a1, a2, a3, a4⟩ := hR
  refine ⟨by rw [hx, hm, a1], by rw [hx]; exact a2, ?_, ?_⟩
  · unfold mC
    rw [h1, h2]
    exact a3
  · unfold mK
    rw [h3, h4, h5]
    exact a4
theorem e_evX {f : Nat} (hf : f = 45 ∨ f = 58) {I K : fc_I} {z t s x1 : Int32} {p : Nat} (hT : WfT (aX f I)) (hr : 0 ≤ (I 31 8).toInt ∧ (I 31 8).toInt < (I 31 7).toInt) (h6 : (I 31 7).toInt ≤ 6) (hK : ∀ c, c ≠ 42 → c ≠ 55 → K c = I c) (h55 : ∀ k, k < 6 → K 55 k = fcA (aX f I) s t z k) (hx : x1.toInt = (p : Int)) (hp : p < 2) : ∃ g, f_X0_worth K x1 = some (evA (aX f I) s t z p, stc K 42 g) := by
  have eA : aX f K = aX f I := aX_scr hf (fun c hc => hK c (fun z => hc (Or.inl z)) (fun z => hc (Or.inr (Or.inl z))))
  have e31 : K 31 = I 31 := hK 31 (by decide) (by decide)
  obtain ⟨g, hg⟩ := wt_X (f := f) (J := K) (by rw [eA]; exact hT) (by rw [e31]; exact hr) (by rw [e31]; exact h6) (fcA (aX f I) s t z) h55 x1 p hx hp
  rw [eA, e31] at hg
  exact ⟨g, hg⟩
theorem e_evM {I : fc_I} {z t x1 : Int32} {p : Nat} (hT : WfT (aM I)) (hr : 0 ≤ (I 78 41).toInt ∧ (I 78 41).toInt < (I 78 40).toInt) (h6 : (I 78 40).toInt ≤ 6) (hz : 0 ≤ z.toInt ∧ z.toInt < 6) (ht : 0 ≤ t.toInt ∧ t.toInt ≤ 2) (hh : 0 ≤ (I 78 0).toInt ∧ (I 78 0).toInt ≤ 60) (hc5 : (I 83 (cn z)).toInt ≤ (I 78 0).toInt) (hx : x1.toInt = (p : Int)) (hp : p < 2) : ∃ g, f_X11_worthOf I x1 z t (I 78 0) = some (evA (aM I) (snA (aM I) (cn z)) t z p, stc I 115 g) := wt_M hT hr h6 (fcA (aM I) (snA (aM I) (cn z)) t z) z t (I 78 0) x1 (fun c h0 h6 g => e_nameOf hz ht hh hc5 c h0 h6 g) p hx hp
set_option maxHeartbeats 4000000 in
set_option maxRecDepth 100000 in
theorem r_says {I : fc_I} {x1 x2 : Int32} (hR : Rel I) : RR (f_X10_says I x1 x2) (fun I => f_X11_says I x1 x2) := by
  have he := hR.1
  have hw0 : (0 ≤ (I 45 9).toInt ∧ (I 45 9).toInt ≤ (I 15 11).toInt ∧ 1 ≤ (I 15 11).toInt ∧ (I 15 11).toInt ≤ 60) ∧ (0 ≤ (I 1 2).toInt ∧ (I 1 2).toInt ≤ 6) ∧ (0 ≤ (I 1 3).toInt ∧ (I 1 3).toInt ≤ 3) ∧ (0 ≤ (I 4 5).toInt ∧ (I 4 5).toInt ≤ 14) ∧ (0 ≤ (I 10 4).toInt ∧ (I 10 4).toInt ≤ 4) ∧ (0 ≤ (I 15 10).toInt ∧ (I 15 10).toInt ≤ 2) ∧ (0 ≤ (I 15 9).toInt ∧ (I 15 9).toInt ≤ 40) ∧ (0 ≤ (I 31 6).toInt ∧ (I 31 6).toInt ≤ 160) ∧ (1 ≤ (I 31 7).toInt ∧ (I 31 7).toInt ≤ 6) ∧ (0 ≤ (I 31 8).toInt ∧ (I 31 8).toInt < (I 31 7).toInt) := hR.2.1.1
  obtain ⟨⟨w1, w2, w3, w4⟩, ⟨w5, w6⟩, ⟨w7, w8⟩, ⟨w9, w10⟩, ⟨w11, w12⟩, ⟨w13, w14⟩, ⟨w15, w16⟩, ⟨w17, w18⟩, ⟨w19, w20⟩, ⟨w21, w22⟩⟩ := hw0
  by_cases c1 : x1.toInt < 0 ∨ (I 1 2).toInt ≤ x1.toInt
  · refine ⟨-4611686018427387904, I, I, ?_, ?_, hR⟩
    · unfold f_X10_says
      rw [e_isNoZone _ ⟨w5, by omega⟩, fq_vsome, if_pos c1, if_neg (by decide)]
    · show f_X11_says I x1 x2 = _
      unfold f_X11_says
      rw [e_isZone, fq_vsome, q0_2 he, if_neg (show ¬ (0 ≤ x1.toInt ∧ x1.toInt < (I 1 2).toInt) by omega), if_pos (by rfl)]
  · by_cases c2 : x2.toInt < 0 ∨ 1 < x2.toInt
    · refine ⟨-4611686018427387904, I, I, ?_, ?_, hR⟩
      · unfold f_X10_says
        rw [e_isNoZone _ ⟨w5, by omega⟩, fq_vsome, if_neg c1, if_pos (by rfl), e_isOutside, fq_vsome, kt_0, kt_1, if_pos c2, if_neg (by decide)]
      · show f_X11_says I x1 x2 = _
        unfold f_X11_says
        rw [e_isZone, fq_vsome, q0_2 he, if_pos (show 0 ≤ x1.toInt ∧ x1.toInt < (I 1 2).toInt by omega), if_neg (by decide), e_isIn, fq_vsome, Int32.toInt_toInt64, kl_0, kl_1, if_neg (show ¬ (0 ≤ x2.toInt ∧ x2.toInt ≤ 1) by omega), if_pos (by rfl)]
    · have e1 := cn_int (x := x1) (by omega)
      have e2 := cn_int (x := x2) (by omega)
      obtain ⟨J, j1, j2, j3⟩ := e_gather (f := 45) (Or.inl rfl) (I := I) (z := x1) (t := I 15 10) ⟨by omega, by omega⟩ ⟨w13, w14⟩ ⟨w1, by omega⟩
      obtain ⟨g, hg⟩ := e_evX (f := 45) (Or.inl rfl) (I := I) (K := J) (x1 := x2) (p := cn x2) hR.2.1.2.2.2.2.2.2.2.2 ⟨w21, w22⟩ w20 (fun c _ h => j2 c h) j3 e2.symm (by omega)
      obtain ⟨K, hK⟩ : ∃ K, K = stc J 42 g := ⟨_, rfl⟩
      have kc : ∀ c, c ≠ 42 → c ≠ 55 → K c = I c := fun c h1 h2 => by rw [hK, stc_ne h1, j2 c h2]
      have kX : aX 45 K = aX 45 I := aX_scr (Or.inl rfl) (fun c hc => kc c (fun z => hc (Or.inl z)) (fun z => hc (Or.inr (Or.inl z))))
      have kM : aM K = aM I := aM_frame (fun c hc => kc c (by omega) (by omega))
      have k78 : K 78 = I 78 := kc 78 (by decide) (by decide)
      have k83 : K 83 = I 83 := kc 83 (by decide) (by decide)
      have f1 := wz_at hR.2.1.2.2.2.2.2.1 x1 (by omega) (by omega)
      obtain ⟨g2, hg2⟩ := e_evM (I := K) (z := x1) (t := I 15 10) (x1 := x2) (p := cn x2) (by rw [kM, ← he]; exact hR.2.1.2.2.2.2.2.2.2.2) (by rw [k78, q0_10 he, q0_9 he]; exact ⟨w21, w22⟩) (by rw [k78, q0_9 he]; exact w20) ⟨by omega, by omega⟩ ⟨w13, w14⟩ (by rw [k78, q0_0 he]; exact ⟨w1, by omega⟩) (by rw [k78, k83, q0_0 he, qr_83 he]; omega) e2.symm (by omega)
      refine ⟨Int32.toInt64 (evA (aX 45 I) (snA (aX 45 I) (cn x1)) (I 15 10) x1 (cn x2)), K, stc K 115 g2, ?_, ?_, ?_⟩
      · unfold f_X10_says
        rw [e_isNoZone _ ⟨w5, by omega⟩, fq_vsome, if_neg c1, if_pos (by rfl), e_isOutside, fq_vsome, kt_0, kt_1, if_neg c2, if_pos (by rfl), j1, fq_usome, hg, fq_bsome, ← hK]
      · show f_X11_says K x1 x2 = _
        unfold f_X11_says
        rw [e_isZone, fq_vsome, k78, q0_2 he, if_pos (show 0 ≤ x1.toInt ∧ x1.toInt < (I 1 2).toInt by omega), if_neg (by decide), e_isIn, fq_vsome, Int32.toInt_toInt64, kl_0, kl_1, if_pos (show (0 ≤ x2.toInt ∧ x2.toInt ≤ 1) by omega), if_neg (by decide), q0_6 he, ← k78, hg2, fq_bsome, kM, he]
      · refine Rel_scr hR ?_ ?_ ?_ ?_ ?_ ?_ ?_
        · rw [← kX]
          exact aX_frame (Or.inl rfl) (fun c hc => stc_ne (by omega))
        · rw [← kM]
          exact aM_scr (fun c hc => stc_ne (fun z => hc (by unfold scM; omega)))
        · rw [stc_ne (by decide), kc 111 (by decide) (by decide)]
        · rw [stc_ne (by decide), kc 112 (by decide) (by decide)]
        · rw [stc_ne (by decide), k78]
        · rw [stc_ne (by decide), kc 86 (by decide) (by decide)]
        · rw [stc_ne (by decide), kc 87 (by decide) (by decide)]
