/-! ===== the op best ===== -/
theorem aM_126 {I J : fc_I} (h : ∀ c, c ≠ 78 → c ≠ 126 → ¬ scM c → J c = I c) (h78 : ∀ j, j ≠ 67 ∧ j ≠ 68 → J 78 j = I 78 j) : ∀ r, r ≠ 27 → aM J r = aM I r := fun r hr => by
  obtain ⟨K, hK⟩ : ∃ K : fc_I, K = stc J 126 (I 126) := ⟨_, rfl⟩
  have k1 : aM K = aM I := mS_ne2 (fun j hj => by rw [hK, stc_ne (by decide)]; exact h78 j hj) (fun c h1 h2 => by
    rw [hK]
    by_cases q : c = 126
    · rw [q, stc_at]
    · rw [stc_ne q]
      exact h c h1 q h2)
  have k2 : ∀ g : Nat → Int32, aM (stc J 126 g) r = aM J r := fun g => by
    have es : ∀ c, c ≠ 126 → stc J 126 g c = J c := fun c hc => stc_ne hc
    have key : mR (stc J 126 g) = (mR J).set 27 g := by
      unfold mR mS mRo mWa mWi mTp mSz mIt mCo mCm
      simp only [es 78 (by decide), es 79 (by decide), es 80 (by decide), es 81 (by decide), es 82 (by decide), es 83 (by decide), es 84 (by decide), es 85 (by decide), es 86 (by decide), es 87 (by decide), es 88 (by decide), es 89 (by decide), es 90 (by decide), es 91 (by decide), es 92 (by decide), es 93 (by decide), es 94 (by decide), es 95 (by decide), es 96 (by decide), es 97 (by decide), es 98 (by decide), es 99 (by decide), es 100 (by decide), es 101 (by decide), es 102 (by decide), es 103 (by decide), es 104 (by decide), es 105 (by decide), es 106 (by decide), es 107 (by decide), es 108 (by decide), es 109 (by decide), es 110 (by decide), es 127 (by decide), es 128 (by decide), es 129 (by decide), stc_at]
      rfl
    unfold aM
    rw [key, List.getD_eq_getElem?_getD, List.getElem?_set_ne (fun z => hr z.symm), ← List.getD_eq_getElem?_getD]
  rw [← k1, hK, k2]
theorem Wf_27 {A B : fc_I} (hw : Wf A) (h : ∀ r, r ≠ 27 → B r = A r) (h27 : ∀ z : Nat, z < 6 → -1 ≤ (B 27 z).toInt ∧ ((A 0 2).toInt ≤ (z : Int) → (B 27 z).toInt = -1)) : Wf B := by
  obtain ⟨v0, v1, v2, v3, v4, v5, v6, v7, v8⟩ := hw
  refine ⟨?_, ?_, ?_, ?_, ?_, fun z hz => ?_, ?_, ?_, ?_⟩
  · unfold Wf0
    rw [h 0 (by decide)]
    exact v0
  · unfold WfR
    rw [h 0 (by decide), h 9 (by decide), h 10 (by decide), h 11 (by decide), h 12 (by decide), h 13 (by decide)]
    exact v1
  · unfold WfU
    rw [h 0 (by decide), h 14 (by decide), h 15 (by decide), h 16 (by decide), h 17 (by decide), h 18 (by decide), h 19 (by decide)]
    exact v2
  · unfold WfS
    rw [h 28 (by decide), h 33 (by decide)]
    exact v3
  · unfold WfL
    rw [h 20 (by decide)]
    exact v4
  · obtain ⟨a1, a2, a3, a4, a5, a6⟩ := v5 z hz
    obtain ⟨b1, b2⟩ := h27 z hz
    rw [h 0 (by decide), h 1 (by decide), h 2 (by decide), h 3 (by decide), h 4 (by decide), h 5 (by decide), h 6 (by decide)]
    exact ⟨a1, a2, a3, a4, fun q => ⟨(a5 q).1, (a5 q).2.1, (a5 q).2.2.1, (a5 q).2.2.2.1, (a5 q).2.2.2.2.1, b2 q⟩, b1⟩
  · unfold WfG
    rw [h 0 (by decide), h 11 (by decide)]
    exact v6
  · unfold WfH wS
    rw [h 0 (by decide), h 7 (by decide), h 2 (by decide), h 3 (by decide), h 4 (by decide)]
    exact v7
  · unfold WfT
    rw [h 0 (by decide), h 35 (by decide), h 36 (by decide)]
    exact v8
theorem e_33 {I : fc_I} {x : Int32} (hz : 0 ≤ (I 1 2).toInt ∧ (I 1 2).toInt ≤ 6) (hs : ∃ q, f_X3_search I x = some q) : (frZ (aX 45 I) x (cn (I 1 2)) → f_X10_best_33 x 4000 0 I = f_X3_search I x) ∧ (¬ frZ (aX 45 I) x (cn (I 1 2)) → f_X10_best_33 x 4000 0 I = some (-4611686018427387904, I)) := by
  have ez := cn_int hz.1
  obtain ⟨q0, hq0⟩ := hs
  obtain ⟨r, h1, h2⟩ := lpm1_X (B := f_X10_best_33_B x) (cn (I 1 2)) (by omega) (fun n J => J = I ∧ frZ (aX 45 I) x n) (fun q => (frZ (aX 45 I) x (cn (I 1 2)) → q = q0) ∧ (¬ frZ (aX 45 I) x (cn (I 1 2)) → q = (-4611686018427387904, I))) (fun k i n J hi hn hP => by
    obtain ⟨rfl, p2⟩ := hP
    have ei : i = zi n := zi_of hi (by omega)
    have ec : cn i = n := cn_eq hi
    have hb : (((x >>> (i &&& 31)) &&& 1).toInt = 1) = (bt x n = true) := by
      rw [ei]
      exact propext (decide_eq_true_iff).symm
    unfold f_X10_best_33_B
    simp only [fq_l, kt_1, kt_m1, hb]
    rw [if_pos (by omega), ec]
    have nx : (bt x n = true → (J 49 n).toInt = -1) → frZ (aX 45 J) x (n + 1) := fun h z hz hbz => by
      by_cases e : z = n
      · rw [e] at hbz ⊢
        exact h hbz
      · exact p2 z (by omega) hbz
    by_cases b : bt x n = true
    · rw [if_pos b, fq_gp ⟨by omega, by omega⟩]
      by_cases c : (J 49 n).toInt = -1
      · rw [if_pos c]
        exact Or.inl ⟨J, ⟨rfl, nx (fun _ => c)⟩, rfl⟩
      · rw [if_neg c]
        exact Or.inr ⟨_, ⟨fun q => absurd (q n hn b) c, fun _ => rfl⟩, rfl⟩
    · rw [if_neg b]
      exact Or.inl ⟨J, ⟨rfl, nx (fun h => absurd h b)⟩, rfl⟩) (fun k i J hi hP => by
    obtain ⟨rfl, p2⟩ := hP
    unfold f_X10_best_33_B
    rw [if_neg (by omega), hq0, fq_bsome]
    exact ⟨q0, ⟨fun _ => rfl, fun q => absurd p2 q⟩, rfl⟩) 4000 0 0 I kt_0 (by omega) (by omega) ⟨rfl, fun z hz => absurd hz (by omega)⟩
  refine ⟨fun c => ?_, fun c => ?_⟩
  · rw [hq0, ← h1.1 c]
    exact h2
  · rw [← h1.2 c]
    exact h2
set_option maxHeartbeats 4000000 in
set_option maxRecDepth 100000 in
theorem r_best {I : fc_I} {x1 : Int32} (hR : Rel I) : RR (f_X10_best I x1) (fun I => f_X11_best I x1) := by
  have he := hR.1
  have hw0 : (0 ≤ (I 45 9).toInt ∧ (I 45 9).toInt ≤ (I 15 11).toInt ∧ 1 ≤ (I 15 11).toInt ∧ (I 15 11).toInt ≤ 60) ∧ (0 ≤ (I 1 2).toInt ∧ (I 1 2).toInt ≤ 6) ∧ (0 ≤ (I 1 3).toInt ∧ (I 1 3).toInt ≤ 3) ∧ (0 ≤ (I 4 5).toInt ∧ (I 4 5).toInt ≤ 14) ∧ (0 ≤ (I 10 4).toInt ∧ (I 10 4).toInt ≤ 4) ∧ (0 ≤ (I 15 10).toInt ∧ (I 15 10).toInt ≤ 2) ∧ (0 ≤ (I 15 9).toInt ∧ (I 15 9).toInt ≤ 40) ∧ (0 ≤ (I 31 6).toInt ∧ (I 31 6).toInt ≤ 160) ∧ (1 ≤ (I 31 7).toInt ∧ (I 31 7).toInt ≤ 6) ∧ (0 ≤ (I 31 8).toInt ∧ (I 31 8).toInt < (I 31 7).toInt) := hR.2.1.1
  obtain ⟨⟨w1, w2, w3, w4⟩, ⟨w5, w6⟩, ⟨w7, w8⟩, ⟨w9, w10⟩, ⟨w11, w12⟩, ⟨w13, w14⟩, ⟨w15, w16⟩, ⟨w17, w18⟩, ⟨w19, w20⟩, ⟨w21, w22⟩⟩ := hw0
  have ez := cn_int w5
  have hwh := Wh_of hR.2.1
  have rg := shl_1 (cn (I 1 2)) (by omega)
  have ez2 : zi (cn (I 1 2)) = I 1 2 := (zi_of ez.symm (by omega)).symm
  rw [ez2] at rg
  by_cases c1 : x1.toInt < 0 ∨ ((2 ^ cn (I 1 2) : Nat) : Int) - 1 < x1.toInt
  · refine ⟨-4611686018427387904, I, I, ?_, ?_, hR⟩
    · unfold f_X10_best
      rw [e_isOutside, fq_vsome, kt_0, rg, if_pos c1, if_neg (by decide)]
    · show f_X11_best I x1 = _
      have hm : f_X11_mayAsk I x1 = some 0 := by
        unfold f_X11_mayAsk
        rw [e_isIn, fq_vsome, Int32.toInt_toInt64, Int32.toInt_toInt64, q0_2 he, rg, kl_0, if_neg (show ¬ (0 ≤ x1.toInt ∧ x1.toInt ≤ ((2 ^ cn (I 1 2) : Nat) : Int) - 1) by omega), if_pos (by rfl)]
      unfold f_X11_best
      rw [hm, fq_vsome, if_pos (by rfl)]
  · obtain ⟨v, hv⟩ : ∃ v, v = cn x1 := ⟨_, rfl⟩
    have ev := cn_int (x := x1) (by omega)
    rw [← hv] at ev
    have v2 : v < 2 ^ cn (I 1 2) := by omega
    have v64 : v < 64 := Nat.lt_of_lt_of_le v2 (show 2 ^ cn (I 1 2) ≤ 2 ^ 6 from Nat.pow_le_pow_right (by omega) (by omega))
    have ex : x1 = zi v := zi_of ev.symm (by omega)
    have k6 := kb_le (x := zi v) 6
    obtain ⟨m, hm⟩ : ∃ m, m = kb (zi v) 6 := ⟨_, rfl⟩
    rw [← hm] at k6
    have hX : f_X10_best I x1 = if 4 < (m : Int) then some (-4611686018427387904, I) else f_X10_best_33 (zi v) 4000 0 I := by
      unfold f_X10_best
      rw [e_isOutside, fq_vsome, kt_0, rg, if_neg c1, if_pos (by rfl), ex, bt_count v v64, fq_vsome, kt_4, ← hm, zi_int (by omega)]
    have refuse : ∀ {P : Prop}, (frZ (aM I) (zi v) (cn (I 78 2)) ∧ kb (zi v) 6 ≤ 4 → P) → ¬ P → f_X10_best I x1 = some (-4611686018427387904, I) → RR (f_X10_best I x1) (fun I => f_X11_best I x1) := fun h hp hX => by
      obtain ⟨g, g1, g2, g3⟩ := e_mayAsk (I := I) (v := v) (by rw [q0_2 he]; exact ⟨w5, w6⟩) (by rw [q0_2 he]; exact v2)
      refine ⟨_, _, I, hX, ?_, hR⟩
      show f_X11_best I x1 = _
      unfold f_X11_best
      rw [ex, g1, fq_vsome, g3 (fun z => hp (h z)), if_pos (by rfl)]
    by_cases c2 : 4 < (m : Int)
    · rw [if_pos c2] at hX
      exact refuse (P := False) (fun z => by have := z.2; omega) (fun z => z) hX
    · rw [if_neg c2] at hX
      obtain ⟨b, J, b1, b2, b3, b4, b5⟩ := e_search (I := I) (v := v) (m := m) hwh hR.2.1.2.2.2.2.1 hm (by omega) v2
      obtain ⟨s1, s2⟩ := e_33 (I := I) (x := zi v) ⟨w5, w6⟩ ⟨_, b2⟩
      by_cases c3 : frZ (aX 45 I) (zi v) (cn (I 1 2))
      · rw [s1 c3, b2] at hX
        have jM : aM J = aM I := aM_frame (fun c hc => b3 c (by omega))
        have j78 : J 78 = I 78 := b3 78 (by omega)
        obtain ⟨g, g1, g2, g3⟩ := e_mayAsk (I := J) (v := v) (by rw [j78, q0_2 he]; exact ⟨w5, w6⟩) (by rw [j78, q0_2 he]; exact v2)
        obtain ⟨b', L, l1, l2, l3, l4, l5, l6⟩ := e_best28 (I := J) (v := v) (m := m) (by rw [jM, ← he]; exact hwh) (fun z hz => by
          rw [j78, b3 83 (by omega), qr_83 he, q0_0 he]
          exact (hR.2.1.2.2.2.2.2.1 z hz).2.2.1.2) v64 hm (by omega)
        rw [jM, ← he] at l1 l2
        have eb : b' = b := bst_one l1 b1
        rw [eb] at l2 l5
        have x68 : ∀ r, r ≠ 27 → aX 45 J r = aX 45 I r := aX_68 (fun c hc => b3 c (fun z => hc (by unfold scY; omega)))
        have m126 : ∀ r, r ≠ 27 → aM L r = aM J r := aM_126 l3 l4
        have xL : aX 45 L = aX 45 J := aX_frame (Or.inl rfl) (fun c hc => l3 c (by omega) (by omega) (by unfold scM; omega))
        have e27 : ∀ k, J 68 k = L 126 k := fun k => by
          by_cases hk : k < 6
          · rw [b4 k hk, l5 k hk]
          · rw [b5 k (by omega), l6 k (by omega), b3 126 (by omega), qr_126 he]
        have eX27 : aX 45 J 27 = J 68 := rfl
        have eM27 : aM L 27 = L 126 := rfl
        refine ⟨_, J, L, hX, ?_, ?_, ?_, ?_, ?_⟩
        · show f_X11_best J x1 = _
          unfold f_X11_best
          rw [ex, g1, fq_vsome, g2 ⟨by rw [jM, ← he, j78, q0_2 he]; exact c3, by omega⟩, if_neg (by decide), e_countB v64, fq_vsome, ← hm, l2]
        · rw [xL]
          funext r
          by_cases hr : r = 27
          · rw [hr, eX27, eM27]
            funext k
            exact e27 k
          · rw [x68 r hr, m126 r hr, jM, ← he]
        · rw [xL]
          refine Wf_27 hR.2.1 x68 (fun z hz => ?_)
          rw [eX27, b4 z hz]
          refine ⟨?_, fun hq => ?_⟩
          · rcases (dW_b (x := zi v) (w := zi b) (m := m) (z := z)) with q | q <;> omega
          · have hq' : (I 1 2).toInt ≤ (z : Int) := hq
            have nb := bt_hi (cn (I 1 2)) (by omega) v v2 z hz (by omega)
            unfold dW
            rw [if_neg (by rw [nb]; decide)]
            rfl
        · unfold mC
          rw [l3 111 (by decide) (by decide) (by unfold scM; omega), l3 112 (by decide) (by decide) (by unfold scM; omega), b3 111 (by omega), b3 112 (by omega)]
          exact hR.2.2.1
        · unfold mK
          rw [l4 9 (by decide), l3 86 (by decide) (by decide) (by unfold scM; omega), l3 87 (by decide) (by decide) (by unfold scM; omega), j78, b3 86 (by omega), b3 87 (by omega)]
          exact hR.2.2.2
      · rw [s2 c3] at hX
        exact refuse (P := frZ (aX 45 I) (zi v) (cn (I 1 2))) (fun z => by
          have q := z.1
          rw [← he, q0_2 he] at q
          exact q) c3 hX
