/-! ===== what is foreseen: the class, whole ===== -/
/-- cells of the class that no call shows -/
def scY (c : Nat) : Prop := c = 42 ∨ (54 ≤ c ∧ c ≤ 67) ∨ c = 69
theorem aX_scY {I J : fc_I} (h : ∀ c, ¬ scY c → J c = I c) : aX 45 J = aX 45 I := by
  unfold scY at h
  refine aX_eq ?_
  have eW : aWa J = aWa I := by
    funext k; unfold aWa; by_cases hk : k < 183
    · rw [if_pos hk, if_pos hk, h _ (by omega)]
    · rw [if_neg hk, if_neg hk]
  have eV : aWi J = aWi I := by
    funext k; unfold aWi; by_cases hk : k < 183
    · rw [if_pos hk, if_pos hk, h _ (by omega)]
    · rw [if_neg hk, if_neg hk]
  have eI : aIt J = aIt I := by
    funext k; unfold aIt; rw [h 76 (by decide)]; by_cases hk : k < 160
    · rw [h (72 + k / 40) (by omega)]
    · simp [hk]
  have eL : aLen J = aLen I := by funext q; unfold aLen; rw [h 40 (by decide), h 41 (by decide)]
  have eB : aBeg J = aBeg I := by funext q; unfold aBeg; rw [h 40 (by decide)]
  have eC : aCo J = aCo I := by
    funext k; unfold aCo; rw [h 31 (by decide), eL, eB]; by_cases hk : k < 1920
    · rw [h (34 + k / 320) (by omega)]
    · simp [hk]
  unfold aR
  rw [eW, eV, eI, eC]
  unfold aS aTp aSz aCm
  rw [eL]
  simp only [Nat.reduceAdd, h 0 (by decide), h 1 (by decide), h 2 (by decide), h 3 (by decide), h 4 (by decide), h 5 (by decide), h 6 (by decide), h 7 (by decide), h 8 (by decide), h 9 (by decide), h 10 (by decide), h 11 (by decide), h 12 (by decide), h 13 (by decide), h 14 (by decide), h 15 (by decide), h 16 (by decide), h 17 (by decide), h 18 (by decide), h 19 (by decide), h 20 (by decide), h 21 (by decide), h 22 (by decide), h 23 (by decide), h 24 (by decide), h 25 (by decide), h 26 (by decide), h 27 (by decide), h 28 (by decide), h 29 (by decide), h 30 (by decide), h 31 (by decide), h 32 (by decide), h 33 (by decide), h 34 (by decide), h 35 (by decide), h 36 (by decide), h 37 (by decide), h 38 (by decide), h 39 (by decide), h 40 (by decide), h 41 (by decide), h 43 (by decide), h 44 (by decide), h 45 (by decide), h 46 (by decide), h 47 (by decide), h 48 (by decide), h 49 (by decide), h 50 (by decide), h 51 (by decide), h 52 (by decide), h 53 (by decide), h 68 (by decide), h 70 (by decide), h 71 (by decide), h 72 (by decide), h 73 (by decide), h 74 (by decide), h 75 (by decide), h 76 (by decide), h 77 (by decide)]
theorem aX_58 {J : fc_I} {r : Nat} (h : r ≠ 0 ∧ r ≠ 2 ∧ r ≠ 3 ∧ r ≠ 4 ∧ r ≠ 5 ∧ r ≠ 7 ∧ r ≠ 8 ∧ r ≠ 18 ∧ r ≠ 19) : aX 58 J r = aX 45 J r := by
  rcases (show r = 1 ∨ r = 6 ∨ r = 9 ∨ r = 10 ∨ r = 11 ∨ r = 12 ∨ r = 13 ∨ r = 14 ∨ r = 15 ∨ r = 16 ∨ r = 17 ∨ r = 20 ∨ r = 21 ∨ r = 22 ∨ r = 23 ∨ r = 24 ∨ r = 25 ∨ r = 26 ∨ r = 27 ∨ r = 28 ∨ r = 29 ∨ r = 30 ∨ r = 31 ∨ r = 32 ∨ r = 33 ∨ r = 34 ∨ r = 35 ∨ r = 36 ∨ 37 ≤ r by omega) with rfl | rfl | rfl | rfl | rfl | rfl | rfl | rfl | rfl | rfl | rfl | rfl | rfl | rfl | rfl | rfl | rfl | rfl | rfl | rfl | rfl | rfl | rfl | rfl | rfl | rfl | rfl | rfl | h37
  · rfl
  · rfl
  · rfl
  · rfl
  · rfl
  · rfl
  · rfl
  · rfl
  · rfl
  · rfl
  · rfl
  · rfl
  · rfl
  · rfl
  · rfl
  · rfl
  · rfl
  · rfl
  · rfl
  · rfl
  · rfl
  · rfl
  · rfl
  · rfl
  · rfl
  · rfl
  · rfl
  · rfl
  · unfold aX
    rw [List.getD_eq_getElem?_getD, List.getD_eq_getElem?_getD, List.getElem?_eq_none (show (aR 58 J).length ≤ r from h37), List.getElem?_eq_none (show (aR 45 J).length ≤ r from h37)]
theorem agr_58 {I J : fc_I} (hc : ∀ c, ¬ scY c → J c = I c) (h1 : ∀ i k, i < 3 → k < 6 → J (59 + i) k = I (46 + i) k) (h2 : ∀ i k, i < 2 → k < 3 → J (63 + i) k = I (50 + i) k) (h3 : ∀ i k, i < 2 → k < 4 → J (65 + i) k = I (52 + i) k) (h8 : J 58 8 = I 45 8) (h9 : J 58 9 = I 45 9) : Agr (aX 45 I) (aX 58 J) := by
  have e := aX_scY hc
  have e45 : J 45 = I 45 := hc 45 (by unfold scY; omega)
  intro r k hk
  obtain ⟨k5, k6, k3, k4⟩ := hk
  by_cases r0 : r = 0
  · subst r0
    rw [← e]
    show aS 58 J k = aS 45 J k
    unfold aS
    rw [h8, h9, e45]
  by_cases r2 : r = 2
  · subst r2
    exact h1 0 k (by omega) (k6 (by decide))
  by_cases r3 : r = 3
  · subst r3
    exact h1 1 k (by omega) (k6 (by decide))
  by_cases r4 : r = 4
  · subst r4
    exact h1 2 k (by omega) (k6 (by decide))
  by_cases r7 : r = 7
  · subst r7
    exact h2 0 k (by omega) (k3 (by decide))
  by_cases r8 : r = 8
  · subst r8
    exact h2 1 k (by omega) (k3 (by decide))
  by_cases r18 : r = 18
  · subst r18
    exact h3 1 k (by omega) (k4 (by decide))
  by_cases r19 : r = 19
  · subst r19
    exact h3 0 k (by omega) (k4 (by decide))
  rw [aX_58 (by omega), e]
set_option maxHeartbeats 4000000 in
theorem e_foreseen {I : fc_I} {t : Int32} (hw : Wh (aX 45 I)) (hd : ∀ z : Nat, z < 6 → (z : Int) < (I 1 2).toInt → (I 67 z).toInt = -1 ∨ 0 ≤ (I 67 z).toInt ∧ (I 67 z).toInt ≤ 99) (ht : 0 ≤ t.toInt ∧ t.toInt ≤ 2) : ∃ J, f_X3_foreseen I t = some (fvA (I 67) t (aX 45 I), J) ∧ ∀ c, ¬ (c = 42 ∨ c = 55 ∨ c = 56 ∨ (58 ≤ c ∧ c ≤ 66)) → J c = I c := by
  obtain ⟨A, hA⟩ : ∃ A, A = aX 45 I := ⟨_, rfl⟩
  obtain ⟨D, hD⟩ : ∃ D, D = I 67 := ⟨_, rfl⟩
  have a00 : A 0 0 = I 45 9 := by rw [hA]; rfl
  have a01 : A 0 1 = I 15 11 := by rw [hA]; rfl
  have a02 : A 0 2 = I 1 2 := by rw [hA]; rfl
  have a5 : A 5 = I 49 := by rw [hA]; rfl
  have hW := hw
  rw [← hA, ← hD]
  rw [← hA] at hw
  rw [← hD, ← a02] at hd
  obtain ⟨⟨w1, w2, w3, w4⟩, ⟨w5, w6⟩, _⟩ := hw.1
  have ez := cn_int w5
  have e0 := cn_int w1
  have e1 := cn_int (x := A 0 1) (by omega)
  obtain ⟨J0, x0, o0, o1, o2, o3, o8, o9⟩ := e_become (I := I)
  obtain ⟨r, h1, h2⟩ := lpm1_R (B := f_X3_foreseen_13_B t) (cn (A 0 2)) (by omega) (fun n J => (∀ c, c ≠ 62 → J c = J0 c) ∧ ∀ k, k < 6 → J 62 k = if k < n ∧ (A 5 k).toInt = -1 ∧ ¬ (D k).toInt = -1 then A 0 0 + D k else A 5 k) (fun r => ∃ J, r = (fvA D t A, J) ∧ ∀ c, ¬ (c = 42 ∨ c = 55 ∨ c = 56 ∨ (58 ≤ c ∧ c ≤ 66)) → J c = I c) (fun k i n J hi hn hP => by
    obtain ⟨p1, p2⟩ := hP
    have ec : cn i = n := cn_eq hi
    have hg : ∀ x : Option (Int32 × fc_I), fq_g 6 i x = x := fun x => fq_gp ⟨by omega, by omega⟩
    have j1 : J 1 = I 1 := by rw [p1 1 (by decide), o0 1 (by omega)]
    have j49 : J 49 = A 5 := by rw [p1 49 (by decide), o0 49 (by omega), a5]
    have j67 : J 67 = D := by rw [p1 67 (by decide), o0 67 (by omega), hD]
    have j45 : J 45 = I 45 := by rw [p1 45 (by decide), o0 45 (by omega)]
    have skip : ¬ ((A 5 n).toInt = -1 ∧ ¬ (D n).toInt = -1) → ∃ J', ((∀ c, c ≠ 62 → J' c = J0 c) ∧ ∀ k, k < 6 → J' 62 k = if k < n + 1 ∧ (A 5 k).toInt = -1 ∧ ¬ (D k).toInt = -1 then A 0 0 + D k else A 5 k) ∧ k (i + 1) J = k (i + 1) J' := fun z => ⟨J, ⟨p1, fun q hq => by
      rw [p2 q hq]
      by_cases e : q = n
      · rw [e, if_neg (fun y => by omega), if_neg (fun y => z y.2)]
      · by_cases c : (A 5 q).toInt = -1 ∧ ¬ (D q).toInt = -1
        · by_cases l : q < n
          · rw [if_pos ⟨l, c⟩, if_pos ⟨by omega, c⟩]
          · rw [if_neg (fun y => l y.1), if_neg (fun y => by omega)]
        · rw [if_neg (fun y => c y.2), if_neg (fun y => c y.2)]⟩, rfl⟩
    unfold f_X3_foreseen_13_B
    simp only [hg, fq_l, kt_m1]
    rw [j1, ← a02, if_pos (by omega), ec, j49, j67, j45, ← a00]
    by_cases c1 : (A 5 n).toInt = -1
    · rw [if_pos c1]
      by_cases c2 : (D n).toInt = -1
      · rw [if_pos c2]
        exact skip (fun z => z.2 c2)
      · rw [if_neg c2]
        refine ⟨_, ⟨fun c hc => by rw [fc_wI_lo hc, p1 c hc], fun q hq => ?_⟩, rfl⟩
        rw [fc_wI_at]
        by_cases e : q = n
        · rw [if_pos e, e, if_pos ⟨by omega, c1, c2⟩]
        · rw [if_neg e, p2 q hq]
          by_cases c : (A 5 q).toInt = -1 ∧ ¬ (D q).toInt = -1
          · by_cases l : q < n
            · rw [if_pos ⟨l, c⟩, if_pos ⟨by omega, c⟩]
            · rw [if_neg (fun y => l y.1), if_neg (fun y => by omega)]
          · rw [if_neg (fun y => c y.2), if_neg (fun y => c y.2)]
    · rw [if_neg c1]
      exact skip (fun z => c1 z.1)) (fun k i J hi hP => by
    obtain ⟨p1, p2⟩ := hP
    have jc : ∀ c, ¬ (58 ≤ c ∧ c ≤ 66) → J c = I c := fun c hc => by rw [p1 c (by omega), o0 c hc]
    have jA : aX 45 J = A := by
      rw [hA]
      exact aX_scY (fun c hc => jc c (fun z => hc (by unfold scY; omega)))
    have j45 : J 45 = I 45 := jc 45 (by omega)
    have j15 : J 15 = I 15 := jc 15 (by omega)
    have j1 : J 1 = I 1 := jc 1 (by omega)
    obtain ⟨X0, hX0⟩ : ∃ X0, X0 = aX 58 J := ⟨_, rfl⟩
    have g0 : Agr A X0 := by
      rw [hX0, hA]
      refine agr_58 (fun c hc => jc c (fun z => hc (by unfold scY; omega))) (fun i k hi hk => ?_) (fun i k hi hk => ?_) (fun i k hi hk => ?_) ?_ ?_
      · rw [p1 _ (by omega)]
        exact o1 i k (by omega) hk
      · rw [p1 _ (by omega)]
        exact o2 i k hi hk
      · rw [p1 _ (by omega)]
        exact o3 i k hi hk
      · rw [p1 _ (by omega)]
        exact o8
      · rw [p1 _ (by omega)]
        exact o9
    have g5 : ∀ z, z < 6 → (cnd D A z → X0 5 z = A 0 0 + D z) ∧ (¬ cnd D A z → X0 5 z = A 5 z) := fun z hz => by
      have e : X0 5 z = J 62 z := by rw [hX0]; rfl
      rw [e, p2 z hz]
      unfold cnd
      refine ⟨fun c => ?_, fun c => ?_⟩
      · rw [if_pos ⟨by omega, c.2⟩]
      · by_cases q : z < cn (A 0 2) ∧ (A 5 z).toInt = -1 ∧ ¬ (D z).toInt = -1
        · exact absurd ⟨by omega, q.2⟩ c
        · rw [if_neg q]
    have wX := g0.wh hw
    obtain ⟨u, ⟨u1, u2, u3⟩, u4⟩ := e_settled (I := J) (t := t) (by rw [jA]; exact hw) ht
    rw [jA, j15, j1] at u3
    rw [j45, ← a00] at u1
    rw [j15, ← a01] at u2
    have eu := cn_int (x := u) (by omega)
    have x00 : X0 0 = A 0 := g0.row (by decide)
    obtain ⟨k1, hk1⟩ : ∃ k1, k1 = cn u - cn (A 0 0) := ⟨_, rfl⟩
    obtain ⟨N, hNN⟩ : ∃ N, N = cn (A 0 1) - cn (A 0 0) := ⟨_, rfl⟩
    have eN : cn (A 0 1) = cn (A 0 0) + N := by omega
    have ek : cn u = cn (A 0 0) + k1 := by omega
    have lek : k1 ≤ N := by omega
    obtain ⟨r, f1, f2⟩ := lpm1_R (B := f_X3_foreseen_90_B t u) (cn u) (by omega) (fun m K => ∃ n, m = cn (A 0 0) + n ∧ aX 58 K = hN t X0 n ∧ ∀ c, ¬ (c = 42 ∨ c = 55 ∨ c = 56 ∨ (58 ≤ c ∧ c ≤ 66)) → K c = I c) (fun r => ∃ J, r = (fvA D t A, J) ∧ ∀ c, ¬ (c = 42 ∨ c = 55 ∨ c = 56 ∨ (58 ≤ c ∧ c ≤ 66)) → J c = I c) (fun k i m K hi hm hP => by
      obtain ⟨n, rfl, q1, q2⟩ := hP
      obtain ⟨v1, v2⟩ := hN_w (t := t) wX n (by rw [x00]; omega)
      obtain ⟨L, l1, l2, l3⟩ := e_goBy (f := 58) (Or.inr rfl) (I := K) (t := t) (by rw [q1]; exact v1) ht
      refine ⟨L, ⟨n + 1, by omega, ?_, fun c hc => ?_⟩, ?_⟩
      · rw [l2, q1]
        rfl
      · rw [l3 c (by omega), q2 c hc]
      · unfold f_X3_foreseen_90_B
        rw [if_pos (by omega), l1, fq_usome]) (fun k i K hi hP => by
      obtain ⟨n, hn, q1, q2⟩ := hP
      have enk : n = k1 := by omega
      rw [enk] at q1
      have k15 : K 15 = I 15 := q2 15 (by omega)
      have k1' : K 1 = I 1 := q2 1 (by omega)
      refine ⟨_, ⟨K, rfl, q2⟩, ?_⟩
      unfold f_X3_foreseen_90_B
      have hst := e_stand (f := 58) (I := K) (t := t) (h := I 15 11) (by rw [k1', ← a02]; exact ⟨w5, w6⟩) ht (by rw [← a01]; omega)
      rw [if_neg (by omega), k15, hst, fq_vsome, wg_A ht (by rw [← a01]; omega), q1, k1', ← a01, ← a02]
      unfold fvA
      rw [← hNN]
      have ev : sf (wgA (hN t X0 k1) t (A 0 1)) (cn (A 0 2)) 0 0 = sf (wgA (rN D (A 0 0) t A N) t (A 0 1)) (cn (A 0 2)) 0 0 := by
        refine sf_congr _ _ _ (fun z hz1 hz2 => ?_)
        have hz : z < 6 := by omega
        obtain ⟨b1, b2⟩ := rN_hN (t := t) hw hd g0 g5 k1 (by omega)
        have r1 : hN t X0 k1 1 = A 1 := by rw [hN_o (by decide), g0.row (by decide)]
        have r30 : hN t X0 k1 30 = A 30 := by rw [hN_o (by decide), g0.row (by decide)]
        have s1 : rN D (A 0 0) t A N 1 = A 1 := rN_o (by decide) N
        have s30 : rN D (A 0 0) t A N 30 = A 30 := rN_o (by decide) N
        unfold wgA
        rw [r1, r30, s1, s30]
        by_cases c : (A 1 z).toInt < (A 30 (61 * cn t + cn (A 0 1))).toInt
        · rw [if_pos c, if_pos c]
          have wf := u3 z (by rw [← a02]; omega) (by rw [← a01]; exact c)
          rw [← a01] at wf
          obtain ⟨m1, m2, m3⟩ := rN_wet (D := D) (n0 := A 0 0) (t := t) hw (z := z) (k1 := k1) hz (N - k1) (by omega) (fun k q1 q2 => wf _ (by omega) (by omega))
          rw [show k1 + (N - k1) = N by omega] at m1 m2 m3
          rw [m1, m2, m3, b1.z (r := 2) (by decide) hz, b1.z (r := 3) (by decide) hz, b1.z (r := 4) (by decide) hz]
        · rw [if_neg c, if_neg c]
      rw [ev]) 4000 (A 0 0) (cn (A 0 0)) J e0.symm (by omega) (by omega) ⟨0, rfl, by rw [← hX0]; rfl, fun c hc => jc c (by omega)⟩
    refine ⟨r, f1, ?_⟩
    unfold f_X3_foreseen_13_B
    simp only [fq_l]
    rw [j1, ← a02, if_neg (by omega), u4, fq_vsome, j45, ← a00]
    exact f2) 4000 0 0 J0 kt_0 (by omega) (by omega) ⟨fun _ _ => rfl, fun k hk => by
      rw [if_neg (fun z => by omega), a5]
      exact o1 3 k (by omega) hk⟩
  obtain ⟨J, rfl, j1⟩ := h1
  refine ⟨J, ?_, j1⟩
  unfold f_X3_foreseen
  rw [x0, fq_usome]
  exact h2
