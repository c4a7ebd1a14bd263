/-! ===== roads: the class ===== -/
theorem opA_congr {t : Int32} {A B : fc_I} {r : Nat} (h00 : B 0 0 = A 0 0) (h : ∀ q, q = 1 ∨ q = 9 ∨ q = 10 ∨ q = 11 ∨ q = 12 ∨ q = 13 ∨ q = 30 ∨ q = 31 → B q = A q) : opA t B r = opA t A r := by
  unfold opA wetA
  simp only [h00, h 1 (by omega), h 9 (by omega), h 10 (by omega), h 11 (by omega), h 12 (by omega), h 13 (by omega), h 30 (by omega), h 31 (by omega)]
theorem rdP_o {t : Int32} {A : fc_I} {n m r : Nat} (h : r ≠ 3 ∧ r ≠ 7 ∧ r ≠ 8 ∧ r ≠ 0) : rdP t A n m r = A r := by
  funext k
  unfold rdP
  rw [if_neg h.1, if_neg h.2.1, if_neg h.2.2.1, if_neg (fun z => h.2.2.2 z.1)]
theorem rdP_0 {t : Int32} {A : fc_I} {n m k : Nat} (h : k ≠ 11) : rdP t A n m 0 k = A 0 k := by
  unfold rdP
  simp [h]
theorem rdP_00 {t : Int32} {A : fc_I} : rdP t A 0 0 = A := by
  funext r k
  unfold rdP crA rmA shA ouA
  by_cases h3 : r = 3
  · subst h3; simp
  by_cases h7 : r = 7
  · subst h7; simp
  by_cases h8 : r = 8
  · subst h8; simp
  by_cases h0 : r = 0 ∧ k = 11
  · rw [h0.1, h0.2]; simp
  simp [h3, h7, h8, h0]
theorem rdP_ch {t : Int32} {A : fc_I} {n m : Nat} : rdP t A n (m + 1) = if isS A m then fc_wI (rdP t A n m) 7 (cn (A 11 m) - 10) (rmA t A m (cn (A 11 m) - 10) - mvA t A m) else rdP t A n m := by
  by_cases c : isS A m
  · rw [if_pos c]
    funext r k
    have e : mvA t A m = imin (baA t A m) (rmA t A m (cn (A 11 m) - 10)) := by unfold mvA; rw [if_pos c]
    have e2 : rmA t A (m + 1) = upd (rmA t A m) (cn (A 11 m) - 10) (rmA t A m (cn (A 11 m) - 10) - mvA t A m) := by
      rw [e]
      show (if isS A m then _ else _) = _
      rw [if_pos c]
    unfold rdP fc_wI
    rw [e2]
    by_cases h7 : r = 7
    · subst h7
      simp [upd]
    · simp [h7]
  · rw [if_neg c]
    have e2 : rmA t A (m + 1) = rmA t A m := by
      show (if isS A m then _ else _) = _
      rw [if_neg c]
    unfold rdP
    rw [e2]
theorem rdP_go {t : Int32} {A : fc_I} {n m : Nat} : rdP t A (n + 1) m = if (A 11 n).toInt < 6 then fc_wI (fc_wI (rdP t A n m) 3 (cn (A 10 n)) (crA t A n (cn (A 10 n)) - mvA t A n)) 3 (cn (A 11 n)) ((upd (crA t A n) (cn (A 10 n)) (crA t A n (cn (A 10 n)) - mvA t A n)) (cn (A 11 n)) + mvA t A n) else if isS A n then fc_wI (fc_wI (rdP t A n m) 3 (cn (A 10 n)) (crA t A n (cn (A 10 n)) - mvA t A n)) 8 (cn (A 11 n) - 10) (shA t A n (cn (A 11 n) - 10) + mvA t A n) else fc_wI (fc_wI (rdP t A n m) 3 (cn (A 10 n)) (crA t A n (cn (A 10 n)) - mvA t A n)) 0 11 (ouA t A n + mvA t A n) := by
  by_cases c : (A 11 n).toInt < 6
  · have c2 : ¬ isS A n := fun z => by have := z.1; omega
    have o : ouA t A (n + 1) = ouA t A n := by show (if _ then _ else _) = _; rw [if_pos (Or.inl c)]
    have s : shA t A (n + 1) = shA t A n := by show (if _ then _ else _) = _; rw [if_neg c2]
    have r0 : crA t A (n + 1) = upd (upd (crA t A n) (cn (A 10 n)) (crA t A n (cn (A 10 n)) - mvA t A n)) (cn (A 11 n)) ((upd (crA t A n) (cn (A 10 n)) (crA t A n (cn (A 10 n)) - mvA t A n)) (cn (A 11 n)) + mvA t A n) := by show (if _ then _ else _) = _; rw [if_pos c]
    rw [if_pos c]
    funext r k
    unfold rdP fc_wI
    rw [o, s, r0]
    by_cases h3 : r = 3
    · subst h3
      simp [upd]
    · simp [h3]
  · rw [if_neg c]
    have r0 : crA t A (n + 1) = upd (crA t A n) (cn (A 10 n)) (crA t A n (cn (A 10 n)) - mvA t A n) := by show (if _ then _ else _) = _; rw [if_neg c]
    by_cases c2 : isS A n
    · have o : ouA t A (n + 1) = ouA t A n := by show (if _ then _ else _) = _; rw [if_pos (Or.inr c2)]
      have s : shA t A (n + 1) = upd (shA t A n) (cn (A 11 n) - 10) (shA t A n (cn (A 11 n) - 10) + mvA t A n) := by show (if _ then _ else _) = _; rw [if_pos c2]
      rw [if_pos c2]
      funext r k
      unfold rdP fc_wI
      rw [o, s, r0]
      by_cases h3 : r = 3
      · subst h3
        simp [upd]
      · by_cases h8 : r = 8
        · subst h8
          simp [upd]
        · simp [h3, h8]
    · have o : ouA t A (n + 1) = ouA t A n + mvA t A n := by show (if _ then _ else _) = _; rw [if_neg (fun z => by rcases z with z | z; exact c z; exact c2 z)]
      have s : shA t A (n + 1) = shA t A n := by show (if _ then _ else _) = _; rw [if_neg c2]
      rw [if_neg c2]
      funext r k
      unfold rdP fc_wI
      rw [o, s, r0]
      by_cases h3 : r = 3
      · subst h3
        simp [upd]
      · by_cases h0 : r = 0 ∧ k = 11
        · rw [h0.1, h0.2]
          simp
        · simp [h3, h0]
/-- where roads lead, of the abstract rows -/
theorem wr_go {A : fc_I} (hw : Wh A) {n : Nat} (hn : (n : Int) < (A 0 4).toInt) : n < 14 ∧ (0 ≤ (A 10 n).toInt ∧ (A 10 n).toInt < (A 0 2).toInt ∧ (A 10 n).toInt < 6) ∧ 0 ≤ (A 11 n).toInt ∧ ((A 11 n).toInt < 6 ∧ (A 11 n).toInt < (A 0 2).toInt ∨ (10 ≤ (A 11 n).toInt ∧ (A 11 n).toInt < 13 ∧ (A 11 n).toInt < 10 + (A 0 3).toInt) ∨ (A 11 n).toInt = 20) := by
  obtain ⟨⟨⟨w1, w2, w3, w4⟩, ⟨w5, w6⟩, ⟨w7, w8⟩, ⟨w9, w10⟩, _⟩, wr, wu, wz, wg, _⟩ := hw
  obtain ⟨r1, r2, r3, r4, r5⟩ := wr n hn
  obtain ⟨g1, g2⟩ := wg n hn
  exact ⟨by omega, by omega, r3.1, by omega⟩
set_option maxHeartbeats 4000000 in
theorem e_choose {f : Nat} (hf : f = 45 ∨ f = 58) {I : fc_I} {t : Int32} (hw : Wh (aX f I)) (ht : 0 ≤ t.toInt ∧ t.toInt ≤ 2) : ∃ J, f_X4_chooseMoving f I t = some J ∧ aX f J = rdP t (aX f I) 0 (cn (aX f I 0 4)) ∧ (∀ c, ¬ (c = f + 5 ∨ c = 56) → J c = I c) ∧ ∀ n, n < cn (aX f I 0 4) → J 56 n = mvA t (aX f I) n := by
  obtain ⟨A, hA⟩ : ∃ A, A = aX f I := ⟨_, rfl⟩
  have a00 : A 0 0 = I f 9 := by rw [hA]; rfl
  have a02 : A 0 2 = I 1 2 := by rw [hA]; rfl
  have a04 : A 0 4 = I 4 5 := by rw [hA]; rfl
  have a10 : A 10 = I 6 := by rw [hA]; rfl
  have a11 : A 11 = I 7 := by rw [hA]; rfl
  have a6 : A 6 = I 3 := by rw [hA]; rfl
  have hW := hw
  rw [← hA] at hw ⊢
  have w0 := hw.1
  obtain ⟨⟨w1, w2, w3, w4⟩, ⟨w5, w6⟩, ⟨w7, w8⟩, ⟨w9, w10⟩, _⟩ := w0
  have ez := cn_int (x := A 0 4) w9
  obtain ⟨r, h1, h2⟩ := lpm1_R (B := f_X4_chooseMoving_2_B f t) (cn (A 0 4)) (by omega) (fun n J => aX f J = rdP t A 0 n ∧ (∀ c, ¬ (c = f + 5 ∨ c = 56) → J c = I c) ∧ ∀ m, m < n → J 56 m = mvA t A m) (fun J => aX f J = rdP t A 0 (cn (A 0 4)) ∧ (∀ c, ¬ (c = f + 5 ∨ c = 56) → J c = I c) ∧ ∀ m, m < cn (A 0 4) → J 56 m = mvA t A m) (fun k i n J hi hn hP => by
    obtain ⟨p1, p2, p3⟩ := hP
    obtain ⟨g1, ⟨g2, g3, g4⟩, g5, g6⟩ := wr_go hw (n := n) (by omega)
    have ec : cn i = n := cn_eq hi
    have j4 : J 4 = I 4 := p2 4 (by omega)
    have j6 : J 6 = I 6 := p2 6 (by omega)
    have j7 : J 7 = I 7 := p2 7 (by omega)
    have j3 : J 3 = I 3 := p2 3 (by omega)
    have jf : J f = I f := p2 f (by omega)
    have jf2 : J (f + 2) = A 3 := by rw [p2 (f + 2) (by omega), hA]; rfl
    have jr : J (f + 5) = rmA t A n := by
      have q := congrFun p1 7
      rw [show aX f J 7 = J (f + 5) from rfl] at q
      rw [q]
      funext z
      unfold rdP
      simp
    have eo : opA t (aX f J) n = opA t A n := by
      rw [p1]
      exact opA_congr (rdP_0 (by decide)) (fun q hq => rdP_o (by omega))
    have hop : f_X4_openFlow J i t (J f 9) = some (opA t A n) := by
      have hwJ : Wh (aX f I) := hW
      have q := e_openX (f := f) (I := I) (x := i) (t := t) hW (by rw [← a04]; omega) ht
      have e : f_X4_openFlow J i t (J f 9) = f_X4_openFlow I i t (I f 9) := by
        have e22 : J (22 + cn t) = I (22 + cn t) := p2 _ (by have := cn_int ht.1; omega)
        have e18 : J (18 + cn t) = I (18 + cn t) := p2 _ (by have := cn_int ht.1; omega)
        have e2 : J 2 = I 2 := p2 2 (by omega)
        have e5 : J 5 = I 5 := p2 5 (by omega)
        have e8 : J 8 = I 8 := p2 8 (by omega)
        have e9 : J 9 = I 9 := p2 9 (by omega)
        unfold f_X4_openFlow f_X6_canTake f_X6_canTake_15 f_X6_canTake_32 f_X6_canTake_54 f_X4_isWet
        rw [e22, e18, e2, e5, e8, e9, j6, j7, jf]
      rw [e, q, ec, ← hA]
    -- the part behind both ways
    have go : f_X4_chooseMoving_62 f t k i (baA t A n) J = f_X4_chooseMoving_62 f t k i (baA t A n) J → ∃ J', (aX f J' = rdP t A 0 (n + 1) ∧ (∀ c, ¬ (c = f + 5 ∨ c = 56) → J' c = I c) ∧ ∀ m, m < n + 1 → J' 56 m = mvA t A m) ∧ f_X4_chooseMoving_62 f t k i (baA t A n) J = k (i + 1) J' := fun _ => by
      unfold f_X4_chooseMoving_62
      simp only [fq_l]
      have s1 : (I 7 n - 10).toInt = (I 7 n).toInt - 10 := i_sub (by rw [← a11, show (10 : Int32).toInt = 10 from rfl]; omega) (by rw [← a11, show (10 : Int32).toInt = 10 from rfl]; omega)
      rw [fq_gp ⟨by omega, by omega⟩, ec, j7, e_isOutside, fq_vsome]
      simp only [b2i, kt_0, kt_2]
      generalize I 7 n - 10 = y at *
      rw [← a11] at s1
      by_cases c : isS A n
      · have c1 := c.1
        have c2 := c.2
        have ey : cn y = cn (A 11 n) - 10 := by
          have q1 := cn_int (x := y) (by omega)
          have q2 := cn_int (x := A 11 n) (by omega)
          omega
        have em : imin (baA t A n) (rmA t A n (cn (A 11 n) - 10)) = mvA t A n := by unfold mvA; rw [if_pos c]
        rw [if_pos (show ¬ (y.toInt < 0 ∨ 2 < y.toInt) by omega), fq_gp ⟨by omega, by omega⟩, jr, ey, em, fq_gp ⟨by omega, by omega⟩, fq_gp ⟨by omega, by omega⟩, fq_gp ⟨by omega, by omega⟩]
        refine ⟨_, ⟨?_, fun c hc => ?_, fun m hm => ?_⟩, rfl⟩
        · rw [as_56 hf, awf_5 hf, p1, rdP_ch, if_pos c]
        · rw [fc_wI_lo (by omega), fc_wI_lo (by omega), p2 c hc]
        · rw [fc_wI_at]
          by_cases e : m = n
          · rw [if_pos e, e]
          · rw [if_neg e, fc_wI_lo (by omega)]
            exact p3 m (by omega)
      · have em : baA t A n = mvA t A n := by unfold mvA; rw [if_neg c]
        have c' : y.toInt < 0 ∨ 2 < y.toInt := by
          by_cases q : y.toInt < 0 ∨ 2 < y.toInt
          · exact q
          · exact absurd ⟨by omega, by omega⟩ c
        rw [if_neg (not_not_intro c'), fq_gp ⟨by omega, by omega⟩, em]
        refine ⟨_, ⟨?_, fun c hc => ?_, fun m hm => ?_⟩, rfl⟩
        · rw [as_56 hf, p1, rdP_ch, if_neg c]
        · rw [fc_wI_lo (by omega), p2 c hc]
        · rw [fc_wI_at]
          by_cases e : m = n
          · rw [if_pos e, e]
          · rw [if_neg e]
            exact p3 m (by omega)
    have go := go rfl
    unfold f_X4_chooseMoving_2_B
    simp only [fq_l]
    rw [j4, ← a04, if_pos (by omega), fq_gp ⟨by omega, by omega⟩, ec, j6, ← a10, fq_gp ⟨g2, g4⟩, j3, ← a6, hi]
    by_cases c : (A 6 (cn (A 10 n))).toInt = (n : Int)
    · rw [if_pos c, fq_gp ⟨g2, g4⟩, hop, fq_vsome, jf2]
      have eb : imin (A 3 (cn (A 10 n))) (opA t A n) = baA t A n := by unfold baA; rw [if_pos c]
      rw [eb]
      exact go
    · rw [if_neg c]
      have eb : 0 = baA t A n := by unfold baA; rw [if_neg c]
      rw [eb]
      exact go) (fun k i J hi hP => by
    obtain ⟨p1, p2, p3⟩ := hP
    refine ⟨J, ⟨p1, p2, p3⟩, ?_⟩
    unfold f_X4_chooseMoving_2_B
    rw [p2 4 (by omega), ← a04, if_neg (by omega)]) 4000 0 0 I kt_0 (by omega) (by omega) ⟨by rw [rdP_00, hA], fun _ _ => rfl, fun m hm => absurd hm (by omega)⟩
  exact ⟨r, h2, h1⟩
