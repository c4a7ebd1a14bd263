/-! ===== an hour goes by: both sides ===== -/
theorem sn_congr {A B : fc_I} (h0 : B 0 0 = A 0 0) (h5 : B 5 = A 5) : snA B = snA A := by
  funext z
  exact snA_congr h0 (by rw [h5])
theorem lvA_o {C : Nat → Bool} {S : Nat → Int32} {t : Int32} {A : fc_I} {r : Nat} (h : r ≠ 2 ∧ r ≠ 3) : lvA C S t A r = A r := by
  unfold lvA
  exact lvP_o h
theorem rdA_o {t : Int32} {A : fc_I} {r : Nat} (h : r ≠ 3 ∧ r ≠ 7 ∧ r ≠ 8 ∧ r ≠ 0) : rdA t A r = A r := rdP_o h
theorem rdA_0 {t : Int32} {A : fc_I} {k : Nat} (h : k ≠ 11) : rdA t A 0 k = A 0 k := rdP_0 h
theorem hS_o {C : Nat → Bool} {S : Nat → Int32} {t : Int32} {A : fc_I} {r : Nat} (h : r ≠ 0 ∧ r ≠ 2 ∧ r ≠ 3 ∧ r ≠ 4 ∧ r ≠ 7 ∧ r ≠ 8 ∧ r ≠ 18 ∧ r ≠ 19) : hS C S t A r = A r := by
  unfold hS
  rw [frA_o (by omega)]
  unfold tkA
  rw [fc_wI_lo (by omega), bdA_o (by omega), rdA_o (by omega), lvA_o (by omega)]
theorem hS_0 {C : Nat → Bool} {S : Nat → Int32} {t : Int32} {A : fc_I} {k : Nat} (h : k ≠ 0 ∧ k ≠ 11) : hS C S t A 0 k = A 0 k := by
  unfold hS
  rw [frA_o (by omega)]
  unfold tkA
  rw [fc_wI_at, if_neg h.1, bdA_o (by omega), rdA_0 h.2, lvA_o (by omega)]
theorem Wh_hS {C : Nat → Bool} {S : Nat → Int32} {t : Int32} {A : fc_I} (hw : Wh A) (hn : (A 0 0).toInt < (A 0 1).toInt) : Wh (hS C S t A) ∧ (hS C S t A 0 0).toInt = (A 0 0).toInt + 1 := by
  have h1 := Wh_lv (C := C) (S := S) (t := t) hw
  have h2 := Wh_rd (t := t) h1
  have h3 := Wh_bd (S := S) (t := t) h2
  have e5 : rdA t (lvA C S t A) 0 5 = A 0 5 := by rw [rdA_0 (by decide), lvA_o (by decide)]
  have b5 : bdA S t (rdA t (lvA C S t A)) (cn (A 0 5)) 0 5 = A 0 5 := by rw [bdA_o (by decide), e5]
  have b0 : bdA S t (rdA t (lvA C S t A)) (cn (A 0 5)) 0 0 = A 0 0 := by rw [bdA_o (by decide), rdA_0 (by decide), lvA_o (by decide)]
  have b1 : bdA S t (rdA t (lvA C S t A)) (cn (A 0 5)) 0 1 = A 0 1 := by rw [bdA_o (by decide), rdA_0 (by decide), lvA_o (by decide)]
  rw [e5] at h3
  have h4 := Wh_fr h3 (by rw [b0, b1]; exact hn)
  rw [b5, b0] at h4
  exact h4
/-- in a wet zone nothing changes -/
theorem hS_wet {C : Nat → Bool} {S : Nat → Int32} {t : Int32} {A : fc_I} (hw : Wh A) {z : Nat} (hz : z < 6) (h : wetA A t z) : hS C S t A 2 z = A 2 z ∧ hS C S t A 3 z = A 3 z ∧ hS C S t A 4 z = A 4 z := by
  have hl := Wh_lv (C := C) (S := S) (t := t) hw
  have hr := Wh_rd (t := t) hl
  obtain ⟨L, hL⟩ : ∃ L, L = lvA C S t A := ⟨_, rfl⟩
  rw [← hL] at hl hr
  have l0 : lvn C S t A z = 0 := by unfold lvn; rw [if_neg (fun q => q.2.1 h)]
  have l2 : L 2 z = A 2 z := by
    rw [hL]
    unfold lvA lvP
    simp [l0]
  have l3 : L 3 z = A 3 z := by
    rw [hL]
    unfold lvA lvP
    simp [l0]
  have lw : wetA L t z := by
    rw [hL]
    unfold wetA
    rw [lvA_o (by decide), lvA_o (by decide), lvA_o (by decide)]
    exact h
  have mv0 : ∀ n : Nat, (n : Int) < (L 0 4).toInt → z = cn (L 10 n) ∨ ((L 11 n).toInt < 6 ∧ z = cn (L 11 n)) → mvA t L n = 0 := fun n hn hq => by
    obtain ⟨m1, m2, m3⟩ := mvA_b (t := t) hl hn
    have o0 : opA t L n = 0 := by
      unfold opA
      rcases hq with hq | hq
      · rw [if_pos (by rw [← hq]; exact lw)]
      · split
        · rfl
        · rw [if_pos ⟨hq.1, by rw [← hq.2]; exact lw⟩]
    have b0 : (baA t L n).toInt ≤ 0 := by
      unfold baA
      split
      · rw [o0]
        have q := (imin_le (x := L 3 (cn (L 10 n))) (y := 0)).2.1
        rw [kt_0] at q
        exact q
      · rw [kt_0]
        omega
    exact i_zero (by omega)
  have cr : ∀ n : Nat, (n : Int) ≤ (L 0 4).toInt → crA t L n z = L 3 z := fun n => by
    induction n with
    | zero => exact fun _ => rfl
    | succ n ih =>
      intro hn
      have i1 := ih (by omega)
      have e1 : upd (crA t L n) (cn (L 10 n)) (crA t L n (cn (L 10 n)) - mvA t L n) z = L 3 z := by
        unfold upd
        by_cases c : z = cn (L 10 n)
        · rw [if_pos c, mv0 n (by omega) (Or.inl c), Int32.sub_zero, ← c, i1]
        · rw [if_neg c, i1]
      by_cases c : (L 11 n).toInt < 6
      · have r0 : crA t L (n + 1) = upd (upd (crA t L n) (cn (L 10 n)) (crA t L n (cn (L 10 n)) - mvA t L n)) (cn (L 11 n)) ((upd (crA t L n) (cn (L 10 n)) (crA t L n (cn (L 10 n)) - mvA t L n)) (cn (L 11 n)) + mvA t L n) := by show (if _ then _ else _) = _; rw [if_pos c]
        rw [r0]
        generalize upd (crA t L n) (cn (L 10 n)) (crA t L n (cn (L 10 n)) - mvA t L n) = g at *
        unfold upd
        by_cases d : z = cn (L 11 n)
        · rw [if_pos d, mv0 n (by omega) (Or.inr ⟨c, d⟩), Int32.add_zero, ← d, e1]
        · rw [if_neg d, e1]
      · have r0 : crA t L (n + 1) = upd (crA t L n) (cn (L 10 n)) (crA t L n (cn (L 10 n)) - mvA t L n) := by show (if _ then _ else _) = _; rw [if_neg c]
        rw [r0, e1]
  have e4 := cn_int (x := L 0 4) hl.1.2.2.2.1.1
  obtain ⟨R, hR⟩ : ∃ R, R = rdA t L := ⟨_, rfl⟩
  have r3 : R 3 z = A 3 z := by
    rw [hR]
    have q : rdA t L 3 z = crA t L (cn (L 0 4)) z := by unfold rdA rdP; simp
    rw [q, cr _ (by omega), l3]
  have r2 : R 2 z = A 2 z := by rw [hR, rdA_o (by decide), l2]
  have r4 : R 4 z = A 4 z := by rw [hR, rdA_o (by decide), hL, lvA_o (by decide)]
  rw [← hR] at hr
  have rw' : wetA R t z := by
    rw [hR]
    unfold wetA
    rw [rdA_o (by decide), rdA_o (by decide), rdA_0 (by decide)]
    exact lw
  have b4 : ∀ n : Nat, bdA S t R n 4 z = R 4 z := fun n => by
    induction n with
    | zero => rfl
    | succ n ih =>
      show bd1 S t (bdA S t R n) n 4 z = R 4 z
      have o14 : bdA S t R n 14 = R 14 := bdA_o (by decide) n
      have o0 : bdA S t R n 0 = R 0 := bdA_o (by decide) n
      have o1 : bdA S t R n 1 = R 1 := bdA_o (by decide) n
      have o30 : bdA S t R n 30 = R 30 := bdA_o (by decide) n
      unfold bd1
      by_cases c : z = cn (R 14 n)
      · rw [if_pos (Or.inr (Or.inr (Or.inl (by unfold wetA; rw [o14, o0, o1, o30, ← c]; exact rw'))))]
        exact ih
      · split
        · exact ih
        · rw [fc_wI_lo (by decide), fc_wI_lo (by decide), fc_wI_lo (by decide), fc_wI_at, o14, if_neg c]
          exact ih
  have h5 : ∀ r, r ≠ 0 ∧ r ≠ 8 ∧ r ≠ 18 ∧ r ≠ 19 → hS C S t A r = bdA S t R (cn (A 0 5)) r := fun r hr => by
    unfold hS
    rw [← hL, ← hR, frA_o (by omega)]
    unfold tkA
    rw [fc_wI_lo hr.1]
  rw [h5 2 (by decide), h5 3 (by decide), h5 4 (by decide), bdA_o (by decide), bdA_o (by decide), b4]
  exact ⟨r2, r3, r4⟩
set_option maxHeartbeats 2000000 in
theorem e_goBy {f : Nat} (hf : f = 45 ∨ f = 58) {I : fc_I} {t : Int32} (hw : Wh (aX f I)) (ht : 0 ≤ t.toInt ∧ t.toInt ≤ 2) : ∃ J, f_X4_goBy f I t = some J ∧ aX f J = hS (isCb (aX f I)) (snA (aX f I)) t (aX f I) ∧ ∀ c, ¬ ((f ≤ c ∧ c ≤ f + 8) ∨ c = 42 ∨ c = 55 ∨ c = 56) → J c = I c := by
  obtain ⟨A, hA⟩ : ∃ A, A = aX f I := ⟨_, rfl⟩
  obtain ⟨J1, x1, y1, z1⟩ := e_setOut hf hw ht
  rw [← hA] at hw y1 ⊢
  have h1 := Wh_lv (C := isCb A) (S := snA A) (t := t) hw
  obtain ⟨A1, hA1⟩ : ∃ A1, A1 = lvA (isCb A) (snA A) t A := ⟨_, rfl⟩
  rw [← hA1] at h1 y1
  obtain ⟨J2, x2, y2, z2, u2⟩ := e_choose hf (I := J1) (t := t) (by rw [y1]; exact h1) ht
  rw [y1] at y2 u2
  obtain ⟨J3, x3, y3, z3, u3⟩ := e_moveX hf (I := J2) (t := t) (A := A1) h1 y2 u2
  have h3 := Wh_rd (t := t) h1
  obtain ⟨A2, hA2⟩ : ∃ A2, A2 = rdA t A1 := ⟨_, rfl⟩
  rw [← hA2] at h3 y3
  obtain ⟨J4, x4, y4, z4⟩ := e_board hf (I := J3) (t := t) (by rw [y3]; exact h3) ht
  have s4 : snA A2 = snA A := sn_congr (by rw [hA2, rdA_0 (by decide), hA1, lvA_o (by decide)]) (by rw [hA2, rdA_o (by decide), hA1, lvA_o (by decide)])
  have n5 : A2 0 5 = A 0 5 := by rw [hA2, rdA_0 (by decide), hA1, lvA_o (by decide)]
  rw [y3, s4, n5] at y4
  obtain ⟨J5, hJ5⟩ : ∃ J5, J5 = fc_wI J4 f 9 (J4 f 9 + 1) := ⟨_, rfl⟩
  have y5 : aX f J5 = tkA (bdA (snA A) t A2 (cn (A 0 5))) := by
    rw [hJ5, aw0_0 hf, y4]
    have e : J4 f 9 = bdA (snA A) t A2 (cn (A 0 5)) 0 0 := by rw [← y4]; rfl
    rw [e]
    rfl
  have c5 : ∀ c, ¬ ((f ≤ c ∧ c ≤ f + 8) ∨ c = 42 ∨ c = 55 ∨ c = 56) → J5 c = I c := fun c hc => by
    rw [hJ5, fc_wI_lo (by omega), z4 c (by omega), z3 c (by omega), z2 c (by omega), z1 c (by omega)]
  have j10 : J5 10 = I 10 := c5 10 (by omega)
  have j12 : J5 12 = I 12 := c5 12 (by omega)
  have a5 : A 0 5 = I 10 4 := by rw [hA]; rfl
  have a15 : A 15 = I 12 := by rw [hA]; rfl
  obtain ⟨J6, x6, y6, z6⟩ := e_freeX hf (I := J5) (by rw [j10, ← a5]; exact hw.1.2.2.2.2.1) (fun b hb => by
    rw [j10, ← a5] at hb
    obtain ⟨b0, b1, b2, _⟩ := bus_at hw hb
    rw [j12, ← a15]
    exact ⟨b2.1, b2.2.2⟩)
  rw [y5, j10, ← a5] at y6
  refine ⟨J6, ?_, ?_, fun c hc => ?_⟩
  · unfold f_X4_goBy
    rw [x1, fq_usome, x2, fq_usome, x3, fq_usome, x4, fq_usome]
    simp only [fq_l]
    rw [← hJ5, x6, fq_usome]
  · rw [y6, hA2, hA1]
    rfl
  · rw [z6 c (by omega), c5 c hc]
set_option maxHeartbeats 2000000 in
theorem e_step {I : fc_I} {t : Int32} (hw : Wh (aM I)) (hc5 : ∀ z, z < 6 → (I 83 z).toInt ≤ (I 78 0).toInt) (ht : 0 ≤ t.toInt ∧ t.toInt ≤ 2) : ∃ J, f_X11_step I t = some J ∧ aM J = hS (isCb (aM I)) (snA (aM I)) t (aM I) ∧ (∀ c, ¬ (c = 78 ∨ (80 ≤ c ∧ c ≤ 82) ∨ c = 86 ∨ c = 87 ∨ c = 97 ∨ c = 98 ∨ c = 115 ∨ c = 116) → J c = I c) ∧ (∀ j, j ≠ 0 ∧ j ≠ 26 → J 78 j = I 78 j) ∧ ∀ s : Nat, (I 78 9).toInt ≤ (s : Int) → J 86 s = I 86 s ∧ J 87 s = I 87 s := by
  obtain ⟨A, hA⟩ : ∃ A, A = aM I := ⟨_, rfl⟩
  obtain ⟨J1, x1, y1, z1, u1⟩ := e_leaveM hw hc5 ht
  rw [← hA] at hw y1 ⊢
  have h1 := Wh_lv (C := isCb A) (S := snA A) (t := t) hw
  obtain ⟨A1, hA1⟩ : ∃ A1, A1 = lvA (isCb A) (snA A) t A := ⟨_, rfl⟩
  rw [← hA1] at h1 y1
  have j178 : J1 78 = I 78 := z1 78 (by omega)
  obtain ⟨J3, x3, y3, z3, u3, v3⟩ := e_moveM (I := J1) (t := t) (by rw [y1]; exact h1) ht (by rw [j178]; exact u1)
  rw [y1] at y3
  rw [j178] at u3 v3
  have h3 := Wh_rd (t := t) h1
  obtain ⟨A2, hA2⟩ : ∃ A2, A2 = rdA t A1 := ⟨_, rfl⟩
  rw [← hA2] at h3 y3
  have j383 : J3 83 = I 83 := by rw [z3 83 (by omega), z1 83 (by omega)]
  obtain ⟨J4, x4, y4, z4, v4⟩ := e_ride (I := J3) (t := t) (by rw [y3]; exact h3) (fun z hz => by rw [j383, u3 0 (by decide)]; exact hc5 z hz) ht
  have s4 : snA A2 = snA A := sn_congr (by rw [hA2, rdA_0 (by decide), hA1, lvA_o (by decide)]) (by rw [hA2, rdA_o (by decide), hA1, lvA_o (by decide)])
  have n5 : A2 0 5 = A 0 5 := by rw [hA2, rdA_0 (by decide), hA1, lvA_o (by decide)]
  rw [y3, s4, n5] at y4
  rw [u3 9 (by decide)] at v4
  have j478 : J4 78 = J3 78 := z4 78 (by omega)
  obtain ⟨J5, hJ5⟩ : ∃ J5, J5 = fc_wI J4 78 0 (J4 78 0 + 1) := ⟨_, rfl⟩
  have hB := Wh_bd (S := snA A) (t := t) h3
  rw [n5] at hB
  have y5 : aM J5 = tkA (bdA (snA A) t A2 (cn (A 0 5))) := by
    rw [hJ5, mw0_0, y4]
    have e : J4 78 0 = bdA (snA A) t A2 (cn (A 0 5)) 0 0 := by rw [← y4]; rfl
    rw [e]
    rfl
  have c5 : ∀ c, ¬ (c = 78 ∨ (80 ≤ c ∧ c ≤ 82) ∨ c = 86 ∨ c = 87 ∨ c = 97 ∨ c = 98 ∨ c = 115 ∨ c = 116) → J5 c = I c := fun c hc => by
    rw [hJ5, fc_wI_lo (by omega), z4 c (by omega), z3 c (by omega), z1 c (by omega)]
  have d5 : ∀ j, j ≠ 0 ∧ j ≠ 26 → J5 78 j = I 78 j := fun j hj => by
    rw [hJ5, fc_wI_at, if_neg hj.1, j478, u3 j hj.2]
  have a5 : A 0 5 = I 78 19 := by rw [hA]; rfl
  have a15 : A 15 = I 94 := by rw [hA]; rfl
  have a3 : A 0 3 = I 78 9 := by rw [hA]; rfl
  have j94 : J5 94 = I 94 := c5 94 (by omega)
  have j97 : J5 97 = bdA (snA A) t A2 (cn (A 0 5)) 18 := by
    rw [hJ5, fc_wI_lo (by decide), ← y4]
    rfl
  have b00 : bdA (snA A) t A2 (cn (A 0 5)) 0 0 = A 0 0 := by rw [bdA_o (by decide), hA2, rdA_0 (by decide), hA1, lvA_o (by decide)]
  have j500 : J5 78 0 = A 0 0 + 1 := by
    rw [hJ5, fc_wI_at, if_pos rfl, j478, u3 0 (by decide), hA]
    rfl
  obtain ⟨⟨w1, w2, w3, w4⟩, _⟩ := hw.1
  have ep : (A 0 0 + 1).toInt = (A 0 0).toInt + 1 := i_add (by rw [kt_1]; omega) (by rw [kt_1]; omega)
  obtain ⟨J6, x6, y6, z6, v6⟩ := e_freeM (I := J5) (by rw [d5 19 (by decide), ← a5]; exact hw.1.2.2.2.2.1) (by rw [j500, ep]; omega) (fun b hb => by
    rw [d5 19 (by decide), ← a5] at hb
    obtain ⟨b0, b1, b2, _⟩ := bus_at hw hb
    have q := (hB.2.2.1 b b0).2.1
    rw [b00] at q
    rw [j94, ← a15, d5 9 (by decide), ← a3, j97, j500, ep]
    exact ⟨⟨b2.1, b2.2.1, b2.2.2⟩, by omega⟩)
  rw [y5, d5 19 (by decide), ← a5] at y6
  rw [d5 9 (by decide)] at v6
  refine ⟨J6, ?_, ?_, fun c hc => ?_, fun j hj => ?_, fun s hs => ?_⟩
  · unfold f_X11_step
    rw [x1, fq_usome, x3, fq_usome, x4, fq_usome]
    simp only [fq_l]
    rw [← hJ5, x6]
  · rw [y6, hA2, hA1]
    rfl
  · rw [z6 c (by omega), c5 c hc]
  · rw [z6 78 (by omega), d5 j hj]
  · obtain ⟨q1, q2⟩ := v6 s hs
    rw [q1, q2, hJ5, fc_wI_lo (by decide), fc_wI_lo (by decide), z4 86 (by omega), v3 s hs, z1 86 (by omega), v4 s hs, z3 87 (by omega), z1 87 (by omega)]
    exact ⟨rfl, rfl⟩
