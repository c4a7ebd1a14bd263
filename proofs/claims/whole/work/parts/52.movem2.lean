/-! ===== roads: the reference's loops ===== -/
set_option maxHeartbeats 4000000 in
theorem e_moveM {I : fc_I} {t : Int32} (hw : Wh (aM I)) (ht : 0 ≤ t.toInt ∧ t.toInt ≤ 2) (hu : ∀ z, z < cn (I 78 2) → I 116 z = 0) : ∃ J, f_X11_move I t = some J ∧ aM J = rdA t (aM I) ∧ (∀ c, ¬ (c = 78 ∨ c = 81 ∨ c = 86 ∨ c = 116) → J c = I c) ∧ (∀ j, j ≠ 26 → J 78 j = I 78 j) ∧ ∀ s : Nat, (I 78 9).toInt ≤ (s : Int) → J 86 s = I 86 s := by
  obtain ⟨A, hA⟩ : ∃ A, A = aM I := ⟨_, rfl⟩
  have a00 : A 0 0 = I 78 0 := by rw [hA]; rfl
  have a02 : A 0 2 = I 78 2 := by rw [hA]; rfl
  have a03 : A 0 3 = I 78 9 := by rw [hA]; rfl
  have a04 : A 0 4 = I 78 13 := by rw [hA]; rfl
  have a10 : A 10 = I 89 := by rw [hA]; rfl
  have a11 : A 11 = I 90 := by rw [hA]; rfl
  have a6 : A 6 = I 84 := by rw [hA]; rfl
  have hW := hw
  rw [← hA] at hw ⊢
  have w0 := hw.1
  obtain ⟨⟨w1, w2, w3, w4⟩, ⟨w5, w6⟩, ⟨w7, w8⟩, ⟨w9, w10⟩, _⟩ := w0
  have ez := cn_int (x := A 0 4) w9
  have ez2 := cn_int (x := A 0 2) w5
  obtain ⟨R, hR⟩ : ∃ R, R = cn (A 0 4) := ⟨_, rfl⟩
  obtain ⟨u, hu0⟩ : ∃ u, u = I 116 := ⟨_, rfl⟩
  rw [← a02, ← hu0] at hu
  rw [← a03]
  have last : ∀ J : fc_I, aM J = rdQ t A R → J 116 = upA t A u R → (∀ c, ¬ (c = 78 ∨ c = 81 ∨ c = 86 ∨ c = 116) → J c = I c) → (∀ j, j ≠ 26 → J 78 j = I 78 j) → (∀ s : Nat, (A 0 3).toInt ≤ (s : Int) → J 86 s = I 86 s) → ∃ K, f_X11_move_176 4000 0 J = some K ∧ (aM K = rdA t A ∧ (∀ c, ¬ (c = 78 ∨ c = 81 ∨ c = 86 ∨ c = 116) → K c = I c) ∧ (∀ j, j ≠ 26 → K 78 j = I 78 j) ∧ ∀ s : Nat, (A 0 3).toInt ≤ (s : Int) → K 86 s = I 86 s) := fun J p1 p2 p3 p4 p5 => by
    have jc : J 81 = dnA t A R := by
      have q := congrFun p1 3
      rw [show aM J 3 = J 81 from rfl] at q
      rw [q]
      funext z
      unfold rdQ
      simp
    obtain ⟨r, h1, h2⟩ := lpm1_R (B := f_X11_move_176_B) (cn (A 0 2)) (by omega) (fun n K => aM K = (fun r k => if r = 3 then (if k < n then dnA t A R k + upA t A u R k else dnA t A R k) else rdQ t A R r k) ∧ (∀ c, c ≠ 81 → K c = J c)) (fun K => aM K = (fun r k => if r = 3 then (if k < cn (A 0 2) then dnA t A R k + upA t A u R k else dnA t A R k) else rdQ t A R r k) ∧ (∀ c, c ≠ 81 → K c = J c)) (fun k i n K hi hn hP => by
      obtain ⟨q1, q2⟩ := hP
      have ec : cn i = n := cn_eq hi
      have kc : K 81 n = dnA t A R n := by
        have q := congrFun (congrFun q1 3) n
        rw [show aM K 3 n = K 81 n from rfl] at q
        rw [q]
        simp
      unfold f_X11_move_176_B
      simp only [fq_l]
      rw [q2 78 (by decide), p4 2 (by decide), ← a02, if_pos (by omega), fq_gp ⟨by omega, by omega⟩, fq_gp ⟨by omega, by omega⟩, fq_gp ⟨by omega, by omega⟩, ec, kc, q2 116 (by decide), p2]
      refine ⟨_, ⟨?_, fun c hc => ?_⟩, rfl⟩
      · rw [mw_81, q1]
        funext r k
        unfold fc_wI
        by_cases h3 : r = 3
        · subst h3
          by_cases hk : k = n
          · subst hk
            simp
          · by_cases hl : k < n
            · simp [hk, hl, Nat.lt_succ_of_lt hl]
            · simp [hk, hl, show ¬ k < n + 1 by omega]
        · simp [h3]
      · rw [fc_wI_lo hc]
        exact q2 c hc) (fun k i K hi hP => by
      obtain ⟨q1, q2⟩ := hP
      refine ⟨K, ⟨q1, q2⟩, ?_⟩
      unfold f_X11_move_176_B
      rw [q2 78 (by decide), p4 2 (by decide), ← a02, if_neg (by omega)]) 4000 0 0 J kt_0 (by omega) (by omega) ⟨by
        rw [p1]
        funext r k
        by_cases h3 : r = 3
        · subst h3
          unfold rdQ
          simp
        · simp [h3], fun _ _ => rfl⟩
    obtain ⟨q1, q2⟩ := h1
    refine ⟨r, h2, ?_, fun c hc => ?_, fun j hj => ?_, fun s hs => ?_⟩
    · rw [q1]
      unfold rdA
      rw [← hR]
      funext r k
      unfold rdP rdQ
      by_cases h3 : r = 3
      · subst h3
        by_cases hk : k < cn (A 0 2)
        · simp [hk, cr_dn (t := t) (A := A) (u := u) (k := k) (hu k hk) R]
        · have q := cr_hi (t := t) hw (k := k) (by omega) R (by omega)
          simp [hk, q.1, q.2]
      · simp [h3]
    · rw [q2 c (by omega)]
      exact p3 c hc
    · rw [q2 78 (by decide)]
      exact p4 j hj
    · rw [q2 86 (by decide)]
      exact p5 s hs
  obtain ⟨r, h1, h2⟩ := lpm1_R (B := f_X11_move_2_B t) R (by omega) (fun n J => aM J = rdQ t A n ∧ J 116 = upA t A u n ∧ (∀ c, ¬ (c = 78 ∨ c = 81 ∨ c = 86 ∨ c = 116) → J c = I c) ∧ (∀ j, j ≠ 26 → J 78 j = I 78 j) ∧ ∀ s : Nat, (A 0 3).toInt ≤ (s : Int) → J 86 s = I 86 s) (fun K => aM K = rdA t A ∧ (∀ c, ¬ (c = 78 ∨ c = 81 ∨ c = 86 ∨ c = 116) → K c = I c) ∧ (∀ j, j ≠ 26 → K 78 j = I 78 j) ∧ ∀ s : Nat, (A 0 3).toInt ≤ (s : Int) → K 86 s = I 86 s) (fun k i n J hi hn hP => by
    obtain ⟨p1, p2, p3, p4, p5⟩ := hP
    obtain ⟨g1, ⟨g2, g3, g4⟩, g5, g6⟩ := wr_go hw (n := n) (by omega)
    have ec : cn i = n := cn_eq hi
    have j89 : J 89 = A 10 := (p3 89 (by omega)).trans a10.symm
    have j90 : J 90 = A 11 := (p3 90 (by omega)).trans a11.symm
    have j84 : J 84 = A 6 := (p3 84 (by omega)).trans a6.symm
    have jc : J 81 = dnA t A n := by
      have q := congrFun p1 3
      rw [show aM J 3 = J 81 from rfl] at q
      rw [q]
      funext z
      unfold rdQ
      simp
    have js : J 86 = shA t A n := by
      have q := congrFun p1 8
      rw [show aM J 8 = J 86 from rfl] at q
      rw [q]
      funext z
      unfold rdQ
      simp
    have jr : ∀ s, J 85 s - J 86 s - J 87 s = rmA t A n s := fun s => by
      have q := congrFun (congrFun p1 7) s
      rw [show aM J 7 s = J 85 s - J 86 s - J 87 s from rfl] at q
      rw [q]
      unfold rdQ
      simp
    have jo : J 78 26 = ouA t A n := by
      have q := congrFun (congrFun p1 0) 11
      rw [show aM J 0 11 = J 78 26 from rfl] at q
      rw [q]
      unfold rdQ
      simp
    have hop : f_X11_canTake J i t (J 78 0) = some (opA t A n) := by
      have q := e_openM (I := I) (x := i) (t := t) hW (by rw [← a04]; omega) ht
      have e : f_X11_canTake J i t (J 78 0) = f_X11_canTake I i t (I 78 0) := by
        unfold f_X11_canTake f_X11_canTake_43 f_X11_canTake_79 f_X11_canTake_116 f_X11_isWet
        rw [p3 79 (by omega), p3 106 (by omega), p3 107 (by omega), p3 88 (by omega), p3 89 (by omega), p3 90 (by omega), p3 91 (by omega), p3 92 (by omega), p4 0 (by decide)]
      rw [e, q, ec, ← hA]
    unfold f_X11_move_2_B f_X11_move_114
    simp only [fq_l, kt_10, kt_20]
    rw [p4 13 (by decide), ← a04, if_pos (by omega), fq_gp ⟨by omega, by omega⟩, ec, j89, fq_gp ⟨g2, g4⟩, j84, hi]
    by_cases c : (A 6 (cn (A 10 n))).toInt = (n : Int)
    · have dw := dn_way (t := t) hw c n (Nat.le_refl _) (by omega)
      have eb : imin (opA t A n) (A 3 (cn (A 10 n))) = baA t A n := by unfold baA; rw [if_pos c, imin_comm]
      rw [if_pos c, hop, fq_vsome, fq_gp ⟨by omega, by omega⟩, fq_gp ⟨g2, g4⟩, fq_gp ⟨by omega, by omega⟩, jc, dw, eb, j90]
      have s1 : (A 11 n - 10).toInt = (A 11 n).toInt - 10 := i_sub (by rw [show (10 : Int32).toInt = 10 from rfl]; omega) (by rw [show (10 : Int32).toInt = 10 from rfl]; omega)
      by_cases c1 : (A 11 n).toInt < 6
      · clear s1
        have em : baA t A n = mvA t A n := by unfold mvA; rw [if_neg (fun z => by have := z.1; omega)]
        have eu : upA t A u (n + 1) = upd (upA t A u n) (cn (A 11 n)) (upA t A u n (cn (A 11 n)) + mvA t A n) := by show (if _ then _ else _) = _; rw [if_pos c1]
        rw [if_pos (show (A 11 n).toInt < 10 by omega), fq_gp ⟨by omega, by omega⟩, if_neg (show ¬ (A 11 n).toInt = 20 by omega), fq_gp ⟨by omega, by omega⟩, fq_gp ⟨g5, c1⟩, fq_gp ⟨g5, c1⟩, fq_gp ⟨by omega, by omega⟩, fc_wI_lo (show (89 : Nat) ≠ 116 by decide), j89, fq_gp ⟨g2, g4⟩, fq_gp ⟨g2, g4⟩, fc_wI_lo (show (81 : Nat) ≠ 116 by decide), jc, p2, em]
        refine ⟨_, ⟨?_, ?_, fun c hc => ?_, fun j hj => ?_, fun s hs => ?_⟩, rfl⟩
        · rw [mw_81, ms_c116, p1, rdQ_go, if_pos c1]
        · rw [fc_wI_lo (by decide), fc_wI_c, p2, eu]
        · rw [fc_wI_lo (by omega), fc_wI_lo (by omega)]
          exact p3 c hc
        · rw [fc_wI_lo (by omega), fc_wI_lo (by omega)]
          exact p4 j hj
        · rw [fc_wI_lo (by omega), fc_wI_lo (by omega)]
          exact p5 s hs
      · have eu : upA t A u (n + 1) = upA t A u n := by show (if _ then _ else _) = _; rw [if_neg c1]
        by_cases c2 : isS A n
        · have c3 := c2.1
          have c4 := c2.2
          have em : imin (baA t A n) (rmA t A n (cn (A 11 n) - 10)) = mvA t A n := by unfold mvA; rw [if_pos c2]
          have hsh : (A 11 n).toInt < 10 + (A 0 3).toInt := by omega
          generalize A 11 n - 10 = y at *
          have ey : cn y = cn (A 11 n) - 10 := by
            have q1 := cn_int (x := y) (by omega)
            have q2 := cn_int (x := A 11 n) (by omega)
            omega
          have ey2 := cn_int (x := y) (by omega)
          unfold f_X11_roomLeft
          rw [if_neg (show ¬ (A 11 n).toInt < 10 by omega), fq_gp ⟨by omega, by omega⟩, if_pos (show (A 11 n).toInt < 20 by omega), fq_gp ⟨by omega, by omega⟩, fq_gp ⟨by omega, by omega⟩, fq_gp ⟨by omega, by omega⟩, fq_gp ⟨by omega, by omega⟩, fq_vsome, jr, fq_gp ⟨by omega, by omega⟩, fq_gp ⟨by omega, by omega⟩, fq_gp ⟨by omega, by omega⟩, ey, em, fq_gp ⟨by omega, by omega⟩, fc_wI_lo (show (89 : Nat) ≠ 86 by decide), j89, fq_gp ⟨g2, g4⟩, fq_gp ⟨g2, g4⟩, fc_wI_lo (show (81 : Nat) ≠ 86 by decide), jc]
          refine ⟨_, ⟨?_, ?_, fun c hc => ?_, fun j hj => ?_, fun s hs => ?_⟩, rfl⟩
          · rw [mw_81, mw_86, i_sbm, jr, p1, rdQ_go, if_neg c1, if_pos c2, js]
          · rw [fc_wI_lo (by decide), fc_wI_lo (by decide), p2, eu]
          · rw [fc_wI_lo (by omega), fc_wI_lo (by omega)]
            exact p3 c hc
          · rw [fc_wI_lo (by omega), fc_wI_lo (by omega)]
            exact p4 j hj
          · rw [fc_wI_lo (by omega), fc_wI_at, if_neg (by omega)]
            exact p5 s hs
        · clear s1
          have c3 : (A 11 n).toInt = 20 := by
            rcases g6 with q | q | q
            · omega
            · exact absurd ⟨q.1, by omega⟩ c2
            · exact q
          have em : baA t A n = mvA t A n := by unfold mvA; rw [if_neg c2]
          rw [if_neg (show ¬ (A 11 n).toInt < 10 by omega), fq_gp ⟨by omega, by omega⟩, if_neg (show ¬ (A 11 n).toInt < 20 by omega), fq_gp ⟨by omega, by omega⟩, if_pos c3, fq_gp ⟨by omega, by omega⟩, fc_wI_lo (show (89 : Nat) ≠ 78 by decide), j89, fq_gp ⟨g2, g4⟩, fq_gp ⟨g2, g4⟩, fc_wI_lo (show (81 : Nat) ≠ 78 by decide), jc, jo, em]
          refine ⟨_, ⟨?_, ?_, fun c hc => ?_, fun j hj => ?_, fun s hs => ?_⟩, rfl⟩
          · rw [mw_81, mw0_11, p1, rdQ_go, if_neg c1, if_neg c2]
          · rw [fc_wI_lo (by decide), fc_wI_lo (by decide), p2, eu]
          · rw [fc_wI_lo (by omega), fc_wI_lo (by omega)]
            exact p3 c hc
          · rw [fc_wI_lo (by omega), fc_wI_at, if_neg hj]
            exact p4 j hj
          · rw [fc_wI_lo (by omega), fc_wI_lo (by omega)]
            exact p5 s hs
    · rw [if_neg c]
      obtain ⟨s1, s2⟩ := rdQ_skip (t := t) (A := A) (u := u) (n := n) ((mvA_b (t := t) hw (r := n) (by omega)).2.2 c)
      exact ⟨J, ⟨by rw [s1]; exact p1, by rw [s2]; exact p2, p3, p4, p5⟩, rfl⟩) (fun k i J hi hP => by
    obtain ⟨p1, p2, p3, p4, p5⟩ := hP
    obtain ⟨K, k1, k2⟩ := last J p1 p2 p3 p4 p5
    refine ⟨K, k2, ?_⟩
    unfold f_X11_move_2_B
    rw [p4 13 (by decide), ← a04, if_neg (by omega), k1]) 4000 0 0 I kt_0 (by omega) (by omega) ⟨by rw [rdQ_00, hA], hu0.symm, fun _ _ => rfl, fun _ _ => rfl, fun _ _ => rfl⟩
  exact ⟨r, h2, h1⟩
