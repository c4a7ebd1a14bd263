/-! ===== setting out: the reference ===== -/
set_option maxHeartbeats 4000000 in
theorem e_leaveM {I : fc_I} {t : Int32} (hw : Wh (aM I)) (hc5 : ∀ z, z < 6 → (I 83 z).toInt ≤ (I 78 0).toInt) (ht : 0 ≤ t.toInt ∧ t.toInt ≤ 2) : ∃ J, f_X11_leave I t = some J ∧ aM J = lvA (isCb (aM I)) (snA (aM I)) t (aM I) ∧ (∀ c, ¬ (c = 80 ∨ c = 81 ∨ c = 115 ∨ c = 116) → J c = I c) ∧ ∀ z, z < cn (I 78 2) → J 116 z = 0 := by
  obtain ⟨A, hA⟩ : ∃ A, A = aM I := ⟨_, rfl⟩
  have a00 : A 0 0 = I 78 0 := by rw [hA]; rfl
  have a02 : A 0 2 = I 78 2 := by rw [hA]; rfl
  have a09 : A 0 9 = I 78 40 := by rw [hA]; rfl
  have a10 : A 0 10 = I 78 41 := by rw [hA]; rfl
  rw [← hA] at hw ⊢
  obtain ⟨⟨⟨w1, w2, w3, w4⟩, ⟨w5, w6⟩, ⟨w7, w8⟩, ⟨w9, w10⟩, ⟨w11, w12⟩, ⟨w13, w14⟩, ⟨w15, w16⟩, ⟨w17, w18⟩, ⟨w19, w20⟩, ⟨w21, w22⟩⟩, wr, wu, wz, wg, wh, wt⟩ := hw
  have ez := cn_int (x := A 0 2) w5
  obtain ⟨r, h1, h2⟩ := lpm1_R (B := f_X11_leave_2_B t) (cn (A 0 2)) (by omega) (fun n J => aM J = lvP (isCb A) (snA A) t A n ∧ (∀ c, ¬ (c = 80 ∨ c = 81 ∨ c = 115 ∨ c = 116) → J c = I c) ∧ ∀ z, z < n → J 116 z = 0) (fun r => aM r = lvA (isCb A) (snA A) t A ∧ (∀ c, ¬ (c = 80 ∨ c = 81 ∨ c = 115 ∨ c = 116) → r c = I c) ∧ ∀ z, z < cn (A 0 2) → r 116 z = 0) (fun k i n J0 hi hn hP => by
    obtain ⟨p01, p02, p03⟩ := hP
    have hn6 : n < 6 := by omega
    have ei : i = zi n := zi_of hi (by omega)
    have ec : cn i = n := cn_eq hi
    obtain ⟨J, hJ⟩ : ∃ J, J = fc_wI J0 116 n 0 := ⟨_, rfl⟩
    have p1 : aM J = lvP (isCb A) (snA A) t A n := by rw [hJ, ms_c116, p01]
    have p2 : ∀ c, ¬ (c = 80 ∨ c = 81 ∨ c = 115 ∨ c = 116) → J c = I c := fun c hc => by rw [hJ, fc_wI_lo (by omega), p02 c hc]
    have p3 : ∀ z, z < n + 1 → J 116 z = 0 := fun z hz => by
      rw [hJ, fc_wI_at]
      by_cases e : z = n
      · rw [if_pos e]
      · rw [if_neg e]
        exact p03 z (by omega)
    have j78 : J 78 = I 78 := p2 78 (by omega)
    have j83 : J 83 = I 83 := p2 83 (by omega)
    have jh : J 80 n = A 2 n := by rw [show J 80 n = aM J 2 n from rfl, p1]; exact lvP_n.1
    have jc : J 81 n = A 3 n := by rw [show J 81 n = aM J 3 n from rfl, p1]; exact lvP_n.2
    have hT : WfT (aM J) := by
      rw [p1]
      unfold WfT
      simp only [lvP_o (show (0 : Nat) ≠ 2 ∧ (0 : Nat) ≠ 3 by decide), lvP_o (show (35 : Nat) ≠ 2 ∧ (35 : Nat) ≠ 3 by decide), lvP_o (show (36 : Nat) ≠ 2 ∧ (36 : Nat) ≠ 3 by decide)]
      exact wt
    have hC : (¬ (I 83 n).toInt = -1 ∧ (I 83 n).toInt ≤ (I 78 0).toInt) ↔ isCb A n = true := by
      rw [hA]
      exact (decide_eq_true_iff).symm
    have hS : snA (aM J) n = snA A n := by
      rw [p1]
      exact snA_congr (by rw [lvP_o (by decide)]) (by rw [lvP_o (by decide)])
    have hW : wetA (aM J) t n ↔ wetA A t n := by
      rw [p1]
      unfold wetA
      rw [lvP_o (by decide), lvP_o (by decide), lvP_o (by decide)]
    have c5 := hc5 n hn6
    have skip : ∀ L : fc_I, (∀ c, c ≠ 115 → L c = J c) → lvn (isCb A) (snA A) t A n = 0 → ∃ J', (aM J' = lvP (isCb A) (snA A) t A (n + 1) ∧ (∀ c, ¬ (c = 80 ∨ c = 81 ∨ c = 115 ∨ c = 116) → J' c = I c) ∧ ∀ z, z < n + 1 → J' 116 z = 0) ∧ f_X11_leave_71 t k i L = k (i + 1) J' := fun L hL z => by
      refine ⟨L, ⟨?_, fun c hc => by rw [hL c (by omega)]; exact p2 c hc, fun z hz => by rw [hL 116 (by decide)]; exact p3 z hz⟩, ?_⟩
      · rw [lvP_0 z, ← p1]
        exact aM_scr (fun c hc => hL c (fun z => hc (by unfold scM; omega)))
      · unfold f_X11_leave_71 f_X11_leave_72
        rw [if_pos kt_0]
    have sk0 := skip J (fun _ _ => rfl)
    unfold f_X11_leave_2_B
    simp only [fq_l]
    rw [show J0 78 = I 78 from p02 78 (by omega), ← a02, if_pos (by omega), fq_gp ⟨by omega, by omega⟩, ec, ← hJ, fq_gp ⟨by omega, by omega⟩, j83, j78, kt_m1]
    by_cases c1 : (I 83 n).toInt = -1
    · rw [if_pos c1]
      exact sk0 (by unfold lvn; rw [if_neg (fun z => (hC.mpr z.1).1 c1)])
    · have c2 : isCb A n = true := hC.mp ⟨c1, c5⟩
      rw [if_neg c1, fq_gp ⟨by omega, by omega⟩, if_neg (by omega), ← j78, e_wetMA ⟨by omega, by omega⟩ ht (by rw [j78, ← a00]; omega), fq_vsome, ec]
      simp only [b2i]
      by_cases c3 : wetA A t n
      · rw [if_neg (not_not_intro (hW.mpr c3))]
        exact sk0 (by unfold lvn; rw [if_neg (fun z => z.2.1 c3)])
      · rw [if_pos (fun z => c3 (hW.mp z))]
        obtain ⟨g, hg⟩ := e_evM (I := J) (z := i) (t := t) (x1 := 1) (p := 1) hT (by rw [j78, ← a10, ← a09]; omega) (by rw [j78, ← a09]; omega) ⟨by omega, by omega⟩ ht (by rw [j78, ← a00]; omega) (by rw [j83, j78, ec]; exact c5) kt_1 (by omega)
        rw [ec, hS, p1, ei, lv_ev hn6, ← ei] at hg
        rw [hg, fq_bsome]
        have l1 : ∀ c, c ≠ 115 → (stc J 115 g) c = J c := fun c hc => stc_ne hc
        by_cases c4 : (evA A (snA A n) t i 1).toInt = 0
        · rw [if_pos c4]
          unfold f_X11_leave_72
          rw [if_neg (by decide)]
          obtain ⟨g2, hg2⟩ := e_evM (I := stc J 115 g) (z := i) (t := t) (x1 := 0) (p := 0) (by rw [aM_scr (fun c hc => l1 c (fun z => hc (by unfold scM; omega)))]; exact hT) (by rw [l1 78 (by decide), j78, ← a10, ← a09]; omega) (by rw [l1 78 (by decide), j78, ← a09]; omega) ⟨by omega, by omega⟩ ht (by rw [l1 78 (by decide), j78, ← a00]; omega) (by rw [l1 83 (by decide), l1 78 (by decide), j83, j78, ec]; exact c5) kt_0 (by omega)
          rw [aM_scr (I := J) (fun c hc => l1 c (fun z => hc (by unfold scM; omega))), ec, hS, p1, ei, lv_ev hn6, ← ei, l1 78 (by decide)] at hg2
          rw [l1 78 (by decide), hg2, fq_bsome]
          obtain ⟨L, hL⟩ : ∃ L, L = stc (stc J 115 g) 115 g2 := ⟨_, rfl⟩
          have l2 : ∀ c, c ≠ 115 → L c = J c := fun c h => by rw [hL, stc_ne h, stc_ne h]
          have lX : aM L = lvP (isCb A) (snA A) t A n := by
            rw [← p1]
            exact aM_scr (fun c hc => l2 c (fun z => hc (by unfold scM; omega)))
          have lh : L 80 n = A 2 n := by rw [l2 80 (by omega), jh]
          have lc : ∀ x, (fc_wI L 80 n x) 81 n = A 3 n := fun x => by rw [fc_wI_lo (by decide), l2 81 (by decide), jc]
          have ev : (A 2 n * imax 0 (imin 100 (evA A (snA A n) t i 0))) / 100 = lvn (isCb A) (snA A) t A n := by
            unfold lvn
            rw [if_pos ⟨c2, c3, by rw [← ei]; exact c4⟩, ← ei]
          rw [← hL]
          simp only [fq_l, ec, lh, ev, lc]
          rw [fq_gp ⟨by omega, by omega⟩, fq_gp ⟨by omega, by omega⟩, fq_gp ⟨by omega, by omega⟩, fq_gp ⟨by omega, by omega⟩, fq_gp ⟨by omega, by omega⟩]
          refine ⟨_, ⟨?_, fun c hc => ?_, fun z hz => ?_⟩, rfl⟩
          · rw [mw_81, mw_80, lX, lvP_S]
          · rw [fc_wI_lo (by omega), fc_wI_lo (by omega), l2 c (by omega)]
            exact p2 c hc
          · rw [fc_wI_lo (by decide), fc_wI_lo (by decide), l2 116 (by decide)]
            exact p3 z hz
        · rw [if_neg c4]
          exact skip _ l1 (by unfold lvn; rw [if_neg (fun z => c4 (by rw [ei]; exact z.2.2))])) (fun k i J hi hP => by
    obtain ⟨p1, p2, p3⟩ := hP
    refine ⟨J, ⟨p1, p2, p3⟩, ?_⟩
    unfold f_X11_leave_2_B
    rw [p2 78 (by omega), ← a02, if_neg (by omega)]) 4000 0 0 I kt_0 (by omega) (by omega) ⟨by rw [lvP_z, hA], fun _ _ => rfl, fun z hz => absurd hz (by omega)⟩
  rw [← a02]
  exact ⟨r, h2, h1⟩
