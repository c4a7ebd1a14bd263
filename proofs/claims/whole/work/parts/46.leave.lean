/-! ===== setting out: both sides ===== -/
theorem evA_congr {A B : fc_I} {s t z : Int32} {p : Nat} (h0 : B 0 0 = A 0 0) (h10 : B 0 10 = A 0 10) (h1 : B 1 (cn z) = A 1 (cn z)) (h31 : B 31 = A 31) (h2 : B 2 (cn z) = A 2 (cn z)) (h3 : B 3 (cn z) = A 3 (cn z)) (h35 : B 35 = A 35) (h36 : B 36 = A 36) : evA B s t z p = evA A s t z p := by
  unfold evA
  have e : fcA B s t z = fcA A s t z := by
    unfold fcA
    rw [h0, h1, h31, h2, h3]
  rw [e, h10, h35, h36]
theorem lvP_S {C : Nat → Bool} {S : Nat → Int32} {t : Int32} {A : fc_I} {n : Nat} : lvP C S t A (n + 1) = fc_wI (fc_wI (lvP C S t A n) 2 n (A 2 n - lvn C S t A n)) 3 n (A 3 n + lvn C S t A n) := by
  funext r k
  unfold lvP fc_wI
  by_cases h2 : r = 2
  · subst h2
    by_cases hk : k = n
    · subst hk
      simp
    · by_cases hl : k < n
      · simp [hk, hl, Nat.lt_succ_of_lt hl]
      · simp [hk, hl, show ¬ k < n + 1 by omega]
  · by_cases h3 : r = 3
    · subst h3
      by_cases hk : k = n
      · subst hk
        simp
      · by_cases hl : k < n
        · simp [hk, hl, Nat.lt_succ_of_lt hl]
        · simp [hk, hl, show ¬ k < n + 1 by omega]
    · simp [h2, h3]
theorem lvP_0 {C : Nat → Bool} {S : Nat → Int32} {t : Int32} {A : fc_I} {n : Nat} (h : lvn C S t A n = 0) : lvP C S t A (n + 1) = lvP C S t A n := by
  rw [lvP_S, h, Int32.sub_zero, Int32.add_zero]
  have e2 : A 2 n = lvP C S t A n 2 n := by unfold lvP; simp
  have e3 : A 3 n = lvP C S t A n 3 n := by unfold lvP; simp
  rw [fc_wI_id e2, fc_wI_id e3]
theorem lvP_o {C : Nat → Bool} {S : Nat → Int32} {t : Int32} {A : fc_I} {n r : Nat} (h : r ≠ 2 ∧ r ≠ 3) : lvP C S t A n r = A r := by
  funext k
  unfold lvP
  rw [if_neg h.1, if_neg h.2]
theorem lvP_n {C : Nat → Bool} {S : Nat → Int32} {t : Int32} {A : fc_I} {n : Nat} : lvP C S t A n 2 n = A 2 n ∧ lvP C S t A n 3 n = A 3 n := by
  unfold lvP
  simp
theorem lvP_z {C : Nat → Bool} {S : Nat → Int32} {t : Int32} {A : fc_I} : lvP C S t A 0 = A := by
  funext r k
  unfold lvP
  by_cases h2 : r = 2
  · subst h2; simp
  · by_cases h3 : r = 3
    · subst h3; simp
    · simp [h2, h3]
theorem lv_ev {C : Nat → Bool} {S : Nat → Int32} {t s : Int32} {A : fc_I} {n p : Nat} (hn : n < 6) : evA (lvP C S t A n) s t (zi n) p = evA A s t (zi n) p := by
  have e := zi_cn (n := n) (by omega)
  refine evA_congr ?_ ?_ ?_ ?_ ?_ ?_ ?_ ?_
  · rw [lvP_o (by decide)]
  · rw [lvP_o (by decide)]
  · rw [lvP_o (by decide)]
  · rw [lvP_o (by decide)]
  · rw [e]; exact lvP_n.1
  · rw [e]; exact lvP_n.2
  · rw [lvP_o (by decide)]
  · rw [lvP_o (by decide)]
theorem snA_congr {A B : fc_I} {z : Nat} (h0 : B 0 0 = A 0 0) (h5 : B 5 z = A 5 z) : snA B z = snA A z := by
  unfold snA
  rw [h0, h5]
theorem e_isCalled {f : Nat} {I : fc_I} {x : Int32} (hx : 0 ≤ x.toInt ∧ x.toInt < 6) : f_X2_isCalled f I x = some (if isC (aX f I) (cn x) then 1 else 0) := by
  have e0 : aX f I 0 0 = I f 9 := rfl
  have e5 : aX f I 5 (cn x) = I (f + 4) (cn x) := rfl
  unfold f_X2_isCalled isC
  rw [e0, e5, fq_gp ⟨hx.1, by omega⟩, kt_m1]
  by_cases c1 : (I (f + 4) (cn x)).toInt = -1
  · rw [if_pos c1, if_neg (fun z => z.1 c1)]
  · rw [if_neg c1, fq_gp ⟨hx.1, by omega⟩]
    by_cases c2 : (I f 9).toInt < (I (f + 4) (cn x)).toInt
    · rw [if_pos c2, if_neg (fun z => by omega)]
    · rw [if_neg c2, if_pos ⟨c1, by omega⟩]
theorem e_wetXA {f : Nat} {I : fc_I} {x t : Int32} (hx : 0 ≤ x.toInt ∧ x.toInt < 6) (ht : 0 ≤ t.toInt ∧ t.toInt ≤ 2) (hh : 0 ≤ (I f 9).toInt ∧ (I f 9).toInt ≤ 60) : f_X4_isWet I x t (I f 9) = some (if wetA (aX f I) t (cn x) then 1 else 0) := by
  have e0 : aX f I 0 0 = I f 9 := rfl
  have e1 : aX f I 1 (cn x) = I 2 (cn x) := rfl
  have e2 := (wi_X (f := f) (I := I) ht hh).2
  rw [e_wetX, fq_gp ⟨ht.1, by omega⟩, fq_gp ⟨hh.1, by omega⟩, fq_gp ⟨hx.1, by omega⟩]
  unfold wetA
  rw [e0, e1, e2]
theorem e_wetMA {I : fc_I} {x t : Int32} (hx : 0 ≤ x.toInt ∧ x.toInt < 6) (ht : 0 ≤ t.toInt ∧ t.toInt ≤ 2) (hh : 0 ≤ (I 78 0).toInt ∧ (I 78 0).toInt ≤ 60) : f_X11_isWet I x t (I 78 0) = some (if wetA (aM I) t (cn x) then 1 else 0) := by
  have e0 : aM I 0 0 = I 78 0 := rfl
  have e1 : aM I 1 (cn x) = I 79 (cn x) := rfl
  obtain ⟨l1, l2, l3, l4⟩ := wi_M (I := I) ht hh
  rw [e_wetM, fq_gp ⟨by omega, by omega⟩, fq_gp ⟨hx.1, by omega⟩, l2]
  unfold wetA
  rw [e0, e1, l4]
set_option maxHeartbeats 4000000 in
theorem e_setOut {f : Nat} (hf : f = 45 ∨ f = 58) {I : fc_I} {t : Int32} (hw : Wh (aX f I)) (ht : 0 ≤ t.toInt ∧ t.toInt ≤ 2) : ∃ J, f_X4_setOut f I t = some J ∧ aX f J = lvA (isCb (aX f I)) (snA (aX f I)) t (aX f I) ∧ ∀ c, ¬ (c = f + 1 ∨ c = f + 2 ∨ c = 42 ∨ c = 55) → J c = I c := by
  obtain ⟨A, hA⟩ : ∃ A, A = aX f I := ⟨_, rfl⟩
  have a00 : A 0 0 = I f 9 := by rw [hA]; rfl
  have a02 : A 0 2 = I 1 2 := by rw [hA]; rfl
  have a09 : A 0 9 = I 31 7 := by rw [hA]; rfl
  have a10 : A 0 10 = I 31 8 := by rw [hA]; rfl
  rw [← hA] at hw ⊢
  obtain ⟨⟨⟨w1, w2, w3, w4⟩, ⟨w5, w6⟩, ⟨w7, w8⟩, ⟨w9, w10⟩, ⟨w11, w12⟩, ⟨w13, w14⟩, ⟨w15, w16⟩, ⟨w17, w18⟩, ⟨w19, w20⟩, ⟨w21, w22⟩⟩, wr, wu, wz, wg, wh, wt⟩ := hw
  have ez := cn_int (x := A 0 2) w5
  obtain ⟨r, h1, h2⟩ := lpm1_R (B := f_X4_setOut_2_B f t) (cn (A 0 2)) (by omega) (fun n J => aX f J = lvP (isCb A) (snA A) t A n ∧ ∀ c, ¬ (c = f + 1 ∨ c = f + 2 ∨ c = 42 ∨ c = 55) → J c = I c) (fun r => aX f r = lvA (isCb A) (snA A) t A ∧ ∀ c, ¬ (c = f + 1 ∨ c = f + 2 ∨ c = 42 ∨ c = 55) → r c = I c) (fun k i n J hi hn hP => by
    obtain ⟨p1, p2⟩ := hP
    have hn6 : n < 6 := by omega
    have ei : i = zi n := zi_of hi (by omega)
    have ec : cn i = n := cn_eq hi
    have j1 : J 1 = I 1 := p2 1 (by omega)
    have j31 : J 31 = I 31 := p2 31 (by omega)
    have jf : J f = I f := p2 f (by omega)
    have jh : J (f + 1) n = A 2 n := by rw [show J (f + 1) n = aX f J 2 n from rfl, p1]; exact lvP_n.1
    have jc : J (f + 2) n = A 3 n := by rw [show J (f + 2) n = aX f J 3 n from rfl, p1]; exact lvP_n.2
    have hT : WfT (aX f J) := by
      rw [p1]
      unfold WfT
      simp only [lvP_o (show (0 : Nat) ≠ 2 ∧ (0 : Nat) ≠ 3 by decide), lvP_o (show (35 : Nat) ≠ 2 ∧ (35 : Nat) ≠ 3 by decide), lvP_o (show (36 : Nat) ≠ 2 ∧ (36 : Nat) ≠ 3 by decide)]
      exact wt
    have hC : isC (aX f J) n ↔ isCb A n = true := by
      rw [p1]
      unfold isCb isC
      rw [lvP_o (by decide), lvP_o (by decide)]
      exact (decide_eq_true_iff).symm
    have hS : snA (aX f J) n = snA A n := by
      rw [p1]
      exact snA_congr (by rw [lvP_o (by decide)]) (by rw [lvP_o (by decide)])
    have hW : wetA (aX f J) t n ↔ wetA A t n := by
      rw [p1]
      unfold wetA
      rw [lvP_o (by decide), lvP_o (by decide), lvP_o (by decide)]
    have skip : lvn (isCb A) (snA A) t A n = 0 → ∃ J', (aX f J' = lvP (isCb A) (snA A) t A (n + 1) ∧ ∀ c, ¬ (c = f + 1 ∨ c = f + 2 ∨ c = 42 ∨ c = 55) → J' c = I c) ∧ k (i + 1) J = k (i + 1) J' := fun z => ⟨J, ⟨by rw [lvP_0 z]; exact p1, p2⟩, rfl⟩
    unfold f_X4_setOut_2_B
    simp only [fq_l]
    rw [j1, ← a02, if_pos (by omega), fq_gp ⟨by omega, by omega⟩, ec, jh]
    by_cases c1 : (A 2 n).toInt = 0
    · rw [if_pos c1]
      refine skip ?_
      unfold lvn
      rw [i_zero c1, Int32.zero_mul, Int32.zero_div]
      split <;> rfl
    · rw [if_neg c1, e_isCalled ⟨by omega, by omega⟩, fq_vsome, ec]
      simp only [b2i]
      by_cases c2 : isCb A n = true
      · rw [if_neg (not_not_intro (hC.mpr c2)), e_wetXA (by omega) ht (by rw [jf, ← a00]; omega), fq_vsome, ec]
        simp only [b2i]
        by_cases c3 : wetA A t n
        · rw [if_neg (not_not_intro (hW.mpr c3))]
          exact skip (by unfold lvn; rw [if_neg (fun z => z.2.1 c3)])
        · rw [if_pos (fun z => c3 (hW.mp z))]
          obtain ⟨K, k1, k2, k3⟩ := e_gather hf (I := J) (z := i) (t := t) ⟨by omega, by omega⟩ ht (by rw [jf, ← a00]; omega)
          rw [ec, hS] at k3
          obtain ⟨g, hg⟩ := e_evX hf (I := J) (K := K) (x1 := 1) (p := 1) hT (by rw [j31, ← a10, ← a09]; omega) (by rw [j31, ← a09]; omega) (fun c _ h => k2 c h) k3 kt_1 (by omega)
          rw [p1, ei, lv_ev hn6] at hg
          rw [← ei] at hg
          rw [k1, fq_usome, hg, fq_bsome]
          by_cases c4 : (evA A (snA A n) t (zi n) 1).toInt = 0
          · rw [← ei] at c4
            rw [if_pos c4]
            obtain ⟨g2, hg2⟩ := e_evX hf (I := J) (K := stc K 42 g) (x1 := 0) (p := 0) hT (by rw [j31, ← a10, ← a09]; omega) (by rw [j31, ← a09]; omega) (fun c h1 h2 => by rw [stc_ne h1, k2 c h2]) (fun q hq => by rw [stc_ne (by decide)]; exact k3 q hq) kt_0 (by omega)
            rw [p1, ei, lv_ev hn6] at hg2
            rw [hg2, fq_bsome]
            obtain ⟨L, hL⟩ : ∃ L, L = stc (stc K 42 g) 42 g2 := ⟨_, rfl⟩
            have l1 : ∀ c, c ≠ 42 → c ≠ 55 → L c = J c := fun c h1 h2 => by rw [hL, stc_ne h1, stc_ne h1, k2 c h2]
            have lX : aX f L = lvP (isCb A) (snA A) t A n := by
              rw [← p1]
              exact aX_scr hf (fun c hc => l1 c (fun z => hc (Or.inl z)) (fun z => hc (Or.inr (Or.inl z))))
            have lh : L (f + 1) n = A 2 n := by rw [l1 (f + 1) (by omega) (by omega), jh]
            have lc : ∀ x, (fc_wI L (f + 1) n x) (f + 2) n = A 3 n := fun x => by rw [fc_wI_lo (by omega), l1 (f + 2) (by omega) (by omega), jc]
            have ev : (A 2 n * imax 0 (imin 100 (evA A (snA A n) t (zi n) 0))) / 100 = lvn (isCb A) (snA A) t A n := by
              unfold lvn
              rw [if_pos ⟨c2, c3, by rw [← ei]; exact c4⟩]
            rw [← hL, fq_gp ⟨by omega, by omega⟩]
            simp only [ec, lh, ev, lc]
            rw [fq_gp ⟨by omega, by omega⟩, fq_gp ⟨by omega, by omega⟩, fq_gp ⟨by omega, by omega⟩, fq_gp ⟨by omega, by omega⟩]
            refine ⟨_, ⟨?_, fun c hc => ?_⟩, rfl⟩
            · rw [awf_2 hf, awf_1 hf, lX, lvP_S]
            · rw [fc_wI_lo (by omega), fc_wI_lo (by omega), l1 c (by omega) (by omega)]
              exact p2 c hc
          · rw [← ei] at c4
            rw [if_neg c4]
            refine ⟨_, ⟨?_, fun c hc => ?_⟩, rfl⟩
            · rw [lvP_0 (by unfold lvn; rw [if_neg (fun z => c4 (by rw [ei]; exact z.2.2))]), ← p1]
              exact aX_scr hf (fun c hc => by rw [stc_ne (fun z => hc (Or.inl z)), k2 c (fun z => hc (Or.inr (Or.inl z)))])
            · rw [stc_ne (by omega), k2 c (by omega)]
              exact p2 c hc
      · rw [if_pos (fun z => c2 (hC.mp z))]
        exact skip (by unfold lvn; rw [if_neg (fun z => c2 z.1)])) (fun k i J hi hP => by
    obtain ⟨p1, p2⟩ := hP
    refine ⟨J, ⟨p1, p2⟩, ?_⟩
    unfold f_X4_setOut_2_B
    rw [p2 1 (by omega), ← a02, if_neg (by omega)]) 4000 0 0 I kt_0 (by omega) (by omega) ⟨by rw [lvP_z, hA], fun _ _ => rfl⟩
  exact ⟨r, h2, h1⟩
