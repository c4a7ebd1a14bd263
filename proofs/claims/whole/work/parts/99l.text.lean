/-! ===== the method text ===== -/
/-- the tie holds again behind a text -/
theorem Rel_tx {I J : fc_I} {x : Nat} (hR : Rel I) (hx : x ≤ 6) (hcx : I 31 7 = zi x) (hX : ∀ c, c < 78 → ¬ (31 ≤ c ∧ c ≤ 43) → J c = I c) (hv : ∀ c, 34 ≤ c → c < 34 + x → J c = I c) (h40 : ∀ s, s < x → J 40 s = I 40 s) (h41 : ∀ s, s < x → J 41 s = I 41 s) (h316 : J 31 6 = 0) (h318 : J 31 8 = I 31 8) (hM : ∀ c, 78 < c → ¬ (108 ≤ c ∧ c ≤ 114) → J c = I c) (hC : mC J) (h78 : ∀ s, s < 39 ∨ s = 41 → J 78 s = I 78 s) (h7839 : J 78 39 = 0) (h109 : ∀ s, s < 320 * x → J 109 s = I 109 s) (h110 : ∀ s, s < 2 * x → J 110 s = I 110 s) (D : (J 31 7 = zi x ∧ J 78 40 = zi x) ∨ (x < 6 ∧ J 31 7 = zi (x + 1) ∧ J 78 40 = zi (x + 1) ∧ RdT x J)) : Rel J := by
  obtain ⟨he, hw, hmC, hmK⟩ := hR
  have zx := zi_int (n := x) (by omega)
  have e40 : I 78 40 = zi x := (q0_9 he).trans hcx
  have hcI : cn (I 31 7) = x := by rw [hcx, zi_cn (by omega)]
  have hcM : cn (I 78 40) = x := by rw [e40, zi_cn (by omega)]
  obtain ⟨y, hy, y1, y2, y3⟩ : ∃ y, (y = x ∨ y = x + 1 ∧ x < 6 ∧ RdT x J) ∧ J 31 7 = zi y ∧ J 78 40 = zi y ∧ y ≤ 6 := by
    rcases D with ⟨d1, d2⟩ | ⟨d0, d1, d2, d3⟩
    · exact ⟨x, Or.inl rfl, d1, d2, hx⟩
    · exact ⟨x + 1, Or.inr ⟨rfl, d0, d3⟩, d1, d2, by omega⟩
  have hcJ : cn (J 31 7) = y := by rw [y1, zi_cn (by omega)]
  have hcN : cn (J 78 40) = y := by rw [y2, zi_cn (by omega)]
  have xy : x ≤ y := by omega
  obtain ⟨p1, p2⟩ := aCo_lo hx (by omega) (by omega) hv h40 h41
  obtain ⟨q1, q2⟩ := mCo_lo (I := I) (J := J) hx (by omega) (by omega) h109 h110
  have eCo : aCo I = mCo I := congrFun he 35
  have eCm : aCm I = mCm I := congrFun he 36
  have rx := aX_tx2 hX
  have rm := aM_tx2 hM
  have e0 : aS 45 J = mS J := by
    unfold aS mS
    rw [hX 45 (by decide) (by decide), hX 15 (by decide) (by decide), hX 1 (by decide) (by decide), hX 4 (by decide) (by decide), hX 10 (by decide) (by decide), h316, h318, y1, h7839, y2, h78 0 (by decide), h78 1 (by decide), h78 2 (by decide), h78 9 (by decide), h78 13 (by decide), h78 19 (by decide), h78 28 (by decide), h78 29 (by decide), h78 41 (by decide), h78 26 (by decide), q0_0 he, q0_1 he, q0_2 he, q0_3 he, q0_4 he, q0_5 he, q0_6 he, q0_7 he, q0_10 he, q0_11 he]
  have eT : aTp J = mTp J := by
    funext k
    unfold aTp mTp
    have c0 : cn (0 : Int32) = 0 := rfl
    rw [h316, h7839, c0, if_neg (Nat.not_lt_zero _), if_neg (Nat.not_lt_zero _)]
  have e35 : aCo J = mCo J := by
    funext q
    by_cases c : q < 320 * x
    · rw [p1 q c, q1 q c, eCo]
    · rcases hy with hy | ⟨hy, x6, hd⟩
      · unfold aCo mCo
        rw [if_neg (by omega), if_neg (by omega)]
      · exact (Rd_rows x6 hd (by omega) (by omega)).1 q (by omega)
  have e36 : aCm J = mCm J := by
    funext q
    by_cases c : q < 2 * x
    · rw [p2 q c, q2 q c, eCm]
    · rcases hy with hy | ⟨hy, x6, hd⟩
      · unfold aCm mCm
        rw [if_neg (by omega), if_neg (by omega)]
      · exact (Rd_rows x6 hd (by omega) (by omega)).2.1 q (by omega)
  have rows : aX 45 J = aM J := by
    funext r
    by_cases c : r = 0 ∨ r = 32 ∨ r = 35 ∨ r = 36
    · rcases c with rfl | rfl | rfl | rfl
      · exact e0
      · exact eT
      · exact e35
      · exact e36
    · have c' : r ≠ 0 ∧ r ≠ 32 ∧ r ≠ 35 ∧ r ≠ 36 := by omega
      rw [rx r c', rm r c', he]
  refine ⟨rows, ?_, hC, ?_⟩
  · have w9 : 1 ≤ (I 31 7).toInt ∧ (I 31 7).toInt ≤ 6 := hw.1.2.2.2.2.2.2.2.2.1
    have wt : WfT (aX 45 I) := hw.2.2.2.2.2.2.2.2
    refine Wf_tx hw ?_ rx ?_ ?_ ?_
    · intro k h8 h9
      show aS 45 J k = aS 45 I k
      unfold aS
      rw [hX 45 (by decide) (by decide), hX 15 (by decide) (by decide), hX 1 (by decide) (by decide), hX 4 (by decide) (by decide), hX 10 (by decide) (by decide), h318]
      rcases (show k = 0 ∨ k = 1 ∨ k = 2 ∨ k = 3 ∨ k = 4 ∨ k = 5 ∨ k = 6 ∨ k = 7 ∨ k = 10 ∨ k = 11 ∨ 12 ≤ k by omega) with rfl | rfl | rfl | rfl | rfl | rfl | rfl | rfl | rfl | rfl | h12
      · rfl
      · rfl
      · rfl
      · rfl
      · rfl
      · rfl
      · rfl
      · rfl
      · rfl
      · rfl
      · rw [List.getD_eq_getElem?_getD, List.getD_eq_getElem?_getD, List.getElem?_eq_none h12, List.getElem?_eq_none h12]
    · show 0 ≤ (J 31 6).toInt ∧ (J 31 6).toInt ≤ 160
      rw [h316]
      decide
    · show (I 31 7).toInt ≤ (J 31 7).toInt ∧ (J 31 7).toInt ≤ 6
      rw [hcx, y1, zx, zi_int (by omega)]
      omega
    · intro t ht
      have ht' : (t : Int) < (J 31 7).toInt := ht
      rw [y1, zi_int (by omega)] at ht'
      rw [rows]
      show ∃ n m : Nat, (mCm J (2 * t)).toInt = (n : Int) ∧ (mCm J (2 * t + 1)).toInt = (m : Int) ∧ n + m ≤ 160 ∧ cdp (fun k => mCo J (320 * t + k)) n = some 1 ∧ cdp (fun k => mCo J (320 * t + 160 + k)) m = some 1
      by_cases c : t < x
      · obtain ⟨n, m, a1, a2, a3, a4, a5⟩ := wt t (by
          show (t : Int) < (I 31 7).toInt
          rw [hcx, zx]
          omega)
        rw [he] at a1 a2 a4 a5
        have a1' : (mCm I (2 * t)).toInt = (n : Int) := a1
        have a2' : (mCm I (2 * t + 1)).toInt = (m : Int) := a2
        refine ⟨n, m, ?_, ?_, a3, ?_, ?_⟩
        · rw [q2 (2 * t) (by omega)]
          exact a1'
        · rw [q2 (2 * t + 1) (by omega)]
          exact a2'
        · rw [← a4]
          exact cdp_eq n (fun k hk => q1 (320 * t + k) (by omega))
        · rw [← a5]
          exact cdp_eq m (fun k hk => q1 (320 * t + 160 + k) (by omega))
      · rcases hy with hy | ⟨hy, x6, hd⟩
        · omega
        · have tx : t = x := by omega
          rw [tx]
          exact (Rd_rows x6 hd (by omega) (by omega)).2.2
  · unfold mK
    rw [hM 86 (by decide) (by decide), hM 87 (by decide) (by decide), h78 9 (by decide)]
    exact hmK
theorem r_text {I : fc_I} (hR : Rel I) : RR (f_X10_text I) (fun I => f_X11_text I) := by
  have he := hR.1
  have w9 : 1 ≤ (I 31 7).toInt ∧ (I 31 7).toInt ≤ 6 := hR.2.1.1.2.2.2.2.2.2.2.2.1
  have w8 : 0 ≤ (I 31 6).toInt ∧ (I 31 6).toInt ≤ 160 := hR.2.1.1.2.2.2.2.2.2.2.1
  obtain ⟨x, hx⟩ : ∃ x : Nat, (I 31 7).toInt = (x : Int) := ⟨(I 31 7).toInt.toNat, by omega⟩
  obtain ⟨n, hn⟩ : ∃ n : Nat, (I 31 6).toInt = (n : Int) := ⟨(I 31 6).toInt.toNat, by omega⟩
  have ex : I 31 7 = zi x := zi_of hx (by omega)
  have en : I 31 6 = zi n := zi_of hn (by omega)
  have e40 : I 78 40 = zi x := (q0_9 he).trans ex
  have zx := zi_int (n := x) (by omega)
  have cx : cn (zi x) = x := zi_cn (by omega)
  show RR (f_X0_learn I) (fun I => f_X11_text I)
  by_cases c : x < 6
  · have n160 : n ≤ 160 := by omega
    have hv : 34 + x ≠ 43 := by omega
    have hv2 : 34 + x ≠ 32 := by omega
    have h39 : (I 78 39).toInt = (n : Int) := by rw [q0_8 he]; exact hn
    have hTp : ∀ k, k < n → I 32 k = I 108 k := fun k hk => by
      have e : aTp I k = mTp I k := congrFun (congrFun he 32) k
      unfold aTp mTp at e
      have c1 : cn (I 31 6) = n := cn_eq hn
      have c2 : cn (I 78 39) = n := cn_eq h39
      rw [c1, c2, if_pos hk, if_pos hk] at e
      exact e
    obtain ⟨r, I', _, p1, _, p3, _, _⟩ := S_read (x := x) (J := I) n160 hv hv2 c hR.2.2.1 h39 hTp
    -- the class
    have g6 : ∀ {γ : Type} (k : Option γ), fq_g 6 (zi x) k = k := fun k => fq_gp ⟨by omega, by omega⟩
    have i31 : ∀ s, I' 31 s = I 31 s := fun s => p3 31 s (by omega) (by decide)
    have eX : f_X0_learn I = if r.toInt = -1 then some (zi x, fc_wI (fc_wI (fc_wI (fc_wI I' 31 6 0) 40 x (I' 43 3)) 41 x (I' 43 2)) 31 7 (zi (x + 1))) else some (-100 - r, fc_wI I' 31 6 0) := by
      have k1 : fc_wI I' 31 6 0 31 7 = zi x := (i31 7).trans ex
      have k2 : ∀ y, fc_wI (fc_wI I' 31 6 0) 40 x y 31 7 = zi x := fun y => k1
      have k3 : ∀ y z, fc_wI (fc_wI (fc_wI I' 31 6 0) 40 x y) 41 x z 31 7 = zi x := fun y z => k1
      have k4 : fc_wI I' 31 6 0 43 3 = I' 43 3 := rfl
      have k5 : ∀ y, fc_wI (fc_wI I' 31 6 0) 40 x y 43 2 = I' 43 2 := fun _ => rfl
      unfold f_X0_learn
      rw [ex, zx, kt_6, if_pos (by omega), g6, cx, en, p1, fq_bsome, kt_m1]
      simp only [fq_l, k1, k2, k3, k4, k5, g6, cx, zi_S (n := x) (by omega)]
    by_cases cr : r.toInt = -1
    · rw [if_pos cr] at eX
      generalize hI1 : fc_wI (fc_wI (fc_wI (fc_wI I' 31 6 0) 40 x (I' 43 3)) 41 x (I' 43 2)) 31 7 (zi (x + 1)) = I1 at eX
      have f1 : ∀ c s, c ≠ 34 + x → c ≠ 43 → c ≠ 31 → (c ≠ 40 ∧ c ≠ 41 ∨ s ≠ x) → I1 c s = I c s := fun c s a1 a2 a3 a4 => by
        rw [← hI1, fc_wI_ne a3]
        have g : ∀ (Z : fc_I) (j : Nat) (y : Int32), (j = 40 ∨ j = 41) → fc_wI Z j x y c s = Z c s := fun Z j y hj => by
          by_cases cj : c = j
          · subst cj
            rw [fc_wI_at, if_neg (by omega)]
          · rw [fc_wI_ne cj]
        rw [g _ 41 _ (Or.inr rfl), g _ 40 _ (Or.inl rfl), fc_wI_ne a3]
        exact p3 c s a1 a2
      have f1c : ∀ c, 44 ≤ c → I1 c = I c := fun c hc => funext fun s => f1 c s (by omega) (by omega) (by omega) (Or.inl (by omega))
      obtain ⟨r2, I2, J2, s1, s2, s3, s4, s5⟩ := S_read (x := x) (I := I) (J := I1) n160 hv hv2 c (mC_of (fun c s hc => by rw [f1c c (by omega)]) hR.2.2.1) (by rw [f1c 78 (by decide)]; exact h39) (fun k hk => by rw [f1c 108 (by decide)]; exact hTp k hk)
      rw [p1] at s1
      have inj := Option.some.inj s1
      have r12 : r = r2 := congrArg Prod.fst inj
      have i12 : I' = I2 := congrArg Prod.snd inj
      subst r12
      subst i12
      rcases s5 with s5 | ⟨rm1, K1, K2, t1, t2, t3, t4, t5, t6, t7, t8, t9, t10⟩
      · exact absurd cr s5
      · have eM : f_X11_text I1 = some (zi x, fc_wI (fc_wI J2 78 39 0) 78 40 (zi (x + 1))) := by
          have j40 : J2 78 40 = zi x := (s4.1 78 40 (by decide) (by decide) (by decide) (Or.inl (by decide)) (Or.inr (by decide))).trans (by rw [f1c 78 (by decide)]; exact e40)
          have k1 : fc_wI J2 78 39 0 78 40 = zi x := j40
          have k2 : fc_wI (fc_wI J2 78 39 0) 78 40 (zi (x + 1)) 78 40 = zi (x + 1) := rfl
          have zs : zi (x + 1) - 1 = zi x := zi_of (by rw [i_sub (by rw [kt_1, zi_int (by omega)]; omega) (by rw [kt_1, zi_int (by omega)]; omega), kt_1, zi_int (by omega)]; omega) (by omega)
          unfold f_X11_text
          rw [f1c 78 (by decide), e40, zx, kt_6, if_neg (by omega), s2, fq_bsome]
          simp only [fq_l]
          rw [kt_m1, if_pos cr, k1, zi_S (by omega), k2, zs]
        refine ⟨_, I1, _, eX, eM, ?_⟩
        have jc : ∀ c, c ≠ 78 → c ≠ 109 → c ≠ 110 → c ≠ 113 → c ≠ 114 → fc_wI (fc_wI J2 78 39 0) 78 40 (zi (x + 1)) c = I1 c := fun c h1 h2 h3 h4 h5 => by
          rw [fc_wI_ne h1, fc_wI_ne h1]
          exact funext fun s => s4.1 c s h2 h4 h5 (Or.inl h3) (Or.inl h1)
        have v40 : I1 40 x = zi K1.length := by
          rw [← hI1]
          show fc_wI (fc_wI (fc_wI I' 31 6 0) 40 x (I' 43 3)) 41 x (I' 43 2) 40 x = _
          rw [fc_wI_ne (by decide), fc_wI_at, if_pos rfl, t2]
        have v41 : I1 41 x = zi (K1.length + K2.length) := by
          rw [← hI1]
          show fc_wI (fc_wI (fc_wI I' 31 6 0) 40 x (I' 43 3)) 41 x (I' 43 2) 41 x = _
          rw [fc_wI_at, if_pos rfl, t3]
        refine Rel_tx (x := x) hR (by omega) ex ?_ ?_ ?_ ?_ ?_ ?_ ?_ ?_ ?_ ?_ ?_ ?_ (Or.inr ⟨c, ?_, ?_, K1, K2, ?_, ?_, ?_, ?_, ?_, ?_, ?_, t8, t9, by omega⟩)
        · intro c h1 h2
          rw [jc c (by omega) (by omega) (by omega) (by omega) (by omega)]
          exact funext fun s => f1 c s (by omega) (by omega) (by omega) (Or.inl (by omega))
        · intro c h1 h2
          rw [jc c (by omega) (by omega) (by omega) (by omega) (by omega)]
          exact funext fun s => f1 c s (by omega) (by omega) (by omega) (Or.inl (by omega))
        · intro s hs
          rw [jc 40 (by decide) (by decide) (by decide) (by decide) (by decide)]
          exact f1 40 s (by omega) (by decide) (by decide) (Or.inr (by omega))
        · intro s hs
          rw [jc 41 (by decide) (by decide) (by decide) (by decide) (by decide)]
          exact f1 41 s (by omega) (by decide) (by decide) (Or.inr (by omega))
        · rw [jc 31 (by decide) (by decide) (by decide) (by decide) (by decide), ← hI1]
          rfl
        · rw [jc 31 (by decide) (by decide) (by decide) (by decide) (by decide), ← hI1]
          exact i31 8
        · intro c h1 h2
          rw [jc c (by omega) (by omega) (by omega) (by omega) (by omega)]
          exact f1c c (by omega)
        · exact mC_of (fun c s hc => by rw [jc c (by omega) (by omega) (by omega) (by omega) (by omega), f1c c (by omega)]) hR.2.2.1
        · intro s hs
          rw [fc_wI_at, if_neg (by omega), fc_wI_at, if_neg (by omega), s4.1 78 s (by decide) (by decide) (by decide) (Or.inl (by decide)) (Or.inr (by omega)), f1c 78 (by decide)]
        · rfl
        · intro s hs
          rw [fc_wI_ne (by decide), fc_wI_ne (by decide), s4.2 s (Or.inl hs), f1c 109 (by decide)]
        · intro s hs
          rw [fc_wI_ne (by decide), fc_wI_ne (by decide), s4.1 110 s (by decide) (by decide) (by decide) (Or.inr (by omega)) (Or.inl (by decide)), f1c 110 (by decide)]
        · rw [jc 31 (by decide) (by decide) (by decide) (by decide) (by decide), ← hI1]
          rfl
        · rfl
        · refine cdv_c (J := I') _ (fun s _ => ?_) t1
          rw [jc (34 + x) (by omega) (by omega) (by omega) (by omega) (by omega), ← hI1, fc_wI_ne (by omega), fc_wI_ne (by omega), fc_wI_ne (by omega), fc_wI_ne (by omega)]
        · rw [jc 40 (by decide) (by decide) (by decide) (by decide) (by decide)]
          exact v40
        · rw [jc 41 (by decide) (by decide) (by decide) (by decide) (by decide)]
          exact v41
        · exact t4
        · exact t5
        · exact cds_c (J := J2) _ (fun _ _ => rfl) t6
        · exact cds_c (J := J2) _ (fun _ _ => rfl) t7
    · rw [if_neg cr] at eX
      generalize hI1 : fc_wI I' 31 6 0 = I1 at eX
      have f1 : ∀ c s, c ≠ 34 + x → c ≠ 43 → c ≠ 31 → I1 c s = I c s := fun c s a1 a2 a3 => by
        rw [← hI1, fc_wI_ne a3]
        exact p3 c s a1 a2
      have f1c : ∀ c, 44 ≤ c → I1 c = I c := fun c hc => funext fun s => f1 c s (by omega) (by omega) (by omega)
      obtain ⟨r2, I2, J2, s1, s2, s3, s4, s5⟩ := S_read (x := x) (I := I) (J := I1) n160 hv hv2 c (mC_of (fun c s hc => by rw [f1c c (by omega)]) hR.2.2.1) (by rw [f1c 78 (by decide)]; exact h39) (fun k hk => by rw [f1c 108 (by decide)]; exact hTp k hk)
      rw [p1] at s1
      have inj := Option.some.inj s1
      have r12 : r = r2 := congrArg Prod.fst inj
      have i12 : I' = I2 := congrArg Prod.snd inj
      subst r12
      subst i12
      have eM : f_X11_text I1 = some (-100 - r, fc_wI J2 78 39 0) := by
        unfold f_X11_text
        rw [f1c 78 (by decide), e40, zx, kt_6, if_neg (by omega), s2, fq_bsome]
        simp only [fq_l]
        rw [kt_m1, if_neg cr]
      refine ⟨_, I1, _, eX, eM, ?_⟩
      have jc : ∀ c, c ≠ 78 → c ≠ 109 → c ≠ 110 → c ≠ 113 → c ≠ 114 → fc_wI J2 78 39 0 c = I1 c := fun c h1 h2 h3 h4 h5 => by
        rw [fc_wI_ne h1]
        exact funext fun s => s4.1 c s h2 h4 h5 (Or.inl h3) (Or.inl h1)
      refine Rel_tx (x := x) hR (by omega) ex ?_ ?_ ?_ ?_ ?_ ?_ ?_ ?_ ?_ ?_ ?_ ?_ (Or.inl ⟨?_, ?_⟩)
      · intro c h1 h2
        rw [jc c (by omega) (by omega) (by omega) (by omega) (by omega)]
        exact funext fun s => f1 c s (by omega) (by omega) (by omega)
      · intro c h1 h2
        rw [jc c (by omega) (by omega) (by omega) (by omega) (by omega)]
        exact funext fun s => f1 c s (by omega) (by omega) (by omega)
      · intro s hs
        rw [jc 40 (by decide) (by decide) (by decide) (by decide) (by decide)]
        exact f1 40 s (by omega) (by decide) (by decide)
      · intro s hs
        rw [jc 41 (by decide) (by decide) (by decide) (by decide) (by decide)]
        exact f1 41 s (by omega) (by decide) (by decide)
      · rw [jc 31 (by decide) (by decide) (by decide) (by decide) (by decide), ← hI1]
        rfl
      · rw [jc 31 (by decide) (by decide) (by decide) (by decide) (by decide), ← hI1]
        exact i31 8
      · intro c h1 h2
        rw [jc c (by omega) (by omega) (by omega) (by omega) (by omega)]
        exact f1c c (by omega)
      · exact mC_of (fun c s hc => by rw [jc c (by omega) (by omega) (by omega) (by omega) (by omega), f1c c (by omega)]) hR.2.2.1
      · intro s hs
        rw [fc_wI_at, if_neg (by omega), s4.1 78 s (by decide) (by decide) (by decide) (Or.inl (by decide)) (Or.inr (by omega)), f1c 78 (by decide)]
      · rfl
      · intro s hs
        rw [fc_wI_ne (by decide), s4.2 s (Or.inl hs), f1c 109 (by decide)]
      · intro s hs
        rw [fc_wI_ne (by decide), s4.1 110 s (by decide) (by decide) (by decide) (Or.inr (by omega)) (Or.inl (by decide)), f1c 110 (by decide)]
      · rw [jc 31 (by decide) (by decide) (by decide) (by decide) (by decide), ← hI1]
        exact (i31 7).trans ex
      · show J2 78 40 = zi x
        rw [s4.1 78 40 (by decide) (by decide) (by decide) (Or.inl (by decide)) (Or.inr (by decide)), f1c 78 (by decide)]
        exact e40
  · refine ⟨-4, I, I, ?_, ?_, hR⟩
    · unfold f_X0_learn
      rw [ex, zx, kt_6, if_neg (by omega)]
    · show f_X11_text I = _
      unfold f_X11_text
      rw [e40, zx, kt_6, if_pos (by omega)]
