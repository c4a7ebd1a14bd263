/-! ===== news: the reference; the op news ===== -/
set_option maxHeartbeats 4000000 in
theorem e_newsM {I : fc_I} {t f o w d : Int32} (hn : 0 ≤ (I 78 0).toInt ∧ (I 78 0).toInt ≤ 60) (hc : 0 ≤ (I 78 29).toInt ∧ (I 78 29).toInt ≤ 40) : ∃ r J, f_X11_news I t f o w d = some (r, J) ∧ (∀ c, ¬ (c = 78 ∨ (100 ≤ c ∧ c ≤ 107)) → J c = I c) ∧ (∀ j, j ≠ 29 → J 78 j = I 78 j) ∧ (¬ okN (aM I) t f o w d → r = -2 ∧ J = I) ∧ (okN (aM I) t f o w d → ¬ (I 78 29).toInt < 40 → r = -4 ∧ J = I) ∧ (okN (aM I) t f o w d → (I 78 29).toInt < 40 → r = I 78 29 ∧ aM J = nwA (aM I) t f o w d) := by
  have refuse : ∀ r, f_X11_news I t f o w d = some (r, I) → (¬ okN (aM I) t f o w d ∧ r = -2 ∨ okN (aM I) t f o w d ∧ ¬ (I 78 29).toInt < 40 ∧ r = -4) → ∃ r J, f_X11_news I t f o w d = some (r, J) ∧ (∀ c, ¬ (c = 78 ∨ (100 ≤ c ∧ c ≤ 107)) → J c = I c) ∧ (∀ j, j ≠ 29 → J 78 j = I 78 j) ∧ (¬ okN (aM I) t f o w d → r = -2 ∧ J = I) ∧ (okN (aM I) t f o w d → ¬ (I 78 29).toInt < 40 → r = -4 ∧ J = I) ∧ (okN (aM I) t f o w d → (I 78 29).toInt < 40 → r = I 78 29 ∧ aM J = nwA (aM I) t f o w d) := fun r h1 h2 => by
    refine ⟨r, I, h1, fun _ _ => rfl, fun _ _ => rfl, ?_, ?_, ?_⟩
    · rcases h2 with h2 | h2
      · exact fun _ => ⟨h2.2, rfl⟩
      · exact fun z => absurd h2.1 z
    · rcases h2 with h2 | h2
      · exact fun z => absurd z h2.1
      · exact fun _ _ => ⟨h2.2.2, rfl⟩
    · rcases h2 with h2 | h2
      · exact fun z => absurd z h2.1
      · exact fun _ z => absurd z h2.2.1
  have a00 : aM I 0 0 = I 78 0 := rfl
  have no : ∀ P : Prop, (okN (aM I) t f o w d → P) → ¬ P → ¬ okN (aM I) t f o w d := fun P h hp z => hp (h z)
  have l61 : (61 : Int64).toInt = 61 := rfl
  have l99 : (99 : Int64).toInt = 99 := rfl
  have lf : (Int32.toInt64 f + 1).toInt = f.toInt + 1 := by
    have h1 := Int32.le_toInt f
    have h2 := Int32.toInt_lt f
    rw [Int64.toInt_add, Int32.toInt_toInt64, kl_1, Int.bmod_eq_of_le (by omega) (by omega)]
  have hM : f_X11_news I t f o w d = if ¬ (0 ≤ t.toInt ∧ t.toInt ≤ 2) then some (-2, I) else if ¬ ((I 78 0).toInt ≤ f.toInt ∧ f.toInt ≤ 60) then some (-2, I) else if ¬ (f.toInt + 1 ≤ o.toInt ∧ o.toInt ≤ 61) then some (-2, I) else if ¬ (0 ≤ w.toInt ∧ w.toInt ≤ 99) then some (-2, I) else if ¬ (0 ≤ d.toInt ∧ d.toInt ≤ 99) then some (-2, I) else if (I 78 29).toInt = 40 then some (-4, I) else f_X11_news_147 t o w d 4000 f (fc_wI (fc_wI (fc_wI (fc_wI (fc_wI (fc_wI I 100 (cn (I 78 29)) t) 101 (cn (I 78 29)) f) 102 (cn (I 78 29)) o) 103 (cn (I 78 29)) w) 104 (cn (I 78 29)) d) 105 (cn (I 78 29)) (I 78 0)) := by
    unfold f_X11_news
    simp only [e_isTrack, e_isIn, fq_vsome, b2i, Int32.toInt_toInt64, kl_0, kl_60, l61, l99, lf, kt_40]
    by_cases c : (I 78 29).toInt = 40
    · simp only [if_pos c]
    · simp only [if_neg c, fq_l, fc_wI_lo (show (78 : Nat) ≠ 100 by decide), fc_wI_lo (show (78 : Nat) ≠ 101 by decide), fc_wI_lo (show (78 : Nat) ≠ 102 by decide), fc_wI_lo (show (78 : Nat) ≠ 103 by decide), fc_wI_lo (show (78 : Nat) ≠ 104 by decide)]
      have hg : ∀ y : Option (Int32 × fc_I), fq_g 40 (I 78 29) y = y := fun y => fq_gp ⟨hc.1, by omega⟩
      simp only [hg]
  by_cases ok : okN (aM I) t f o w d
  · obtain ⟨o1, o2, o3, o4, o5⟩ := ok
    rw [a00] at o2
    rw [if_neg (not_not_intro o1), if_neg (not_not_intro o2), if_neg (not_not_intro o3), if_neg (not_not_intro o4), if_neg (not_not_intro o5)] at hM
    have ok : okN (aM I) t f o w d := ⟨o1, by rw [a00]; exact o2, o3, o4, o5⟩
    by_cases c6 : (I 78 29).toInt < 40
    · rw [if_neg (by omega)] at hM
      have et := cn_int (x := t) (by omega)
      have eff := cn_int (x := f) (by omega)
      have eo := cn_int (x := o) (by omega)
      obtain ⟨K, hK⟩ : ∃ K, K = fc_wI (fc_wI (fc_wI (fc_wI (fc_wI (fc_wI I 100 (cn (I 78 29)) t) 101 (cn (I 78 29)) f) 102 (cn (I 78 29)) o) 103 (cn (I 78 29)) w) 104 (cn (I 78 29)) d) 105 (cn (I 78 29)) (I 78 0) := ⟨_, rfl⟩
      rw [← hK] at hM
      have ko : ∀ c, ¬ (100 ≤ c ∧ c ≤ 105) → K c = I c := fun c h => by
        rw [hK, fc_wI_lo (by omega), fc_wI_lo (by omega), fc_wI_lo (by omega), fc_wI_lo (by omega), fc_wI_lo (by omega), fc_wI_lo (by omega)]
      obtain ⟨r, h1, h2⟩ := lpm1_R (B := f_X11_news_147_B t o w d) (cn o) (by omega) (fun n J => cn f ≤ n ∧ (∀ c, ¬ (c = 106 ∨ c = 107) → J c = K c) ∧ (∀ h, J 106 h = if 61 * cn t + cn f ≤ h ∧ h < 61 * cn t + n then w else I 106 h) ∧ ∀ h, J 107 h = if 61 * cn t + cn f ≤ h ∧ h < 61 * cn t + n then d else I 107 h) (fun q => q.1 = I 78 29 ∧ (∀ c, ¬ (c = 78 ∨ c = 106 ∨ c = 107) → q.2 c = K c) ∧ (∀ j, q.2 78 j = if j = 29 then I 78 29 + 1 else I 78 j) ∧ (∀ h, q.2 106 h = if 61 * cn t + cn f ≤ h ∧ h < 61 * cn t + cn o then w else I 106 h) ∧ ∀ h, q.2 107 h = if 61 * cn t + cn f ≤ h ∧ h < 61 * cn t + cn o then d else I 107 h) (fun k i n J hi hn hP => by
        obtain ⟨ge, p1, p2, p3⟩ := hP
        obtain ⟨l1, l2⟩ := i_lin (a := 61) (x := t) (y := i) (A := 61) rfl et.symm hi (by omega)
        unfold f_X11_news_147_B
        simp only [fq_l]
        rw [if_pos (by omega), fq_gp ⟨by omega, by omega⟩, fq_gp ⟨by omega, by omega⟩, l2]
        refine ⟨_, ⟨by omega, fun c hc => by rw [fc_wI_lo (by omega), fc_wI_lo (by omega), p1 c hc], fun q => ?_, fun q => ?_⟩, rfl⟩
        · rw [fc_wI_lo (by omega), fc_wI_at, p2]
          by_cases e : q = 61 * cn t + n
          · rw [if_pos e, if_pos (by omega)]
          · rw [if_neg e]
            by_cases c : 61 * cn t + cn f ≤ q ∧ q < 61 * cn t + n
            · rw [if_pos c, if_pos (by omega)]
            · rw [if_neg c, if_neg (by omega)]
        · rw [fc_wI_at, fc_wI_lo (by omega), p3]
          by_cases e : q = 61 * cn t + n
          · rw [if_pos e, if_pos (by omega)]
          · rw [if_neg e]
            by_cases c : 61 * cn t + cn f ≤ q ∧ q < 61 * cn t + n
            · rw [if_pos c, if_pos (by omega)]
            · rw [if_neg c, if_neg (by omega)]) (fun k i J hi hP => by
        obtain ⟨ge, p1, p2, p3⟩ := hP
        unfold f_X11_news_147_B
        simp only [fq_l]
        rw [if_neg (by omega), p1 78 (by omega), ko 78 (by omega)]
        refine ⟨_, ⟨?_, fun c hc => by show fc_wI J 78 29 (I 78 29 + 1) c = _; rw [fc_wI_lo (by omega), p1 c (by omega)], fun j => ?_, fun h => ?_, fun h => ?_⟩, rfl⟩
        · show (fc_wI J 78 29 (I 78 29 + 1)) 78 29 - 1 = _
          rw [fc_wI_at, if_pos rfl, i_ac]
        · show fc_wI J 78 29 (I 78 29 + 1) 78 j = _
          rw [fc_wI_at, p1 78 (by omega), ko 78 (by omega)]
        · show fc_wI J 78 29 (I 78 29 + 1) 106 h = _
          rw [fc_wI_lo (by omega), p2]
        · show fc_wI J 78 29 (I 78 29 + 1) 107 h = _
          rw [fc_wI_lo (by omega), p3]) 4000 f (cn f) K eff.symm (by omega) (by omega) ⟨Nat.le_refl _, fun _ _ => rfl, fun h => by rw [ko _ (by omega), if_neg (by omega)], fun h => by rw [ko _ (by omega), if_neg (by omega)]⟩
      obtain ⟨q1, q2, q3, q4, q5⟩ := h1
      have jc : ∀ c, ¬ (c = 78 ∨ (100 ≤ c ∧ c ≤ 107)) → r.2 c = I c := fun c hc => by rw [q2 c (by omega), ko c (by omega)]
      have jn : ∀ j, j ≠ 29 → r.2 78 j = I 78 j := fun j hj => by rw [q3, if_neg hj]
      have k25 : ∀ k, r.2 100 k = if k = cn (I 78 29) then t else I 100 k := fun k => by
        rw [q2 100 (by omega), hK, fc_wI_lo (by decide), fc_wI_lo (by decide), fc_wI_lo (by decide), fc_wI_lo (by decide), fc_wI_lo (by decide), fc_wI_at]
      have k26 : ∀ k, r.2 101 k = if k = cn (I 78 29) then f else I 101 k := fun k => by
        rw [q2 101 (by omega), hK, fc_wI_lo (by decide), fc_wI_lo (by decide), fc_wI_lo (by decide), fc_wI_lo (by decide), fc_wI_at, fc_wI_lo (by decide)]
      have k27 : ∀ k, r.2 102 k = if k = cn (I 78 29) then o else I 102 k := fun k => by
        rw [q2 102 (by omega), hK, fc_wI_lo (by decide), fc_wI_lo (by decide), fc_wI_lo (by decide), fc_wI_at, fc_wI_lo (by decide), fc_wI_lo (by decide)]
      have k28 : ∀ k, r.2 103 k = if k = cn (I 78 29) then w else I 103 k := fun k => by
        rw [q2 103 (by omega), hK, fc_wI_lo (by decide), fc_wI_lo (by decide), fc_wI_at, fc_wI_lo (by decide), fc_wI_lo (by decide), fc_wI_lo (by decide)]
      have k29 : ∀ k, r.2 104 k = if k = cn (I 78 29) then d else I 104 k := fun k => by
        rw [q2 104 (by omega), hK, fc_wI_lo (by decide), fc_wI_at, fc_wI_lo (by decide), fc_wI_lo (by decide), fc_wI_lo (by decide), fc_wI_lo (by decide)]
      have k30 : ∀ k, r.2 105 k = if k = cn (I 78 29) then I 78 0 else I 105 k := fun k => by
        rw [q2 105 (by omega), hK, fc_wI_at, fc_wI_lo (by decide), fc_wI_lo (by decide), fc_wI_lo (by decide), fc_wI_lo (by decide), fc_wI_lo (by decide)]
      refine ⟨r.1, r.2, by rw [hM]; exact h2, jc, jn, fun z => absurd ok z, fun _ z => absurd c6 z, fun _ _ => ⟨q1, ?_⟩⟩
      funext row
      by_cases hr : row = 0 ∨ row = 21 ∨ row = 22 ∨ row = 23 ∨ row = 24 ∨ row = 25 ∨ row = 26 ∨ row = 30 ∨ row = 31
      · funext k
        have n7 : aM I 0 7 = I 78 29 := rfl
        unfold nwA
        rw [n7]
        rcases hr with rfl | rfl | rfl | rfl | rfl | rfl | rfl | rfl | rfl
        · have e : aM r.2 0 k = aM (fc_wI I 78 29 (I 78 29 + 1)) 0 k := by
            have e78 : r.2 78 = fc_wI I 78 29 (I 78 29 + 1) 78 := by
              funext j
              rw [q3, fc_wI_at]
            show mS r.2 k = mS (fc_wI I 78 29 (I 78 29 + 1)) k
            unfold mS
            rw [e78]
          rw [e, mw0_7, fc_wI_at]
          rfl
        · exact k25 k
        · exact k26 k
        · exact k27 k
        · exact k28 k
        · exact k29 k
        · exact k30 k
        · show mWa r.2 k = if 61 * cn t + cn f ≤ k ∧ k < 61 * cn t + cn o then w else mWa I k
          unfold mWa
          by_cases hk : k < 183
          · rw [if_pos hk, if_pos hk, q4]
          · rw [if_neg hk, if_neg hk, if_neg (by omega)]
        · show mWi r.2 k = if 61 * cn t + cn f ≤ k ∧ k < 61 * cn t + cn o then d else mWi I k
          unfold mWi
          by_cases hk : k < 183
          · rw [if_pos hk, if_pos hk, q5]
          · rw [if_neg hk, if_neg hk, if_neg (by omega)]
      · rw [nwA_o (by omega)]
        by_cases h32 : row = 32
        · subst h32
          show mTp r.2 = mTp I
          unfold mTp
          rw [jn 39 (by decide), jc 108 (by omega)]
        · by_cases h35 : row = 35
          · subst h35
            show mCo r.2 = mCo I
            unfold mCo
            rw [jn 40 (by decide), jc 109 (by omega), jc 110 (by omega)]
          · by_cases h36 : row = 36
            · subst h36
              show mCm r.2 = mCm I
              unfold mCm
              rw [jn 40 (by decide), jc 110 (by omega)]
            · exact aM_nw jc row (by omega)
    · rw [if_pos (by omega)] at hM
      exact refuse (-4) hM (Or.inr ⟨ok, c6, rfl⟩)
  · refine refuse (-2) ?_ (Or.inl ⟨ok, rfl⟩)
    rw [hM]
    by_cases d1 : 0 ≤ t.toInt ∧ t.toInt ≤ 2
    · rw [if_neg (not_not_intro d1)]
      by_cases d2 : (I 78 0).toInt ≤ f.toInt ∧ f.toInt ≤ 60
      · rw [if_neg (not_not_intro d2)]
        by_cases d3 : f.toInt + 1 ≤ o.toInt ∧ o.toInt ≤ 61
        · rw [if_neg (not_not_intro d3)]
          by_cases d4 : 0 ≤ w.toInt ∧ w.toInt ≤ 99
          · rw [if_neg (not_not_intro d4)]
            by_cases d5 : 0 ≤ d.toInt ∧ d.toInt ≤ 99
            · exact absurd ⟨d1, d2, d3, d4, d5⟩ ok
            · rw [if_pos d5]
          · rw [if_pos d4]
        · rw [if_pos d3]
      · rw [if_pos d2]
    · rw [if_pos d1]
/-- one of the news, both sides one behind the other: nothing but the count shows which -/
theorem Rel_nw {I J K : fc_I} {t f o w d : Int32} (hR : Rel I) (h1 : ∀ c, ¬ (c = 15 ∨ (18 ≤ c ∧ c ≤ 20) ∨ (22 ≤ c ∧ c ≤ 30)) → J c = I c) (h2 : aX 45 J = nwA (aX 45 I) t f o w d) (h3 : ∀ c, ¬ (c = 78 ∨ (100 ≤ c ∧ c ≤ 107)) → K c = J c) (h4 : ∀ j, j ≠ 29 → K 78 j = J 78 j) (h5 : aM K = nwA (aM J) t f o w d) (hc : (I 15 9).toInt < 40) : Rel K := by
  have jM : aM J = aM I := aM_frame (fun c hc => h1 c (by omega))
  have kX : aX 45 K = aX 45 J := aX_frame (Or.inl rfl) (fun c hc => h3 c (by omega))
  refine ⟨?_, ?_, ?_, ?_⟩
  · rw [kX, h2, h5, jM, hR.1]
  · rw [kX, h2]
    exact Wf_nw hR.2.1 hc
  · unfold mC
    rw [h3 111 (by omega), h3 112 (by omega), h1 111 (by omega), h1 112 (by omega)]
    exact hR.2.2.1
  · unfold mK
    rw [h4 9 (by decide), h3 86 (by omega), h3 87 (by omega), h1 78 (by omega), h1 86 (by omega), h1 87 (by omega)]
    exact hR.2.2.2
set_option maxHeartbeats 4000000 in
set_option maxRecDepth 100000 in
theorem r_news {I : fc_I} {x1 x2 x3 x4 x5 : Int32} (hR : Rel I) : RR (f_X10_news I x1 x2 x3 x4 x5) (fun I => f_X11_news I x1 x2 x3 x4 x5) := by
  have he := hR.1
  have hw0 : (0 ≤ (I 45 9).toInt ∧ (I 45 9).toInt ≤ (I 15 11).toInt ∧ 1 ≤ (I 15 11).toInt ∧ (I 15 11).toInt ≤ 60) ∧ (0 ≤ (I 1 2).toInt ∧ (I 1 2).toInt ≤ 6) ∧ (0 ≤ (I 1 3).toInt ∧ (I 1 3).toInt ≤ 3) ∧ (0 ≤ (I 4 5).toInt ∧ (I 4 5).toInt ≤ 14) ∧ (0 ≤ (I 10 4).toInt ∧ (I 10 4).toInt ≤ 4) ∧ (0 ≤ (I 15 10).toInt ∧ (I 15 10).toInt ≤ 2) ∧ (0 ≤ (I 15 9).toInt ∧ (I 15 9).toInt ≤ 40) ∧ (0 ≤ (I 31 6).toInt ∧ (I 31 6).toInt ≤ 160) ∧ (1 ≤ (I 31 7).toInt ∧ (I 31 7).toInt ≤ 6) ∧ (0 ≤ (I 31 8).toInt ∧ (I 31 8).toInt < (I 31 7).toInt) := hR.2.1.1
  obtain ⟨⟨w1, w2, w3, w4⟩, ⟨w5, w6⟩, ⟨w7, w8⟩, ⟨w9, w10⟩, ⟨w11, w12⟩, ⟨w13, w14⟩, ⟨w15, w16⟩, ⟨w17, w18⟩, ⟨w19, w20⟩, ⟨w21, w22⟩⟩ := hw0
  obtain ⟨r, J, a1, a2, a3, a4, a5, a6⟩ := e_hear (I := I) (t := x1) (f := x2) (o := x3) (w := x4) (d := x5) ⟨w1, by omega⟩ ⟨w15, w16⟩
  have hX : f_X10_news I x1 x2 x3 x4 x5 = some (r, J) := by
    unfold f_X10_news
    rw [a1, fq_bsome]
  have jM : aM J = aM I := aM_frame (fun c hc => a2 c (by omega))
  have j78 : J 78 = I 78 := a2 78 (by omega)
  obtain ⟨r', K, b1, b2, b3, b4, b5, b6⟩ := e_newsM (I := J) (t := x1) (f := x2) (o := x3) (w := x4) (d := x5) (by rw [j78, q0_0 he]; exact ⟨w1, by omega⟩) (by rw [j78, q0_7 he]; exact ⟨w15, w16⟩)
  rw [jM, ← he, j78, q0_7 he] at b5 b6
  rw [jM, ← he] at b4
  by_cases ok : okN (aX 45 I) x1 x2 x3 x4 x5
  · by_cases c : (I 15 9).toInt < 40
    · obtain ⟨u1, u2⟩ := a6 ok c
      obtain ⟨v1, v2⟩ := b6 ok c
      refine ⟨r, J, K, hX, ?_, Rel_nw hR a2 u2 b2 b3 (by rw [v2, jM, he]) c⟩
      show f_X11_news J x1 x2 x3 x4 x5 = _
      rw [b1, v1, u1]
    · obtain ⟨u1, u2⟩ := a5 ok c
      obtain ⟨v1, v2⟩ := b5 ok c
      refine ⟨r, J, K, hX, ?_, by rw [v2, u2]; exact hR⟩
      show f_X11_news J x1 x2 x3 x4 x5 = _
      rw [b1, v1, u1]
  · obtain ⟨u1, u2⟩ := a4 ok
    obtain ⟨v1, v2⟩ := b4 ok
    refine ⟨r, J, K, hX, ?_, by rw [v2, u2]; exact hR⟩
    show f_X11_news J x1 x2 x3 x4 x5 = _
    rw [b1, v1, u1]
