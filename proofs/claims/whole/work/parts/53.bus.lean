/-! ===== buses: the class ===== -/
theorem bd1_o {S : Nat → Int32} {t : Int32} {A : fc_I} {b r : Nat} (h : r ≠ 4 ∧ r ≠ 7 ∧ r ≠ 18 ∧ r ≠ 19) : bd1 S t A b r = A r := by
  unfold bd1
  split
  · rfl
  · rw [fc_wI_lo h.2.2.1, fc_wI_lo h.2.2.2, fc_wI_lo h.2.1, fc_wI_lo h.1]
theorem bdA_o {S : Nat → Int32} {t : Int32} {A : fc_I} {r : Nat} (h : r ≠ 4 ∧ r ≠ 7 ∧ r ≠ 18 ∧ r ≠ 19) : ∀ n, bdA S t A n r = A r
  | 0 => rfl
  | n + 1 => by
    show bd1 S t (bdA S t A n) n r = A r
    rw [bd1_o h, bdA_o h n]
theorem bdA_18 {S : Nat → Int32} {t : Int32} {A : fc_I} {b r : Nat} (hr : r = 18 ∨ r = 19) : ∀ n, n ≤ b → bdA S t A n r b = A r b
  | 0, _ => rfl
  | n + 1, h => by
    have ih := bdA_18 (S := S) (t := t) (A := A) (b := b) hr n (by omega)
    show bd1 S t (bdA S t A n) n r b = A r b
    unfold bd1
    split
    · exact ih
    · rcases hr with rfl | rfl
      · rw [fc_wI_at, if_neg (by omega), fc_wI_lo (by decide), fc_wI_lo (by decide), fc_wI_lo (by decide)]
        exact ih
      · rw [fc_wI_lo (by decide), fc_wI_at, if_neg (by omega), fc_wI_lo (by decide), fc_wI_lo (by decide)]
        exact ih
theorem bus_at {A : fc_I} (hw : Wh A) {n : Nat} (hn : (n : Int) < (A 0 5).toInt) : n < 4 ∧ (0 ≤ (A 14 n).toInt ∧ (A 14 n).toInt < (A 0 2).toInt ∧ (A 14 n).toInt < 6) ∧ (0 ≤ (A 15 n).toInt ∧ (A 15 n).toInt < (A 0 3).toInt ∧ (A 15 n).toInt < 3) ∧ (1 ≤ (A 16 n).toInt ∧ (A 16 n).toInt ≤ 99) ∧ (1 ≤ (A 17 n).toInt ∧ (A 17 n).toInt ≤ 9) := by
  obtain ⟨⟨⟨w1, w2, w3, w4⟩, ⟨w5, w6⟩, ⟨w7, w8⟩, ⟨w9, w10⟩, ⟨w11, w12⟩, _⟩, wr, wu, _⟩ := hw
  obtain ⟨a1, a2, a3⟩ := wu n (by omega)
  obtain ⟨b1, b2, b3, b4⟩ := a1 hn
  exact ⟨by omega, by omega, by omega, b3, b4⟩
/-- none are taken that aren't there -/
theorem bdA_b {S : Nat → Int32} {t : Int32} {A : fc_I} (hw : Wh A) : ∀ n : Nat, (n : Int) ≤ (A 0 5).toInt → (∀ z, z < 6 → 0 ≤ (bdA S t A n 4 z).toInt ∧ (bdA S t A n 4 z).toInt ≤ (A 4 z).toInt) ∧ ∀ s, s < 3 → 0 ≤ (bdA S t A n 7 s).toInt
  | 0, _ => ⟨fun z hz => ⟨(hw.2.2.2.1 z hz).1.2.2, Int.le_refl _⟩, fun s hs => hw.2.2.2.2.2.1.1 s hs⟩
  | n + 1, hn => by
    obtain ⟨i1, i2⟩ := bdA_b (S := S) (t := t) hw n (by omega)
    obtain ⟨b0, b1, b2, b3, b4⟩ := bus_at hw (n := n) (by omega)
    have e1 := cn_int b1.1
    have e2 := cn_int b2.1
    have o14 := bdA_o (S := S) (t := t) (A := A) (r := 14) (by decide) n
    have o15 := bdA_o (S := S) (t := t) (A := A) (r := 15) (by decide) n
    have o16 := bdA_o (S := S) (t := t) (A := A) (r := 16) (by decide) n
    show (∀ z, z < 6 → 0 ≤ (bd1 S t (bdA S t A n) n 4 z).toInt ∧ (bd1 S t (bdA S t A n) n 4 z).toInt ≤ _) ∧ ∀ s, s < 3 → 0 ≤ (bd1 S t (bdA S t A n) n 7 s).toInt
    unfold bd1
    split
    · exact ⟨i1, i2⟩
    · have j1 := i1 (cn (A 14 n)) (by omega)
      have j2 := i2 (cn (A 15 n)) (by omega)
      have em : (bdm (bdA S t A n) n).toInt ≤ (bdA S t A n 4 (cn (A 14 n))).toInt ∧ (bdm (bdA S t A n) n).toInt ≤ (bdA S t A n 7 (cn (A 15 n))).toInt ∧ 0 ≤ (bdm (bdA S t A n) n).toInt := by
        unfold bdm
        rw [o14, o15, o16]
        generalize bdA S t A n 4 (cn (A 14 n)) = x at *
        generalize bdA S t A n 7 (cn (A 15 n)) = y at *
        obtain ⟨c1, c2, c3⟩ := imin_le (x := x) (y := y)
        obtain ⟨d1, d2, d3⟩ := imin_le (x := A 16 n) (y := imin x y)
        omega
      rw [o14, o15]
      generalize bdm (bdA S t A n) n = m at *
      refine ⟨fun z hz => ?_, fun s hs => ?_⟩
      · rw [fc_wI_lo (by decide), fc_wI_lo (by decide), fc_wI_lo (by decide), fc_wI_at]
        by_cases e : z = cn (A 14 n)
        · have h9 := Int32.toInt_lt (bdA S t A n 4 (cn (A 14 n)))
          rw [if_pos e, i_sub (by omega) (by omega)]
          have := i1 z hz
          rw [e] at this ⊢
          omega
        · rw [if_neg e]
          exact i1 z hz
      · rw [fc_wI_lo (by decide), fc_wI_lo (by decide), fc_wI_at]
        by_cases e : s = cn (A 15 n)
        · have h9 := Int32.toInt_lt (bdA S t A n 7 (cn (A 15 n)))
          rw [if_pos e, i_sub (by omega) (by omega)]
          omega
        · rw [if_neg e, fc_wI_lo (by decide)]
          exact i2 s hs
theorem bd_T {S : Nat → Int32} {t : Int32} {A : fc_I} {n : Nat} (h : WfT A) : WfT (bdA S t A n) := by
  unfold WfT
  simp only [bdA_o (S := S) (t := t) (A := A) (r := 0) (by decide), bdA_o (S := S) (t := t) (A := A) (r := 35) (by decide), bdA_o (S := S) (t := t) (A := A) (r := 36) (by decide)]
  exact h
set_option maxHeartbeats 4000000 in
theorem e_board {f : Nat} (hf : f = 45 ∨ f = 58) {I : fc_I} {t : Int32} (hw : Wh (aX f I)) (ht : 0 ≤ t.toInt ∧ t.toInt ≤ 2) : ∃ J, f_X4_board f I t = some J ∧ aX f J = bdA (snA (aX f I)) t (aX f I) (cn (aX f I 0 5)) ∧ ∀ c, ¬ (c = f + 3 ∨ c = f + 5 ∨ c = f + 7 ∨ c = f + 8 ∨ c = 42 ∨ c = 55) → J c = I c := by
  obtain ⟨A, hA⟩ : ∃ A, A = aX f I := ⟨_, rfl⟩
  have a00 : A 0 0 = I f 9 := by rw [hA]; rfl
  have a05 : A 0 5 = I 10 4 := by rw [hA]; rfl
  have a09 : A 0 9 = I 31 7 := by rw [hA]; rfl
  have a10 : A 0 10 = I 31 8 := by rw [hA]; rfl
  have a14 : A 14 = I 11 := by rw [hA]; rfl
  have a15 : A 15 = I 12 := by rw [hA]; rfl
  have a16 : A 16 = I 13 := by rw [hA]; rfl
  have a17 : A 17 = I 14 := by rw [hA]; rfl
  rw [← hA] at hw ⊢
  have hW := hw
  obtain ⟨⟨⟨w1, w2, w3, w4⟩, ⟨w5, w6⟩, ⟨w7, w8⟩, ⟨w9, w10⟩, ⟨w11, w12⟩, ⟨w13, w14⟩, ⟨w15, w16⟩, ⟨w17, w18⟩, ⟨w19, w20⟩, ⟨w21, w22⟩⟩, wr, wu, wz, wg, wh, wt⟩ := hw
  have ez := cn_int (x := A 0 5) w11
  obtain ⟨r, h1, h2⟩ := lpm1_R (B := f_X4_board_2_B f t) (cn (A 0 5)) (by omega) (fun n J => aX f J = bdA (snA A) t A n ∧ ∀ c, ¬ (c = f + 3 ∨ c = f + 5 ∨ c = f + 7 ∨ c = f + 8 ∨ c = 42 ∨ c = 55) → J c = I c) (fun r => aX f r = bdA (snA A) t A (cn (A 0 5)) ∧ ∀ c, ¬ (c = f + 3 ∨ c = f + 5 ∨ c = f + 7 ∨ c = f + 8 ∨ c = 42 ∨ c = 55) → r c = I c) (fun k i n J hi hn hP => by
    obtain ⟨p1, p2⟩ := hP
    obtain ⟨b0, b1, b2, b3, b4⟩ := bus_at hW (n := n) (by omega)
    have ec : cn i = n := cn_eq hi
    have j10 : J 10 = I 10 := p2 10 (by omega)
    have j11 : J 11 = A 14 := (p2 11 (by omega)).trans a14.symm
    have j12 : J 12 = A 15 := (p2 12 (by omega)).trans a15.symm
    have j13 : J 13 = A 16 := (p2 13 (by omega)).trans a16.symm
    have j14 : J 14 = A 17 := (p2 14 (by omega)).trans a17.symm
    have j31 : J 31 = I 31 := p2 31 (by omega)
    have jf : J f = I f := p2 f (by omega)
    obtain ⟨B, hB⟩ : ∃ B, B = bdA (snA A) t A n := ⟨_, rfl⟩
    rw [← hB] at p1
    have bo : ∀ r, r ≠ 4 ∧ r ≠ 7 ∧ r ≠ 18 ∧ r ≠ 19 → B r = A r := fun r hr => by rw [hB, bdA_o hr]
    have jill : J (f + 3) = B 4 := by rw [← p1]; rfl
    have jroom : J (f + 5) = B 7 := by rw [← p1]; rfl
    have jover : J (f + 8) = B 18 := by rw [← p1]; rfl
    have hS : snA (aX f J) (cn (A 14 n)) = snA A (cn (A 14 n)) := by
      rw [p1]
      exact snA_congr (by rw [bo 0 (by decide)]) (by rw [bo 5 (by decide)])
    have hT : WfT (aX f J) := by
      rw [p1, hB]
      exact bd_T wt
    have enext : bdA (snA A) t A (n + 1) = bd1 (snA A) t B n := by rw [hB]; rfl
    have em : imin (A 16 n) (imin (B 4 (cn (A 14 n))) (B 7 (cn (A 15 n)))) = bdm B n := by
      unfold bdm
      rw [bo 14 (by decide), bo 15 (by decide), bo 16 (by decide)]
    have skip : ∀ L : fc_I, (∀ c, c ≠ 42 → c ≠ 55 → L c = J c) → ((bdm B n).toInt = 0 ∨ ¬ (B 18 n).toInt = -1 ∨ wetA B t (cn (B 14 n)) ∨ ¬ (evA B (snA A (cn (B 14 n))) t (B 14 n) 1).toInt = 0) → ∃ J', (aX f J' = bdA (snA A) t A (n + 1) ∧ ∀ c, ¬ (c = f + 3 ∨ c = f + 5 ∨ c = f + 7 ∨ c = f + 8 ∨ c = 42 ∨ c = 55) → J' c = I c) ∧ k (i + 1) L = k (i + 1) J' := fun L hL z => by
      refine ⟨L, ⟨?_, fun c hc => by rw [hL c (by omega) (by omega)]; exact p2 c hc⟩, rfl⟩
      rw [enext]
      unfold bd1
      rw [if_pos z, ← p1]
      exact aX_scr hf (fun c hc => hL c (fun z => hc (Or.inl z)) (fun z => hc (Or.inr (Or.inl z))))
    have sk0 := skip J (fun _ _ _ => rfl)
    unfold f_X4_board_2_B
    simp only [fq_l]
    rw [j10, ← a05, if_pos (by omega), fq_gp ⟨by omega, by omega⟩, fq_gp ⟨by omega, by omega⟩, fq_gp ⟨by omega, by omega⟩, ec, j11, j12, j13, jill, jroom, em, fq_gp ⟨b1.1, b1.2.2⟩, fq_gp ⟨b2.1, b2.2.2⟩]
    by_cases c1 : (bdm B n).toInt = 0
    · rw [if_pos c1]
      exact sk0 (Or.inl c1)
    · rw [if_neg c1, fq_gp ⟨by omega, by omega⟩, jover, kt_m1]
      by_cases c2 : (B 18 n).toInt = -1
      · rw [if_pos c2, e_wetXA (f := f) ⟨b1.1, b1.2.2⟩ ht (by rw [jf, ← a00]; omega), fq_vsome, p1]
        simp only [b2i]
        by_cases c3 : wetA B t (cn (A 14 n))
        · rw [if_neg (not_not_intro c3)]
          exact sk0 (Or.inr (Or.inr (Or.inl (by rw [bo 14 (by decide)]; exact c3))))
        · rw [if_pos c3]
          obtain ⟨K, k1, k2, k3⟩ := e_gather hf (I := J) (z := A 14 n) (t := t) ⟨b1.1, b1.2.2⟩ ht (by rw [jf, ← a00]; omega)
          rw [hS] at k3
          obtain ⟨g, hg⟩ := e_evX hf (I := J) (K := K) (x1 := 1) (p := 1) hT (by rw [j31, ← a10, ← a09]; omega) (by rw [j31, ← a09]; omega) (fun c _ h => k2 c h) k3 kt_1 (by omega)
          rw [p1] at hg
          rw [k1, fq_usome, hg, fq_bsome]
          have l1 : ∀ c, c ≠ 42 → c ≠ 55 → (stc K 42 g) c = J c := fun c h1 h2 => by rw [stc_ne h1, k2 c h2]
          by_cases c4 : (evA B (snA A (cn (A 14 n))) t (A 14 n) 1).toInt = 0
          · rw [if_pos c4]
            obtain ⟨L, hL⟩ : ∃ L, L = stc K 42 g := ⟨_, rfl⟩
            rw [← hL] at l1 ⊢
            have lX : aX f L = B := by
              rw [← p1]
              exact aX_scr hf (fun c hc => l1 c (fun z => hc (Or.inl z)) (fun z => hc (Or.inr (Or.inl z))))
            have l3 : L (f + 3) = B 4 := by rw [l1 (f + 3) (by omega) (by omega), jill]
            have l5 : ∀ v, (fc_wI L (f + 3) (cn (A 14 n)) v) (f + 5) = B 7 := fun v => by rw [fc_wI_lo (by omega), l1 (f + 5) (by omega) (by omega), jroom]
            have lf : L f = J f := l1 f (by omega) (by omega)
            have l14 : L 14 = A 17 := by rw [l1 14 (by omega) (by omega), j14]
            rw [l3, fq_gp ⟨b1.1, b1.2.2⟩, fq_gp ⟨b1.1, b1.2.2⟩, l5, fq_gp ⟨b2.1, b2.2.2⟩, fq_gp ⟨b2.1, b2.2.2⟩, fq_gp ⟨by omega, by omega⟩, fq_gp ⟨by omega, by omega⟩, fq_gp ⟨by omega, by omega⟩]
            rw [fc_wI_lo (show f ≠ f + 7 by omega), fc_wI_lo (show f ≠ f + 5 by omega), fc_wI_lo (show f ≠ f + 3 by omega), fc_wI_lo (show 14 ≠ f + 7 by omega), fc_wI_lo (show 14 ≠ f + 5 by omega), fc_wI_lo (show 14 ≠ f + 3 by omega), lf, jf, l14, ← a00]
            refine ⟨_, ⟨?_, fun c hc => ?_⟩, rfl⟩
            · rw [awf_8 hf, awf_7 hf, awf_5 hf, awf_3 hf, lX, enext]
              unfold bd1
              rw [if_neg (by
                rw [bo 14 (by decide)]
                intro z
                rcases z with z | z | z | z
                · exact c1 z
                · exact z c2
                · exact c3 z
                · exact z c4), bo 14 (by decide), bo 15 (by decide), bo 0 (by decide), bo 17 (by decide)]
            · rw [fc_wI_lo (by omega), fc_wI_lo (by omega), fc_wI_lo (by omega), fc_wI_lo (by omega), l1 c (by omega) (by omega)]
              exact p2 c hc
          · rw [if_neg c4]
            exact skip _ l1 (Or.inr (Or.inr (Or.inr (by rw [bo 14 (by decide)]; exact c4))))
      · rw [if_neg c2]
        exact sk0 (Or.inr (Or.inl c2))) (fun k i J hi hP => by
    obtain ⟨p1, p2⟩ := hP
    refine ⟨J, ⟨p1, p2⟩, ?_⟩
    unfold f_X4_board_2_B
    rw [p2 10 (by omega), ← a05, if_neg (by omega)]) 4000 0 0 I kt_0 (by omega) (by omega) ⟨hA.symm, fun _ _ => rfl⟩
  exact ⟨r, h2, h1⟩
