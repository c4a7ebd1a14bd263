/-! ===== buses that are free: both sides ===== -/
theorem fr1_o {A : fc_I} {b r : Nat} (h : r ≠ 8 ∧ r ≠ 18 ∧ r ≠ 19) : fr1 A b r = A r := by
  unfold fr1
  split
  · rw [fc_wI_lo h.2.1, fc_wI_lo h.2.2, fc_wI_lo h.1]
  · rfl
theorem frA_o {A : fc_I} {r : Nat} (h : r ≠ 8 ∧ r ≠ 18 ∧ r ≠ 19) : ∀ n, frA A n r = A r
  | 0 => rfl
  | n + 1 => by
    show fr1 (frA A n) n r = A r
    rw [fr1_o h, frA_o h n]
theorem frA_18 {A : fc_I} {b r : Nat} (hr : r = 18 ∨ r = 19) : ∀ n, n ≤ b → frA A n r b = A r b
  | 0, _ => rfl
  | n + 1, h => by
    have ih := frA_18 (A := A) (b := b) hr n (by omega)
    show fr1 (frA A n) n r b = A r b
    unfold fr1
    split
    · rcases hr with rfl | rfl
      · rw [fc_wI_at, if_neg (by omega), fc_wI_lo (by decide), fc_wI_lo (by decide)]
        exact ih
      · rw [fc_wI_lo (by decide), fc_wI_at, if_neg (by omega), fc_wI_lo (by decide)]
        exact ih
    · exact ih
theorem i_fr (a b c m : Int32) : a - (b + m) - (c - m) = a - b - c := by
  simp only [Int32.sub_eq_add_neg, Int32.neg_add, Int32.neg_neg, Int32.add_assoc]
  rw [Int32.add_comm (-m), Int32.add_assoc, show m + -m = 0 by rw [← Int32.sub_eq_add_neg, Int32.sub_self], Int32.add_zero]
set_option maxHeartbeats 2000000 in
theorem e_freeX {f : Nat} (hf : f = 45 ∨ f = 58) {I : fc_I} (hn5 : 0 ≤ (I 10 4).toInt ∧ (I 10 4).toInt ≤ 4) (hb : ∀ b : Nat, (b : Int) < (I 10 4).toInt → 0 ≤ (I 12 b).toInt ∧ (I 12 b).toInt < 3) : ∃ J, f_X4_freeBuses f I = some J ∧ aX f J = frA (aX f I) (cn (I 10 4)) ∧ ∀ c, ¬ (c = f + 6 ∨ c = f + 7 ∨ c = f + 8) → J c = I c := by
  obtain ⟨A, hA⟩ : ∃ A, A = aX f I := ⟨_, rfl⟩
  have a15 : A 15 = I 12 := by rw [hA]; rfl
  have a00 : A 0 0 = I f 9 := by rw [hA]; rfl
  rw [← hA]
  have ez := cn_int hn5.1
  obtain ⟨r, h1, h2⟩ := lpm1_R (B := f_X4_freeBuses_2_B f) (cn (I 10 4)) (by omega) (fun n J => aX f J = frA A n ∧ ∀ c, ¬ (c = f + 6 ∨ c = f + 7 ∨ c = f + 8) → J c = I c) (fun r => aX f r = frA A (cn (I 10 4)) ∧ ∀ c, ¬ (c = f + 6 ∨ c = f + 7 ∨ c = f + 8) → r c = I c) (fun k i n J hi hn hP => by
    obtain ⟨p1, p2⟩ := hP
    obtain ⟨b1, b2⟩ := hb n (by omega)
    have ec : cn i = n := cn_eq hi
    have j10 : J 10 = I 10 := p2 10 (by omega)
    have j12 : J 12 = I 12 := p2 12 (by omega)
    have jf : J f = I f := p2 f (by omega)
    obtain ⟨B, hB⟩ : ∃ B, B = frA A n := ⟨_, rfl⟩
    rw [← hB] at p1
    have j6 : J (f + 6) = B 8 := by rw [← p1]; rfl
    have j7 : J (f + 7) = B 19 := by rw [← p1]; rfl
    have j8 : J (f + 8) = B 18 := by rw [← p1]; rfl
    have b15 : B 15 = A 15 := by rw [hB, frA_o (by decide)]
    have b00 : B 0 0 = A 0 0 := by rw [hB, frA_o (by decide)]
    have enext : frA A (n + 1) = fr1 B n := by rw [hB]; rfl
    unfold f_X4_freeBuses_2_B
    simp only [fq_l]
    rw [j10, if_pos (by omega), fq_gp ⟨by omega, by omega⟩, ec, j8, jf, ← a00]
    by_cases c : (B 18 n).toInt = (A 0 0).toInt
    · rw [if_pos c, fq_gp ⟨by omega, by omega⟩, j12, fq_gp ⟨b1, b2⟩, fq_gp ⟨by omega, by omega⟩, fq_gp ⟨b1, b2⟩, fq_gp ⟨by omega, by omega⟩, fq_gp ⟨by omega, by omega⟩, j6, j7]
      refine ⟨_, ⟨?_, fun c hc => ?_⟩, rfl⟩
      · rw [awf_8 hf, awf_7 hf, awf_6 hf, p1, enext]
        unfold fr1
        rw [b00, if_pos c, b15, a15]
      · rw [fc_wI_lo (by omega), fc_wI_lo (by omega), fc_wI_lo (by omega)]
        exact p2 c hc
    · rw [if_neg c]
      refine ⟨J, ⟨?_, p2⟩, rfl⟩
      rw [p1, enext]
      unfold fr1
      rw [b00, if_neg c]) (fun k i J hi hP => by
    obtain ⟨p1, p2⟩ := hP
    refine ⟨J, ⟨p1, p2⟩, ?_⟩
    unfold f_X4_freeBuses_2_B
    rw [p2 10 (by omega), if_neg (by omega)]) 4000 0 0 I kt_0 (by omega) (by omega) ⟨hA.symm, fun _ _ => rfl⟩
  exact ⟨r, h2, h1⟩
set_option maxHeartbeats 2000000 in
theorem e_freeM {I : fc_I} (hn5 : 0 ≤ (I 78 19).toInt ∧ (I 78 19).toInt ≤ 4) (hn0 : 0 ≤ (I 78 0).toInt) (hb : ∀ b : Nat, (b : Int) < (I 78 19).toInt → (0 ≤ (I 94 b).toInt ∧ (I 94 b).toInt < (I 78 9).toInt ∧ (I 94 b).toInt < 3) ∧ ((I 97 b).toInt = -1 ∨ (I 78 0).toInt ≤ (I 97 b).toInt)) : ∃ J, f_X11_step_27 4000 0 I = some J ∧ aM J = frA (aM I) (cn (I 78 19)) ∧ (∀ c, ¬ (c = 86 ∨ c = 87 ∨ c = 97 ∨ c = 98) → J c = I c) ∧ ∀ s : Nat, (I 78 9).toInt ≤ (s : Int) → J 86 s = I 86 s ∧ J 87 s = I 87 s := by
  obtain ⟨A, hA⟩ : ∃ A, A = aM I := ⟨_, rfl⟩
  have a15 : A 15 = I 94 := by rw [hA]; rfl
  have a18 : A 18 = I 97 := by rw [hA]; rfl
  have a00 : A 0 0 = I 78 0 := by rw [hA]; rfl
  rw [← hA]
  have ez := cn_int hn5.1
  obtain ⟨r, h1, h2⟩ := lpm1_R (B := f_X11_step_27_B) (cn (I 78 19)) (by omega) (fun n J => aM J = frA A n ∧ (∀ c, ¬ (c = 86 ∨ c = 87 ∨ c = 97 ∨ c = 98) → J c = I c) ∧ ∀ s : Nat, (I 78 9).toInt ≤ (s : Int) → J 86 s = I 86 s ∧ J 87 s = I 87 s) (fun J => aM J = frA A (cn (I 78 19)) ∧ (∀ c, ¬ (c = 86 ∨ c = 87 ∨ c = 97 ∨ c = 98) → J c = I c) ∧ ∀ s : Nat, (I 78 9).toInt ≤ (s : Int) → J 86 s = I 86 s ∧ J 87 s = I 87 s) (fun k i n J hi hn hP => by
    obtain ⟨p1, p2, p3⟩ := hP
    obtain ⟨⟨b1, b3, b2⟩, b4⟩ := hb n (by omega)
    have ec : cn i = n := cn_eq hi
    have e94 := cn_int b1
    have j78 : J 78 = I 78 := p2 78 (by omega)
    have j94 : J 94 = I 94 := p2 94 (by omega)
    obtain ⟨B, hB⟩ : ∃ B, B = frA A n := ⟨_, rfl⟩
    rw [← hB] at p1
    have j86 : J 86 = B 8 := by rw [← p1]; rfl
    have j98 : J 98 = B 19 := by rw [← p1]; rfl
    have j97 : J 97 = B 18 := by rw [← p1]; rfl
    have jr : ∀ s, J 85 s - J 86 s - J 87 s = B 7 s := fun s => by rw [← p1]; rfl
    have b18 : B 18 n = I 97 n := by rw [hB, frA_18 (Or.inl rfl) n (Nat.le_refl _), a18]
    have b15 : B 15 = A 15 := by rw [hB, frA_o (by decide)]
    have b00 : B 0 0 = A 0 0 := by rw [hB, frA_o (by decide)]
    have enext : frA A (n + 1) = fr1 B n := by rw [hB]; rfl
    have skip : ¬ (I 97 n).toInt = (I 78 0).toInt → ∃ J', (aM J' = frA A (n + 1) ∧ (∀ c, ¬ (c = 86 ∨ c = 87 ∨ c = 97 ∨ c = 98) → J' c = I c) ∧ ∀ s : Nat, (I 78 9).toInt ≤ (s : Int) → J' 86 s = I 86 s ∧ J' 87 s = I 87 s) ∧ k (i + 1) J = k (i + 1) J' := fun z => by
      refine ⟨J, ⟨?_, p2, p3⟩, rfl⟩
      rw [p1, enext]
      unfold fr1
      rw [b18, b00, a00, if_neg z]
    unfold f_X11_step_27_B
    simp only [fq_l]
    rw [j78, if_pos (by omega), fq_gp ⟨by omega, by omega⟩, ec, j97, b18, kt_m1]
    by_cases c1 : (I 97 n).toInt = -1
    · rw [if_pos c1]
      exact skip (by omega)
    · rw [if_neg c1, fq_gp ⟨by omega, by omega⟩]
      by_cases c2 : (I 78 0).toInt < (I 97 n).toInt
      · rw [if_pos c2]
        exact skip (by omega)
      · rw [if_neg c2, fq_gp ⟨by omega, by omega⟩, j94, fq_gp ⟨b1, b2⟩, fq_gp ⟨by omega, by omega⟩, fq_gp ⟨b1, b2⟩, fq_gp ⟨by omega, by omega⟩]
        rw [fc_wI_lo (show (94 : Nat) ≠ 86 by decide), j94, fq_gp ⟨b1, b2⟩, fq_gp ⟨by omega, by omega⟩, fq_gp ⟨b1, b2⟩, fq_gp ⟨by omega, by omega⟩, fq_gp ⟨by omega, by omega⟩]
        rw [fc_wI_lo (show (87 : Nat) ≠ 86 by decide), fc_wI_lo (show (98 : Nat) ≠ 86 by decide)]
        refine ⟨_, ⟨?_, fun c hc => ?_, fun s hs => ?_⟩, rfl⟩
        · rw [mw_97, mw_98, mw_87, mw_86, p1, enext]
          rw [fc_wI_lo (show (85 : Nat) ≠ 86 by decide), fc_wI_at, if_pos rfl, i_fr, jr]
          unfold fr1
          rw [b18, b00, a00, if_pos (by omega), b15, a15, j86, j98]
          congr 2
          funext r q
          unfold fc_wI
          by_cases h7 : r = 7
          · subst h7
            by_cases hq : q = cn (I 94 n)
            · subst hq
              simp
            · simp [hq]
          · simp [h7]
        · rw [fc_wI_lo (by omega), fc_wI_lo (by omega), fc_wI_lo (by omega), fc_wI_lo (by omega)]
          exact p2 c hc
        · obtain ⟨q1, q2⟩ := p3 s hs
          refine ⟨?_, ?_⟩
          · rw [fc_wI_lo (by omega), fc_wI_lo (by omega), fc_wI_lo (by omega), fc_wI_at, if_neg (by omega)]
            exact q1
          · rw [fc_wI_lo (by omega), fc_wI_lo (by omega), fc_wI_at, if_neg (by omega), fc_wI_lo (by omega)]
            exact q2) (fun k i J hi hP => by
    obtain ⟨p1, p2, p3⟩ := hP
    refine ⟨J, ⟨p1, p2, p3⟩, ?_⟩
    unfold f_X11_step_27_B
    rw [p2 78 (by omega), if_neg (by omega)]) 4000 0 0 I kt_0 (by omega) (by omega) ⟨hA.symm, fun _ _ => rfl, fun _ _ => ⟨rfl, rfl⟩⟩
  exact ⟨r, h2, h1⟩
