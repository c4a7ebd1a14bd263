/-! ===== buses: the reference ===== -/
theorem i_sbp (a b c m : Int32) : a - b - (c + m) = a - b - c - m := by
  simp only [Int32.sub_eq_add_neg, Int32.neg_add, Int32.add_assoc]
theorem imin3 {x y z : Int32} : imin x (imin y z) = imin y (imin x z) := by
  obtain ⟨a1, a2, a3⟩ := imin_le (x := y) (y := z)
  obtain ⟨b1, b2, b3⟩ := imin_le (x := x) (y := imin y z)
  obtain ⟨c1, c2, c3⟩ := imin_le (x := x) (y := z)
  obtain ⟨d1, d2, d3⟩ := imin_le (x := y) (y := imin x z)
  exact Int32.toInt_inj.mp (by omega)
set_option maxHeartbeats 4000000 in
theorem e_ride {I : fc_I} {t : Int32} (hw : Wh (aM I)) (hc5 : ∀ z, z < 6 → (I 83 z).toInt ≤ (I 78 0).toInt) (ht : 0 ≤ t.toInt ∧ t.toInt ≤ 2) : ∃ J, f_X11_ride I t = some J ∧ aM J = bdA (snA (aM I)) t (aM I) (cn (aM I 0 5)) ∧ (∀ c, ¬ (c = 82 ∨ c = 87 ∨ c = 97 ∨ c = 98 ∨ c = 115) → J c = I c) ∧ ∀ s : Nat, (I 78 9).toInt ≤ (s : Int) → J 87 s = I 87 s := by
  obtain ⟨A, hA⟩ : ∃ A, A = aM I := ⟨_, rfl⟩
  have a00 : A 0 0 = I 78 0 := by rw [hA]; rfl
  have a03 : A 0 3 = I 78 9 := by rw [hA]; rfl
  have a05 : A 0 5 = I 78 19 := by rw [hA]; rfl
  have a09 : A 0 9 = I 78 40 := by rw [hA]; rfl
  have a10 : A 0 10 = I 78 41 := by rw [hA]; rfl
  have a14 : A 14 = I 93 := by rw [hA]; rfl
  have a15 : A 15 = I 94 := by rw [hA]; rfl
  have a16 : A 16 = I 95 := by rw [hA]; rfl
  have a17 : A 17 = I 96 := by rw [hA]; rfl
  rw [← hA, ← a03]
  rw [← hA] at hw
  have hW := hw
  obtain ⟨⟨⟨w1, w2, w3, w4⟩, ⟨w5, w6⟩, ⟨w7, w8⟩, ⟨w9, w10⟩, ⟨w11, w12⟩, ⟨w13, w14⟩, ⟨w15, w16⟩, ⟨w17, w18⟩, ⟨w19, w20⟩, ⟨w21, w22⟩⟩, wr, wu, wz, wg, wh, wt⟩ := hw
  have ez := cn_int (x := A 0 5) w11
  obtain ⟨r, h1, h2⟩ := lpm1_R (B := f_X11_ride_2_B t) (cn (A 0 5)) (by omega) (fun n J => aM J = bdA (snA A) t A n ∧ (∀ c, ¬ (c = 82 ∨ c = 87 ∨ c = 97 ∨ c = 98 ∨ c = 115) → J c = I c) ∧ ∀ s : Nat, (A 0 3).toInt ≤ (s : Int) → J 87 s = I 87 s) (fun J => aM J = bdA (snA A) t A (cn (A 0 5)) ∧ (∀ c, ¬ (c = 82 ∨ c = 87 ∨ c = 97 ∨ c = 98 ∨ c = 115) → J c = I c) ∧ ∀ s : Nat, (A 0 3).toInt ≤ (s : Int) → J 87 s = I 87 s) (fun k i n J hi hn hP => by
    obtain ⟨p1, p2, p3⟩ := hP
    obtain ⟨b0, b1, b2, b3, b4⟩ := bus_at hW (n := n) (by omega)
    have bb := bdA_b (S := snA A) (t := t) hW n (by omega)
    have e1 := cn_int b1.1
    have e2 := cn_int b2.1
    have ec : cn i = n := cn_eq hi
    have j78 : J 78 = I 78 := p2 78 (by omega)
    have j83 : J 83 = I 83 := p2 83 (by omega)
    have j93 : J 93 = A 14 := (p2 93 (by omega)).trans a14.symm
    have j94 : J 94 = A 15 := (p2 94 (by omega)).trans a15.symm
    have j95 : J 95 = A 16 := (p2 95 (by omega)).trans a16.symm
    have j96 : J 96 = A 17 := (p2 96 (by omega)).trans a17.symm
    obtain ⟨B, hB⟩ : ∃ B, B = bdA (snA A) t A n := ⟨_, rfl⟩
    rw [← hB] at p1 bb
    have bo : ∀ r, r ≠ 4 ∧ r ≠ 7 ∧ r ≠ 18 ∧ r ≠ 19 → B r = A r := fun r hr => by rw [hB, bdA_o hr]
    have jill : J 82 = B 4 := by rw [← p1]; rfl
    have jroom : ∀ s, J 85 s - J 86 s - J 87 s = B 7 s := fun s => by rw [← p1]; rfl
    have jover : J 97 = B 18 := by rw [← p1]; rfl
    have hS : snA (aM J) (cn (A 14 n)) = snA A (cn (A 14 n)) := by
      rw [p1]
      exact snA_congr (by rw [bo 0 (by decide)]) (by rw [bo 5 (by decide)])
    have hT : WfT (aM J) := by
      rw [p1, hB]
      exact bd_T wt
    have enext : bdA (snA A) t A (n + 1) = bd1 (snA A) t B n := by rw [hB]; rfl
    have em : imin (B 4 (cn (A 14 n))) (imin (A 16 n) (B 7 (cn (A 15 n)))) = bdm B n := by
      unfold bdm
      rw [bo 14 (by decide), bo 15 (by decide), bo 16 (by decide), imin3]
    have em0 : 0 ≤ (bdm B n).toInt := by
      have q1 := bb.1 (cn (A 14 n)) (by omega)
      have q2 := bb.2 (cn (A 15 n)) (by omega)
      rw [← em]
      generalize B 4 (cn (A 14 n)) = x at *
      generalize B 7 (cn (A 15 n)) = y at *
      obtain ⟨c1, c2, c3⟩ := imin_le (x := A 16 n) (y := y)
      obtain ⟨d1, d2, d3⟩ := imin_le (x := x) (y := imin (A 16 n) y)
      omega
    have skip : ∀ L : fc_I, (∀ c, c ≠ 115 → L c = J c) → ((bdm B n).toInt = 0 ∨ ¬ (B 18 n).toInt = -1 ∨ wetA B t (cn (B 14 n)) ∨ ¬ (evA B (snA A (cn (B 14 n))) t (B 14 n) 1).toInt = 0) → ∃ J', (aM J' = bdA (snA A) t A (n + 1) ∧ (∀ c, ¬ (c = 82 ∨ c = 87 ∨ c = 97 ∨ c = 98 ∨ c = 115) → J' c = I c) ∧ ∀ s : Nat, (A 0 3).toInt ≤ (s : Int) → J' 87 s = I 87 s) ∧ k (i + 1) L = k (i + 1) J' := fun L hL z => by
      refine ⟨L, ⟨?_, fun c hc => by rw [hL c (by omega)]; exact p2 c hc, fun s hs => by rw [hL 87 (by decide)]; exact p3 s hs⟩, rfl⟩
      rw [enext]
      unfold bd1
      rw [if_pos z, ← p1]
      exact aM_scr (fun c hc => hL c (fun z => hc (by unfold scM; omega)))
    have sk0 := skip J (fun _ _ => rfl)
    unfold f_X11_ride_2_B
    simp only [fq_l]
    rw [j78, ← a05, if_pos (by omega), fq_gp ⟨by omega, by omega⟩, ec, j93, fq_gp ⟨by omega, by omega⟩, jover, kt_m1]
    by_cases c2 : (B 18 n).toInt = -1
    · rw [if_pos c2, ← j78, e_wetMA ⟨b1.1, b1.2.2⟩ ht (by rw [j78, ← a00]; omega), fq_vsome, p1]
      simp only [b2i]
      by_cases c3 : wetA B t (cn (A 14 n))
      · rw [if_neg (not_not_intro c3)]
        exact sk0 (Or.inr (Or.inr (Or.inl (by rw [bo 14 (by decide)]; exact c3))))
      · rw [if_pos c3]
        obtain ⟨g, hg⟩ := e_evM (I := J) (z := A 14 n) (t := t) (x1 := 1) (p := 1) hT (by rw [j78, ← a10, ← a09]; omega) (by rw [j78, ← a09]; omega) ⟨b1.1, b1.2.2⟩ ht (by rw [j78, ← a00]; omega) (by rw [j83, j78]; exact hc5 _ (by omega)) kt_1 (by omega)
        rw [hS, p1] at hg
        rw [hg, fq_bsome]
        have l1 : ∀ c, c ≠ 115 → (stc J 115 g) c = J c := fun c hc => stc_ne hc
        by_cases c4 : (evA B (snA A (cn (A 14 n))) t (A 14 n) 1).toInt = 0
        · rw [if_pos c4]
          obtain ⟨L, hL⟩ : ∃ L, L = stc J 115 g := ⟨_, rfl⟩
          rw [← hL] at l1 ⊢
          have lX : aM L = B := by
            rw [← p1]
            exact aM_scr (fun c hc => l1 c (fun z => hc (by unfold scM; omega)))
          have l82 : L 82 = B 4 := by rw [l1 82 (by decide), jill]
          have l94 : L 94 = A 15 := by rw [l1 94 (by decide), j94]
          have l95 : L 95 = A 16 := by rw [l1 95 (by decide), j95]
          have l96 : L 96 = A 17 := by rw [l1 96 (by decide), j96]
          have lr : ∀ s, L 85 s - L 86 s - L 87 s = B 7 s := fun s => by rw [l1 85 (by decide), l1 86 (by decide), l1 87 (by decide)]; exact jroom s
          unfold f_X11_roomLeft
          rw [fq_gp ⟨b1.1, b1.2.2⟩, fq_gp ⟨by omega, by omega⟩, fq_gp ⟨by omega, by omega⟩, l94, fq_gp ⟨b2.1, b2.2.2⟩, fq_gp ⟨b2.1, b2.2.2⟩, fq_gp ⟨b2.1, b2.2.2⟩, fq_vsome, lr, l82, l95, em]
          by_cases c1 : 0 < (bdm B n).toInt
          · rw [if_pos c1, fq_gp ⟨b1.1, b1.2.2⟩, fq_gp ⟨b1.1, b1.2.2⟩, fq_gp ⟨by omega, by omega⟩, fq_gp ⟨by omega, by omega⟩]
            rw [fc_wI_lo (show (94 : Nat) ≠ 98 by decide), fc_wI_lo (show (94 : Nat) ≠ 82 by decide), l94, fq_gp ⟨b2.1, b2.2.2⟩, fq_gp ⟨b2.1, b2.2.2⟩, fq_gp ⟨by omega, by omega⟩, fq_gp ⟨by omega, by omega⟩]
            rw [fc_wI_lo (show (87 : Nat) ≠ 98 by decide), fc_wI_lo (show (87 : Nat) ≠ 82 by decide), fc_wI_lo (show (78 : Nat) ≠ 87 by decide), fc_wI_lo (show (78 : Nat) ≠ 98 by decide), fc_wI_lo (show (78 : Nat) ≠ 82 by decide), l1 78 (by decide), j78, ← a00, fc_wI_lo (show (96 : Nat) ≠ 87 by decide), fc_wI_lo (show (96 : Nat) ≠ 98 by decide), fc_wI_lo (show (96 : Nat) ≠ 82 by decide), l96]
            refine ⟨_, ⟨?_, fun c hc => ?_, fun s hs => ?_⟩, rfl⟩
            · rw [mw_97, mw_87, mw_98, mw_82, lX, enext]
              rw [fc_wI_lo (show (85 : Nat) ≠ 98 by decide), fc_wI_lo (show (85 : Nat) ≠ 82 by decide), fc_wI_lo (show (86 : Nat) ≠ 98 by decide), fc_wI_lo (show (86 : Nat) ≠ 82 by decide), i_sbp, lr]
              unfold bd1
              rw [if_neg (by
                rw [bo 14 (by decide)]
                intro z
                rcases z with z | z | z | z
                · omega
                · exact z c2
                · exact c3 z
                · exact z c4), bo 14 (by decide), bo 15 (by decide), bo 0 (by decide), bo 17 (by decide)]
              rw [fc_wI_comm (c := 19) (c' := 7) (by decide)]
            · rw [fc_wI_lo (by omega), fc_wI_lo (by omega), fc_wI_lo (by omega), fc_wI_lo (by omega), l1 c (by omega)]
              exact p2 c hc
            · rw [fc_wI_lo (by omega), fc_wI_at, if_neg (by omega), fc_wI_lo (by omega), fc_wI_lo (by omega), l1 87 (by decide)]
              exact p3 s hs
          · rw [if_neg c1]
            exact skip L l1 (Or.inl (by omega))
        · rw [if_neg c4]
          exact skip _ l1 (Or.inr (Or.inr (Or.inr (by rw [bo 14 (by decide)]; exact c4))))
    · rw [if_neg c2]
      exact sk0 (Or.inr (Or.inl c2))) (fun k i J hi hP => by
    obtain ⟨p1, p2, p3⟩ := hP
    refine ⟨J, ⟨p1, p2, p3⟩, ?_⟩
    unfold f_X11_ride_2_B
    rw [p2 78 (by omega), ← a05, if_neg (by omega)]) 4000 0 0 I kt_0 (by omega) (by omega) ⟨hA.symm, fun _ _ => rfl, fun _ _ => rfl⟩
  exact ⟨r, h2, h1⟩
