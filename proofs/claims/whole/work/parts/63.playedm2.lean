/-! ===== what is foreseen: the reference, whole ===== -/
theorem mS_ne2 {I J : fc_I} (h : ∀ j, j ≠ 67 ∧ j ≠ 68 → J 78 j = I 78 j) (hc : ∀ c, c ≠ 78 → ¬ scM c → J c = I c) : aM J = aM I := by
  have e : aM J = aM (fc_wI (fc_wI J 78 67 (I 78 67)) 78 68 (I 78 68)) := by rw [ms_68, ms_67]
  rw [e]
  refine aM_scr (fun c h' => ?_)
  by_cases q : c = 78
  · subst q
    funext j
    rw [fc_wI_at]
    by_cases j1 : j = 68
    · rw [if_pos j1, j1]
    · rw [if_neg j1, fc_wI_at]
      by_cases j2 : j = 67
      · rw [if_pos j2, j2]
      · rw [if_neg j2]
        exact h j ⟨j2, j1⟩
  · rw [fc_wI_lo q, fc_wI_lo q]
    exact hc c q h'
set_option maxHeartbeats 4000000 in
theorem e_played {I : fc_I} {t : Int32} (hw : Wh (aM I)) (hc5 : ∀ z, z < 6 → (I 83 z).toInt ≤ (I 78 0).toInt) (ht : 0 ≤ t.toInt ∧ t.toInt ≤ 2) : ∃ J, f_X11_played I t = some (fvA (I 125) t (aM I), J) ∧ (∀ c, c ≠ 78 → ¬ scM c → J c = I c) ∧ (∀ j, j ≠ 67 ∧ j ≠ 68 → J 78 j = I 78 j) ∧ J 125 = I 125 := by
  obtain ⟨A, hA⟩ : ∃ A, A = aM I := ⟨_, rfl⟩
  obtain ⟨D, hD⟩ : ∃ D, D = I 125 := ⟨_, rfl⟩
  have a00 : A 0 0 = I 78 0 := by rw [hA]; rfl
  have a01 : A 0 1 = I 78 1 := by rw [hA]; rfl
  have a02 : A 0 2 = I 78 2 := by rw [hA]; rfl
  have a03 : A 0 3 = I 78 9 := by rw [hA]; rfl
  have ac : ∀ z, z < 6 → (A 5 z).toInt ≤ (A 0 0).toInt := fun z hz => by
    rw [show A 5 z = I 83 z by rw [hA]; rfl, a00]
    exact hc5 z hz
  rw [← hA, ← hD]
  rw [← hA] at hw
  obtain ⟨⟨w1, w2, w3, w4⟩, ⟨w5, w6⟩, ⟨w7, w8⟩, _⟩ := hw.1
  have e0 := cn_int w1
  have e1 := cn_int (x := A 0 1) (by omega)
  obtain ⟨N, hN⟩ : ∃ N, N = cn (A 0 1) - cn (A 0 0) := ⟨_, rfl⟩
  have eN : (A 0 0).toInt + (N : Int) = (A 0 1).toInt := by omega
  obtain ⟨K0, hK0⟩ : ∃ K0, K0 = kpM I := ⟨_, rfl⟩
  have o1 : ∀ c, c ≠ 78 → ¬ (117 ≤ c ∧ c ≤ 124) → K0 c = I c := fun c h1 h2 => by
    rw [hK0]
    unfold kpM
    rw [fc_wI_lo h1, fc_wI_lo h1, cpB_o (by omega), cpB_o (by omega), cpB_o (by omega)]
  have o2 : ∀ j, j ≠ 67 ∧ j ≠ 68 → K0 78 j = I 78 j := fun j hj => by
    rw [hK0]
    unfold kpM
    rw [fc_wI_at, if_neg hj.2, fc_wI_at, if_neg hj.1, cpB_o (by omega), cpB_o (by omega), cpB_o (by omega)]
  have o3 : K0 78 67 = I 78 26 ∧ K0 78 68 = I 78 0 := by
    rw [hK0]
    unfold kpM
    rw [fc_wI_at, if_neg (by decide), fc_wI_at, if_pos rfl, fc_wI_at, if_pos rfl]
    exact ⟨rfl, rfl⟩
  have o4 : ∀ i k, i < 4 → k < 6 → K0 (117 + i) k = I (80 + i) k := fun i k hi hk => by
    rw [hK0]
    unfold kpM
    rw [fc_wI_lo (by omega), fc_wI_lo (by omega), cpB_o (by omega), cpB_o (by omega)]
    unfold cpB
    rw [if_pos ⟨by omega, by omega, hk⟩, show 80 + (117 + i - 117) = 80 + i by omega]
  have o5 : ∀ i k, i < 2 → k < 3 → K0 (121 + i) k = I (86 + i) k := fun i k hi hk => by
    rw [hK0]
    unfold kpM
    rw [fc_wI_lo (by omega), fc_wI_lo (by omega), cpB_o (by omega)]
    unfold cpB
    rw [if_pos ⟨by omega, by omega, hk⟩, if_neg (by omega), show 86 + (121 + i - 121) = 86 + i by omega]
  have o6 : ∀ i k, i < 2 → k < 4 → K0 (123 + i) k = I (97 + i) k := fun i k hi hk => by
    rw [hK0]
    unfold kpM
    rw [fc_wI_lo (by omega), fc_wI_lo (by omega)]
    unfold cpB
    rw [if_pos ⟨by omega, by omega, hk⟩, if_neg (by omega), if_neg (by omega), show 97 + (123 + i - 123) = 97 + i by omega]
  have aK : aM K0 = A := by
    rw [hA]
    exact mS_ne2 o2 (fun c h1 h2 => o1 c h1 (fun z => h2 (by unfold scM; omega)))
  obtain ⟨r, h1, h2⟩ := lpm0_R (B := f_X11_played_4_B t) N (fun n J => aM J = rN D (A 0 0) t A n ∧ (∀ c, ¬ (c = 78 ∨ (80 ≤ c ∧ c ≤ 83) ∨ c = 86 ∨ c = 87 ∨ c = 97 ∨ c = 98 ∨ c = 115 ∨ c = 116) → J c = K0 c) ∧ (∀ j, j ≠ 0 ∧ j ≠ 26 → J 78 j = K0 78 j) ∧ ∀ s : Nat, (A 0 3).toInt ≤ (s : Int) → J 86 s = I 86 s ∧ J 87 s = I 87 s) (fun r => ∃ J, r = (fvA D t A, J) ∧ (∀ c, c ≠ 78 → ¬ scM c → J c = I c) ∧ (∀ j, j ≠ 67 ∧ j ≠ 68 → J 78 j = I 78 j) ∧ J 125 = I 125) (fun k n J hn hP => by
    obtain ⟨p1, p2, p3, p4⟩ := hP
    obtain ⟨v1, v2⟩ := rN_w (D := D) (n0 := A 0 0) (t := t) hw n (by omega)
    have v5 := rN_c5 (D := D) (n0 := A 0 0) (t := t) hw ac n (by omega)
    have j0 : J 78 0 = rN D (A 0 0) t A n 0 0 := by rw [← p1]; rfl
    have j1 : J 78 1 = A 0 1 := by rw [p3 1 (by decide), o2 1 (by decide), a01]
    have j2 : J 78 2 = A 0 2 := by rw [p3 2 (by decide), o2 2 (by decide), a02]
    have j68 : J 78 68 = A 0 0 := by rw [p3 68 (by decide), o3.2, a00]
    have j125 : J 125 = D := by rw [p2 125 (by omega), o1 125 (by omega) (by omega), hD]
    obtain ⟨K, ⟨k1, k2⟩, k3⟩ := e_calls (J := J) (t := t) (k4 := k) (by rw [j2]; exact ⟨w5, w6⟩)
    rw [j125, j68, p1] at k1
    have k78 : K 78 = J 78 := k2 78 (by decide)
    have wK : Wh (aM K) := by rw [k1]; exact scA_wh v1
    obtain ⟨L, l1, l2, l3, l4, l5⟩ := e_step (I := K) (t := t) wK (fun z hz => by
      have q := (v5 z hz).2
      rw [show K 83 z = aM K 5 z from rfl, k1, k78, j0]
      exact q) ht
    refine ⟨L, ⟨?_, fun c hc => ?_, fun j hj => ?_, fun s hs => ?_⟩, ?_⟩
    · rw [l2, k1]
      rfl
    · rw [l3 c (by omega), k2 c (by omega), p2 c hc]
    · rw [l4 j hj, k78, p3 j hj]
    · obtain ⟨q1, q2⟩ := l5 s (by rw [k78, p3 9 (by decide), o2 9 (by decide), ← a03]; exact hs)
      rw [q1, q2, k2 86 (by decide), k2 87 (by decide)]
      exact p4 s hs
    · unfold f_X11_played_4_B
      rw [if_pos (by rw [j0, j1, v2]; omega), k3, l1, fq_usome]) (fun k J hP => by
    obtain ⟨p1, p2, p3, p4⟩ := hP
    obtain ⟨v1, v2⟩ := rN_w (D := D) (n0 := A 0 0) (t := t) hw N (by omega)
    obtain ⟨u1, u2⟩ := rN_hi (D := D) (n0 := A 0 0) (t := t) hw N (by omega)
    have j0 : J 78 0 = A 0 1 := by
      have e : J 78 0 = rN D (A 0 0) t A N 0 0 := by rw [← p1]; rfl
      rw [e]
      exact Int32.toInt_inj.mp (by omega)
    have j1 : J 78 1 = A 0 1 := by rw [p3 1 (by decide), o2 1 (by decide), a01]
    have j2 : J 78 2 = A 0 2 := by rw [p3 2 (by decide), o2 2 (by decide), a02]
    have ei := e_inA (J := J) (t := t) (by rw [j2]; exact ⟨w5, w6⟩) ht (by rw [j0]; omega)
    rw [j0, j2, p1] at ei
    refine ⟨_, ⟨bbM J, rfl, fun c h1 h2 => ?_, fun j hj => ?_, ?_⟩, ?_⟩
    · unfold bbM
      rw [fc_wI_lo h1, fc_wI_lo h1]
      unfold scM at h2
      funext q
      by_cases c1 : 97 ≤ c ∧ c < 99
      · have r1 : cpB 97 123 2 4 (cpB 86 121 2 3 (cpB 80 117 4 6 J)) c q = if q < 4 then J (123 + (c - 97)) q else J c q := by
          unfold cpB
          by_cases hq : q < 4
          · rw [if_pos ⟨by omega, by omega, hq⟩, if_pos hq, if_neg (by omega), if_neg (by omega)]
          · rw [if_neg (by omega), if_neg hq, if_neg (by omega), if_neg (by omega)]
        rw [r1]
        by_cases hq : q < 4
        · rw [if_pos hq, p2 _ (by omega), o6 (c - 97) q (by omega) hq, show 97 + (c - 97) = c by omega]
        · rw [if_neg hq]
          rcases (show c = 97 ∨ c = 98 by omega) with rfl | rfl
          · rw [show J 97 q = aM J 18 q from rfl, p1, u2 18 q (by decide) (by omega), hA]
            rfl
          · rw [show J 98 q = aM J 19 q from rfl, p1, u2 19 q (by decide) (by omega), hA]
            rfl
      · rw [cpB_o (by omega)]
        by_cases c2 : 86 ≤ c ∧ c < 88
        · have r1 : cpB 86 121 2 3 (cpB 80 117 4 6 J) c q = if q < 3 then J (121 + (c - 86)) q else J c q := by
            unfold cpB
            by_cases hq : q < 3
            · rw [if_pos ⟨by omega, by omega, hq⟩, if_pos hq, if_neg (by omega)]
            · rw [if_neg (by omega), if_neg hq, if_neg (by omega)]
          rw [r1]
          by_cases hq : q < 3
          · rw [if_pos hq, p2 _ (by omega), o5 (c - 86) q (by omega) hq, show 86 + (c - 86) = c by omega]
          · rw [if_neg hq]
            have q4 := p4 q (by omega)
            rcases (show c = 86 ∨ c = 87 by omega) with rfl | rfl
            · exact q4.1
            · exact q4.2
        · rw [cpB_o (by omega)]
          by_cases c3 : 80 ≤ c ∧ c < 84
          · have r1 : cpB 80 117 4 6 J c q = if q < 6 then J (117 + (c - 80)) q else J c q := by
              unfold cpB
              by_cases hq : q < 6
              · rw [if_pos ⟨by omega, by omega, hq⟩, if_pos hq]
              · rw [if_neg (by omega), if_neg hq]
            rw [r1]
            by_cases hq : q < 6
            · rw [if_pos hq, p2 _ (by omega), o4 (c - 80) q (by omega) hq, show 80 + (c - 80) = c by omega]
            · rw [if_neg hq]
              rcases (show c = 80 ∨ c = 81 ∨ c = 82 ∨ c = 83 by omega) with rfl | rfl | rfl | rfl
              · rw [show J 80 q = aM J 2 q from rfl, p1, u1 2 q (by decide) (by omega), hA]
                rfl
              · rw [show J 81 q = aM J 3 q from rfl, p1, u1 3 q (by decide) (by omega), hA]
                rfl
              · rw [show J 82 q = aM J 4 q from rfl, p1, u1 4 q (by decide) (by omega), hA]
                rfl
              · rw [show J 83 q = aM J 5 q from rfl, p1, u1 5 q (by decide) (by omega), hA]
                rfl
          · rw [cpB_o (by omega), p2 c (by omega), o1 c h1 (by omega)]
    · have b78 : ∀ i, cpB 97 123 2 4 (cpB 86 121 2 3 (cpB 80 117 4 6 J)) 78 i = J 78 i := fun i => by rw [cpB_o (by omega), cpB_o (by omega), cpB_o (by omega)]
      unfold bbM
      rw [fc_wI_at]
      by_cases q0 : j = 0
      · rw [if_pos q0, q0, p3 68 (by decide), o3.2]
      · rw [if_neg q0, fc_wI_at]
        by_cases q1 : j = 26
        · rw [if_pos q1, q1, p3 67 (by decide), o3.1]
        · rw [if_neg q1, b78, p3 j ⟨q0, q1⟩, o2 j hj]
    · unfold bbM
      rw [fc_wI_lo (by decide), fc_wI_lo (by decide), cpB_o (by omega), cpB_o (by omega), cpB_o (by omega), p2 125 (by omega), o1 125 (by omega) (by omega)]
    · unfold f_X11_played_4_B
      rw [if_neg (by rw [j0, j1]; omega), ei, fq_vsome, e_bringBack, fq_usome]
      unfold fvA
      rw [hN]) 4000 0 K0 (by omega) (by omega) ⟨aK, fun _ _ => rfl, fun _ _ => rfl, fun s _ => by rw [o1 86 (by decide) (by decide), o1 87 (by decide) (by decide)]; exact ⟨rfl, rfl⟩⟩
  obtain ⟨J, rfl, j1, j2⟩ := h1
  refine ⟨J, ?_, j1, j2.1, by rw [j2.2, hD]⟩
  unfold f_X11_played
  rw [e_keepAll, fq_usome, ← hK0]
  exact h2
