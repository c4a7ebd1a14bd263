/-! ===== what is foreseen: the reference ===== -/
theorem hS_un {C : Nat → Bool} {S : Nat → Int32} {t : Int32} {A : fc_I} (hw : Wh A) {z : Nat} (hz : (A 0 2).toInt ≤ (z : Int)) : hS C S t A 2 z = A 2 z ∧ hS C S t A 3 z = A 3 z ∧ hS C S t A 4 z = A 4 z := by
  have hl := Wh_lv (C := C) (S := S) (t := t) hw
  have hr := Wh_rd (t := t) hl
  have z2 := cn_int hw.1.2.1.1
  obtain ⟨L, hL⟩ : ∃ L, L = lvA C S t A := ⟨_, rfl⟩
  rw [← hL] at hl hr
  have l2 : L 2 z = A 2 z := by
    rw [hL]
    unfold lvA lvP
    simp [show ¬ z < cn (A 0 2) by omega]
  have l3 : L 3 z = A 3 z := by
    rw [hL]
    unfold lvA lvP
    simp [show ¬ z < cn (A 0 2) by omega]
  have l4 : L 4 = A 4 := by rw [hL, lvA_o (by decide)]
  have l0 : L 0 = A 0 := by rw [hL, lvA_o (by decide)]
  have e4 := cn_int (x := L 0 4) hl.1.2.2.2.1.1
  obtain ⟨R, hR⟩ : ∃ R, R = rdA t L := ⟨_, rfl⟩
  have r3 : R 3 z = A 3 z := by
    rw [hR]
    have q : rdA t L 3 z = crA t L (cn (L 0 4)) z := by unfold rdA rdP; simp
    rw [q, (cr_hi (t := t) hl (k := z) (by rw [l0]; exact hz) _ (by omega)).1, l3]
  have r2 : R 2 z = A 2 z := by rw [hR, rdA_o (by decide), l2]
  have r4 : R 4 z = A 4 z := by rw [hR, rdA_o (by decide), l4]
  rw [← hR] at hr
  have r02 : R 0 2 = A 0 2 := by rw [hR, rdA_0 (by decide), l0]
  have r05 : R 0 5 = A 0 5 := by rw [hR, rdA_0 (by decide), l0]
  have e5 := cn_int (x := A 0 5) hw.1.2.2.2.2.1.1
  have h5 : ∀ r, r ≠ 0 ∧ r ≠ 8 ∧ r ≠ 18 ∧ r ≠ 19 → hS C S t A r = bdA S t R (cn (A 0 5)) r := fun r hr => by
    unfold hS
    rw [← hL, ← hR, frA_o (by omega)]
    unfold tkA
    rw [fc_wI_lo hr.1]
  rw [h5 2 (by decide), h5 3 (by decide), h5 4 (by decide), bdA_o (by decide), bdA_o (by decide), bdA_z hr (by rw [r02]; exact hz) _ (by rw [r05]; omega)]
  exact ⟨r2, r3, r4⟩
theorem hS_bu {C : Nat → Bool} {S : Nat → Int32} {t : Int32} {A : fc_I} {b r : Nat} (hr : r = 18 ∨ r = 19) (hb : cn (A 0 5) ≤ b) : hS C S t A r b = A r b := by
  unfold hS
  rw [frA_18 hr _ hb]
  unfold tkA
  rw [fc_wI_lo (by omega), bdA_18 hr _ hb, rdA_o (by omega), lvA_o (by omega)]
theorem rN_hi {D : Nat → Int32} {n0 t : Int32} {A : fc_I} (hw : Wh A) : ∀ n : Nat, (A 0 0).toInt + (n : Int) ≤ (A 0 1).toInt → (∀ r k, (r = 2 ∨ r = 3 ∨ r = 4 ∨ r = 5) → 6 ≤ k → rN D n0 t A n r k = A r k) ∧ ∀ r k, (r = 18 ∨ r = 19) → 4 ≤ k → rN D n0 t A n r k = A r k
  | 0, _ => ⟨fun _ _ _ _ => rfl, fun _ _ _ _ => rfl⟩
  | n + 1, h => by
    obtain ⟨i1, i2⟩ := rN_hi (D := D) (n0 := n0) (t := t) hw n (by omega)
    obtain ⟨v1, v2⟩ := rN_w (D := D) (n0 := n0) (t := t) hw n (by omega)
    obtain ⟨B, hB⟩ : ∃ B, B = scA D n0 (rN D n0 t A n) := ⟨_, rfl⟩
    have wB : Wh B := by rw [hB]; exact scA_wh v1
    have bo : ∀ r, r ≠ 5 → B r = rN D n0 t A n r := fun r hr => by rw [hB, scA_o hr]
    have en : rN D n0 t A (n + 1) = hS (isCb B) (snA B) t B := by rw [hB]; rfl
    have z2 := wB.1.2.1
    have z5 := wB.1.2.2.2.2.1
    have e5 := cn_int z5.1
    rw [en]
    refine ⟨fun r k hr hk => ?_, fun r k hr hk => ?_⟩
    · obtain ⟨q1, q2, q3⟩ := hS_un (C := isCb B) (S := snA B) (t := t) wB (z := k) (by omega)
      rcases hr with rfl | rfl | rfl | rfl
      · rw [q1, bo 2 (by decide)]
        exact i1 2 k (by decide) hk
      · rw [q2, bo 3 (by decide)]
        exact i1 3 k (by decide) hk
      · rw [q3, bo 4 (by decide)]
        exact i1 4 k (by decide) hk
      · rw [hS_o (by decide)]
        have e : B 5 k = rN D n0 t A n 5 k := by
          rw [hB]
          unfold scA
          rw [if_neg (fun z => by
            have q := z.2.1
            rw [← bo 0 (by decide)] at q
            omega)]
        rw [e]
        exact i1 5 k (by decide) hk
    · rw [hS_bu hr (by omega), bo r (by omega)]
      exact i2 r k hr hk
theorem rN_c5 {D : Nat → Int32} {n0 t : Int32} {A : fc_I} (hw : Wh A) (hc : ∀ z, z < 6 → (A 5 z).toInt ≤ (A 0 0).toInt) : ∀ n : Nat, (A 0 0).toInt + (n : Int) ≤ (A 0 1).toInt → ∀ z, z < 6 → (rN D n0 t A n 5 z).toInt ≤ (rN D n0 t A n 0 0).toInt ∧ (scA D n0 (rN D n0 t A n) 5 z).toInt ≤ (rN D n0 t A n 0 0).toInt := fun n => by
  have sc : ∀ B : fc_I, (∀ z, z < 6 → (B 5 z).toInt ≤ (B 0 0).toInt) → ∀ z, z < 6 → (scA D n0 B 5 z).toInt ≤ (B 0 0).toInt := fun B hB z hz => by
    unfold scA
    split
    · omega
    · exact hB z hz
  induction n with
  | zero => exact fun _ z hz => ⟨hc z hz, sc A hc z hz⟩
  | succ n ih =>
    intro h
    have i1 := ih (by omega)
    obtain ⟨v1, v2⟩ := rN_w (D := D) (n0 := n0) (t := t) hw n (by omega)
    obtain ⟨u1, u2⟩ := rN_w (D := D) (n0 := n0) (t := t) hw (n + 1) h
    have key : ∀ z, z < 6 → (rN D n0 t A (n + 1) 5 z).toInt ≤ (rN D n0 t A (n + 1) 0 0).toInt := fun z hz => by
      have e : rN D n0 t A (n + 1) 5 = scA D n0 (rN D n0 t A n) 5 := by
        show hS _ _ t (scA D n0 (rN D n0 t A n)) 5 = _
        rw [hS_o (by decide)]
      have q := (i1 z hz).2
      rw [e]
      omega
    exact fun z hz => ⟨key z hz, sc _ key z hz⟩
theorem e_inA {J : fc_I} {t : Int32} (hz : 0 ≤ (J 78 2).toInt ∧ (J 78 2).toInt ≤ 6) (ht : 0 ≤ t.toInt ∧ t.toInt ≤ 2) (hh : 0 ≤ (J 78 0).toInt ∧ (J 78 0).toInt ≤ 60) : f_X11_inWaterOf J t = some (sf (wgA (aM J) t (J 78 0)) (cn (J 78 2)) 0 0) := by
  have ez := cn_int hz.1
  have key := lpp2_S (B := f_X11_inWaterOf_4_B J t) (fun _ i => cn (J 78 2) - cn i) (fun _ i => 0 ≤ i.toInt ∧ i.toInt ≤ (J 78 2).toInt) (fun x i => some (sf (wgA (aM J) t (J 78 0)) (cn (J 78 2) - cn i) (cn i) x)) (fun k x i hi ih => by
    have ei := cn_int hi.1
    unfold f_X11_inWaterOf_4_B
    by_cases hl : i.toInt < (J 78 2).toInt
    · obtain ⟨e1, e2⟩ := i_p1 (N := 6) hi.1 (by omega) (by omega)
      have go : ∀ y, y = x + wgA (aM J) t (J 78 0) (cn i) → k y (i + 1) = some (sf (wgA (aM J) t (J 78 0)) (cn (J 78 2) - cn i) (cn i) x) := fun y hy => by
        rw [ih y (i + 1) ⟨by omega, by omega⟩ (by omega), e2, show cn (J 78 2) - cn i = (cn (J 78 2) - (cn i + 1)) + 1 by omega, hy]
        rfl
      rw [if_pos hl, e_wetMA ⟨by omega, by omega⟩ ht hh, fq_vsome]
      simp only [b2i, fq_l]
      by_cases c : wetA (aM J) t (cn i)
      · rw [if_neg (not_not_intro c), fq_gp ⟨by omega, by omega⟩, fq_gp ⟨by omega, by omega⟩, fq_gp ⟨by omega, by omega⟩]
        refine go _ ?_
        have e : wgA (aM J) t (J 78 0) (cn i) = aM J 2 (cn i) + aM J 3 (cn i) + aM J 4 (cn i) := if_pos c
        rw [e]
        rfl
      · rw [if_pos c]
        refine go _ ?_
        have e : wgA (aM J) t (J 78 0) (cn i) = 0 := if_neg c
        rw [e]
    · rw [if_neg hl, show cn (J 78 2) - cn i = 0 by omega]
      rfl)
  exact key 4000 0 0 ⟨by rw [kt_0]; omega, by rw [kt_0]; omega⟩ (by show cn (J 78 2) - cn 0 < 4000; omega)
/-- calls of the hour, the first m zones' -/
def scP (D : Nat → Int32) (n0 : Int32) (B : fc_I) (m : Nat) : fc_I := fun r k => if r = 5 ∧ k < m ∧ (B 5 k).toInt = -1 ∧ ¬ (D k).toInt = -1 ∧ (n0 + D k).toInt = (B 0 0).toInt then B 0 0 else B r k
theorem scP_0 {D : Nat → Int32} {n0 : Int32} {B : fc_I} : scP D n0 B 0 = B := by
  funext r k
  unfold scP
  rw [if_neg (fun z => by omega)]
theorem scP_S {D : Nat → Int32} {n0 : Int32} {B : fc_I} {m : Nat} : scP D n0 B (m + 1) = fc_wI (scP D n0 B m) 5 m (if (B 5 m).toInt = -1 ∧ ¬ (D m).toInt = -1 ∧ (n0 + D m).toInt = (B 0 0).toInt then B 0 0 else B 5 m) := by
  funext r k
  simp only [scP, fc_wI]
  by_cases h : r = 5 ∧ k = m
  · rw [if_pos h]
    obtain ⟨rfl, rfl⟩ := h
    by_cases c : (B 5 k).toInt = -1 ∧ ¬ (D k).toInt = -1 ∧ (n0 + D k).toInt = (B 0 0).toInt
    · rw [if_pos ⟨rfl, by omega, c⟩, if_pos c]
    · rw [if_neg (fun z => c z.2.2), if_neg c]
  · rw [if_neg h]
    by_cases c : r = 5 ∧ k < m ∧ (B 5 k).toInt = -1 ∧ ¬ (D k).toInt = -1 ∧ (n0 + D k).toInt = (B 0 0).toInt
    · rw [if_pos c, if_pos ⟨c.1, by omega, c.2.2⟩]
    · rw [if_neg c, if_neg (fun z => c ⟨z.1, by have := z.1; have := z.2.1; omega, z.2.2⟩)]
theorem scP_A {D : Nat → Int32} {n0 : Int32} {B : fc_I} (h : 0 ≤ (B 0 2).toInt) : scP D n0 B (cn (B 0 2)) = scA D n0 B := by
  have e := cn_int h
  funext r k
  unfold scP scA
  by_cases c : r = 5 ∧ k < cn (B 0 2) ∧ (B 5 k).toInt = -1 ∧ ¬ (D k).toInt = -1 ∧ (n0 + D k).toInt = (B 0 0).toInt
  · rw [if_pos c, if_pos ⟨c.1, by omega, c.2.2⟩]
  · rw [if_neg c, if_neg (fun z => c ⟨z.1, by have := z.2.1; omega, z.2.2⟩)]
set_option maxHeartbeats 2000000 in
theorem e_calls {J : fc_I} {t : Int32} {k4 : fc_I → Option (Int32 × fc_I)} (hz : 0 ≤ (J 78 2).toInt ∧ (J 78 2).toInt ≤ 6) : ∃ K, (aM K = scA (J 125) (J 78 68) (aM J) ∧ ∀ c, c ≠ 83 → K c = J c) ∧ f_X11_played_17 t k4 4000 0 J = fq_u (f_X11_step K t) fun I90 => k4 I90 := by
  obtain ⟨B, hB⟩ : ∃ B, B = aM J := ⟨_, rfl⟩
  have b2 : B 0 2 = J 78 2 := by rw [hB]; rfl
  have b0 : B 0 0 = J 78 0 := by rw [hB]; rfl
  have ez := cn_int hz.1
  rw [← hB, ← scP_A (by rw [b2]; exact hz.1), b2]
  refine lpm1_K (B := f_X11_played_17_B t k4) (cn (J 78 2)) (by omega) (fun m K => aM K = scP (J 125) (J 78 68) B m ∧ ∀ c, c ≠ 83 → K c = J c) (fun K => fq_u (f_X11_step K t) fun I90 => k4 I90) (fun k i m K hi hm hP => ?_) (fun k i K hi hP => ?_) 4000 0 0 J kt_0 (by omega) (by omega) ⟨by rw [scP_0, hB], fun _ _ => rfl⟩
  · obtain ⟨p1, p2⟩ := hP
    have ec : cn i = m := cn_eq hi
    have k83 : K 83 m = B 5 m := by
      have q := congrFun (congrFun p1 5) m
      rw [show aM K 5 m = K 83 m from rfl] at q
      rw [q]
      unfold scP
      rw [if_neg (fun z => by omega)]
    have hg : ∀ x : Option (Int32 × fc_I), fq_g 6 i x = x := fun x => fq_gp ⟨by omega, by omega⟩
    have fin : ∀ v, v = (if (B 5 m).toInt = -1 ∧ ¬ (J 125 m).toInt = -1 ∧ (J 78 68 + J 125 m).toInt = (B 0 0).toInt then B 0 0 else B 5 m) → ∃ K', (aM K' = scP (J 125) (J 78 68) B (m + 1) ∧ ∀ c, c ≠ 83 → K' c = J c) ∧ k (i + 1) (fc_wI K 83 m v) = k (i + 1) K' := fun v hv => ⟨_, ⟨by rw [mw_83, p1, scP_S, hv], fun c hc => by rw [fc_wI_lo hc, p2 c hc]⟩, rfl⟩
    unfold f_X11_played_17_B
    simp only [hg, fq_l, kt_m1]
    rw [p2 78 (by decide), p2 125 (by decide), if_pos (by omega), ec, k83, ← b0]
    by_cases c1 : (B 5 m).toInt = -1
    · rw [if_pos c1]
      by_cases c2 : (J 125 m).toInt = -1
      · rw [if_pos c2]
        exact fin _ (by rw [if_neg (fun z => z.2.1 c2)])
      · rw [if_neg c2]
        by_cases c3 : (J 78 68 + J 125 m).toInt = (B 0 0).toInt
        · rw [if_pos c3]
          exact fin _ (by rw [if_pos ⟨c1, c2, c3⟩])
        · rw [if_neg c3]
          exact fin _ (by rw [if_neg (fun z => c3 z.2.2)])
    · rw [if_neg c1]
      exact fin _ (by rw [if_neg (fun z => c1 z.1)])
  · obtain ⟨p1, p2⟩ := hP
    unfold f_X11_played_17_B
    rw [p2 78 (by decide), if_neg (by omega)]
