/-! ===== what is foreseen asks no more than that ===== -/
theorem rN_agr {D : Nat → Int32} {n0 t : Int32} {A B : fc_I} (h : Agr A B) (hw : Wh A) (h5 : ∀ z, z < 6 → B 5 z = A 5 z) : ∀ n : Nat, (A 0 0).toInt + (n : Int) ≤ (A 0 1).toInt → Agr (rN D n0 t A n) (rN D n0 t B n) ∧ ∀ z, z < 6 → rN D n0 t B n 5 z = rN D n0 t A n 5 z
  | 0, _ => ⟨h, h5⟩
  | n + 1, hn => by
    obtain ⟨i1, i2⟩ := rN_agr (D := D) (n0 := n0) (t := t) h hw h5 n (by omega)
    obtain ⟨v1, v2⟩ := rN_w (D := D) (n0 := n0) (t := t) hw n (by omega)
    obtain ⟨X, hX⟩ : ∃ X, X = scA D n0 (rN D n0 t A n) := ⟨_, rfl⟩
    obtain ⟨Y, hY⟩ : ∃ Y, Y = scA D n0 (rN D n0 t B n) := ⟨_, rfl⟩
    have r0 := i1.row (r := 0) (by decide)
    have wX : Wh X := by rw [hX]; exact scA_wh v1
    have aXY : Agr X Y := by
      intro r k hk
      rw [hX, hY, scA_o hk.1.1, scA_o hk.1.1]
      exact i1 r k hk
    have e5 : ∀ z, z < 6 → Y 5 z = X 5 z := fun z hz => by
      rw [hX, hY]
      unfold scA
      rw [r0, i2 z hz]
    have x0 : Y 0 = X 0 := aXY.row (by decide)
    have hC : ∀ z, z < 6 → isCb Y z = isCb X z ∧ snA Y z = snA X z := fun z hz => by
      unfold isCb isC
      rw [e5 z hz, x0]
      exact ⟨rfl, snA_congr (by rw [x0]) (e5 z hz)⟩
    have q := aXY.hS wX hC (t := t)
    have eA : rN D n0 t A (n + 1) = hS (isCb X) (snA X) t X := by rw [hX]; rfl
    have eB : rN D n0 t B (n + 1) = hS (isCb Y) (snA Y) t Y := by rw [hY]; rfl
    rw [eA, eB]
    refine ⟨q, fun z hz => ?_⟩
    rw [hS_o (by decide), hS_o (by decide)]
    exact e5 z hz
theorem fvA_agr {D : Nat → Int32} {t : Int32} {A B : fc_I} (h : Agr A B) (hw : Wh A) (h5 : ∀ z, z < 6 → B 5 z = A 5 z) : fvA D t B = fvA D t A := by
  obtain ⟨⟨w1, w2, w3, w4⟩, ⟨w5, w6⟩, _⟩ := hw.1
  have e0 := cn_int w1
  have e1 := cn_int (x := A 0 1) (by omega)
  have e2 := cn_int w5
  have r0 := h.row (r := 0) (by decide)
  obtain ⟨q1, q2⟩ := rN_agr (D := D) (n0 := A 0 0) (t := t) h hw h5 (cn (A 0 1) - cn (A 0 0)) (by omega)
  unfold fvA
  rw [r0]
  refine sf_congr _ _ _ (fun z _ hz => ?_)
  unfold wgA
  rw [q1.row (r := 1) (by decide), q1.row (r := 30) (by decide), q1.z (r := 2) (by decide) (by omega), q1.z (r := 3) (by decide) (by omega), q1.z (r := 4) (by decide) (by omega)]
theorem wst_agr {D : Nat → Int32} {A B : fc_I} (h : Agr A B) (hw : Wh A) (h5 : ∀ z, z < 6 → B 5 z = A 5 z) : ∀ n, wst D B n = wst D A n
  | 0 => rfl
  | n + 1 => by
    have eA : wst D A (n + 1) = if (A 20 n).toInt = 1 then imax (wst D A n) (fvA D (zi n) A) else wst D A n := rfl
    have eB : wst D B (n + 1) = if (B 20 n).toInt = 1 then imax (wst D B n) (fvA D (zi n) B) else wst D B n := rfl
    rw [eA, eB, wst_agr h hw h5 n, fvA_agr h hw h5, h.row (r := 20) (by decide)]
