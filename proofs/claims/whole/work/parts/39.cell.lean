theorem ws_at {I : fc_I} (h : WfS (aX 45 I)) (x : Int32) : 0 ≤ x.toInt → x.toInt ≤ 3 → (-1 ≤ (I 76 (cn x)).toInt ∧ (I 76 (cn x)).toInt ≤ 2) ∧ (¬ (I 76 (cn x)).toInt = -1 → 0 ≤ (I 77 (cn x)).toInt ∧ (I 77 (cn x)).toInt ≤ 40) := fun h1 h2 => by
  have e := cn_int h1
  obtain ⟨q1, q2⟩ := h (cn x) (by omega)
  refine ⟨q1, fun hn => ?_⟩
  have z : aX 45 I 33 (cn x) = I 77 (cn x) := by
    rw [ax_33]
    unfold aSz
    rw [if_neg (fun w => hn (by rw [w]; rfl))]
  rw [z] at q2
  exact q2
theorem qz_at {I : fc_I} (he : aX 45 I = aM I) (x : Int32) (hn : ¬ (I 76 (cn x)).toInt = -1) : I 128 (cn x) = I 77 (cn x) := by
  have q := congrFun (congrFun he 33) (cn x)
  rw [ax_33, am_33] at q
  unfold aSz mSz at q
  rw [qr_127 he, if_neg (fun w => hn (by rw [w]; rfl)), if_neg (fun w => hn (by rw [w]; rfl))] at q
  exact q.symm
set_option maxHeartbeats 4000000 in
set_option maxRecDepth 100000 in
theorem wf_cell {A : fc_I} (hw : Wf A) {j : Nat} {v : Int32} : Wf (fc_wI A 34 j v) := by
  obtain ⟨h0, hr, hb, hs, hl, hz, hn⟩ := hw
  obtain ⟨⟨w1, w2, w3, w4⟩, ⟨w5, w6⟩, ⟨w7, w8⟩, ⟨w9, w10⟩, ⟨w11, w12⟩, ⟨w13, w14⟩, ⟨w15, w16⟩, ⟨w17, w18⟩, ⟨w19, w20⟩, ⟨w21, w22⟩⟩ := h0
  have km1 : (-1 : Int32).toInt = -1 := rfl
  refine ⟨?_, ?_, ?_, ?_, ?_, ?_, ?_⟩
  · unfold Wf0
    simp only [fc_wI_lo, fc_wI_at, ne_eq, Nat.reduceEqDiff, not_false_eq_true, if_true, if_false, ite_true, ite_false, kt_1, kt_0, kt_m1]
    omega
  · intro r
    have q := hr r
    simp only [fc_wI_lo, fc_wI_at, ne_eq, Nat.reduceEqDiff, not_false_eq_true, if_true, if_false, ite_true, ite_false, kt_1, kt_0, kt_m1]
    first | exact q | (repeat' split) <;> omega
  · intro r
    have q := hb r
    simp only [fc_wI_lo, fc_wI_at, ne_eq, Nat.reduceEqDiff, not_false_eq_true, if_true, if_false, ite_true, ite_false, kt_1, kt_0, kt_m1]
    first | exact q | (repeat' split) <;> omega
  · intro r
    have q := hs r
    simp only [fc_wI_lo, fc_wI_at, ne_eq, Nat.reduceEqDiff, not_false_eq_true, if_true, if_false, ite_true, ite_false, kt_1, kt_0, kt_m1]
    first | exact q | (repeat' split) <;> omega
  · intro r
    have q := hl r
    simp only [fc_wI_lo, fc_wI_at, ne_eq, Nat.reduceEqDiff, not_false_eq_true, if_true, if_false, ite_true, ite_false, kt_1, kt_0, kt_m1]
    first | exact q | (repeat' split) <;> omega
  · intro r
    have q := hz r
    simp only [fc_wI_lo, fc_wI_at, ne_eq, Nat.reduceEqDiff, not_false_eq_true, if_true, if_false, ite_true, ite_false, kt_1, kt_0, kt_m1]
    first | exact q | (repeat' split) <;> omega
  · obtain ⟨hg, hh, ht⟩ := hn
    refine ⟨?_, ?_, ?_⟩
    · intro r
      have q := hg r
      simp only [fc_wI_lo, fc_wI_at, ne_eq, Nat.reduceEqDiff, not_false_eq_true, if_true, if_false, ite_true, ite_false, kt_1, kt_0, kt_m1]
      first | exact q | (repeat' split) <;> omega
    · unfold WfH wS at hh ⊢
      simp only [fc_wI_lo, fc_wI_at, ne_eq, Nat.reduceEqDiff, not_false_eq_true, if_true, if_false, ite_true, ite_false, kt_1, kt_0, kt_m1]
      first | exact hh | (exact hh)
    · unfold WfT at ht ⊢
      simp only [fc_wI_lo, fc_wI_at, ne_eq, Nat.reduceEqDiff, not_false_eq_true, if_true, if_false, ite_true, ite_false, kt_1, kt_0, kt_m1]
      exact ht
