/-! ===== what a road can take: both sides ===== -/
set_option maxHeartbeats 4000000 in
theorem e_takeX {I : fc_I} {x h w : Int32} (hx : 0 ≤ x.toInt ∧ x.toInt < 14) (h9 : -1 ≤ (I 9 (cn x)).toInt ∧ (I 9 (cn x)).toInt ≤ 60) : f_X6_canTake I x h w = some (if ¬ (I 9 (cn x)).toInt = -1 ∧ h.toInt < (I 9 (cn x)).toInt + (if (I 5 (cn x)).toInt = 3 then 2 else 1) then 0
  else if (I 5 (cn x)).toInt = 1 ∨ (I 5 (cn x)).toInt = 3 then (if (I 9 (cn x)).toInt = -1 then I 8 (cn x) else I 8 (cn x) * 2)
  else if (I 5 (cn x)).toInt = 2 then (if 40 < w.toInt then 0 else I 8 (cn x))
  else if (I 5 (cn x)).toInt = 4 then (if 40 < w.toInt then 0 else if 20 < w.toInt then I 8 (cn x) / 2 else I 8 (cn x))
  else if (I 5 (cn x)).toInt = 5 then I 8 (cn x) / 3 else I 8 (cn x)) := by
  have a1 : (I 9 (cn x) + 1).toInt = (I 9 (cn x)).toInt + 1 := i_add (by rw [kt_1]; omega) (by rw [kt_1]; omega)
  have a2 : (I 9 (cn x) + 2).toInt = (I 9 (cn x)).toInt + 2 := i_add (by rw [kt_2]; omega) (by rw [kt_2]; omega)
  have hg : ∀ k : Option Int32, fq_g 14 x k = k := fun k => fq_gp ⟨hx.1, hx.2⟩
  unfold f_X6_canTake f_X6_canTake_15 f_X6_canTake_32 f_X6_canTake_54
  simp only [hg, fq_l, kt_0, kt_1, kt_3, kt_m1, kt_40, kt_20, a1, a2]
  generalize I 9 (cn x) + 1 = b1 at *
  generalize I 9 (cn x) + 2 = b2 at *
  generalize I 9 (cn x) = a at *
  generalize I 5 (cn x) = c at *
  generalize I 8 (cn x) = e at *
  by_cases d1 : a.toInt = -1
  · rw [if_pos d1, if_neg (show ¬ (¬ a.toInt = -1 ∧ h.toInt < a.toInt + (if c.toInt = 3 then 2 else 1)) from fun z => z.1 d1)]
    simp only [if_pos d1]
    repeat' split
    all_goals first | rfl | omega | exact absurd trivial (by assumption)
  · rw [if_neg d1]
    simp only [if_neg d1]
    by_cases d2 : c.toInt = 3
    · simp only [if_pos d2]
      rw [if_neg (show ¬ (1 : Int) = 0 by decide)]
      by_cases d3 : h.toInt < a.toInt + 2
      · rw [if_pos d3, if_pos ⟨d1, d3⟩]
      · rw [if_neg d3, if_neg (show ¬ (¬ a.toInt = -1 ∧ h.toInt < a.toInt + 2) from fun z => d3 z.2)]
        repeat' split
        all_goals first | rfl | omega | exact absurd trivial (by assumption)
    · simp only [if_neg d2]
      rw [if_neg (show ¬ (1 : Int) = 0 by decide)]
      by_cases d3 : h.toInt < a.toInt + 1
      · rw [if_pos d3, if_pos ⟨d1, d3⟩]
      · rw [if_neg d3, if_neg (show ¬ (¬ a.toInt = -1 ∧ h.toInt < a.toInt + 1) from fun z => d3 z.2)]
        repeat' split
        all_goals first | rfl | omega | exact absurd trivial (by assumption)
set_option maxHeartbeats 4000000 in
theorem e_takeM {I : fc_I} {x t h : Int32} (hx : 0 ≤ x.toInt ∧ x.toInt < 14) (ht : 0 ≤ t.toInt ∧ t.toInt ≤ 2) (hh : 0 ≤ h.toInt ∧ h.toInt ≤ 60) (h9 : -1 ≤ (I 92 (cn x)).toInt ∧ (I 92 (cn x)).toInt ≤ h.toInt) : f_X11_canTake_43 I x t h = some (if ¬ (I 92 (cn x)).toInt = -1 ∧ h.toInt < (I 92 (cn x)).toInt + (if (I 88 (cn x)).toInt = 3 then 2 else 1) then 0
  else if (I 88 (cn x)).toInt = 1 ∨ (I 88 (cn x)).toInt = 3 then (if (I 92 (cn x)).toInt = -1 then I 91 (cn x) else I 91 (cn x) * 2)
  else if (I 88 (cn x)).toInt = 2 then (if 40 < (I 107 (61 * cn t + cn h)).toInt then 0 else I 91 (cn x))
  else if (I 88 (cn x)).toInt = 4 then (if 40 < (I 107 (61 * cn t + cn h)).toInt then 0 else if 20 < (I 107 (61 * cn t + cn h)).toInt then I 91 (cn x) / 2 else I 91 (cn x))
  else if (I 88 (cn x)).toInt = 5 then I 91 (cn x) / 3 else I 91 (cn x)) := by
  have a1 : (I 92 (cn x) + 1).toInt = (I 92 (cn x)).toInt + 1 := i_add (by rw [kt_1]; omega) (by rw [kt_1]; omega)
  have hg : ∀ k : Option Int32, fq_g 14 x k = k := fun k => fq_gp ⟨hx.1, hx.2⟩
  obtain ⟨l1, l2, _, _⟩ := wi_M (I := I) ht hh
  have hg2 : ∀ k : Option Int32, fq_g 183 (61 * t + h) k = k := fun k => fq_gp ⟨by omega, by omega⟩
  unfold f_X11_canTake_43 f_X11_canTake_79 f_X11_canTake_116
  simp only [hg, hg2, fq_l, kt_0, kt_1, kt_3, kt_m1, kt_40, kt_20, a1, l2]
  clear hg2 l1 l2
  have mc : (2 : Int32) * I 91 (cn x) = I 91 (cn x) * 2 := Int32.mul_comm _ _
  rw [mc]
  clear mc
  generalize I 107 (61 * cn t + cn h) = w at *
  generalize I 92 (cn x) + 1 = b1 at *
  generalize I 92 (cn x) = a at *
  generalize I 88 (cn x) = c at *
  generalize I 91 (cn x) = e at *
  by_cases d1 : a.toInt = -1
  · rw [if_pos d1, if_neg (show ¬ (¬ a.toInt = -1 ∧ h.toInt < a.toInt + (if c.toInt = 3 then 2 else 1)) from fun z => z.1 d1)]
    simp only [if_pos d1]
    repeat' split
    all_goals first | rfl | omega | exact absurd trivial (by assumption)
  · rw [if_neg d1]
    simp only [if_neg d1]
    by_cases d2 : c.toInt = 3
    · simp only [if_pos d2]
      rw [if_neg (show ¬ (1 : Int) = 0 by decide)]
      by_cases d3 : h.toInt < a.toInt + 2
      · rw [if_pos (show ¬ a.toInt = -1 ∧ h.toInt < a.toInt + 2 from ⟨d1, d3⟩)]
        repeat' split
        all_goals first | rfl | omega | exact absurd trivial (by assumption)
      · rw [if_neg (show ¬ (¬ a.toInt = -1 ∧ h.toInt < a.toInt + 2) from fun z => d3 z.2)]
        repeat' split
        all_goals first | rfl | omega | exact absurd trivial (by assumption)
    · simp only [if_neg d2]
      rw [if_neg (show ¬ (1 : Int) = 0 by decide)]
      by_cases d3 : h.toInt < a.toInt + 1
      · rw [if_pos (show ¬ a.toInt = -1 ∧ h.toInt < a.toInt + 1 from ⟨d1, d3⟩)]
        repeat' split
        all_goals first | rfl | omega | exact absurd trivial (by assumption)
      · rw [if_neg (show ¬ (¬ a.toInt = -1 ∧ h.toInt < a.toInt + 1) from fun z => d3 z.2)]
        repeat' split
        all_goals first | rfl | omega | exact absurd trivial (by assumption)
theorem e_openX {f : Nat} {I : fc_I} {x t : Int32} (hw : Wh (aX f I)) (hx : 0 ≤ x.toInt ∧ x.toInt < (I 4 5).toInt) (ht : 0 ≤ t.toInt ∧ t.toInt ≤ 2) : f_X4_openFlow I x t (I f 9) = some (opA t (aX f I) (cn x)) := by
  have ex := cn_int hx.1
  obtain ⟨⟨⟨w1, w2, w3, w4⟩, ⟨w5, w6⟩, ⟨w7, w8⟩, ⟨w9, w10⟩, _⟩, wr, _⟩ := hw
  have e00 : aX f I 0 0 = I f 9 := rfl
  have e02 : aX f I 0 2 = I 1 2 := rfl
  have e04 : aX f I 0 4 = I 4 5 := rfl
  obtain ⟨r1, r2, r3, r4, r5⟩ := wr (cn x) (by rw [e04]; omega)
  have e10 : aX f I 10 (cn x) = I 6 (cn x) := rfl
  have e11 : aX f I 11 (cn x) = I 7 (cn x) := rfl
  have e13 : aX f I 13 (cn x) = I 9 (cn x) := rfl
  have e9 : aX f I 9 (cn x) = I 5 (cn x) := rfl
  have e12 : aX f I 12 (cn x) = I 8 (cn x) := rfl
  have w31 := (wi_X (f := f) (I := I) ht (h := I f 9) (by rw [← e00]; omega)).1
  unfold f_X4_openFlow opA
  simp only [fq_l, kt_6]
  rw [e10] at r2 ⊢
  rw [e11] at r3 ⊢
  rw [e13, e00] at r5
  rw [e02] at r2
  rw [e02] at w6
  rw [e04] at w10
  rw [e00] at w1 w2
  rw [fq_gp ⟨hx.1, by omega⟩, fq_gp ⟨hx.1, by omega⟩, e_wetXA (f := f) ⟨r2.1, by omega⟩ ht ⟨w1, by omega⟩, fq_vsome]
  simp only [b2i]
  have tail : fq_g 3 t (fq_g 61 (I f 9) (fq_v (f_X6_canTake I x (I f 9) (I (22 + cn t) (cn (I f 9)))) fun r66 => some r66)) = some (if ¬ (aX f I 13 (cn x)).toInt = -1 ∧ (aX f I 0 0).toInt < (aX f I 13 (cn x)).toInt + (if (aX f I 9 (cn x)).toInt = 3 then 2 else 1) then 0
  else if (aX f I 9 (cn x)).toInt = 1 ∨ (aX f I 9 (cn x)).toInt = 3 then (if (aX f I 13 (cn x)).toInt = -1 then aX f I 12 (cn x) else aX f I 12 (cn x) * 2)
  else if (aX f I 9 (cn x)).toInt = 2 then (if 40 < (aX f I 31 (61 * cn t + cn (aX f I 0 0))).toInt then 0 else aX f I 12 (cn x))
  else if (aX f I 9 (cn x)).toInt = 4 then (if 40 < (aX f I 31 (61 * cn t + cn (aX f I 0 0))).toInt then 0 else if 20 < (aX f I 31 (61 * cn t + cn (aX f I 0 0))).toInt then aX f I 12 (cn x) / 2 else aX f I 12 (cn x))
  else if (aX f I 9 (cn x)).toInt = 5 then aX f I 12 (cn x) / 3 else aX f I 12 (cn x)) := by
    rw [fq_gp ⟨ht.1, by omega⟩, fq_gp ⟨w1, by omega⟩, e_takeX ⟨hx.1, by omega⟩ ⟨r5.1, by omega⟩, fq_vsome, e00, e13, e9, e12, w31]
  rw [tail]
  by_cases c1 : wetA (aX f I) t (cn (I 6 (cn x)))
  · rw [if_neg (not_not_intro c1), if_pos c1]
  · rw [if_pos c1, if_neg c1]
    by_cases c2 : (I 7 (cn x)).toInt < 6
    · rw [if_pos c2, e_wetXA (f := f) ⟨r3.1, c2⟩ ht ⟨w1, by omega⟩, fq_vsome]
      simp only [b2i]
      by_cases c3 : wetA (aX f I) t (cn (I 7 (cn x)))
      · rw [if_neg (not_not_intro c3), if_pos (show (I 7 (cn x)).toInt < 6 ∧ wetA (aX f I) t (cn (I 7 (cn x))) from ⟨c2, c3⟩)]
      · rw [if_pos c3, if_neg (show ¬ ((I 7 (cn x)).toInt < 6 ∧ wetA (aX f I) t (cn (I 7 (cn x)))) from fun z => c3 z.2)]
    · rw [if_neg c2, if_neg (show ¬ ((I 7 (cn x)).toInt < 6 ∧ wetA (aX f I) t (cn (I 7 (cn x)))) from fun z => c2 z.1)]
theorem e_openM {I : fc_I} {x t : Int32} (hw : Wh (aM I)) (hx : 0 ≤ x.toInt ∧ x.toInt < (I 78 13).toInt) (ht : 0 ≤ t.toInt ∧ t.toInt ≤ 2) : f_X11_canTake I x t (I 78 0) = some (opA t (aM I) (cn x)) := by
  have ex := cn_int hx.1
  obtain ⟨⟨⟨w1, w2, w3, w4⟩, ⟨w5, w6⟩, ⟨w7, w8⟩, ⟨w9, w10⟩, _⟩, wr, _⟩ := hw
  have e00 : aM I 0 0 = I 78 0 := rfl
  have e02 : aM I 0 2 = I 78 2 := rfl
  have e04 : aM I 0 4 = I 78 13 := rfl
  obtain ⟨r1, r2, r3, r4, r5⟩ := wr (cn x) (by rw [e04]; omega)
  have e10 : aM I 10 (cn x) = I 89 (cn x) := rfl
  have e11 : aM I 11 (cn x) = I 90 (cn x) := rfl
  have e13 : aM I 13 (cn x) = I 92 (cn x) := rfl
  have e9 : aM I 9 (cn x) = I 88 (cn x) := rfl
  have e12 : aM I 12 (cn x) = I 91 (cn x) := rfl
  have w31 := (wi_M (I := I) ht (h := I 78 0) (by rw [← e00]; omega)).2.2.1
  unfold f_X11_canTake opA
  simp only [kt_6]
  rw [e10] at r2 ⊢
  rw [e11] at r3 ⊢
  rw [e13, e00] at r5
  rw [e02] at r2
  rw [e02] at w6
  rw [e04] at w10
  rw [e00] at w1 w2
  rw [fq_gp ⟨hx.1, by omega⟩, e_wetMA ⟨r2.1, by omega⟩ ht ⟨w1, by omega⟩, fq_vsome]
  simp only [b2i]
  have tail : f_X11_canTake_43 I x t (I 78 0) = some (if ¬ (aM I 13 (cn x)).toInt = -1 ∧ (aM I 0 0).toInt < (aM I 13 (cn x)).toInt + (if (aM I 9 (cn x)).toInt = 3 then 2 else 1) then 0
  else if (aM I 9 (cn x)).toInt = 1 ∨ (aM I 9 (cn x)).toInt = 3 then (if (aM I 13 (cn x)).toInt = -1 then aM I 12 (cn x) else aM I 12 (cn x) * 2)
  else if (aM I 9 (cn x)).toInt = 2 then (if 40 < (aM I 31 (61 * cn t + cn (aM I 0 0))).toInt then 0 else aM I 12 (cn x))
  else if (aM I 9 (cn x)).toInt = 4 then (if 40 < (aM I 31 (61 * cn t + cn (aM I 0 0))).toInt then 0 else if 20 < (aM I 31 (61 * cn t + cn (aM I 0 0))).toInt then aM I 12 (cn x) / 2 else aM I 12 (cn x))
  else if (aM I 9 (cn x)).toInt = 5 then aM I 12 (cn x) / 3 else aM I 12 (cn x)) := by
    rw [e_takeM ⟨hx.1, by omega⟩ ht ⟨w1, by omega⟩ r5, e00, e13, e9, e12, w31]
  rw [tail]
  by_cases c1 : wetA (aM I) t (cn (I 89 (cn x)))
  · rw [if_neg (not_not_intro c1), if_pos c1]
  · rw [if_pos c1, if_neg c1, fq_gp ⟨hx.1, by omega⟩]
    by_cases c2 : (I 90 (cn x)).toInt < 6
    · rw [if_pos c2, fq_gp ⟨hx.1, by omega⟩, e_wetMA ⟨r3.1, c2⟩ ht ⟨w1, by omega⟩, fq_vsome]
      simp only [b2i]
      by_cases c3 : wetA (aM I) t (cn (I 90 (cn x)))
      · rw [if_neg (not_not_intro c3), if_pos (show (I 90 (cn x)).toInt < 6 ∧ wetA (aM I) t (cn (I 90 (cn x))) from ⟨c2, c3⟩)]
      · rw [if_pos c3, if_neg (show ¬ ((I 90 (cn x)).toInt < 6 ∧ wetA (aM I) t (cn (I 90 (cn x)))) from fun z => c3 z.2)]
    · rw [if_neg c2, if_neg (show ¬ ((I 90 (cn x)).toInt < 6 ∧ wetA (aM I) t (cn (I 90 (cn x)))) from fun z => c2 z.1)]
