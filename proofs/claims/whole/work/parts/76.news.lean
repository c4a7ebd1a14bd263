/-! ===== news: both sides ===== -/
/-- news that may come -/
def okN (A : fc_I) (t f o w d : Int32) : Prop := (0 ≤ t.toInt ∧ t.toInt ≤ 2) ∧ ((A 0 0).toInt ≤ f.toInt ∧ f.toInt ≤ 60) ∧ (f.toInt + 1 ≤ o.toInt ∧ o.toInt ≤ 61) ∧ (0 ≤ w.toInt ∧ w.toInt ≤ 99) ∧ (0 ≤ d.toInt ∧ d.toInt ≤ 99)
def nwA (A : fc_I) (t f o w d : Int32) : fc_I := fun r k => if r = 0 then (if k = 7 then A 0 7 + 1 else A 0 k) else if r = 21 then (if k = cn (A 0 7) then t else A 21 k) else if r = 22 then (if k = cn (A 0 7) then f else A 22 k) else if r = 23 then (if k = cn (A 0 7) then o else A 23 k) else if r = 24 then (if k = cn (A 0 7) then w else A 24 k) else if r = 25 then (if k = cn (A 0 7) then d else A 25 k) else if r = 26 then (if k = cn (A 0 7) then A 0 0 else A 26 k) else if r = 30 then (if 61 * cn t + cn f ≤ k ∧ k < 61 * cn t + cn o then w else A 30 k) else if r = 31 then (if 61 * cn t + cn f ≤ k ∧ k < 61 * cn t + cn o then d else A 31 k) else A r k
theorem nwA_o {A : fc_I} {t f o w d : Int32} {r : Nat} (h : r ≠ 0 ∧ r ≠ 21 ∧ r ≠ 22 ∧ r ≠ 23 ∧ r ≠ 24 ∧ r ≠ 25 ∧ r ≠ 26 ∧ r ≠ 30 ∧ r ≠ 31) : nwA A t f o w d r = A r := by
  funext k
  unfold nwA
  simp only [h.1, h.2.1, h.2.2.1, h.2.2.2.1, h.2.2.2.2.1, h.2.2.2.2.2.1, h.2.2.2.2.2.2.1, h.2.2.2.2.2.2.2.1, h.2.2.2.2.2.2.2.2, if_false, ite_false]
theorem nwA_0 {A : fc_I} {t f o w d : Int32} {k : Nat} (h : k ≠ 7) : nwA A t f o w d 0 k = A 0 k := by
  unfold nwA
  simp [h]
theorem Wf_nw {A : fc_I} (hw : Wf A) {t f o w d : Int32} (hc : (A 0 7).toInt < 40) : Wf (nwA A t f o w d) := by
  obtain ⟨v0, v1, v2, v3, v4, v5, v6, v7, v8⟩ := hw
  have z : ∀ k, k ≠ 7 → nwA A t f o w d 0 k = A 0 k := fun k hk => nwA_0 hk
  have q : ∀ r, r ≠ 0 ∧ r ≠ 21 ∧ r ≠ 22 ∧ r ≠ 23 ∧ r ≠ 24 ∧ r ≠ 25 ∧ r ≠ 26 ∧ r ≠ 30 ∧ r ≠ 31 → nwA A t f o w d r = A r := fun r hr => nwA_o hr
  have z7 : nwA A t f o w d 0 7 = A 0 7 + 1 := by
    unfold nwA
    simp
  refine ⟨?_, ?_, ?_, ?_, ?_, ?_, ?_, ?_, ?_⟩
  · obtain ⟨u0, u2, u3, u4, u5, u6, u7, u8⟩ := v0
    have e : (A 0 7 + 1).toInt = (A 0 7).toInt + 1 := i_add (by rw [kt_1]; omega) (by rw [kt_1]; omega)
    unfold Wf0
    rw [z7, z 0 (by decide), z 1 (by decide), z 2 (by decide), z 3 (by decide), z 4 (by decide), z 5 (by decide), z 6 (by decide), z 8 (by decide), z 9 (by decide), z 10 (by decide), e]
    exact ⟨u0, u2, u3, u4, u5, u6, by omega, u8⟩
  · unfold WfR
    rw [z 0 (by decide), z 2 (by decide), z 4 (by decide), q 9 (by decide), q 10 (by decide), q 11 (by decide), q 12 (by decide), q 13 (by decide)]
    exact v1
  · unfold WfU
    rw [z 0 (by decide), z 2 (by decide), z 3 (by decide), z 5 (by decide), q 14 (by decide), q 15 (by decide), q 16 (by decide), q 17 (by decide), q 18 (by decide), q 19 (by decide)]
    exact v2
  · unfold WfS
    rw [q 28 (by decide), q 33 (by decide)]
    exact v3
  · unfold WfL
    rw [q 20 (by decide)]
    exact v4
  · unfold WfZ
    rw [z 0 (by decide), z 2 (by decide), z 4 (by decide), q 1 (by decide), q 2 (by decide), q 3 (by decide), q 4 (by decide), q 5 (by decide), q 6 (by decide), q 27 (by decide)]
    exact v5
  · unfold WfG
    rw [z 2 (by decide), z 3 (by decide), z 4 (by decide), q 11 (by decide)]
    exact v6
  · unfold WfH wS
    rw [z 2 (by decide), q 7 (by decide), q 2 (by decide), q 3 (by decide), q 4 (by decide)]
    exact v7
  · unfold WfT
    rw [z 9 (by decide), q 35 (by decide), q 36 (by decide)]
    exact v8
set_option maxHeartbeats 4000000 in
theorem e_hear {I : fc_I} {t f o w d : Int32} (hn : 0 ≤ (I 45 9).toInt ∧ (I 45 9).toInt ≤ 60) (hc : 0 ≤ (I 15 9).toInt ∧ (I 15 9).toInt ≤ 40) : ∃ r J, f_X8_hear I (I 45 9) t f o w d = some (r, J) ∧ (∀ c, ¬ (c = 15 ∨ (18 ≤ c ∧ c ≤ 20) ∨ (22 ≤ c ∧ c ≤ 30)) → J c = I c) ∧ (∀ j, j ≠ 9 → J 15 j = I 15 j) ∧ (¬ okN (aX 45 I) t f o w d → r = -2 ∧ J = I) ∧ (okN (aX 45 I) t f o w d → ¬ (I 15 9).toInt < 40 → r = -4 ∧ J = I) ∧ (okN (aX 45 I) t f o w d → (I 15 9).toInt < 40 → r = I 15 9 ∧ aX 45 J = nwA (aX 45 I) t f o w d) := by
  have refuse : ∀ r, f_X8_hear I (I 45 9) t f o w d = some (r, I) → (¬ okN (aX 45 I) t f o w d ∧ r = -2 ∨ okN (aX 45 I) t f o w d ∧ ¬ (I 15 9).toInt < 40 ∧ r = -4) → ∃ r J, f_X8_hear I (I 45 9) t f o w d = some (r, J) ∧ (∀ c, ¬ (c = 15 ∨ (18 ≤ c ∧ c ≤ 20) ∨ (22 ≤ c ∧ c ≤ 30)) → J c = I c) ∧ (∀ j, j ≠ 9 → J 15 j = I 15 j) ∧ (¬ okN (aX 45 I) t f o w d → r = -2 ∧ J = I) ∧ (okN (aX 45 I) t f o w d → ¬ (I 15 9).toInt < 40 → r = -4 ∧ J = I) ∧ (okN (aX 45 I) t f o w d → (I 15 9).toInt < 40 → r = I 15 9 ∧ aX 45 J = nwA (aX 45 I) t f o w d) := fun r h1 h2 => by
    refine ⟨r, I, h1, fun _ _ => rfl, fun _ _ => rfl, ?_, ?_, ?_⟩
    · rcases h2 with h2 | h2
      · exact fun _ => ⟨h2.2, rfl⟩
      · exact fun z => absurd h2.1 z
    · rcases h2 with h2 | h2
      · exact fun z => absurd z h2.1
      · exact fun _ _ => ⟨h2.2.2, rfl⟩
    · rcases h2 with h2 | h2
      · exact fun z => absurd z h2.1
      · exact fun _ z => absurd z h2.2.1
  have a00 : aX 45 I 0 0 = I 45 9 := rfl
  have no : ∀ P : Prop, (okN (aX 45 I) t f o w d → P) → ¬ P → ¬ okN (aX 45 I) t f o w d := fun P h hp z => hp (h z)
  by_cases c1 : t.toInt < 0 ∨ 2 < t.toInt
  · refine refuse (-2) ?_ (Or.inl ⟨no _ (fun z => z.1) (by omega), rfl⟩)
    unfold f_X8_hear
    rw [e_isNoTrack, fq_vsome, if_pos c1, if_neg (by decide)]
  by_cases c2 : f.toInt < (I 45 9).toInt ∨ 60 < f.toInt
  · refine refuse (-2) ?_ (Or.inl ⟨no _ (fun z => z.2.1) (by rw [a00]; omega), rfl⟩)
    unfold f_X8_hear
    rw [e_isNoTrack, fq_vsome, if_neg c1, if_pos (by rfl), e_isOutside, fq_vsome, kt_60, if_pos c2, if_neg (by decide)]
  have ef : (f + 1).toInt = f.toInt + 1 := i_add (by rw [kt_1]; omega) (by rw [kt_1]; omega)
  by_cases c3 : o.toInt < f.toInt + 1 ∨ 61 < o.toInt
  · refine refuse (-2) ?_ (Or.inl ⟨no _ (fun z => z.2.2.1) (by omega), rfl⟩)
    unfold f_X8_hear
    rw [e_isNoTrack, fq_vsome, if_neg c1, if_pos (by rfl), e_isOutside, fq_vsome, kt_60, if_neg c2, if_pos (by rfl), e_isOutside, fq_vsome, ef, kt_61, if_pos c3, if_neg (by decide)]
  by_cases c4 : w.toInt < 0 ∨ 99 < w.toInt
  · refine refuse (-2) ?_ (Or.inl ⟨no _ (fun z => z.2.2.2.1) (by omega), rfl⟩)
    unfold f_X8_hear
    rw [e_isNoTrack, fq_vsome, if_neg c1, if_pos (by rfl), e_isOutside, fq_vsome, kt_60, if_neg c2, if_pos (by rfl), e_isOutside, fq_vsome, ef, kt_61, if_neg c3, if_pos (by rfl), e_isOutside, fq_vsome, kt_0, kt_99, if_pos c4, if_neg (by decide)]
  by_cases c5 : d.toInt < 0 ∨ 99 < d.toInt
  · refine refuse (-2) ?_ (Or.inl ⟨no _ (fun z => z.2.2.2.2) (by omega), rfl⟩)
    unfold f_X8_hear
    rw [e_isNoTrack, fq_vsome, if_neg c1, if_pos (by rfl), e_isOutside, fq_vsome, kt_60, if_neg c2, if_pos (by rfl), e_isOutside, fq_vsome, ef, kt_61, if_neg c3, if_pos (by rfl), e_isOutside, fq_vsome, kt_0, kt_99, if_neg c4, if_pos (by rfl), e_isOutside, fq_vsome, kt_0, kt_99, if_pos c5, if_neg (by decide)]
  have ok : okN (aX 45 I) t f o w d := ⟨by omega, by rw [a00]; omega, by omega, by omega, by omega⟩
  have hX : f_X8_hear I (I 45 9) t f o w d = if (I 15 9).toInt < 40 then f_X8_hear_133 t o w d 4000 f (fc_wI (fc_wI (fc_wI (fc_wI (fc_wI (fc_wI I 25 (cn (I 15 9)) t) 26 (cn (I 15 9)) f) 27 (cn (I 15 9)) o) 28 (cn (I 15 9)) w) 29 (cn (I 15 9)) d) 30 (cn (I 15 9)) (I 45 9)) else some (-4, I) := by
    unfold f_X8_hear
    rw [e_isNoTrack, fq_vsome, if_neg c1, if_pos (by rfl), e_isOutside, fq_vsome, kt_60, if_neg c2, if_pos (by rfl), e_isOutside, fq_vsome, ef, kt_61, if_neg c3, if_pos (by rfl), e_isOutside, fq_vsome, kt_0, kt_99, if_neg c4, if_pos (by rfl), e_isOutside, fq_vsome, kt_0, kt_99, if_neg c5, if_pos (by rfl), kt_40]
    by_cases c6 : (I 15 9).toInt < 40
    · rw [if_pos c6, if_pos c6]
      simp only [fq_l, fc_wI_lo (show (15 : Nat) ≠ 25 by decide), fc_wI_lo (show (15 : Nat) ≠ 26 by decide), fc_wI_lo (show (15 : Nat) ≠ 27 by decide), fc_wI_lo (show (15 : Nat) ≠ 28 by decide), fc_wI_lo (show (15 : Nat) ≠ 29 by decide)]
      rw [fq_gp ⟨hc.1, by omega⟩, fq_gp ⟨hc.1, by omega⟩, fq_gp ⟨hc.1, by omega⟩, fq_gp ⟨hc.1, by omega⟩, fq_gp ⟨hc.1, by omega⟩, fq_gp ⟨hc.1, by omega⟩]
    · rw [if_neg c6, if_neg c6]
  by_cases c6 : (I 15 9).toInt < 40
  · rw [if_pos c6] at hX
    have et := cn_int (x := t) (by omega)
    have eff := cn_int (x := f) (by omega)
    have eo := cn_int (x := o) (by omega)
    obtain ⟨K, hK⟩ : ∃ K, K = fc_wI (fc_wI (fc_wI (fc_wI (fc_wI (fc_wI I 25 (cn (I 15 9)) t) 26 (cn (I 15 9)) f) 27 (cn (I 15 9)) o) 28 (cn (I 15 9)) w) 29 (cn (I 15 9)) d) 30 (cn (I 15 9)) (I 45 9) := ⟨_, rfl⟩
    rw [← hK] at hX
    have ko : ∀ c, ¬ (25 ≤ c ∧ c ≤ 30) → K c = I c := fun c h => by
      rw [hK, fc_wI_lo (by omega), fc_wI_lo (by omega), fc_wI_lo (by omega), fc_wI_lo (by omega), fc_wI_lo (by omega), fc_wI_lo (by omega)]
    obtain ⟨r, h1, h2⟩ := lpm1_R (B := f_X8_hear_133_B t o w d) (cn o) (by omega) (fun n J => cn f ≤ n ∧ (∀ c, ¬ (c = 18 + cn t ∨ c = 22 + cn t) → J c = K c) ∧ (∀ h, J (18 + cn t) h = if cn f ≤ h ∧ h < n then w else I (18 + cn t) h) ∧ ∀ h, J (22 + cn t) h = if cn f ≤ h ∧ h < n then d else I (22 + cn t) h) (fun q => q.1 = I 15 9 ∧ (∀ c, ¬ (c = 15 ∨ c = 18 + cn t ∨ c = 22 + cn t) → q.2 c = K c) ∧ (∀ j, q.2 15 j = if j = 9 then I 15 9 + 1 else I 15 j) ∧ (∀ h, q.2 (18 + cn t) h = if cn f ≤ h ∧ h < cn o then w else I (18 + cn t) h) ∧ ∀ h, q.2 (22 + cn t) h = if cn f ≤ h ∧ h < cn o then d else I (22 + cn t) h) (fun k i n J hi hn hP => by
      obtain ⟨ge, p1, p2, p3⟩ := hP
      · unfold f_X8_hear_133_B
        simp only [fq_l]
        rw [if_pos (by omega), fq_gp ⟨by omega, by omega⟩, fq_gp ⟨by omega, by omega⟩, fq_gp ⟨by omega, by omega⟩, fq_gp ⟨by omega, by omega⟩, cn_eq hi]
        refine ⟨_, ⟨by omega, fun c hc => by rw [fc_wI_lo (by omega), fc_wI_lo (by omega), p1 c hc], fun q => ?_, fun q => ?_⟩, rfl⟩
        · rw [fc_wI_lo (by omega), fc_wI_at, p2]
          by_cases e : q = n
          · rw [if_pos e, if_pos (by omega)]
          · rw [if_neg e]
            by_cases c : cn f ≤ q ∧ q < n
            · rw [if_pos c, if_pos (by omega)]
            · rw [if_neg c, if_neg (by omega)]
        · rw [fc_wI_at, fc_wI_lo (by omega), p3]
          by_cases e : q = n
          · rw [if_pos e, if_pos (by omega)]
          · rw [if_neg e]
            by_cases c : cn f ≤ q ∧ q < n
            · rw [if_pos c, if_pos (by omega)]
            · rw [if_neg c, if_neg (by omega)]) (fun k i J hi hP => by
      obtain ⟨ge, p1, p2, p3⟩ := hP
      unfold f_X8_hear_133_B
      simp only [fq_l]
      rw [if_neg (by omega), p1 15 (by omega), ko 15 (by omega)]
      refine ⟨_, ⟨rfl, fun c hc => by show fc_wI J 15 9 _ c = _; rw [fc_wI_lo (by omega), p1 c (by omega)], fun j => ?_, fun h => ?_, fun h => ?_⟩, rfl⟩
      · show fc_wI J 15 9 _ 15 j = _
        rw [fc_wI_at, p1 15 (by omega), ko 15 (by omega)]
      · show fc_wI J 15 9 _ (18 + cn t) h = _
        rw [fc_wI_lo (by omega), p2]
      · show fc_wI J 15 9 _ (22 + cn t) h = _
        rw [fc_wI_lo (by omega), p3]) 4000 f (cn f) K eff.symm (by omega) (by omega) ⟨Nat.le_refl _, fun _ _ => rfl, fun h => by rw [ko _ (by omega), if_neg (by omega)], fun h => by rw [ko _ (by omega), if_neg (by omega)]⟩
    obtain ⟨q1, q2, q3, q4, q5⟩ := h1
    have jc : ∀ c, ¬ (c = 15 ∨ (18 ≤ c ∧ c ≤ 20) ∨ (22 ≤ c ∧ c ≤ 30)) → r.2 c = I c := fun c hc => by rw [q2 c (by omega), ko c (by omega)]
    have jn : ∀ j, j ≠ 9 → r.2 15 j = I 15 j := fun j hj => by rw [q3, if_neg hj]
    have k25 : ∀ k, r.2 25 k = if k = cn (I 15 9) then t else I 25 k := fun k => by
      rw [q2 25 (by omega), hK, fc_wI_lo (by decide), fc_wI_lo (by decide), fc_wI_lo (by decide), fc_wI_lo (by decide), fc_wI_lo (by decide), fc_wI_at]
    have k26 : ∀ k, r.2 26 k = if k = cn (I 15 9) then f else I 26 k := fun k => by
      rw [q2 26 (by omega), hK, fc_wI_lo (by decide), fc_wI_lo (by decide), fc_wI_lo (by decide), fc_wI_lo (by decide), fc_wI_at, fc_wI_lo (by decide)]
    have k27 : ∀ k, r.2 27 k = if k = cn (I 15 9) then o else I 27 k := fun k => by
      rw [q2 27 (by omega), hK, fc_wI_lo (by decide), fc_wI_lo (by decide), fc_wI_lo (by decide), fc_wI_at, fc_wI_lo (by decide), fc_wI_lo (by decide)]
    have k28 : ∀ k, r.2 28 k = if k = cn (I 15 9) then w else I 28 k := fun k => by
      rw [q2 28 (by omega), hK, fc_wI_lo (by decide), fc_wI_lo (by decide), fc_wI_at, fc_wI_lo (by decide), fc_wI_lo (by decide), fc_wI_lo (by decide)]
    have k29 : ∀ k, r.2 29 k = if k = cn (I 15 9) then d else I 29 k := fun k => by
      rw [q2 29 (by omega), hK, fc_wI_lo (by decide), fc_wI_at, fc_wI_lo (by decide), fc_wI_lo (by decide), fc_wI_lo (by decide), fc_wI_lo (by decide)]
    have k30 : ∀ k, r.2 30 k = if k = cn (I 15 9) then I 45 9 else I 30 k := fun k => by
      rw [q2 30 (by omega), hK, fc_wI_at, fc_wI_lo (by decide), fc_wI_lo (by decide), fc_wI_lo (by decide), fc_wI_lo (by decide), fc_wI_lo (by decide)]
    refine ⟨r.1, r.2, by rw [hX]; exact h2, jc, jn, fun z => absurd ok z, fun _ z => absurd c6 z, fun _ _ => ⟨q1, ?_⟩⟩
    funext row
    by_cases hr : row = 0 ∨ row = 21 ∨ row = 22 ∨ row = 23 ∨ row = 24 ∨ row = 25 ∨ row = 26 ∨ row = 30 ∨ row = 31
    · funext k
      have n7 : aX 45 I 0 7 = I 15 9 := rfl
      unfold nwA
      rw [n7]
      rcases hr with rfl | rfl | rfl | rfl | rfl | rfl | rfl | rfl | rfl
      · have e : aX 45 r.2 0 k = aX 45 (fc_wI I 15 9 (I 15 9 + 1)) 0 k := by
          show aS 45 r.2 k = aS 45 (fc_wI I 15 9 (I 15 9 + 1)) k
          unfold aS
          rw [jc 45 (by omega), jc 1 (by omega), jc 4 (by omega), jc 10 (by omega), jc 31 (by omega), q3, q3, q3]
          rw [fc_wI_lo (show (45 : Nat) ≠ 15 by decide), fc_wI_lo (show (1 : Nat) ≠ 15 by decide), fc_wI_lo (show (4 : Nat) ≠ 15 by decide), fc_wI_lo (show (10 : Nat) ≠ 15 by decide), fc_wI_lo (show (31 : Nat) ≠ 15 by decide), fc_wI_at, fc_wI_at, fc_wI_at]
        rw [e, aw0_7 (Or.inl rfl), fc_wI_at]
        rfl
      · exact k25 k
      · exact k26 k
      · exact k27 k
      · exact k28 k
      · exact k29 k
      · exact k30 k
      · show aWa r.2 k = if 61 * cn t + cn f ≤ k ∧ k < 61 * cn t + cn o then w else aWa I k
        unfold aWa
        by_cases hk : k < 183
        · rw [if_pos hk, if_pos hk]
          by_cases e : k / 61 = cn t
          · rw [e, q4]
            by_cases c : cn f ≤ k % 61 ∧ k % 61 < cn o
            · rw [if_pos c, if_pos (by omega)]
            · rw [if_neg c, if_neg (by omega)]
          · rw [if_neg (by omega), q2 (18 + k / 61) (by omega), ko _ (by omega)]
        · rw [if_neg hk, if_neg hk, if_neg (by omega)]
      · show aWi r.2 k = if 61 * cn t + cn f ≤ k ∧ k < 61 * cn t + cn o then d else aWi I k
        unfold aWi
        by_cases hk : k < 183
        · rw [if_pos hk, if_pos hk]
          by_cases e : k / 61 = cn t
          · rw [e, q5]
            by_cases c : cn f ≤ k % 61 ∧ k % 61 < cn o
            · rw [if_pos c, if_pos (by omega)]
            · rw [if_neg c, if_neg (by omega)]
          · rw [if_neg (by omega), q2 (22 + k / 61) (by omega), ko _ (by omega)]
        · rw [if_neg hk, if_neg hk, if_neg (by omega)]
    · rw [nwA_o (by omega)]
      exact aX_nw jc row (by omega)
  · rw [if_neg c6] at hX
    exact refuse (-4) hX (Or.inr ⟨ok, c6, rfl⟩)
