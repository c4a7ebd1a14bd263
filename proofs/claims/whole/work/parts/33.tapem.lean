/-- a byte more on the tape of the reference -/
theorem mw_tape {I : fc_I} {v : Int32} (h : 0 ≤ (I 78 39).toInt ∧ (I 78 39).toInt < 160) : aM (fc_wI (fc_wI I 108 (cn (I 78 39)) v) 78 39 (I 78 39 + 1)) = fc_wI (fc_wI (aM I) 0 8 (I 78 39 + 1)) 32 (cn (I 78 39)) v := by
  obtain ⟨e1, e2⟩ := i_p1 (N := 160) h.1 h.2 (by omega)
  obtain ⟨J, hJ⟩ : ∃ J, J = fc_wI (fc_wI I 108 (cn (I 78 39)) v) 78 39 (I 78 39 + 1) := ⟨_, rfl⟩
  have e : mR J = ((mR I).set 0 (mS J)).set 32 (mTp J) := by
    subst hJ
    simp [mR, fc_wI_ne, mRo_ne, mWa_ne, mWi_ne, mSz_ne, mIt_ne, mCo_ne, mCm_ne, mCo_s, mCm_s]
  rw [← hJ]
  have h6 : J 78 39 = I 78 39 + 1 := by subst hJ; simp [fc_wI]
  have h32 : ∀ k, J 108 k = if k = cn (I 78 39) then v else I 108 k := fun k => by subst hJ; simp [fc_wI]
  funext r k
  by_cases r32 : r = 32
  · subst r32
    have g : aM J 32 k = mTp J k := by
      unfold aM
      rw [e]
      rfl
    rw [g, fc_wI_at, fc_wI_lo (by decide), am_32]
    unfold mTp
    rw [h6, e2, h32]
    by_cases q : k = cn (I 78 39)
    · rw [if_pos (by omega), if_pos q, if_pos q]
    · rw [if_neg q, if_neg q]
      by_cases q2 : k < cn (I 78 39)
      · rw [if_pos (by omega), if_pos q2]
      · rw [if_neg (by omega), if_neg q2]
  · rw [fc_wI_lo r32]
    by_cases r0 : r = 0
    · subst r0
      have g : aM J 0 k = mS J k := by
        unfold aM
        rw [e]
        rfl
      rw [g, fc_wI_at]
      show mS J k = if k = 8 then I 78 39 + 1 else mS I k
      subst hJ
      unfold mS
      match k with
      | 0 => simp [fc_wI]
      | 1 => simp [fc_wI]
      | 2 => simp [fc_wI]
      | 3 => simp [fc_wI]
      | 4 => simp [fc_wI]
      | 5 => simp [fc_wI]
      | 6 => simp [fc_wI]
      | 7 => simp [fc_wI]
      | 8 => simp [fc_wI]
      | 9 => simp [fc_wI]
      | 10 => simp [fc_wI]
      | 11 => simp [fc_wI]
      | n + 12 => simp
    · rw [fc_wI_lo r0]
      unfold aM
      rw [e, List.getD_eq_getElem?_getD, List.getElem?_set_ne (fun z => r32 z.symm), List.getElem?_set_ne (fun z => r0 z.symm), ← List.getD_eq_getElem?_getD]
