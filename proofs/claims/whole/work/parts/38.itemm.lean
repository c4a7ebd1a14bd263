/-- an item of a sheet, reference -/
theorem mw_item {I : fc_I} {j : Nat} {v : Int32} (hj : j < 160) (hn : ¬ I 127 (j / 40) = -1) : aM (fc_wI I 129 j v) = fc_wI (aM I) 34 j v := by
  obtain ⟨J, hJ⟩ : ∃ J, J = fc_wI I 129 j v := ⟨_, rfl⟩
  have hne : ∀ c, c ≠ 129 → J c = I c := fun c h => by subst hJ; exact fc_wI_ne h
  have e : mR J = (mR I).set 34 (mIt J) := by
    subst hJ
    simp [mR, fc_wI_ne, mS_ne, mRo_ne, mWa_ne, mWi_ne, mTp_ne, mSz_ne, mCo_ne, mCm_ne]
  rw [← hJ]
  funext r k
  by_cases r34 : r = 34
  · subst r34
    have g : aM J 34 k = mIt J k := by
      unfold aM
      rw [e]
      rfl
    rw [g, fc_wI_at, am_34]
    unfold mIt
    rw [hne 127 (by omega), hJ]
    by_cases q : k = j
    · subst q
      rw [if_pos ⟨by omega, hn⟩, if_pos rfl, fc_wI_at, if_pos rfl]
    · rw [if_neg q, fc_wI_at, if_neg q]
  · rw [fc_wI_lo r34]
    unfold aM
    rw [e, List.getD_eq_getElem?_getD, List.getElem?_set_ne (fun z => r34 z.symm), ← List.getD_eq_getElem?_getD]
