theorem aCo_6 {x : Int32} {I : fc_I} : aCo (fc_wI I 31 6 x) = aCo I := by
  funext k
  unfold aCo
  rw [aLen_ne (by decide), aBeg_ne (by decide), fc_wI_ne (c' := 34 + k / 320) (by omega), show fc_wI I 31 6 x 31 7 = I 31 7 by simp [fc_wI]]
theorem aCm_6 {x : Int32} {I : fc_I} : aCm (fc_wI I 31 6 x) = aCm I := by
  funext k
  unfold aCm
  rw [aLen_ne (by decide), show fc_wI I 31 6 x 31 7 = I 31 7 by simp [fc_wI]]
/-- a byte more on the tape of the class -/
theorem aw_tape {I : fc_I} {v : Int32} (h : 0 ≤ (I 31 6).toInt ∧ (I 31 6).toInt < 160) : aX 45 (fc_wI (fc_wI I 31 6 (I 31 6 + 1)) 32 (cn (I 31 6)) v) = fc_wI (fc_wI (aX 45 I) 0 8 (I 31 6 + 1)) 32 (cn (I 31 6)) v := by
  obtain ⟨e1, e2⟩ := i_p1 (N := 160) h.1 h.2 (by omega)
  obtain ⟨J, hJ⟩ : ∃ J, J = fc_wI (fc_wI I 31 6 (I 31 6 + 1)) 32 (cn (I 31 6)) v := ⟨_, rfl⟩
  have e : aR 45 J = ((aR 45 I).set 0 (aS 45 J)).set 32 (aTp J) := by
    subst hJ
    simp [aR, fc_wI_ne, aWa_ne, aWi_ne, aSz_ne, aIt_ne, aCo_ne, aCm_ne, aCo_6, aCm_6]
  rw [← hJ]
  have h6 : J 31 6 = I 31 6 + 1 := by subst hJ; simp [fc_wI]
  have h32 : ∀ k, J 32 k = if k = cn (I 31 6) then v else I 32 k := fun k => by subst hJ; simp [fc_wI]
  funext r k
  by_cases r32 : r = 32
  · subst r32
    have g : aX 45 J 32 k = aTp J k := by
      unfold aX
      rw [e]
      rfl
    rw [g, fc_wI_at, fc_wI_lo (by decide), ax_32]
    unfold aTp
    rw [h6, e2, h32]
    by_cases q : k = cn (I 31 6)
    · rw [if_pos (by omega), if_pos q, if_pos q]
    · rw [if_neg q, if_neg q]
      by_cases q2 : k < cn (I 31 6)
      · rw [if_pos (by omega), if_pos q2]
      · rw [if_neg (by omega), if_neg q2]
  · rw [fc_wI_lo r32]
    by_cases r0 : r = 0
    · subst r0
      have g : aX 45 J 0 k = aS 45 J k := by
        unfold aX
        rw [e]
        rfl
      rw [g, fc_wI_at]
      show aS 45 J k = if k = 8 then I 31 6 + 1 else aS 45 I k
      subst hJ
      unfold aS
      match k with
      | 0 => simp [fc_wI]
      | 1 => simp [fc_wI]
      | 2 => simp [fc_wI]
      | 3 => simp [fc_wI]
      | 4 => simp [fc_wI]
      | 5 => simp [fc_wI]
      | 6 => simp [fc_wI]
      | 7 => simp [fc_wI]
      | 8 => simp [fc_wI]
      | 9 => simp [fc_wI]
      | 10 => simp [fc_wI]
      | 11 => simp [fc_wI]
      | n + 12 => simp
    · rw [fc_wI_lo r0]
      unfold aX
      rw [e, List.getD_eq_getElem?_getD, List.getElem?_set_ne (fun z => r32 z.symm), List.getElem?_set_ne (fun z => r0 z.symm), ← List.getD_eq_getElem?_getD]
