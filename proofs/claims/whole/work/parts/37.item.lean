/-- an item of a sheet, class -/
theorem aw_item {I : fc_I} {s i : Nat} {v : Int32} (hs : s < 4) (hi : i < 40) (hn : ¬ I 76 s = -1) : aX 45 (fc_wI I (72 + s) i v) = fc_wI (aX 45 I) 34 (40 * s + i) v := by
  obtain ⟨J, hJ⟩ : ∃ J, J = fc_wI I (72 + s) i v := ⟨_, rfl⟩
  have hne : ∀ c, c ≠ 72 + s → J c = I c := fun c h => by subst hJ; exact fc_wI_ne h
  have e : aR 45 J = (aR 45 I).set 34 (aIt J) := by
    have eS : aS 45 J = aS 45 I := by subst hJ; exact aS_ne ⟨by omega, by omega, by omega, by omega, by omega, by omega⟩
    have e1 : aWa J = aWa I := by subst hJ; exact aWa_ne (by omega)
    have e2 : aWi J = aWi I := by subst hJ; exact aWi_ne (by omega)
    have e3 : aTp J = aTp I := by subst hJ; exact aTp_ne ⟨by omega, by omega⟩
    have e4 : aSz J = aSz I := by subst hJ; exact aSz_ne ⟨by omega, by omega⟩
    have e5 : aCo J = aCo I := by subst hJ; exact aCo_ne (by omega)
    have e6 : aCm J = aCm I := by subst hJ; exact aCm_ne (by omega)
    simp only [aR, eS, e1, e2, e3, e4, e5, e6, List.set, hne 2 (by omega), hne (45 + 1) (by omega), hne (45 + 2) (by omega), hne (45 + 3) (by omega), hne (45 + 4) (by omega), hne 3 (by omega), hne (45 + 5) (by omega), hne (45 + 6) (by omega), hne 5 (by omega), hne 6 (by omega), hne 7 (by omega), hne 8 (by omega), hne 9 (by omega), hne 11 (by omega), hne 12 (by omega), hne 13 (by omega), hne 14 (by omega), hne (45 + 8) (by omega), hne (45 + 7) (by omega), hne 16 (by omega), hne 25 (by omega), hne 26 (by omega), hne 27 (by omega), hne 28 (by omega), hne 29 (by omega), hne 30 (by omega), hne 68 (by omega), hne 76 (by omega)]
  rw [← hJ]
  funext r k
  by_cases r34 : r = 34
  · subst r34
    have g : aX 45 J 34 k = aIt J k := by
      unfold aX
      rw [e]
      rfl
    rw [g, fc_wI_at, ax_34]
    unfold aIt
    rw [hne 76 (by omega)]
    by_cases q : k = 40 * s + i
    · subst q
      rw [show (40 * s + i) / 40 = s by omega, show (40 * s + i) % 40 = i by omega, if_pos ⟨by omega, hn⟩, if_pos rfl, hJ, fc_wI_at, if_pos rfl]
    · rw [if_neg q]
      by_cases c : k < 160 ∧ ¬ I 76 (k / 40) = -1
      · rw [if_pos c, if_pos c]
        by_cases d : k / 40 = s
        · rw [d, hJ, fc_wI_at, if_neg (by omega)]
        · rw [hne _ (by omega)]
      · rw [if_neg c, if_neg c]
  · rw [fc_wI_lo r34]
    unfold aX
    rw [e, List.getD_eq_getElem?_getD, List.getElem?_set_ne (fun z => r34 z.symm), ← List.getD_eq_getElem?_getD]
