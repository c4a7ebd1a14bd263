/-! ===== rows whose cells stay ===== -/
theorem aX_sh {I J : fc_I} (h : ∀ c, ¬ (c = 42 ∨ (72 ≤ c ∧ c ≤ 77)) → J c = I c) : ∀ r, r ≠ 28 ∧ r ≠ 33 ∧ r ≠ 34 → aX 45 J r = aX 45 I r := fun r hr => by
  rcases (show r = 0 ∨ r = 1 ∨ r = 2 ∨ r = 3 ∨ r = 4 ∨ r = 5 ∨ r = 6 ∨ r = 7 ∨ r = 8 ∨ r = 9 ∨ r = 10 ∨ r = 11 ∨ r = 12 ∨ r = 13 ∨ r = 14 ∨ r = 15 ∨ r = 16 ∨ r = 17 ∨ r = 18 ∨ r = 19 ∨ r = 20 ∨ r = 21 ∨ r = 22 ∨ r = 23 ∨ r = 24 ∨ r = 25 ∨ r = 26 ∨ r = 27 ∨ r = 29 ∨ r = 30 ∨ r = 31 ∨ r = 32 ∨ r = 35 ∨ r = 36 ∨ 37 ≤ r by omega) with rfl | rfl | rfl | rfl | rfl | rfl | rfl | rfl | rfl | rfl | rfl | rfl | rfl | rfl | rfl | rfl | rfl | rfl | rfl | rfl | rfl | rfl | rfl | rfl | rfl | rfl | rfl | rfl | rfl | rfl | rfl | rfl | rfl | rfl | h37
  · show aS 45 J = aS 45 I
    unfold aS
    rw [(h 45 (by decide)), (h 15 (by decide)), (h 1 (by decide)), (h 4 (by decide)), (h 10 (by decide)), (h 31 (by decide))]
  · exact (h 2 (by decide))
  · exact (h 46 (by decide))
  · exact (h 47 (by decide))
  · exact (h 48 (by decide))
  · exact (h 49 (by decide))
  · exact (h 3 (by decide))
  · exact (h 50 (by decide))
  · exact (h 51 (by decide))
  · exact (h 5 (by decide))
  · exact (h 6 (by decide))
  · exact (h 7 (by decide))
  · exact (h 8 (by decide))
  · exact (h 9 (by decide))
  · exact (h 11 (by decide))
  · exact (h 12 (by decide))
  · exact (h 13 (by decide))
  · exact (h 14 (by decide))
  · exact (h 53 (by decide))
  · exact (h 52 (by decide))
  · exact (h 16 (by decide))
  · exact (h 25 (by decide))
  · exact (h 26 (by decide))
  · exact (h 27 (by decide))
  · exact (h 28 (by decide))
  · exact (h 29 (by decide))
  · exact (h 30 (by decide))
  · exact (h 68 (by decide))
  · rfl
  · show aWa J = aWa I
    funext k; unfold aWa; by_cases hk : k < 183
    · rw [if_pos hk, if_pos hk, h (18 + k / 61) (by omega)]
    · rw [if_neg hk, if_neg hk]
  · show aWi J = aWi I
    funext k; unfold aWi; by_cases hk : k < 183
    · rw [if_pos hk, if_pos hk, h (22 + k / 61) (by omega)]
    · rw [if_neg hk, if_neg hk]
  · show aTp J = aTp I
    unfold aTp
    rw [(h 31 (by decide)), (h 32 (by decide))]
  · show aCo J = aCo I
    have eL : aLen J = aLen I := by funext q; unfold aLen; rw [(h 40 (by decide)), (h 41 (by decide))]
    have eB : aBeg J = aBeg I := by funext q; unfold aBeg; rw [(h 40 (by decide))]
    funext k; unfold aCo; rw [(h 31 (by decide)), eL, eB]; by_cases hk : k < 1920
    · rw [h (34 + k / 320) (by omega)]
    · simp [hk]
  · show aCm J = aCm I
    have eL : aLen J = aLen I := by funext q; unfold aLen; rw [(h 40 (by decide)), (h 41 (by decide))]
    unfold aCm
    rw [(h 31 (by decide)), eL]
  · unfold aX
    rw [List.getD_eq_getElem?_getD, List.getD_eq_getElem?_getD, List.getElem?_eq_none (show (aR 45 J).length ≤ r from h37), List.getElem?_eq_none (show (aR 45 I).length ≤ r from h37)]
theorem aM_sh {I J : fc_I} (h : ∀ c, ¬ (c = 130 ∨ (127 ≤ c ∧ c ≤ 129)) → J c = I c) : ∀ r, r ≠ 28 ∧ r ≠ 33 ∧ r ≠ 34 → aM J r = aM I r := fun r hr => by
  rcases (show r = 0 ∨ r = 1 ∨ r = 2 ∨ r = 3 ∨ r = 4 ∨ r = 5 ∨ r = 6 ∨ r = 7 ∨ r = 8 ∨ r = 9 ∨ r = 10 ∨ r = 11 ∨ r = 12 ∨ r = 13 ∨ r = 14 ∨ r = 15 ∨ r = 16 ∨ r = 17 ∨ r = 18 ∨ r = 19 ∨ r = 20 ∨ r = 21 ∨ r = 22 ∨ r = 23 ∨ r = 24 ∨ r = 25 ∨ r = 26 ∨ r = 27 ∨ r = 29 ∨ r = 30 ∨ r = 31 ∨ r = 32 ∨ r = 35 ∨ r = 36 ∨ 37 ≤ r by omega) with rfl | rfl | rfl | rfl | rfl | rfl | rfl | rfl | rfl | rfl | rfl | rfl | rfl | rfl | rfl | rfl | rfl | rfl | rfl | rfl | rfl | rfl | rfl | rfl | rfl | rfl | rfl | rfl | rfl | rfl | rfl | rfl | rfl | rfl | h37
  · show mS J = mS I
    unfold mS
    rw [(h 78 (by decide))]
  · exact (h 79 (by decide))
  · exact (h 80 (by decide))
  · exact (h 81 (by decide))
  · exact (h 82 (by decide))
  · exact (h 83 (by decide))
  · exact (h 84 (by decide))
  · show mRo J = mRo I
    unfold mRo
    rw [(h 85 (by decide)), (h 86 (by decide)), (h 87 (by decide))]
  · exact (h 86 (by decide))
  · exact (h 88 (by decide))
  · exact (h 89 (by decide))
  · exact (h 90 (by decide))
  · exact (h 91 (by decide))
  · exact (h 92 (by decide))
  · exact (h 93 (by decide))
  · exact (h 94 (by decide))
  · exact (h 95 (by decide))
  · exact (h 96 (by decide))
  · exact (h 97 (by decide))
  · exact (h 98 (by decide))
  · exact (h 99 (by decide))
  · exact (h 100 (by decide))
  · exact (h 101 (by decide))
  · exact (h 102 (by decide))
  · exact (h 103 (by decide))
  · exact (h 104 (by decide))
  · exact (h 105 (by decide))
  · exact (h 126 (by decide))
  · rfl
  · show mWa J = mWa I
    unfold mWa
    rw [(h 106 (by decide))]
  · show mWi J = mWi I
    unfold mWi
    rw [(h 107 (by decide))]
  · show mTp J = mTp I
    unfold mTp
    rw [(h 78 (by decide)), (h 108 (by decide))]
  · show mCo J = mCo I
    unfold mCo
    rw [(h 78 (by decide)), (h 109 (by decide)), (h 110 (by decide))]
  · show mCm J = mCm I
    unfold mCm
    rw [(h 78 (by decide)), (h 110 (by decide))]
  · unfold aM
    rw [List.getD_eq_getElem?_getD, List.getD_eq_getElem?_getD, List.getElem?_eq_none (show (mR J).length ≤ r from h37), List.getElem?_eq_none (show (mR I).length ≤ r from h37)]
theorem aX_nw {I J : fc_I} (h : ∀ c, ¬ (c = 15 ∨ (18 ≤ c ∧ c ≤ 20) ∨ (22 ≤ c ∧ c ≤ 30)) → J c = I c) : ∀ r, r ≠ 0 ∧ r ≠ 21 ∧ r ≠ 22 ∧ r ≠ 23 ∧ r ≠ 24 ∧ r ≠ 25 ∧ r ≠ 26 ∧ r ≠ 30 ∧ r ≠ 31 → aX 45 J r = aX 45 I r := fun r hr => by
  rcases (show r = 1 ∨ r = 2 ∨ r = 3 ∨ r = 4 ∨ r = 5 ∨ r = 6 ∨ r = 7 ∨ r = 8 ∨ r = 9 ∨ r = 10 ∨ r = 11 ∨ r = 12 ∨ r = 13 ∨ r = 14 ∨ r = 15 ∨ r = 16 ∨ r = 17 ∨ r = 18 ∨ r = 19 ∨ r = 20 ∨ r = 27 ∨ r = 28 ∨ r = 29 ∨ r = 32 ∨ r = 33 ∨ r = 34 ∨ r = 35 ∨ r = 36 ∨ 37 ≤ r by omega) with rfl | rfl | rfl | rfl | rfl | rfl | rfl | rfl | rfl | rfl | rfl | rfl | rfl | rfl | rfl | rfl | rfl | rfl | rfl | rfl | rfl | rfl | rfl | rfl | rfl | rfl | rfl | rfl | h37
  · exact (h 2 (by decide))
  · exact (h 46 (by decide))
  · exact (h 47 (by decide))
  · exact (h 48 (by decide))
  · exact (h 49 (by decide))
  · exact (h 3 (by decide))
  · exact (h 50 (by decide))
  · exact (h 51 (by decide))
  · exact (h 5 (by decide))
  · exact (h 6 (by decide))
  · exact (h 7 (by decide))
  · exact (h 8 (by decide))
  · exact (h 9 (by decide))
  · exact (h 11 (by decide))
  · exact (h 12 (by decide))
  · exact (h 13 (by decide))
  · exact (h 14 (by decide))
  · exact (h 53 (by decide))
  · exact (h 52 (by decide))
  · exact (h 16 (by decide))
  · exact (h 68 (by decide))
  · exact (h 76 (by decide))
  · rfl
  · show aTp J = aTp I
    unfold aTp
    rw [(h 31 (by decide)), (h 32 (by decide))]
  · show aSz J = aSz I
    unfold aSz
    rw [(h 76 (by decide)), (h 77 (by decide))]
  · show aIt J = aIt I
    funext k; unfold aIt; rw [(h 76 (by decide))]; by_cases hk : k < 160
    · rw [h (72 + k / 40) (by omega)]
    · simp [hk]
  · show aCo J = aCo I
    have eL : aLen J = aLen I := by funext q; unfold aLen; rw [(h 40 (by decide)), (h 41 (by decide))]
    have eB : aBeg J = aBeg I := by funext q; unfold aBeg; rw [(h 40 (by decide))]
    funext k; unfold aCo; rw [(h 31 (by decide)), eL, eB]; by_cases hk : k < 1920
    · rw [h (34 + k / 320) (by omega)]
    · simp [hk]
  · show aCm J = aCm I
    have eL : aLen J = aLen I := by funext q; unfold aLen; rw [(h 40 (by decide)), (h 41 (by decide))]
    unfold aCm
    rw [(h 31 (by decide)), eL]
  · unfold aX
    rw [List.getD_eq_getElem?_getD, List.getD_eq_getElem?_getD, List.getElem?_eq_none (show (aR 45 J).length ≤ r from h37), List.getElem?_eq_none (show (aR 45 I).length ≤ r from h37)]
theorem aM_nw {I J : fc_I} (h : ∀ c, ¬ (c = 78 ∨ (100 ≤ c ∧ c ≤ 107)) → J c = I c) : ∀ r, r ≠ 0 ∧ r ≠ 21 ∧ r ≠ 22 ∧ r ≠ 23 ∧ r ≠ 24 ∧ r ≠ 25 ∧ r ≠ 26 ∧ r ≠ 30 ∧ r ≠ 31 ∧ r ≠ 32 ∧ r ≠ 35 ∧ r ≠ 36 → aM J r = aM I r := fun r hr => by
  rcases (show r = 1 ∨ r = 2 ∨ r = 3 ∨ r = 4 ∨ r = 5 ∨ r = 6 ∨ r = 7 ∨ r = 8 ∨ r = 9 ∨ r = 10 ∨ r = 11 ∨ r = 12 ∨ r = 13 ∨ r = 14 ∨ r = 15 ∨ r = 16 ∨ r = 17 ∨ r = 18 ∨ r = 19 ∨ r = 20 ∨ r = 27 ∨ r = 28 ∨ r = 29 ∨ r = 33 ∨ r = 34 ∨ 37 ≤ r by omega) with rfl | rfl | rfl | rfl | rfl | rfl | rfl | rfl | rfl | rfl | rfl | rfl | rfl | rfl | rfl | rfl | rfl | rfl | rfl | rfl | rfl | rfl | rfl | rfl | rfl | h37
  · exact (h 79 (by decide))
  · exact (h 80 (by decide))
  · exact (h 81 (by decide))
  · exact (h 82 (by decide))
  · exact (h 83 (by decide))
  · exact (h 84 (by decide))
  · show mRo J = mRo I
    unfold mRo
    rw [(h 85 (by decide)), (h 86 (by decide)), (h 87 (by decide))]
  · exact (h 86 (by decide))
  · exact (h 88 (by decide))
  · exact (h 89 (by decide))
  · exact (h 90 (by decide))
  · exact (h 91 (by decide))
  · exact (h 92 (by decide))
  · exact (h 93 (by decide))
  · exact (h 94 (by decide))
  · exact (h 95 (by decide))
  · exact (h 96 (by decide))
  · exact (h 97 (by decide))
  · exact (h 98 (by decide))
  · exact (h 99 (by decide))
  · exact (h 126 (by decide))
  · exact (h 127 (by decide))
  · rfl
  · show mSz J = mSz I
    unfold mSz
    rw [(h 127 (by decide)), (h 128 (by decide))]
  · show mIt J = mIt I
    unfold mIt
    rw [(h 127 (by decide)), (h 129 (by decide))]
  · unfold aM
    rw [List.getD_eq_getElem?_getD, List.getD_eq_getElem?_getD, List.getElem?_eq_none (show (mR J).length ≤ r from h37), List.getElem?_eq_none (show (mR I).length ≤ r from h37)]
theorem aX_tx {I J : fc_I} (h : ∀ c, ¬ ((31 ≤ c ∧ c ≤ 44)) → J c = I c) : ∀ r, r ≠ 0 ∧ r ≠ 32 ∧ r ≠ 35 ∧ r ≠ 36 → aX 45 J r = aX 45 I r := fun r hr => by
  rcases (show r = 1 ∨ r = 2 ∨ r = 3 ∨ r = 4 ∨ r = 5 ∨ r = 6 ∨ r = 7 ∨ r = 8 ∨ r = 9 ∨ r = 10 ∨ r = 11 ∨ r = 12 ∨ r = 13 ∨ r = 14 ∨ r = 15 ∨ r = 16 ∨ r = 17 ∨ r = 18 ∨ r = 19 ∨ r = 20 ∨ r = 21 ∨ r = 22 ∨ r = 23 ∨ r = 24 ∨ r = 25 ∨ r = 26 ∨ r = 27 ∨ r = 28 ∨ r = 29 ∨ r = 30 ∨ r = 31 ∨ r = 33 ∨ r = 34 ∨ 37 ≤ r by omega) with rfl | rfl | rfl | rfl | rfl | rfl | rfl | rfl | rfl | rfl | rfl | rfl | rfl | rfl | rfl | rfl | rfl | rfl | rfl | rfl | rfl | rfl | rfl | rfl | rfl | rfl | rfl | rfl | rfl | rfl | rfl | rfl | rfl | h37
  · exact (h 2 (by decide))
  · exact (h 46 (by decide))
  · exact (h 47 (by decide))
  · exact (h 48 (by decide))
  · exact (h 49 (by decide))
  · exact (h 3 (by decide))
  · exact (h 50 (by decide))
  · exact (h 51 (by decide))
  · exact (h 5 (by decide))
  · exact (h 6 (by decide))
  · exact (h 7 (by decide))
  · exact (h 8 (by decide))
  · exact (h 9 (by decide))
  · exact (h 11 (by decide))
  · exact (h 12 (by decide))
  · exact (h 13 (by decide))
  · exact (h 14 (by decide))
  · exact (h 53 (by decide))
  · exact (h 52 (by decide))
  · exact (h 16 (by decide))
  · exact (h 25 (by decide))
  · exact (h 26 (by decide))
  · exact (h 27 (by decide))
  · exact (h 28 (by decide))
  · exact (h 29 (by decide))
  · exact (h 30 (by decide))
  · exact (h 68 (by decide))
  · exact (h 76 (by decide))
  · rfl
  · show aWa J = aWa I
    funext k; unfold aWa; by_cases hk : k < 183
    · rw [if_pos hk, if_pos hk, h (18 + k / 61) (by omega)]
    · rw [if_neg hk, if_neg hk]
  · show aWi J = aWi I
    funext k; unfold aWi; by_cases hk : k < 183
    · rw [if_pos hk, if_pos hk, h (22 + k / 61) (by omega)]
    · rw [if_neg hk, if_neg hk]
  · show aSz J = aSz I
    unfold aSz
    rw [(h 76 (by decide)), (h 77 (by decide))]
  · show aIt J = aIt I
    funext k; unfold aIt; rw [(h 76 (by decide))]; by_cases hk : k < 160
    · rw [h (72 + k / 40) (by omega)]
    · simp [hk]
  · unfold aX
    rw [List.getD_eq_getElem?_getD, List.getD_eq_getElem?_getD, List.getElem?_eq_none (show (aR 45 J).length ≤ r from h37), List.getElem?_eq_none (show (aR 45 I).length ≤ r from h37)]
theorem aM_tx {I J : fc_I} (h : ∀ c, ¬ (c = 78 ∨ (108 ≤ c ∧ c ≤ 125)) → J c = I c) : ∀ r, r ≠ 0 ∧ r ≠ 32 ∧ r ≠ 35 ∧ r ≠ 36 → aM J r = aM I r := fun r hr => by
  rcases (show r = 1 ∨ r = 2 ∨ r = 3 ∨ r = 4 ∨ r = 5 ∨ r = 6 ∨ r = 7 ∨ r = 8 ∨ r = 9 ∨ r = 10 ∨ r = 11 ∨ r = 12 ∨ r = 13 ∨ r = 14 ∨ r = 15 ∨ r = 16 ∨ r = 17 ∨ r = 18 ∨ r = 19 ∨ r = 20 ∨ r = 21 ∨ r = 22 ∨ r = 23 ∨ r = 24 ∨ r = 25 ∨ r = 26 ∨ r = 27 ∨ r = 28 ∨ r = 29 ∨ r = 30 ∨ r = 31 ∨ r = 33 ∨ r = 34 ∨ 37 ≤ r by omega) with rfl | rfl | rfl | rfl | rfl | rfl | rfl | rfl | rfl | rfl | rfl | rfl | rfl | rfl | rfl | rfl | rfl | rfl | rfl | rfl | rfl | rfl | rfl | rfl | rfl | rfl | rfl | rfl | rfl | rfl | rfl | rfl | rfl | h37
  · exact (h 79 (by decide))
  · exact (h 80 (by decide))
  · exact (h 81 (by decide))
  · exact (h 82 (by decide))
  · exact (h 83 (by decide))
  · exact (h 84 (by decide))
  · show mRo J = mRo I
    unfold mRo
    rw [(h 85 (by decide)), (h 86 (by decide)), (h 87 (by decide))]
  · exact (h 86 (by decide))
  · exact (h 88 (by decide))
  · exact (h 89 (by decide))
  · exact (h 90 (by decide))
  · exact (h 91 (by decide))
  · exact (h 92 (by decide))
  · exact (h 93 (by decide))
  · exact (h 94 (by decide))
  · exact (h 95 (by decide))
  · exact (h 96 (by decide))
  · exact (h 97 (by decide))
  · exact (h 98 (by decide))
  · exact (h 99 (by decide))
  · exact (h 100 (by decide))
  · exact (h 101 (by decide))
  · exact (h 102 (by decide))
  · exact (h 103 (by decide))
  · exact (h 104 (by decide))
  · exact (h 105 (by decide))
  · exact (h 126 (by decide))
  · exact (h 127 (by decide))
  · rfl
  · show mWa J = mWa I
    unfold mWa
    rw [(h 106 (by decide))]
  · show mWi J = mWi I
    unfold mWi
    rw [(h 107 (by decide))]
  · show mSz J = mSz I
    unfold mSz
    rw [(h 127 (by decide)), (h 128 (by decide))]
  · show mIt J = mIt I
    unfold mIt
    rw [(h 127 (by decide)), (h 129 (by decide))]
  · unfold aM
    rw [List.getD_eq_getElem?_getD, List.getD_eq_getElem?_getD, List.getElem?_eq_none (show (mR J).length ≤ r from h37), List.getElem?_eq_none (show (mR I).length ≤ r from h37)]
