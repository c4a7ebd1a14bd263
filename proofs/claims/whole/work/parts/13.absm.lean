def mS (I : fc_I) : Nat → Int32 := fun k => [I 78 0, I 78 1, I 78 2, I 78 9, I 78 13, I 78 19, I 78 28, I 78 29, I 78 39, I 78 40, I 78 41, I 78 26].getD k 0
def mRo (I : fc_I) : Nat → Int32 := fun k => I 85 k - I 86 k - I 87 k
def mWa (I : fc_I) : Nat → Int32 := fun k => if k < 183 then I 106 k else 0
def mWi (I : fc_I) : Nat → Int32 := fun k => if k < 183 then I 107 k else 0
def mTp (I : fc_I) : Nat → Int32 := fun k => if k < cn (I 78 39) then I 108 k else 0
def mSz (I : fc_I) : Nat → Int32 := fun k => if I 127 k = -1 then 0 else I 128 k
def mIt (I : fc_I) : Nat → Int32 := fun k => if k < 160 ∧ ¬ I 127 (k / 40) = -1 then I 129 k else 0
def mCo (I : fc_I) : Nat → Int32 := fun k => if k < 1920 ∧ k / 320 < cn (I 78 40) ∧ k % 160 < cn (I 110 (k / 160)) then I 109 k else 0
def mCm (I : fc_I) : Nat → Int32 := fun k => if k < 12 ∧ k / 2 < cn (I 78 40) then I 110 k else 0
def mR (I : fc_I) : List (Nat → Int32) := [mS I, I 79, I 80, I 81, I 82, I 83, I 84, mRo I, I 86, I 88, I 89, I 90, I 91, I 92, I 93, I 94, I 95, I 96, I 97, I 98, I 99, I 100, I 101, I 102, I 103, I 104, I 105, I 126, I 127, fun _ => 0, mWa I, mWi I, mTp I, mSz I, mIt I, mCo I, mCm I]
def aM (I : fc_I) : fc_I := fun r => (mR I).getD r (fun _ => 0)
theorem aM_of {r0 j : Nat} {x : Int32} {I J : fc_I} {g : Nat → Int32} (h : mR J = (mR I).set r0 g) (hr : r0 < 37) (hg : ∀ k, g k = if k = j then x else aM I r0 k) : aM J = fc_wI (aM I) r0 j x := by
  funext r k
  unfold aM fc_wI
  rw [h]
  by_cases e : r = r0
  · subst e
    have hl : r < (mR I).length := hr
    rw [List.getD_eq_getElem?_getD, List.getElem?_set_self hl, Option.getD_some, hg]
    unfold aM
    simp
  · rw [List.getD_eq_getElem?_getD, List.getElem?_set_ne (fun z => e z.symm), ← List.getD_eq_getElem?_getD]
    simp [e]
theorem aM_eq {I J : fc_I} (h : mR J = mR I) : aM J = aM I := by
  unfold aM
  rw [h]
section ROWSM
variable {c j : Nat} {x : Int32} {I : fc_I}
theorem mS_ne (h : 78 ≠ c) : mS (fc_wI I c j x) = mS I := by
  unfold mS
  rw [fc_wI_ne h]
theorem mRo_ne (h : c < 85 ∨ 87 < c) : mRo (fc_wI I c j x) = mRo I := by
  unfold mRo
  rw [fc_wI_ne (by omega), fc_wI_ne (by omega), fc_wI_ne (by omega)]
theorem mWa_ne (h : 106 ≠ c) : mWa (fc_wI I c j x) = mWa I := by
  unfold mWa
  rw [fc_wI_ne h]
theorem mWi_ne (h : 107 ≠ c) : mWi (fc_wI I c j x) = mWi I := by
  unfold mWi
  rw [fc_wI_ne h]
theorem mTp_ne (h : 78 ≠ c ∧ 108 ≠ c) : mTp (fc_wI I c j x) = mTp I := by
  unfold mTp
  rw [fc_wI_ne h.1, fc_wI_ne h.2]
theorem mSz_ne (h : 127 ≠ c ∧ 128 ≠ c) : mSz (fc_wI I c j x) = mSz I := by
  unfold mSz
  rw [fc_wI_ne h.1, fc_wI_ne h.2]
theorem mIt_ne (h : 127 ≠ c ∧ 129 ≠ c) : mIt (fc_wI I c j x) = mIt I := by
  unfold mIt
  rw [fc_wI_ne h.1, fc_wI_ne h.2]
theorem mCo_ne (h : 78 ≠ c ∧ 109 ≠ c ∧ 110 ≠ c) : mCo (fc_wI I c j x) = mCo I := by
  unfold mCo
  rw [fc_wI_ne h.1, fc_wI_ne h.2.1, fc_wI_ne h.2.2]
theorem mCm_ne (h : 78 ≠ c ∧ 110 ≠ c) : mCm (fc_wI I c j x) = mCm I := by
  unfold mCm
  rw [fc_wI_ne h.1, fc_wI_ne h.2]
/-- other single numbers of the reference -/
theorem mTp_s (h : j ≠ 39) : mTp (fc_wI I 78 j x) = mTp I := by
  funext k
  unfold mTp
  rw [fc_wI_ne (c' := 108) (by decide), show fc_wI I 78 j x 78 39 = I 78 39 by unfold fc_wI; rw [if_neg (fun z => h z.2.symm)]]
theorem mCo_s (h : j ≠ 40) : mCo (fc_wI I 78 j x) = mCo I := by
  funext k
  unfold mCo
  rw [fc_wI_ne (c' := 109) (by decide), fc_wI_ne (c' := 110) (by decide), show fc_wI I 78 j x 78 40 = I 78 40 by unfold fc_wI; rw [if_neg (fun z => h z.2.symm)]]
theorem mCm_s (h : j ≠ 40) : mCm (fc_wI I 78 j x) = mCm I := by
  funext k
  unfold mCm
  rw [fc_wI_ne (c' := 110) (by decide), show fc_wI I 78 j x 78 40 = I 78 40 by unfold fc_wI; rw [if_neg (fun z => h z.2.symm)]]
end ROWSM

theorem mw_79 {j : Nat} {x : Int32} {I : fc_I} : aM (fc_wI I 79 j x) = fc_wI (aM I) 1 j x := aM_of (g := upd (I 79) j x) (by simp [mR, fc_wI_c, fc_wI_ne, mS_ne, mRo_ne, mWa_ne, mWi_ne, mTp_ne, mSz_ne, mIt_ne, mCo_ne, mCm_ne]) (by decide) (fun k => rfl)
theorem mw_80 {j : Nat} {x : Int32} {I : fc_I} : aM (fc_wI I 80 j x) = fc_wI (aM I) 2 j x := aM_of (g := upd (I 80) j x) (by simp [mR, fc_wI_c, fc_wI_ne, mS_ne, mRo_ne, mWa_ne, mWi_ne, mTp_ne, mSz_ne, mIt_ne, mCo_ne, mCm_ne]) (by decide) (fun k => rfl)
theorem mw_81 {j : Nat} {x : Int32} {I : fc_I} : aM (fc_wI I 81 j x) = fc_wI (aM I) 3 j x := aM_of (g := upd (I 81) j x) (by simp [mR, fc_wI_c, fc_wI_ne, mS_ne, mRo_ne, mWa_ne, mWi_ne, mTp_ne, mSz_ne, mIt_ne, mCo_ne, mCm_ne]) (by decide) (fun k => rfl)
theorem mw_82 {j : Nat} {x : Int32} {I : fc_I} : aM (fc_wI I 82 j x) = fc_wI (aM I) 4 j x := aM_of (g := upd (I 82) j x) (by simp [mR, fc_wI_c, fc_wI_ne, mS_ne, mRo_ne, mWa_ne, mWi_ne, mTp_ne, mSz_ne, mIt_ne, mCo_ne, mCm_ne]) (by decide) (fun k => rfl)
theorem mw_83 {j : Nat} {x : Int32} {I : fc_I} : aM (fc_wI I 83 j x) = fc_wI (aM I) 5 j x := aM_of (g := upd (I 83) j x) (by simp [mR, fc_wI_c, fc_wI_ne, mS_ne, mRo_ne, mWa_ne, mWi_ne, mTp_ne, mSz_ne, mIt_ne, mCo_ne, mCm_ne]) (by decide) (fun k => rfl)
theorem mw_84 {j : Nat} {x : Int32} {I : fc_I} : aM (fc_wI I 84 j x) = fc_wI (aM I) 6 j x := aM_of (g := upd (I 84) j x) (by simp [mR, fc_wI_c, fc_wI_ne, mS_ne, mRo_ne, mWa_ne, mWi_ne, mTp_ne, mSz_ne, mIt_ne, mCo_ne, mCm_ne]) (by decide) (fun k => rfl)
theorem mw_88 {j : Nat} {x : Int32} {I : fc_I} : aM (fc_wI I 88 j x) = fc_wI (aM I) 9 j x := aM_of (g := upd (I 88) j x) (by simp [mR, fc_wI_c, fc_wI_ne, mS_ne, mRo_ne, mWa_ne, mWi_ne, mTp_ne, mSz_ne, mIt_ne, mCo_ne, mCm_ne]) (by decide) (fun k => rfl)
theorem mw_89 {j : Nat} {x : Int32} {I : fc_I} : aM (fc_wI I 89 j x) = fc_wI (aM I) 10 j x := aM_of (g := upd (I 89) j x) (by simp [mR, fc_wI_c, fc_wI_ne, mS_ne, mRo_ne, mWa_ne, mWi_ne, mTp_ne, mSz_ne, mIt_ne, mCo_ne, mCm_ne]) (by decide) (fun k => rfl)
theorem mw_90 {j : Nat} {x : Int32} {I : fc_I} : aM (fc_wI I 90 j x) = fc_wI (aM I) 11 j x := aM_of (g := upd (I 90) j x) (by simp [mR, fc_wI_c, fc_wI_ne, mS_ne, mRo_ne, mWa_ne, mWi_ne, mTp_ne, mSz_ne, mIt_ne, mCo_ne, mCm_ne]) (by decide) (fun k => rfl)
theorem mw_91 {j : Nat} {x : Int32} {I : fc_I} : aM (fc_wI I 91 j x) = fc_wI (aM I) 12 j x := aM_of (g := upd (I 91) j x) (by simp [mR, fc_wI_c, fc_wI_ne, mS_ne, mRo_ne, mWa_ne, mWi_ne, mTp_ne, mSz_ne, mIt_ne, mCo_ne, mCm_ne]) (by decide) (fun k => rfl)
theorem mw_92 {j : Nat} {x : Int32} {I : fc_I} : aM (fc_wI I 92 j x) = fc_wI (aM I) 13 j x := aM_of (g := upd (I 92) j x) (by simp [mR, fc_wI_c, fc_wI_ne, mS_ne, mRo_ne, mWa_ne, mWi_ne, mTp_ne, mSz_ne, mIt_ne, mCo_ne, mCm_ne]) (by decide) (fun k => rfl)
theorem mw_93 {j : Nat} {x : Int32} {I : fc_I} : aM (fc_wI I 93 j x) = fc_wI (aM I) 14 j x := aM_of (g := upd (I 93) j x) (by simp [mR, fc_wI_c, fc_wI_ne, mS_ne, mRo_ne, mWa_ne, mWi_ne, mTp_ne, mSz_ne, mIt_ne, mCo_ne, mCm_ne]) (by decide) (fun k => rfl)
theorem mw_94 {j : Nat} {x : Int32} {I : fc_I} : aM (fc_wI I 94 j x) = fc_wI (aM I) 15 j x := aM_of (g := upd (I 94) j x) (by simp [mR, fc_wI_c, fc_wI_ne, mS_ne, mRo_ne, mWa_ne, mWi_ne, mTp_ne, mSz_ne, mIt_ne, mCo_ne, mCm_ne]) (by decide) (fun k => rfl)
theorem mw_95 {j : Nat} {x : Int32} {I : fc_I} : aM (fc_wI I 95 j x) = fc_wI (aM I) 16 j x := aM_of (g := upd (I 95) j x) (by simp [mR, fc_wI_c, fc_wI_ne, mS_ne, mRo_ne, mWa_ne, mWi_ne, mTp_ne, mSz_ne, mIt_ne, mCo_ne, mCm_ne]) (by decide) (fun k => rfl)
theorem mw_96 {j : Nat} {x : Int32} {I : fc_I} : aM (fc_wI I 96 j x) = fc_wI (aM I) 17 j x := aM_of (g := upd (I 96) j x) (by simp [mR, fc_wI_c, fc_wI_ne, mS_ne, mRo_ne, mWa_ne, mWi_ne, mTp_ne, mSz_ne, mIt_ne, mCo_ne, mCm_ne]) (by decide) (fun k => rfl)
theorem mw_97 {j : Nat} {x : Int32} {I : fc_I} : aM (fc_wI I 97 j x) = fc_wI (aM I) 18 j x := aM_of (g := upd (I 97) j x) (by simp [mR, fc_wI_c, fc_wI_ne, mS_ne, mRo_ne, mWa_ne, mWi_ne, mTp_ne, mSz_ne, mIt_ne, mCo_ne, mCm_ne]) (by decide) (fun k => rfl)
theorem mw_98 {j : Nat} {x : Int32} {I : fc_I} : aM (fc_wI I 98 j x) = fc_wI (aM I) 19 j x := aM_of (g := upd (I 98) j x) (by simp [mR, fc_wI_c, fc_wI_ne, mS_ne, mRo_ne, mWa_ne, mWi_ne, mTp_ne, mSz_ne, mIt_ne, mCo_ne, mCm_ne]) (by decide) (fun k => rfl)
theorem mw_99 {j : Nat} {x : Int32} {I : fc_I} : aM (fc_wI I 99 j x) = fc_wI (aM I) 20 j x := aM_of (g := upd (I 99) j x) (by simp [mR, fc_wI_c, fc_wI_ne, mS_ne, mRo_ne, mWa_ne, mWi_ne, mTp_ne, mSz_ne, mIt_ne, mCo_ne, mCm_ne]) (by decide) (fun k => rfl)
theorem mw_100 {j : Nat} {x : Int32} {I : fc_I} : aM (fc_wI I 100 j x) = fc_wI (aM I) 21 j x := aM_of (g := upd (I 100) j x) (by simp [mR, fc_wI_c, fc_wI_ne, mS_ne, mRo_ne, mWa_ne, mWi_ne, mTp_ne, mSz_ne, mIt_ne, mCo_ne, mCm_ne]) (by decide) (fun k => rfl)
theorem mw_101 {j : Nat} {x : Int32} {I : fc_I} : aM (fc_wI I 101 j x) = fc_wI (aM I) 22 j x := aM_of (g := upd (I 101) j x) (by simp [mR, fc_wI_c, fc_wI_ne, mS_ne, mRo_ne, mWa_ne, mWi_ne, mTp_ne, mSz_ne, mIt_ne, mCo_ne, mCm_ne]) (by decide) (fun k => rfl)
theorem mw_102 {j : Nat} {x : Int32} {I : fc_I} : aM (fc_wI I 102 j x) = fc_wI (aM I) 23 j x := aM_of (g := upd (I 102) j x) (by simp [mR, fc_wI_c, fc_wI_ne, mS_ne, mRo_ne, mWa_ne, mWi_ne, mTp_ne, mSz_ne, mIt_ne, mCo_ne, mCm_ne]) (by decide) (fun k => rfl)
theorem mw_103 {j : Nat} {x : Int32} {I : fc_I} : aM (fc_wI I 103 j x) = fc_wI (aM I) 24 j x := aM_of (g := upd (I 103) j x) (by simp [mR, fc_wI_c, fc_wI_ne, mS_ne, mRo_ne, mWa_ne, mWi_ne, mTp_ne, mSz_ne, mIt_ne, mCo_ne, mCm_ne]) (by decide) (fun k => rfl)
theorem mw_104 {j : Nat} {x : Int32} {I : fc_I} : aM (fc_wI I 104 j x) = fc_wI (aM I) 25 j x := aM_of (g := upd (I 104) j x) (by simp [mR, fc_wI_c, fc_wI_ne, mS_ne, mRo_ne, mWa_ne, mWi_ne, mTp_ne, mSz_ne, mIt_ne, mCo_ne, mCm_ne]) (by decide) (fun k => rfl)
theorem mw_105 {j : Nat} {x : Int32} {I : fc_I} : aM (fc_wI I 105 j x) = fc_wI (aM I) 26 j x := aM_of (g := upd (I 105) j x) (by simp [mR, fc_wI_c, fc_wI_ne, mS_ne, mRo_ne, mWa_ne, mWi_ne, mTp_ne, mSz_ne, mIt_ne, mCo_ne, mCm_ne]) (by decide) (fun k => rfl)
theorem mw_126 {j : Nat} {x : Int32} {I : fc_I} : aM (fc_wI I 126 j x) = fc_wI (aM I) 27 j x := aM_of (g := upd (I 126) j x) (by simp [mR, fc_wI_c, fc_wI_ne, mS_ne, mRo_ne, mWa_ne, mWi_ne, mTp_ne, mSz_ne, mIt_ne, mCo_ne, mCm_ne]) (by decide) (fun k => rfl)
theorem mw_85 {j : Nat} {x : Int32} {I : fc_I} : aM (fc_wI I 85 j x) = fc_wI (aM I) 7 j (x - I 86 j - I 87 j) := aM_of (g := mRo (fc_wI I 85 j x)) (by simp [mR, fc_wI_c, fc_wI_ne, mS_ne, mWa_ne, mWi_ne, mTp_ne, mSz_ne, mIt_ne, mCo_ne, mCm_ne]) (by decide) (fun k => by
  show mRo (fc_wI I 85 j x) k = if k = j then x - I 86 j - I 87 j else mRo I k
  unfold mRo
  by_cases e : k = j
  · subst e; simp [fc_wI]
  · simp [fc_wI, e])
theorem mw_87 {j : Nat} {x : Int32} {I : fc_I} : aM (fc_wI I 87 j x) = fc_wI (aM I) 7 j (I 85 j - I 86 j - x) := aM_of (g := mRo (fc_wI I 87 j x)) (by simp [mR, fc_wI_c, fc_wI_ne, mS_ne, mWa_ne, mWi_ne, mTp_ne, mSz_ne, mIt_ne, mCo_ne, mCm_ne]) (by decide) (fun k => by
  show mRo (fc_wI I 87 j x) k = if k = j then I 85 j - I 86 j - x else mRo I k
  unfold mRo
  by_cases e : k = j
  · subst e; simp [fc_wI]
  · simp [fc_wI, e])
theorem mw_86 {j : Nat} {x : Int32} {I : fc_I} : aM (fc_wI I 86 j x) = fc_wI (fc_wI (aM I) 8 j x) 7 j (I 85 j - x - I 87 j) := by
  have h1 : mR (fc_wI I 86 j x) = ((mR I).set 8 (upd (I 86) j x)).set 7 (mRo (fc_wI I 86 j x)) := by simp [mR, fc_wI_c, fc_wI_ne, mS_ne, mWa_ne, mWi_ne, mTp_ne, mSz_ne, mIt_ne, mCo_ne, mCm_ne]
  funext r k
  unfold aM
  rw [h1]
  by_cases e7 : r = 7
  · subst e7
    have hl : 7 < ((mR I).set 8 (upd (I 86) j x)).length := by simp [mR]
    rw [List.getD_eq_getElem?_getD, List.getElem?_set_self hl, Option.getD_some]
    show mRo (fc_wI I 86 j x) k = fc_wI (fc_wI (aM I) 8 j x) 7 j (I 85 j - x - I 87 j) 7 k
    unfold mRo
    by_cases e : k = j
    · subst e; simp [fc_wI]
    · simp [fc_wI, e, aM, mR, mRo]
  · rw [List.getD_eq_getElem?_getD, List.getElem?_set_ne (fun z => e7 z.symm)]
    by_cases e8 : r = 8
    · subst e8
      have hl : 8 < (mR I).length := by simp [mR]
      rw [List.getElem?_set_self hl, Option.getD_some]
      simp [fc_wI, upd, aM, mR]
    · rw [List.getElem?_set_ne (fun z => e8 z.symm), ← List.getD_eq_getElem?_getD]
      simp [fc_wI, e7, e8, aM]
theorem mw0_0 {x : Int32} {I : fc_I} : aM (fc_wI I 78 0 x) = fc_wI (aM I) 0 0 x := aM_of (g := mS (fc_wI I 78 0 x)) (by simp [mR, fc_wI_c, fc_wI_ne, mRo_ne, mWa_ne, mWi_ne, mTp_ne, mSz_ne, mIt_ne, mCo_ne, mCm_ne, mTp_s, mCo_s, mCm_s]) (by decide) (fun k => by
  show mS (fc_wI I 78 0 x) k = if k = 0 then x else mS I k
  unfold mS
  match k with
  | 0 => simp [fc_wI]
  | 1 => simp [fc_wI]
  | 2 => simp [fc_wI]
  | 3 => simp [fc_wI]
  | 4 => simp [fc_wI]
  | 5 => simp [fc_wI]
  | 6 => simp [fc_wI]
  | 7 => simp [fc_wI]
  | 8 => simp [fc_wI]
  | 9 => simp [fc_wI]
  | 10 => simp [fc_wI]
  | 11 => simp [fc_wI]
  | n + 12 => simp)
theorem mw0_1 {x : Int32} {I : fc_I} : aM (fc_wI I 78 1 x) = fc_wI (aM I) 0 1 x := aM_of (g := mS (fc_wI I 78 1 x)) (by simp [mR, fc_wI_c, fc_wI_ne, mRo_ne, mWa_ne, mWi_ne, mTp_ne, mSz_ne, mIt_ne, mCo_ne, mCm_ne, mTp_s, mCo_s, mCm_s]) (by decide) (fun k => by
  show mS (fc_wI I 78 1 x) k = if k = 1 then x else mS I k
  unfold mS
  match k with
  | 0 => simp [fc_wI]
  | 1 => simp [fc_wI]
  | 2 => simp [fc_wI]
  | 3 => simp [fc_wI]
  | 4 => simp [fc_wI]
  | 5 => simp [fc_wI]
  | 6 => simp [fc_wI]
  | 7 => simp [fc_wI]
  | 8 => simp [fc_wI]
  | 9 => simp [fc_wI]
  | 10 => simp [fc_wI]
  | 11 => simp [fc_wI]
  | n + 12 => simp)
theorem mw0_2 {x : Int32} {I : fc_I} : aM (fc_wI I 78 2 x) = fc_wI (aM I) 0 2 x := aM_of (g := mS (fc_wI I 78 2 x)) (by simp [mR, fc_wI_c, fc_wI_ne, mRo_ne, mWa_ne, mWi_ne, mTp_ne, mSz_ne, mIt_ne, mCo_ne, mCm_ne, mTp_s, mCo_s, mCm_s]) (by decide) (fun k => by
  show mS (fc_wI I 78 2 x) k = if k = 2 then x else mS I k
  unfold mS
  match k with
  | 0 => simp [fc_wI]
  | 1 => simp [fc_wI]
  | 2 => simp [fc_wI]
  | 3 => simp [fc_wI]
  | 4 => simp [fc_wI]
  | 5 => simp [fc_wI]
  | 6 => simp [fc_wI]
  | 7 => simp [fc_wI]
  | 8 => simp [fc_wI]
  | 9 => simp [fc_wI]
  | 10 => simp [fc_wI]
  | 11 => simp [fc_wI]
  | n + 12 => simp)
theorem mw0_3 {x : Int32} {I : fc_I} : aM (fc_wI I 78 9 x) = fc_wI (aM I) 0 3 x := aM_of (g := mS (fc_wI I 78 9 x)) (by simp [mR, fc_wI_c, fc_wI_ne, mRo_ne, mWa_ne, mWi_ne, mTp_ne, mSz_ne, mIt_ne, mCo_ne, mCm_ne, mTp_s, mCo_s, mCm_s]) (by decide) (fun k => by
  show mS (fc_wI I 78 9 x) k = if k = 3 then x else mS I k
  unfold mS
  match k with
  | 0 => simp [fc_wI]
  | 1 => simp [fc_wI]
  | 2 => simp [fc_wI]
  | 3 => simp [fc_wI]
  | 4 => simp [fc_wI]
  | 5 => simp [fc_wI]
  | 6 => simp [fc_wI]
  | 7 => simp [fc_wI]
  | 8 => simp [fc_wI]
  | 9 => simp [fc_wI]
  | 10 => simp [fc_wI]
  | 11 => simp [fc_wI]
  | n + 12 => simp)
theorem mw0_4 {x : Int32} {I : fc_I} : aM (fc_wI I 78 13 x) = fc_wI (aM I) 0 4 x := aM_of (g := mS (fc_wI I 78 13 x)) (by simp [mR, fc_wI_c, fc_wI_ne, mRo_ne, mWa_ne, mWi_ne, mTp_ne, mSz_ne, mIt_ne, mCo_ne, mCm_ne, mTp_s, mCo_s, mCm_s]) (by decide) (fun k => by
  show mS (fc_wI I 78 13 x) k = if k = 4 then x else mS I k
  unfold mS
  match k with
  | 0 => simp [fc_wI]
  | 1 => simp [fc_wI]
  | 2 => simp [fc_wI]
  | 3 => simp [fc_wI]
  | 4 => simp [fc_wI]
  | 5 => simp [fc_wI]
  | 6 => simp [fc_wI]
  | 7 => simp [fc_wI]
  | 8 => simp [fc_wI]
  | 9 => simp [fc_wI]
  | 10 => simp [fc_wI]
  | 11 => simp [fc_wI]
  | n + 12 => simp)
theorem mw0_5 {x : Int32} {I : fc_I} : aM (fc_wI I 78 19 x) = fc_wI (aM I) 0 5 x := aM_of (g := mS (fc_wI I 78 19 x)) (by simp [mR, fc_wI_c, fc_wI_ne, mRo_ne, mWa_ne, mWi_ne, mTp_ne, mSz_ne, mIt_ne, mCo_ne, mCm_ne, mTp_s, mCo_s, mCm_s]) (by decide) (fun k => by
  show mS (fc_wI I 78 19 x) k = if k = 5 then x else mS I k
  unfold mS
  match k with
  | 0 => simp [fc_wI]
  | 1 => simp [fc_wI]
  | 2 => simp [fc_wI]
  | 3 => simp [fc_wI]
  | 4 => simp [fc_wI]
  | 5 => simp [fc_wI]
  | 6 => simp [fc_wI]
  | 7 => simp [fc_wI]
  | 8 => simp [fc_wI]
  | 9 => simp [fc_wI]
  | 10 => simp [fc_wI]
  | 11 => simp [fc_wI]
  | n + 12 => simp)
theorem mw0_6 {x : Int32} {I : fc_I} : aM (fc_wI I 78 28 x) = fc_wI (aM I) 0 6 x := aM_of (g := mS (fc_wI I 78 28 x)) (by simp [mR, fc_wI_c, fc_wI_ne, mRo_ne, mWa_ne, mWi_ne, mTp_ne, mSz_ne, mIt_ne, mCo_ne, mCm_ne, mTp_s, mCo_s, mCm_s]) (by decide) (fun k => by
  show mS (fc_wI I 78 28 x) k = if k = 6 then x else mS I k
  unfold mS
  match k with
  | 0 => simp [fc_wI]
  | 1 => simp [fc_wI]
  | 2 => simp [fc_wI]
  | 3 => simp [fc_wI]
  | 4 => simp [fc_wI]
  | 5 => simp [fc_wI]
  | 6 => simp [fc_wI]
  | 7 => simp [fc_wI]
  | 8 => simp [fc_wI]
  | 9 => simp [fc_wI]
  | 10 => simp [fc_wI]
  | 11 => simp [fc_wI]
  | n + 12 => simp)
theorem mw0_7 {x : Int32} {I : fc_I} : aM (fc_wI I 78 29 x) = fc_wI (aM I) 0 7 x := aM_of (g := mS (fc_wI I 78 29 x)) (by simp [mR, fc_wI_c, fc_wI_ne, mRo_ne, mWa_ne, mWi_ne, mTp_ne, mSz_ne, mIt_ne, mCo_ne, mCm_ne, mTp_s, mCo_s, mCm_s]) (by decide) (fun k => by
  show mS (fc_wI I 78 29 x) k = if k = 7 then x else mS I k
  unfold mS
  match k with
  | 0 => simp [fc_wI]
  | 1 => simp [fc_wI]
  | 2 => simp [fc_wI]
  | 3 => simp [fc_wI]
  | 4 => simp [fc_wI]
  | 5 => simp [fc_wI]
  | 6 => simp [fc_wI]
  | 7 => simp [fc_wI]
  | 8 => simp [fc_wI]
  | 9 => simp [fc_wI]
  | 10 => simp [fc_wI]
  | 11 => simp [fc_wI]
  | n + 12 => simp)
theorem mw0_10 {x : Int32} {I : fc_I} : aM (fc_wI I 78 41 x) = fc_wI (aM I) 0 10 x := aM_of (g := mS (fc_wI I 78 41 x)) (by simp [mR, fc_wI_c, fc_wI_ne, mRo_ne, mWa_ne, mWi_ne, mTp_ne, mSz_ne, mIt_ne, mCo_ne, mCm_ne, mTp_s, mCo_s, mCm_s]) (by decide) (fun k => by
  show mS (fc_wI I 78 41 x) k = if k = 10 then x else mS I k
  unfold mS
  match k with
  | 0 => simp [fc_wI]
  | 1 => simp [fc_wI]
  | 2 => simp [fc_wI]
  | 3 => simp [fc_wI]
  | 4 => simp [fc_wI]
  | 5 => simp [fc_wI]
  | 6 => simp [fc_wI]
  | 7 => simp [fc_wI]
  | 8 => simp [fc_wI]
  | 9 => simp [fc_wI]
  | 10 => simp [fc_wI]
  | 11 => simp [fc_wI]
  | n + 12 => simp)
theorem mw0_11 {x : Int32} {I : fc_I} : aM (fc_wI I 78 26 x) = fc_wI (aM I) 0 11 x := aM_of (g := mS (fc_wI I 78 26 x)) (by simp [mR, fc_wI_c, fc_wI_ne, mRo_ne, mWa_ne, mWi_ne, mTp_ne, mSz_ne, mIt_ne, mCo_ne, mCm_ne, mTp_s, mCo_s, mCm_s]) (by decide) (fun k => by
  show mS (fc_wI I 78 26 x) k = if k = 11 then x else mS I k
  unfold mS
  match k with
  | 0 => simp [fc_wI]
  | 1 => simp [fc_wI]
  | 2 => simp [fc_wI]
  | 3 => simp [fc_wI]
  | 4 => simp [fc_wI]
  | 5 => simp [fc_wI]
  | 6 => simp [fc_wI]
  | 7 => simp [fc_wI]
  | 8 => simp [fc_wI]
  | 9 => simp [fc_wI]
  | 10 => simp [fc_wI]
  | 11 => simp [fc_wI]
  | n + 12 => simp)
theorem ms_44 {x : Int32} {I : fc_I} : aM (fc_wI I 78 44 x) = aM I := by
  have e : mS (fc_wI I 78 44 x) = mS I := by unfold mS; simp [fc_wI]
  exact aM_eq (by simp [mR, fc_wI_c, fc_wI_ne, mRo_ne, mWa_ne, mWi_ne, mTp_ne, mSz_ne, mIt_ne, mCo_ne, mCm_ne, mTp_s, mCo_s, mCm_s, e])
theorem ms_45 {x : Int32} {I : fc_I} : aM (fc_wI I 78 45 x) = aM I := by
  have e : mS (fc_wI I 78 45 x) = mS I := by unfold mS; simp [fc_wI]
  exact aM_eq (by simp [mR, fc_wI_c, fc_wI_ne, mRo_ne, mWa_ne, mWi_ne, mTp_ne, mSz_ne, mIt_ne, mCo_ne, mCm_ne, mTp_s, mCo_s, mCm_s, e])
theorem ms_46 {x : Int32} {I : fc_I} : aM (fc_wI I 78 46 x) = aM I := by
  have e : mS (fc_wI I 78 46 x) = mS I := by unfold mS; simp [fc_wI]
  exact aM_eq (by simp [mR, fc_wI_c, fc_wI_ne, mRo_ne, mWa_ne, mWi_ne, mTp_ne, mSz_ne, mIt_ne, mCo_ne, mCm_ne, mTp_s, mCo_s, mCm_s, e])
theorem ms_47 {x : Int32} {I : fc_I} : aM (fc_wI I 78 47 x) = aM I := by
  have e : mS (fc_wI I 78 47 x) = mS I := by unfold mS; simp [fc_wI]
  exact aM_eq (by simp [mR, fc_wI_c, fc_wI_ne, mRo_ne, mWa_ne, mWi_ne, mTp_ne, mSz_ne, mIt_ne, mCo_ne, mCm_ne, mTp_s, mCo_s, mCm_s, e])
theorem ms_51 {x : Int32} {I : fc_I} : aM (fc_wI I 78 51 x) = aM I := by
  have e : mS (fc_wI I 78 51 x) = mS I := by unfold mS; simp [fc_wI]
  exact aM_eq (by simp [mR, fc_wI_c, fc_wI_ne, mRo_ne, mWa_ne, mWi_ne, mTp_ne, mSz_ne, mIt_ne, mCo_ne, mCm_ne, mTp_s, mCo_s, mCm_s, e])
theorem ms_52 {x : Int32} {I : fc_I} : aM (fc_wI I 78 52 x) = aM I := by
  have e : mS (fc_wI I 78 52 x) = mS I := by unfold mS; simp [fc_wI]
  exact aM_eq (by simp [mR, fc_wI_c, fc_wI_ne, mRo_ne, mWa_ne, mWi_ne, mTp_ne, mSz_ne, mIt_ne, mCo_ne, mCm_ne, mTp_s, mCo_s, mCm_s, e])
theorem ms_53 {x : Int32} {I : fc_I} : aM (fc_wI I 78 53 x) = aM I := by
  have e : mS (fc_wI I 78 53 x) = mS I := by unfold mS; simp [fc_wI]
  exact aM_eq (by simp [mR, fc_wI_c, fc_wI_ne, mRo_ne, mWa_ne, mWi_ne, mTp_ne, mSz_ne, mIt_ne, mCo_ne, mCm_ne, mTp_s, mCo_s, mCm_s, e])
theorem ms_55 {x : Int32} {I : fc_I} : aM (fc_wI I 78 55 x) = aM I := by
  have e : mS (fc_wI I 78 55 x) = mS I := by unfold mS; simp [fc_wI]
  exact aM_eq (by simp [mR, fc_wI_c, fc_wI_ne, mRo_ne, mWa_ne, mWi_ne, mTp_ne, mSz_ne, mIt_ne, mCo_ne, mCm_ne, mTp_s, mCo_s, mCm_s, e])
theorem ms_56 {x : Int32} {I : fc_I} : aM (fc_wI I 78 56 x) = aM I := by
  have e : mS (fc_wI I 78 56 x) = mS I := by unfold mS; simp [fc_wI]
  exact aM_eq (by simp [mR, fc_wI_c, fc_wI_ne, mRo_ne, mWa_ne, mWi_ne, mTp_ne, mSz_ne, mIt_ne, mCo_ne, mCm_ne, mTp_s, mCo_s, mCm_s, e])
theorem ms_67 {x : Int32} {I : fc_I} : aM (fc_wI I 78 67 x) = aM I := by
  have e : mS (fc_wI I 78 67 x) = mS I := by unfold mS; simp [fc_wI]
  exact aM_eq (by simp [mR, fc_wI_c, fc_wI_ne, mRo_ne, mWa_ne, mWi_ne, mTp_ne, mSz_ne, mIt_ne, mCo_ne, mCm_ne, mTp_s, mCo_s, mCm_s, e])
theorem ms_68 {x : Int32} {I : fc_I} : aM (fc_wI I 78 68 x) = aM I := by
  have e : mS (fc_wI I 78 68 x) = mS I := by unfold mS; simp [fc_wI]
  exact aM_eq (by simp [mR, fc_wI_c, fc_wI_ne, mRo_ne, mWa_ne, mWi_ne, mTp_ne, mSz_ne, mIt_ne, mCo_ne, mCm_ne, mTp_s, mCo_s, mCm_s, e])
theorem ms_c111 {j : Nat} {x : Int32} {I : fc_I} : aM (fc_wI I 111 j x) = aM I := aM_eq (by simp [mR, fc_wI_c, fc_wI_ne, mS_ne, mRo_ne, mWa_ne, mWi_ne, mTp_ne, mSz_ne, mIt_ne, mCo_ne, mCm_ne])
theorem ms_c112 {j : Nat} {x : Int32} {I : fc_I} : aM (fc_wI I 112 j x) = aM I := aM_eq (by simp [mR, fc_wI_c, fc_wI_ne, mS_ne, mRo_ne, mWa_ne, mWi_ne, mTp_ne, mSz_ne, mIt_ne, mCo_ne, mCm_ne])
theorem ms_c113 {j : Nat} {x : Int32} {I : fc_I} : aM (fc_wI I 113 j x) = aM I := aM_eq (by simp [mR, fc_wI_c, fc_wI_ne, mS_ne, mRo_ne, mWa_ne, mWi_ne, mTp_ne, mSz_ne, mIt_ne, mCo_ne, mCm_ne])
theorem ms_c114 {j : Nat} {x : Int32} {I : fc_I} : aM (fc_wI I 114 j x) = aM I := aM_eq (by simp [mR, fc_wI_c, fc_wI_ne, mS_ne, mRo_ne, mWa_ne, mWi_ne, mTp_ne, mSz_ne, mIt_ne, mCo_ne, mCm_ne])
theorem ms_c115 {j : Nat} {x : Int32} {I : fc_I} : aM (fc_wI I 115 j x) = aM I := aM_eq (by simp [mR, fc_wI_c, fc_wI_ne, mS_ne, mRo_ne, mWa_ne, mWi_ne, mTp_ne, mSz_ne, mIt_ne, mCo_ne, mCm_ne])
theorem ms_c116 {j : Nat} {x : Int32} {I : fc_I} : aM (fc_wI I 116 j x) = aM I := aM_eq (by simp [mR, fc_wI_c, fc_wI_ne, mS_ne, mRo_ne, mWa_ne, mWi_ne, mTp_ne, mSz_ne, mIt_ne, mCo_ne, mCm_ne])
theorem ms_c117 {j : Nat} {x : Int32} {I : fc_I} : aM (fc_wI I 117 j x) = aM I := aM_eq (by simp [mR, fc_wI_c, fc_wI_ne, mS_ne, mRo_ne, mWa_ne, mWi_ne, mTp_ne, mSz_ne, mIt_ne, mCo_ne, mCm_ne])
theorem ms_c118 {j : Nat} {x : Int32} {I : fc_I} : aM (fc_wI I 118 j x) = aM I := aM_eq (by simp [mR, fc_wI_c, fc_wI_ne, mS_ne, mRo_ne, mWa_ne, mWi_ne, mTp_ne, mSz_ne, mIt_ne, mCo_ne, mCm_ne])
theorem ms_c119 {j : Nat} {x : Int32} {I : fc_I} : aM (fc_wI I 119 j x) = aM I := aM_eq (by simp [mR, fc_wI_c, fc_wI_ne, mS_ne, mRo_ne, mWa_ne, mWi_ne, mTp_ne, mSz_ne, mIt_ne, mCo_ne, mCm_ne])
theorem ms_c120 {j : Nat} {x : Int32} {I : fc_I} : aM (fc_wI I 120 j x) = aM I := aM_eq (by simp [mR, fc_wI_c, fc_wI_ne, mS_ne, mRo_ne, mWa_ne, mWi_ne, mTp_ne, mSz_ne, mIt_ne, mCo_ne, mCm_ne])
theorem ms_c121 {j : Nat} {x : Int32} {I : fc_I} : aM (fc_wI I 121 j x) = aM I := aM_eq (by simp [mR, fc_wI_c, fc_wI_ne, mS_ne, mRo_ne, mWa_ne, mWi_ne, mTp_ne, mSz_ne, mIt_ne, mCo_ne, mCm_ne])
theorem ms_c122 {j : Nat} {x : Int32} {I : fc_I} : aM (fc_wI I 122 j x) = aM I := aM_eq (by simp [mR, fc_wI_c, fc_wI_ne, mS_ne, mRo_ne, mWa_ne, mWi_ne, mTp_ne, mSz_ne, mIt_ne, mCo_ne, mCm_ne])
theorem ms_c123 {j : Nat} {x : Int32} {I : fc_I} : aM (fc_wI I 123 j x) = aM I := aM_eq (by simp [mR, fc_wI_c, fc_wI_ne, mS_ne, mRo_ne, mWa_ne, mWi_ne, mTp_ne, mSz_ne, mIt_ne, mCo_ne, mCm_ne])
theorem ms_c124 {j : Nat} {x : Int32} {I : fc_I} : aM (fc_wI I 124 j x) = aM I := aM_eq (by simp [mR, fc_wI_c, fc_wI_ne, mS_ne, mRo_ne, mWa_ne, mWi_ne, mTp_ne, mSz_ne, mIt_ne, mCo_ne, mCm_ne])
theorem ms_c125 {j : Nat} {x : Int32} {I : fc_I} : aM (fc_wI I 125 j x) = aM I := aM_eq (by simp [mR, fc_wI_c, fc_wI_ne, mS_ne, mRo_ne, mWa_ne, mWi_ne, mTp_ne, mSz_ne, mIt_ne, mCo_ne, mCm_ne])
theorem ms_c130 {j : Nat} {x : Int32} {I : fc_I} : aM (fc_wI I 130 j x) = aM I := aM_eq (by simp [mR, fc_wI_c, fc_wI_ne, mS_ne, mRo_ne, mWa_ne, mWi_ne, mTp_ne, mSz_ne, mIt_ne, mCo_ne, mCm_ne])
theorem aM_frame {I J : fc_I} (h : ∀ c, 78 ≤ c → J c = I c) : aM J = aM I := by
  refine aM_eq ?_
  unfold mR mS mRo mWa mWi mTp mSz mIt mCo mCm
  simp only [h 78 (by decide), h 79 (by decide), h 80 (by decide), h 81 (by decide), h 82 (by decide), h 83 (by decide), h 84 (by decide), h 85 (by decide), h 86 (by decide), h 87 (by decide), h 88 (by decide), h 89 (by decide), h 90 (by decide), h 91 (by decide), h 92 (by decide), h 93 (by decide), h 94 (by decide), h 95 (by decide), h 96 (by decide), h 97 (by decide), h 98 (by decide), h 99 (by decide), h 100 (by decide), h 101 (by decide), h 102 (by decide), h 103 (by decide), h 104 (by decide), h 105 (by decide), h 106 (by decide), h 107 (by decide), h 108 (by decide), h 109 (by decide), h 110 (by decide), h 111 (by decide), h 112 (by decide), h 113 (by decide), h 114 (by decide), h 115 (by decide), h 116 (by decide), h 117 (by decide), h 118 (by decide), h 119 (by decide), h 120 (by decide), h 121 (by decide), h 122 (by decide), h 123 (by decide), h 124 (by decide), h 125 (by decide), h 126 (by decide), h 127 (by decide), h 128 (by decide), h 129 (by decide), h 130 (by decide)]
theorem aX_frame {f : Nat} (hf : f = 45 ∨ f = 58) {I J : fc_I} (h : ∀ c, c < 78 → J c = I c) : aX f J = aX f I := by
  refine aX_eq ?_
  have eW : aWa J = aWa I := by funext k; unfold aWa; by_cases hk : k < 183
                                · rw [if_pos hk, if_pos hk, h _ (by omega)]
                                · rw [if_neg hk, if_neg hk]
  have eV : aWi J = aWi I := by funext k; unfold aWi; by_cases hk : k < 183
                                · rw [if_pos hk, if_pos hk, h _ (by omega)]
                                · rw [if_neg hk, if_neg hk]
  have eI : aIt J = aIt I := by funext k; unfold aIt; rw [h 76 (by decide)]; by_cases hk : k < 160
                                · rw [h (72 + k / 40) (by omega)]
                                · simp [hk]
  have eL : aLen J = aLen I := by funext q; unfold aLen; rw [h 40 (by decide), h 41 (by decide)]
  have eB : aBeg J = aBeg I := by funext q; unfold aBeg; rw [h 40 (by decide)]
  have eC : aCo J = aCo I := by funext k; unfold aCo; rw [h 31 (by decide), eL, eB]; by_cases hk : k < 1920
                                · rw [h (34 + k / 320) (by omega)]
                                · simp [hk]
  unfold aR
  rw [eW, eV, eI, eC]
  unfold aS aTp aSz aCm
  rw [eL]
  rcases hf with rfl | rfl <;> simp only [Nat.reduceAdd, h 0 (by decide), h 1 (by decide), h 2 (by decide), h 3 (by decide), h 4 (by decide), h 5 (by decide), h 6 (by decide), h 7 (by decide), h 8 (by decide), h 9 (by decide), h 10 (by decide), h 11 (by decide), h 12 (by decide), h 13 (by decide), h 14 (by decide), h 15 (by decide), h 16 (by decide), h 17 (by decide), h 18 (by decide), h 19 (by decide), h 20 (by decide), h 21 (by decide), h 22 (by decide), h 23 (by decide), h 24 (by decide), h 25 (by decide), h 26 (by decide), h 27 (by decide), h 28 (by decide), h 29 (by decide), h 30 (by decide), h 31 (by decide), h 32 (by decide), h 33 (by decide), h 34 (by decide), h 35 (by decide), h 36 (by decide), h 37 (by decide), h 38 (by decide), h 39 (by decide), h 40 (by decide), h 41 (by decide), h 42 (by decide), h 43 (by decide), h 44 (by decide), h 45 (by decide), h 46 (by decide), h 47 (by decide), h 48 (by decide), h 49 (by decide), h 50 (by decide), h 51 (by decide), h 52 (by decide), h 53 (by decide), h 54 (by decide), h 55 (by decide), h 56 (by decide), h 57 (by decide), h 58 (by decide), h 59 (by decide), h 60 (by decide), h 61 (by decide), h 62 (by decide), h 63 (by decide), h 64 (by decide), h 65 (by decide), h 66 (by decide), h 67 (by decide), h 68 (by decide), h 69 (by decide), h 70 (by decide), h 71 (by decide), h 72 (by decide), h 73 (by decide), h 74 (by decide), h 75 (by decide), h 76 (by decide), h 77 (by decide)]

