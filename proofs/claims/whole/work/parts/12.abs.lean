/-- a code of the class as the reference has it -/
def trc (c : Int32) : Int32 := if -6 ≤ c then -1 - c else if c = -16 then 12 else if c = -17 then 11 else if c = -18 then 13 else if c = -9 then 14 else if c = -60 then 9 else if c = -61 then 10 else if c = -43 then 6 else if c = -45 then 7 else 8
/-- single numbers: now end zones shelters roads buses truth news tape texts rule out -/
def aS (f : Nat) (I : fc_I) : Nat → Int32 := fun k => [I f 9, I 15 11, I 1 2, I 1 3, I 4 5, I 10 4, I 15 10, I 15 9, I 31 6, I 31 7, I 31 8, I f 8].getD k 0
def aLen (I : fc_I) (q : Nat) : Int32 := if q % 2 = 0 then I 40 (q / 2) else I 41 (q / 2) - I 40 (q / 2)
def aBeg (I : fc_I) (q : Nat) : Nat := if q % 2 = 0 then 0 else cn (I 40 (q / 2))
def aWa (I : fc_I) : Nat → Int32 := fun k => if k < 183 then I (18 + k / 61) (k % 61) else 0
def aWi (I : fc_I) : Nat → Int32 := fun k => if k < 183 then I (22 + k / 61) (k % 61) else 0
def aTp (I : fc_I) : Nat → Int32 := fun k => if k < cn (I 31 6) then I 32 k else 0
def aSz (I : fc_I) : Nat → Int32 := fun k => if I 76 k = -1 then 0 else I 77 k
def aIt (I : fc_I) : Nat → Int32 := fun k => if k < 160 ∧ ¬ I 76 (k / 40) = -1 then I (72 + k / 40) (k % 40) else 0
def aCo (I : fc_I) : Nat → Int32 := fun k => if k < 1920 ∧ k / 320 < cn (I 31 7) ∧ k % 160 < cn (aLen I (k / 160)) then trc (I (34 + k / 320) (aBeg I (k / 160) + k % 160)) else 0
def aCm (I : fc_I) : Nat → Int32 := fun k => if k < 12 ∧ k / 2 < cn (I 31 7) then aLen I k else 0
/-- the class's memory, its folk at the cells from f on, as rows -/
def aR (f : Nat) (I : fc_I) : List (Nat → Int32) := [aS f I, I 2, I (f + 1), I (f + 2), I (f + 3), I (f + 4), I 3, I (f + 5), I (f + 6), I 5, I 6, I 7, I 8, I 9, I 11, I 12, I 13, I 14, I (f + 8), I (f + 7), I 16, I 25, I 26, I 27, I 28, I 29, I 30, I 68, I 76, fun _ => 0, aWa I, aWi I, aTp I, aSz I, aIt I, aCo I, aCm I]
def aX (f : Nat) (I : fc_I) : fc_I := fun r => (aR f I).getD r (fun _ => 0)
theorem aX_of {f r0 j : Nat} {x : Int32} {I J : fc_I} {g : Nat → Int32} (h : aR f J = (aR f I).set r0 g) (hr : r0 < 37) (hg : ∀ k, g k = if k = j then x else aX f I r0 k) : aX f J = fc_wI (aX f I) r0 j x := by
  funext r k
  unfold aX fc_wI
  rw [h]
  by_cases e : r = r0
  · subst e
    have hl : r < (aR f I).length := hr
    rw [List.getD_eq_getElem?_getD, List.getElem?_set_self hl, Option.getD_some, hg]
    unfold aX
    simp
  · rw [List.getD_eq_getElem?_getD, List.getElem?_set_ne (fun z => e z.symm), ← List.getD_eq_getElem?_getD]
    simp [e]
theorem aX_eq {f : Nat} {I J : fc_I} (h : aR f J = aR f I) : aX f J = aX f I := by
  unfold aX
  rw [h]
section ROWS
variable {c j : Nat} {x : Int32} {I : fc_I}
theorem aS_ne {f : Nat} (h : f ≠ c ∧ 15 ≠ c ∧ 1 ≠ c ∧ 4 ≠ c ∧ 10 ≠ c ∧ 31 ≠ c) : aS f (fc_wI I c j x) = aS f I := by
  unfold aS
  rw [fc_wI_ne h.1, fc_wI_ne h.2.1, fc_wI_ne h.2.2.1, fc_wI_ne h.2.2.2.1, fc_wI_ne h.2.2.2.2.1, fc_wI_ne h.2.2.2.2.2]
theorem aWa_ne (h : c < 18 ∨ 20 < c) : aWa (fc_wI I c j x) = aWa I := by
  funext k
  unfold aWa
  by_cases hk : k < 183
  · rw [if_pos hk, if_pos hk, fc_wI_ne (by omega)]
  · rw [if_neg hk, if_neg hk]
theorem aWi_ne (h : c < 22 ∨ 24 < c) : aWi (fc_wI I c j x) = aWi I := by
  funext k
  unfold aWi
  by_cases hk : k < 183
  · rw [if_pos hk, if_pos hk, fc_wI_ne (by omega)]
  · rw [if_neg hk, if_neg hk]
theorem aTp_ne (h : 31 ≠ c ∧ 32 ≠ c) : aTp (fc_wI I c j x) = aTp I := by
  unfold aTp
  rw [fc_wI_ne h.1, fc_wI_ne h.2]
theorem aSz_ne (h : 76 ≠ c ∧ 77 ≠ c) : aSz (fc_wI I c j x) = aSz I := by
  unfold aSz
  rw [fc_wI_ne h.1, fc_wI_ne h.2]
theorem aIt_ne (h : c < 72 ∨ 76 < c) : aIt (fc_wI I c j x) = aIt I := by
  funext k
  unfold aIt
  rw [fc_wI_ne (by omega)]
  by_cases hk : k < 160
  · rw [fc_wI_ne (c' := 72 + k / 40) (by omega)]
  · simp [hk]
theorem aLen_ne (h : c < 40 ∨ 41 < c) : aLen (fc_wI I c j x) = aLen I := by
  funext q
  unfold aLen
  rw [fc_wI_ne (by omega), fc_wI_ne (by omega)]
theorem aBeg_ne (h : c ≠ 40) : aBeg (fc_wI I c j x) = aBeg I := by
  funext q
  unfold aBeg
  rw [fc_wI_ne (by omega)]
theorem aCo_ne (h : c < 31 ∨ 31 < c ∧ c < 34 ∨ 41 < c) : aCo (fc_wI I c j x) = aCo I := by
  funext k
  unfold aCo
  rw [fc_wI_ne (by omega), aLen_ne (by omega), aBeg_ne (by omega)]
  by_cases hk : k < 1920
  · rw [fc_wI_ne (c' := 34 + k / 320) (by omega)]
  · simp [hk]
theorem aCm_ne (h : c < 31 ∨ 31 < c ∧ c < 40 ∨ 41 < c) : aCm (fc_wI I c j x) = aCm I := by
  unfold aCm
  rw [fc_wI_ne (by omega), aLen_ne (by omega)]
theorem aTp_8 : aTp (fc_wI I 31 8 x) = aTp I := by
  funext k
  unfold aTp
  rw [fc_wI_ne (c' := 32) (by decide), show fc_wI I 31 8 x 31 6 = I 31 6 by simp [fc_wI]]
theorem aCo_8 : aCo (fc_wI I 31 8 x) = aCo I := by
  funext k
  unfold aCo
  rw [aLen_ne (by decide), aBeg_ne (by decide), fc_wI_ne (c' := 34 + k / 320) (by omega), show fc_wI I 31 8 x 31 7 = I 31 7 by simp [fc_wI]]
theorem aCm_8 : aCm (fc_wI I 31 8 x) = aCm I := by
  funext k
  unfold aCm
  rw [aLen_ne (by decide), show fc_wI I 31 8 x 31 7 = I 31 7 by simp [fc_wI]]
end ROWS

theorem aw_2 {f j : Nat} (hf : f = 45 ∨ f = 58) {x : Int32} {I : fc_I} : aX f (fc_wI I 2 j x) = fc_wI (aX f I) 1 j x := aX_of (g := upd (I 2) j x) (by rcases hf with rfl | rfl <;> simp [aR, fc_wI_c, fc_wI_ne, aS_ne, aWa_ne, aWi_ne, aTp_ne, aSz_ne, aIt_ne, aCo_ne, aCm_ne]) (by decide) (fun k => rfl)
theorem aw_3 {f j : Nat} (hf : f = 45 ∨ f = 58) {x : Int32} {I : fc_I} : aX f (fc_wI I 3 j x) = fc_wI (aX f I) 6 j x := aX_of (g := upd (I 3) j x) (by rcases hf with rfl | rfl <;> simp [aR, fc_wI_c, fc_wI_ne, aS_ne, aWa_ne, aWi_ne, aTp_ne, aSz_ne, aIt_ne, aCo_ne, aCm_ne]) (by decide) (fun k => rfl)
theorem aw_5 {f j : Nat} (hf : f = 45 ∨ f = 58) {x : Int32} {I : fc_I} : aX f (fc_wI I 5 j x) = fc_wI (aX f I) 9 j x := aX_of (g := upd (I 5) j x) (by rcases hf with rfl | rfl <;> simp [aR, fc_wI_c, fc_wI_ne, aS_ne, aWa_ne, aWi_ne, aTp_ne, aSz_ne, aIt_ne, aCo_ne, aCm_ne]) (by decide) (fun k => rfl)
theorem aw_6 {f j : Nat} (hf : f = 45 ∨ f = 58) {x : Int32} {I : fc_I} : aX f (fc_wI I 6 j x) = fc_wI (aX f I) 10 j x := aX_of (g := upd (I 6) j x) (by rcases hf with rfl | rfl <;> simp [aR, fc_wI_c, fc_wI_ne, aS_ne, aWa_ne, aWi_ne, aTp_ne, aSz_ne, aIt_ne, aCo_ne, aCm_ne]) (by decide) (fun k => rfl)
theorem aw_7 {f j : Nat} (hf : f = 45 ∨ f = 58) {x : Int32} {I : fc_I} : aX f (fc_wI I 7 j x) = fc_wI (aX f I) 11 j x := aX_of (g := upd (I 7) j x) (by rcases hf with rfl | rfl <;> simp [aR, fc_wI_c, fc_wI_ne, aS_ne, aWa_ne, aWi_ne, aTp_ne, aSz_ne, aIt_ne, aCo_ne, aCm_ne]) (by decide) (fun k => rfl)
theorem aw_8 {f j : Nat} (hf : f = 45 ∨ f = 58) {x : Int32} {I : fc_I} : aX f (fc_wI I 8 j x) = fc_wI (aX f I) 12 j x := aX_of (g := upd (I 8) j x) (by rcases hf with rfl | rfl <;> simp [aR, fc_wI_c, fc_wI_ne, aS_ne, aWa_ne, aWi_ne, aTp_ne, aSz_ne, aIt_ne, aCo_ne, aCm_ne]) (by decide) (fun k => rfl)
theorem aw_9 {f j : Nat} (hf : f = 45 ∨ f = 58) {x : Int32} {I : fc_I} : aX f (fc_wI I 9 j x) = fc_wI (aX f I) 13 j x := aX_of (g := upd (I 9) j x) (by rcases hf with rfl | rfl <;> simp [aR, fc_wI_c, fc_wI_ne, aS_ne, aWa_ne, aWi_ne, aTp_ne, aSz_ne, aIt_ne, aCo_ne, aCm_ne]) (by decide) (fun k => rfl)
theorem aw_11 {f j : Nat} (hf : f = 45 ∨ f = 58) {x : Int32} {I : fc_I} : aX f (fc_wI I 11 j x) = fc_wI (aX f I) 14 j x := aX_of (g := upd (I 11) j x) (by rcases hf with rfl | rfl <;> simp [aR, fc_wI_c, fc_wI_ne, aS_ne, aWa_ne, aWi_ne, aTp_ne, aSz_ne, aIt_ne, aCo_ne, aCm_ne]) (by decide) (fun k => rfl)
theorem aw_12 {f j : Nat} (hf : f = 45 ∨ f = 58) {x : Int32} {I : fc_I} : aX f (fc_wI I 12 j x) = fc_wI (aX f I) 15 j x := aX_of (g := upd (I 12) j x) (by rcases hf with rfl | rfl <;> simp [aR, fc_wI_c, fc_wI_ne, aS_ne, aWa_ne, aWi_ne, aTp_ne, aSz_ne, aIt_ne, aCo_ne, aCm_ne]) (by decide) (fun k => rfl)
theorem aw_13 {f j : Nat} (hf : f = 45 ∨ f = 58) {x : Int32} {I : fc_I} : aX f (fc_wI I 13 j x) = fc_wI (aX f I) 16 j x := aX_of (g := upd (I 13) j x) (by rcases hf with rfl | rfl <;> simp [aR, fc_wI_c, fc_wI_ne, aS_ne, aWa_ne, aWi_ne, aTp_ne, aSz_ne, aIt_ne, aCo_ne, aCm_ne]) (by decide) (fun k => rfl)
theorem aw_14 {f j : Nat} (hf : f = 45 ∨ f = 58) {x : Int32} {I : fc_I} : aX f (fc_wI I 14 j x) = fc_wI (aX f I) 17 j x := aX_of (g := upd (I 14) j x) (by rcases hf with rfl | rfl <;> simp [aR, fc_wI_c, fc_wI_ne, aS_ne, aWa_ne, aWi_ne, aTp_ne, aSz_ne, aIt_ne, aCo_ne, aCm_ne]) (by decide) (fun k => rfl)
theorem aw_16 {f j : Nat} (hf : f = 45 ∨ f = 58) {x : Int32} {I : fc_I} : aX f (fc_wI I 16 j x) = fc_wI (aX f I) 20 j x := aX_of (g := upd (I 16) j x) (by rcases hf with rfl | rfl <;> simp [aR, fc_wI_c, fc_wI_ne, aS_ne, aWa_ne, aWi_ne, aTp_ne, aSz_ne, aIt_ne, aCo_ne, aCm_ne]) (by decide) (fun k => rfl)
theorem aw_25 {f j : Nat} (hf : f = 45 ∨ f = 58) {x : Int32} {I : fc_I} : aX f (fc_wI I 25 j x) = fc_wI (aX f I) 21 j x := aX_of (g := upd (I 25) j x) (by rcases hf with rfl | rfl <;> simp [aR, fc_wI_c, fc_wI_ne, aS_ne, aWa_ne, aWi_ne, aTp_ne, aSz_ne, aIt_ne, aCo_ne, aCm_ne]) (by decide) (fun k => rfl)
theorem aw_26 {f j : Nat} (hf : f = 45 ∨ f = 58) {x : Int32} {I : fc_I} : aX f (fc_wI I 26 j x) = fc_wI (aX f I) 22 j x := aX_of (g := upd (I 26) j x) (by rcases hf with rfl | rfl <;> simp [aR, fc_wI_c, fc_wI_ne, aS_ne, aWa_ne, aWi_ne, aTp_ne, aSz_ne, aIt_ne, aCo_ne, aCm_ne]) (by decide) (fun k => rfl)
theorem aw_27 {f j : Nat} (hf : f = 45 ∨ f = 58) {x : Int32} {I : fc_I} : aX f (fc_wI I 27 j x) = fc_wI (aX f I) 23 j x := aX_of (g := upd (I 27) j x) (by rcases hf with rfl | rfl <;> simp [aR, fc_wI_c, fc_wI_ne, aS_ne, aWa_ne, aWi_ne, aTp_ne, aSz_ne, aIt_ne, aCo_ne, aCm_ne]) (by decide) (fun k => rfl)
theorem aw_28 {f j : Nat} (hf : f = 45 ∨ f = 58) {x : Int32} {I : fc_I} : aX f (fc_wI I 28 j x) = fc_wI (aX f I) 24 j x := aX_of (g := upd (I 28) j x) (by rcases hf with rfl | rfl <;> simp [aR, fc_wI_c, fc_wI_ne, aS_ne, aWa_ne, aWi_ne, aTp_ne, aSz_ne, aIt_ne, aCo_ne, aCm_ne]) (by decide) (fun k => rfl)
theorem aw_29 {f j : Nat} (hf : f = 45 ∨ f = 58) {x : Int32} {I : fc_I} : aX f (fc_wI I 29 j x) = fc_wI (aX f I) 25 j x := aX_of (g := upd (I 29) j x) (by rcases hf with rfl | rfl <;> simp [aR, fc_wI_c, fc_wI_ne, aS_ne, aWa_ne, aWi_ne, aTp_ne, aSz_ne, aIt_ne, aCo_ne, aCm_ne]) (by decide) (fun k => rfl)
theorem aw_30 {f j : Nat} (hf : f = 45 ∨ f = 58) {x : Int32} {I : fc_I} : aX f (fc_wI I 30 j x) = fc_wI (aX f I) 26 j x := aX_of (g := upd (I 30) j x) (by rcases hf with rfl | rfl <;> simp [aR, fc_wI_c, fc_wI_ne, aS_ne, aWa_ne, aWi_ne, aTp_ne, aSz_ne, aIt_ne, aCo_ne, aCm_ne]) (by decide) (fun k => rfl)
theorem aw_68 {f j : Nat} (hf : f = 45 ∨ f = 58) {x : Int32} {I : fc_I} : aX f (fc_wI I 68 j x) = fc_wI (aX f I) 27 j x := aX_of (g := upd (I 68) j x) (by rcases hf with rfl | rfl <;> simp [aR, fc_wI_c, fc_wI_ne, aS_ne, aWa_ne, aWi_ne, aTp_ne, aSz_ne, aIt_ne, aCo_ne, aCm_ne]) (by decide) (fun k => rfl)
theorem awf_1 {f j : Nat} (hf : f = 45 ∨ f = 58) {x : Int32} {I : fc_I} : aX f (fc_wI I (f + 1) j x) = fc_wI (aX f I) 2 j x := aX_of (g := upd (I (f + 1)) j x) (by rcases hf with rfl | rfl <;> simp [aR, fc_wI_c, fc_wI_ne, aS_ne, aWa_ne, aWi_ne, aTp_ne, aSz_ne, aIt_ne, aCo_ne, aCm_ne]) (by decide) (fun k => rfl)
theorem awf_2 {f j : Nat} (hf : f = 45 ∨ f = 58) {x : Int32} {I : fc_I} : aX f (fc_wI I (f + 2) j x) = fc_wI (aX f I) 3 j x := aX_of (g := upd (I (f + 2)) j x) (by rcases hf with rfl | rfl <;> simp [aR, fc_wI_c, fc_wI_ne, aS_ne, aWa_ne, aWi_ne, aTp_ne, aSz_ne, aIt_ne, aCo_ne, aCm_ne]) (by decide) (fun k => rfl)
theorem awf_3 {f j : Nat} (hf : f = 45 ∨ f = 58) {x : Int32} {I : fc_I} : aX f (fc_wI I (f + 3) j x) = fc_wI (aX f I) 4 j x := aX_of (g := upd (I (f + 3)) j x) (by rcases hf with rfl | rfl <;> simp [aR, fc_wI_c, fc_wI_ne, aS_ne, aWa_ne, aWi_ne, aTp_ne, aSz_ne, aIt_ne, aCo_ne, aCm_ne]) (by decide) (fun k => rfl)
theorem awf_4 {f j : Nat} (hf : f = 45 ∨ f = 58) {x : Int32} {I : fc_I} : aX f (fc_wI I (f + 4) j x) = fc_wI (aX f I) 5 j x := aX_of (g := upd (I (f + 4)) j x) (by rcases hf with rfl | rfl <;> simp [aR, fc_wI_c, fc_wI_ne, aS_ne, aWa_ne, aWi_ne, aTp_ne, aSz_ne, aIt_ne, aCo_ne, aCm_ne]) (by decide) (fun k => rfl)
theorem awf_5 {f j : Nat} (hf : f = 45 ∨ f = 58) {x : Int32} {I : fc_I} : aX f (fc_wI I (f + 5) j x) = fc_wI (aX f I) 7 j x := aX_of (g := upd (I (f + 5)) j x) (by rcases hf with rfl | rfl <;> simp [aR, fc_wI_c, fc_wI_ne, aS_ne, aWa_ne, aWi_ne, aTp_ne, aSz_ne, aIt_ne, aCo_ne, aCm_ne]) (by decide) (fun k => rfl)
theorem awf_6 {f j : Nat} (hf : f = 45 ∨ f = 58) {x : Int32} {I : fc_I} : aX f (fc_wI I (f + 6) j x) = fc_wI (aX f I) 8 j x := aX_of (g := upd (I (f + 6)) j x) (by rcases hf with rfl | rfl <;> simp [aR, fc_wI_c, fc_wI_ne, aS_ne, aWa_ne, aWi_ne, aTp_ne, aSz_ne, aIt_ne, aCo_ne, aCm_ne]) (by decide) (fun k => rfl)
theorem awf_8 {f j : Nat} (hf : f = 45 ∨ f = 58) {x : Int32} {I : fc_I} : aX f (fc_wI I (f + 8) j x) = fc_wI (aX f I) 18 j x := aX_of (g := upd (I (f + 8)) j x) (by rcases hf with rfl | rfl <;> simp [aR, fc_wI_c, fc_wI_ne, aS_ne, aWa_ne, aWi_ne, aTp_ne, aSz_ne, aIt_ne, aCo_ne, aCm_ne]) (by decide) (fun k => rfl)
theorem awf_7 {f j : Nat} (hf : f = 45 ∨ f = 58) {x : Int32} {I : fc_I} : aX f (fc_wI I (f + 7) j x) = fc_wI (aX f I) 19 j x := aX_of (g := upd (I (f + 7)) j x) (by rcases hf with rfl | rfl <;> simp [aR, fc_wI_c, fc_wI_ne, aS_ne, aWa_ne, aWi_ne, aTp_ne, aSz_ne, aIt_ne, aCo_ne, aCm_ne]) (by decide) (fun k => rfl)
theorem aw0_2 {f : Nat} (hf : f = 45 ∨ f = 58) {x : Int32} {I : fc_I} : aX f (fc_wI I 1 2 x) = fc_wI (aX f I) 0 2 x := aX_of (g := aS f (fc_wI I 1 2 x)) (by rcases hf with rfl | rfl <;> simp [aR, fc_wI_c, fc_wI_ne, aWa_ne, aWi_ne, aTp_ne, aSz_ne, aIt_ne, aCo_ne, aCm_ne]) (by decide) (fun k => by
  show aS f (fc_wI I 1 2 x) k = if k = 2 then x else aS f I k
  unfold aS
  match k with
  | 0 => rcases hf with rfl | rfl <;> simp [fc_wI]
  | 1 => rcases hf with rfl | rfl <;> simp [fc_wI]
  | 2 => rcases hf with rfl | rfl <;> simp [fc_wI]
  | 3 => rcases hf with rfl | rfl <;> simp [fc_wI]
  | 4 => rcases hf with rfl | rfl <;> simp [fc_wI]
  | 5 => rcases hf with rfl | rfl <;> simp [fc_wI]
  | 6 => rcases hf with rfl | rfl <;> simp [fc_wI]
  | 7 => rcases hf with rfl | rfl <;> simp [fc_wI]
  | 8 => rcases hf with rfl | rfl <;> simp [fc_wI]
  | 9 => rcases hf with rfl | rfl <;> simp [fc_wI]
  | 10 => rcases hf with rfl | rfl <;> simp [fc_wI]
  | 11 => rcases hf with rfl | rfl <;> simp [fc_wI]
  | n + 12 => simp)
theorem aw0_3 {f : Nat} (hf : f = 45 ∨ f = 58) {x : Int32} {I : fc_I} : aX f (fc_wI I 1 3 x) = fc_wI (aX f I) 0 3 x := aX_of (g := aS f (fc_wI I 1 3 x)) (by rcases hf with rfl | rfl <;> simp [aR, fc_wI_c, fc_wI_ne, aWa_ne, aWi_ne, aTp_ne, aSz_ne, aIt_ne, aCo_ne, aCm_ne]) (by decide) (fun k => by
  show aS f (fc_wI I 1 3 x) k = if k = 3 then x else aS f I k
  unfold aS
  match k with
  | 0 => rcases hf with rfl | rfl <;> simp [fc_wI]
  | 1 => rcases hf with rfl | rfl <;> simp [fc_wI]
  | 2 => rcases hf with rfl | rfl <;> simp [fc_wI]
  | 3 => rcases hf with rfl | rfl <;> simp [fc_wI]
  | 4 => rcases hf with rfl | rfl <;> simp [fc_wI]
  | 5 => rcases hf with rfl | rfl <;> simp [fc_wI]
  | 6 => rcases hf with rfl | rfl <;> simp [fc_wI]
  | 7 => rcases hf with rfl | rfl <;> simp [fc_wI]
  | 8 => rcases hf with rfl | rfl <;> simp [fc_wI]
  | 9 => rcases hf with rfl | rfl <;> simp [fc_wI]
  | 10 => rcases hf with rfl | rfl <;> simp [fc_wI]
  | 11 => rcases hf with rfl | rfl <;> simp [fc_wI]
  | n + 12 => simp)
theorem aw0_4 {f : Nat} (hf : f = 45 ∨ f = 58) {x : Int32} {I : fc_I} : aX f (fc_wI I 4 5 x) = fc_wI (aX f I) 0 4 x := aX_of (g := aS f (fc_wI I 4 5 x)) (by rcases hf with rfl | rfl <;> simp [aR, fc_wI_c, fc_wI_ne, aWa_ne, aWi_ne, aTp_ne, aSz_ne, aIt_ne, aCo_ne, aCm_ne]) (by decide) (fun k => by
  show aS f (fc_wI I 4 5 x) k = if k = 4 then x else aS f I k
  unfold aS
  match k with
  | 0 => rcases hf with rfl | rfl <;> simp [fc_wI]
  | 1 => rcases hf with rfl | rfl <;> simp [fc_wI]
  | 2 => rcases hf with rfl | rfl <;> simp [fc_wI]
  | 3 => rcases hf with rfl | rfl <;> simp [fc_wI]
  | 4 => rcases hf with rfl | rfl <;> simp [fc_wI]
  | 5 => rcases hf with rfl | rfl <;> simp [fc_wI]
  | 6 => rcases hf with rfl | rfl <;> simp [fc_wI]
  | 7 => rcases hf with rfl | rfl <;> simp [fc_wI]
  | 8 => rcases hf with rfl | rfl <;> simp [fc_wI]
  | 9 => rcases hf with rfl | rfl <;> simp [fc_wI]
  | 10 => rcases hf with rfl | rfl <;> simp [fc_wI]
  | 11 => rcases hf with rfl | rfl <;> simp [fc_wI]
  | n + 12 => simp)
theorem aw0_5 {f : Nat} (hf : f = 45 ∨ f = 58) {x : Int32} {I : fc_I} : aX f (fc_wI I 10 4 x) = fc_wI (aX f I) 0 5 x := aX_of (g := aS f (fc_wI I 10 4 x)) (by rcases hf with rfl | rfl <;> simp [aR, fc_wI_c, fc_wI_ne, aWa_ne, aWi_ne, aTp_ne, aSz_ne, aIt_ne, aCo_ne, aCm_ne]) (by decide) (fun k => by
  show aS f (fc_wI I 10 4 x) k = if k = 5 then x else aS f I k
  unfold aS
  match k with
  | 0 => rcases hf with rfl | rfl <;> simp [fc_wI]
  | 1 => rcases hf with rfl | rfl <;> simp [fc_wI]
  | 2 => rcases hf with rfl | rfl <;> simp [fc_wI]
  | 3 => rcases hf with rfl | rfl <;> simp [fc_wI]
  | 4 => rcases hf with rfl | rfl <;> simp [fc_wI]
  | 5 => rcases hf with rfl | rfl <;> simp [fc_wI]
  | 6 => rcases hf with rfl | rfl <;> simp [fc_wI]
  | 7 => rcases hf with rfl | rfl <;> simp [fc_wI]
  | 8 => rcases hf with rfl | rfl <;> simp [fc_wI]
  | 9 => rcases hf with rfl | rfl <;> simp [fc_wI]
  | 10 => rcases hf with rfl | rfl <;> simp [fc_wI]
  | 11 => rcases hf with rfl | rfl <;> simp [fc_wI]
  | n + 12 => simp)
theorem aw0_7 {f : Nat} (hf : f = 45 ∨ f = 58) {x : Int32} {I : fc_I} : aX f (fc_wI I 15 9 x) = fc_wI (aX f I) 0 7 x := aX_of (g := aS f (fc_wI I 15 9 x)) (by rcases hf with rfl | rfl <;> simp [aR, fc_wI_c, fc_wI_ne, aWa_ne, aWi_ne, aTp_ne, aSz_ne, aIt_ne, aCo_ne, aCm_ne]) (by decide) (fun k => by
  show aS f (fc_wI I 15 9 x) k = if k = 7 then x else aS f I k
  unfold aS
  match k with
  | 0 => rcases hf with rfl | rfl <;> simp [fc_wI]
  | 1 => rcases hf with rfl | rfl <;> simp [fc_wI]
  | 2 => rcases hf with rfl | rfl <;> simp [fc_wI]
  | 3 => rcases hf with rfl | rfl <;> simp [fc_wI]
  | 4 => rcases hf with rfl | rfl <;> simp [fc_wI]
  | 5 => rcases hf with rfl | rfl <;> simp [fc_wI]
  | 6 => rcases hf with rfl | rfl <;> simp [fc_wI]
  | 7 => rcases hf with rfl | rfl <;> simp [fc_wI]
  | 8 => rcases hf with rfl | rfl <;> simp [fc_wI]
  | 9 => rcases hf with rfl | rfl <;> simp [fc_wI]
  | 10 => rcases hf with rfl | rfl <;> simp [fc_wI]
  | 11 => rcases hf with rfl | rfl <;> simp [fc_wI]
  | n + 12 => simp)
theorem aw0_6 {f : Nat} (hf : f = 45 ∨ f = 58) {x : Int32} {I : fc_I} : aX f (fc_wI I 15 10 x) = fc_wI (aX f I) 0 6 x := aX_of (g := aS f (fc_wI I 15 10 x)) (by rcases hf with rfl | rfl <;> simp [aR, fc_wI_c, fc_wI_ne, aWa_ne, aWi_ne, aTp_ne, aSz_ne, aIt_ne, aCo_ne, aCm_ne]) (by decide) (fun k => by
  show aS f (fc_wI I 15 10 x) k = if k = 6 then x else aS f I k
  unfold aS
  match k with
  | 0 => rcases hf with rfl | rfl <;> simp [fc_wI]
  | 1 => rcases hf with rfl | rfl <;> simp [fc_wI]
  | 2 => rcases hf with rfl | rfl <;> simp [fc_wI]
  | 3 => rcases hf with rfl | rfl <;> simp [fc_wI]
  | 4 => rcases hf with rfl | rfl <;> simp [fc_wI]
  | 5 => rcases hf with rfl | rfl <;> simp [fc_wI]
  | 6 => rcases hf with rfl | rfl <;> simp [fc_wI]
  | 7 => rcases hf with rfl | rfl <;> simp [fc_wI]
  | 8 => rcases hf with rfl | rfl <;> simp [fc_wI]
  | 9 => rcases hf with rfl | rfl <;> simp [fc_wI]
  | 10 => rcases hf with rfl | rfl <;> simp [fc_wI]
  | 11 => rcases hf with rfl | rfl <;> simp [fc_wI]
  | n + 12 => simp)
theorem aw0_1 {f : Nat} (hf : f = 45 ∨ f = 58) {x : Int32} {I : fc_I} : aX f (fc_wI I 15 11 x) = fc_wI (aX f I) 0 1 x := aX_of (g := aS f (fc_wI I 15 11 x)) (by rcases hf with rfl | rfl <;> simp [aR, fc_wI_c, fc_wI_ne, aWa_ne, aWi_ne, aTp_ne, aSz_ne, aIt_ne, aCo_ne, aCm_ne]) (by decide) (fun k => by
  show aS f (fc_wI I 15 11 x) k = if k = 1 then x else aS f I k
  unfold aS
  match k with
  | 0 => rcases hf with rfl | rfl <;> simp [fc_wI]
  | 1 => rcases hf with rfl | rfl <;> simp [fc_wI]
  | 2 => rcases hf with rfl | rfl <;> simp [fc_wI]
  | 3 => rcases hf with rfl | rfl <;> simp [fc_wI]
  | 4 => rcases hf with rfl | rfl <;> simp [fc_wI]
  | 5 => rcases hf with rfl | rfl <;> simp [fc_wI]
  | 6 => rcases hf with rfl | rfl <;> simp [fc_wI]
  | 7 => rcases hf with rfl | rfl <;> simp [fc_wI]
  | 8 => rcases hf with rfl | rfl <;> simp [fc_wI]
  | 9 => rcases hf with rfl | rfl <;> simp [fc_wI]
  | 10 => rcases hf with rfl | rfl <;> simp [fc_wI]
  | 11 => rcases hf with rfl | rfl <;> simp [fc_wI]
  | n + 12 => simp)
theorem aw0_10 {f : Nat} (hf : f = 45 ∨ f = 58) {x : Int32} {I : fc_I} : aX f (fc_wI I 31 8 x) = fc_wI (aX f I) 0 10 x := aX_of (g := aS f (fc_wI I 31 8 x)) (by rcases hf with rfl | rfl <;> simp [aR, fc_wI_c, fc_wI_ne, aWa_ne, aWi_ne, aTp_ne, aSz_ne, aIt_ne, aCo_ne, aCm_ne, aTp_8, aCo_8, aCm_8]) (by decide) (fun k => by
  show aS f (fc_wI I 31 8 x) k = if k = 10 then x else aS f I k
  unfold aS
  match k with
  | 0 => rcases hf with rfl | rfl <;> simp [fc_wI]
  | 1 => rcases hf with rfl | rfl <;> simp [fc_wI]
  | 2 => rcases hf with rfl | rfl <;> simp [fc_wI]
  | 3 => rcases hf with rfl | rfl <;> simp [fc_wI]
  | 4 => rcases hf with rfl | rfl <;> simp [fc_wI]
  | 5 => rcases hf with rfl | rfl <;> simp [fc_wI]
  | 6 => rcases hf with rfl | rfl <;> simp [fc_wI]
  | 7 => rcases hf with rfl | rfl <;> simp [fc_wI]
  | 8 => rcases hf with rfl | rfl <;> simp [fc_wI]
  | 9 => rcases hf with rfl | rfl <;> simp [fc_wI]
  | 10 => rcases hf with rfl | rfl <;> simp [fc_wI]
  | 11 => rcases hf with rfl | rfl <;> simp [fc_wI]
  | n + 12 => simp)
theorem aw0_11 {f : Nat} (hf : f = 45 ∨ f = 58) {x : Int32} {I : fc_I} : aX f (fc_wI I f 8 x) = fc_wI (aX f I) 0 11 x := aX_of (g := aS f (fc_wI I f 8 x)) (by rcases hf with rfl | rfl <;> simp [aR, fc_wI_c, fc_wI_ne, aWa_ne, aWi_ne, aTp_ne, aSz_ne, aIt_ne, aCo_ne, aCm_ne]) (by decide) (fun k => by
  show aS f (fc_wI I f 8 x) k = if k = 11 then x else aS f I k
  unfold aS
  match k with
  | 0 => rcases hf with rfl | rfl <;> simp [fc_wI]
  | 1 => rcases hf with rfl | rfl <;> simp [fc_wI]
  | 2 => rcases hf with rfl | rfl <;> simp [fc_wI]
  | 3 => rcases hf with rfl | rfl <;> simp [fc_wI]
  | 4 => rcases hf with rfl | rfl <;> simp [fc_wI]
  | 5 => rcases hf with rfl | rfl <;> simp [fc_wI]
  | 6 => rcases hf with rfl | rfl <;> simp [fc_wI]
  | 7 => rcases hf with rfl | rfl <;> simp [fc_wI]
  | 8 => rcases hf with rfl | rfl <;> simp [fc_wI]
  | 9 => rcases hf with rfl | rfl <;> simp [fc_wI]
  | 10 => rcases hf with rfl | rfl <;> simp [fc_wI]
  | 11 => rcases hf with rfl | rfl <;> simp [fc_wI]
  | n + 12 => simp)
theorem aw0_0 {f : Nat} (hf : f = 45 ∨ f = 58) {x : Int32} {I : fc_I} : aX f (fc_wI I f 9 x) = fc_wI (aX f I) 0 0 x := aX_of (g := aS f (fc_wI I f 9 x)) (by rcases hf with rfl | rfl <;> simp [aR, fc_wI_c, fc_wI_ne, aWa_ne, aWi_ne, aTp_ne, aSz_ne, aIt_ne, aCo_ne, aCm_ne]) (by decide) (fun k => by
  show aS f (fc_wI I f 9 x) k = if k = 0 then x else aS f I k
  unfold aS
  match k with
  | 0 => rcases hf with rfl | rfl <;> simp [fc_wI]
  | 1 => rcases hf with rfl | rfl <;> simp [fc_wI]
  | 2 => rcases hf with rfl | rfl <;> simp [fc_wI]
  | 3 => rcases hf with rfl | rfl <;> simp [fc_wI]
  | 4 => rcases hf with rfl | rfl <;> simp [fc_wI]
  | 5 => rcases hf with rfl | rfl <;> simp [fc_wI]
  | 6 => rcases hf with rfl | rfl <;> simp [fc_wI]
  | 7 => rcases hf with rfl | rfl <;> simp [fc_wI]
  | 8 => rcases hf with rfl | rfl <;> simp [fc_wI]
  | 9 => rcases hf with rfl | rfl <;> simp [fc_wI]
  | 10 => rcases hf with rfl | rfl <;> simp [fc_wI]
  | 11 => rcases hf with rfl | rfl <;> simp [fc_wI]
  | n + 12 => simp)
theorem as_42 {f j : Nat} (hf : f = 45 ∨ f = 58) {x : Int32} {I : fc_I} : aX f (fc_wI I 42 j x) = aX f I := aX_eq (by rcases hf with rfl | rfl <;> simp [aR, fc_wI_c, fc_wI_ne, aS_ne, aWa_ne, aWi_ne, aTp_ne, aSz_ne, aIt_ne, aCo_ne, aCm_ne])
theorem as_43 {f j : Nat} (hf : f = 45 ∨ f = 58) {x : Int32} {I : fc_I} : aX f (fc_wI I 43 j x) = aX f I := aX_eq (by rcases hf with rfl | rfl <;> simp [aR, fc_wI_c, fc_wI_ne, aS_ne, aWa_ne, aWi_ne, aTp_ne, aSz_ne, aIt_ne, aCo_ne, aCm_ne])
theorem as_44 {f j : Nat} (hf : f = 45 ∨ f = 58) {x : Int32} {I : fc_I} : aX f (fc_wI I 44 j x) = aX f I := aX_eq (by rcases hf with rfl | rfl <;> simp [aR, fc_wI_c, fc_wI_ne, aS_ne, aWa_ne, aWi_ne, aTp_ne, aSz_ne, aIt_ne, aCo_ne, aCm_ne])
theorem as_54 {f j : Nat} (hf : f = 45 ∨ f = 58) {x : Int32} {I : fc_I} : aX f (fc_wI I 54 j x) = aX f I := aX_eq (by rcases hf with rfl | rfl <;> simp [aR, fc_wI_c, fc_wI_ne, aS_ne, aWa_ne, aWi_ne, aTp_ne, aSz_ne, aIt_ne, aCo_ne, aCm_ne])
theorem as_55 {f j : Nat} (hf : f = 45 ∨ f = 58) {x : Int32} {I : fc_I} : aX f (fc_wI I 55 j x) = aX f I := aX_eq (by rcases hf with rfl | rfl <;> simp [aR, fc_wI_c, fc_wI_ne, aS_ne, aWa_ne, aWi_ne, aTp_ne, aSz_ne, aIt_ne, aCo_ne, aCm_ne])
theorem as_56 {f j : Nat} (hf : f = 45 ∨ f = 58) {x : Int32} {I : fc_I} : aX f (fc_wI I 56 j x) = aX f I := aX_eq (by rcases hf with rfl | rfl <;> simp [aR, fc_wI_c, fc_wI_ne, aS_ne, aWa_ne, aWi_ne, aTp_ne, aSz_ne, aIt_ne, aCo_ne, aCm_ne])
theorem as_57 {f j : Nat} (hf : f = 45 ∨ f = 58) {x : Int32} {I : fc_I} : aX f (fc_wI I 57 j x) = aX f I := aX_eq (by rcases hf with rfl | rfl <;> simp [aR, fc_wI_c, fc_wI_ne, aS_ne, aWa_ne, aWi_ne, aTp_ne, aSz_ne, aIt_ne, aCo_ne, aCm_ne])
theorem as_67 {f j : Nat} (hf : f = 45 ∨ f = 58) {x : Int32} {I : fc_I} : aX f (fc_wI I 67 j x) = aX f I := aX_eq (by rcases hf with rfl | rfl <;> simp [aR, fc_wI_c, fc_wI_ne, aS_ne, aWa_ne, aWi_ne, aTp_ne, aSz_ne, aIt_ne, aCo_ne, aCm_ne])
theorem as_69 {f j : Nat} (hf : f = 45 ∨ f = 58) {x : Int32} {I : fc_I} : aX f (fc_wI I 69 j x) = aX f I := aX_eq (by rcases hf with rfl | rfl <;> simp [aR, fc_wI_c, fc_wI_ne, aS_ne, aWa_ne, aWi_ne, aTp_ne, aSz_ne, aIt_ne, aCo_ne, aCm_ne])
theorem as_58 {j : Nat} {x : Int32} {I : fc_I} : aX 45 (fc_wI I 58 j x) = aX 45 I := aX_eq (by simp [aR, fc_wI_c, fc_wI_ne, aS_ne, aWa_ne, aWi_ne, aTp_ne, aSz_ne, aIt_ne, aCo_ne, aCm_ne])
theorem as_59 {j : Nat} {x : Int32} {I : fc_I} : aX 45 (fc_wI I 59 j x) = aX 45 I := aX_eq (by simp [aR, fc_wI_c, fc_wI_ne, aS_ne, aWa_ne, aWi_ne, aTp_ne, aSz_ne, aIt_ne, aCo_ne, aCm_ne])
theorem as_60 {j : Nat} {x : Int32} {I : fc_I} : aX 45 (fc_wI I 60 j x) = aX 45 I := aX_eq (by simp [aR, fc_wI_c, fc_wI_ne, aS_ne, aWa_ne, aWi_ne, aTp_ne, aSz_ne, aIt_ne, aCo_ne, aCm_ne])
theorem as_61 {j : Nat} {x : Int32} {I : fc_I} : aX 45 (fc_wI I 61 j x) = aX 45 I := aX_eq (by simp [aR, fc_wI_c, fc_wI_ne, aS_ne, aWa_ne, aWi_ne, aTp_ne, aSz_ne, aIt_ne, aCo_ne, aCm_ne])
theorem as_62 {j : Nat} {x : Int32} {I : fc_I} : aX 45 (fc_wI I 62 j x) = aX 45 I := aX_eq (by simp [aR, fc_wI_c, fc_wI_ne, aS_ne, aWa_ne, aWi_ne, aTp_ne, aSz_ne, aIt_ne, aCo_ne, aCm_ne])
theorem as_63 {j : Nat} {x : Int32} {I : fc_I} : aX 45 (fc_wI I 63 j x) = aX 45 I := aX_eq (by simp [aR, fc_wI_c, fc_wI_ne, aS_ne, aWa_ne, aWi_ne, aTp_ne, aSz_ne, aIt_ne, aCo_ne, aCm_ne])
theorem as_64 {j : Nat} {x : Int32} {I : fc_I} : aX 45 (fc_wI I 64 j x) = aX 45 I := aX_eq (by simp [aR, fc_wI_c, fc_wI_ne, aS_ne, aWa_ne, aWi_ne, aTp_ne, aSz_ne, aIt_ne, aCo_ne, aCm_ne])
theorem as_65 {j : Nat} {x : Int32} {I : fc_I} : aX 45 (fc_wI I 65 j x) = aX 45 I := aX_eq (by simp [aR, fc_wI_c, fc_wI_ne, aS_ne, aWa_ne, aWi_ne, aTp_ne, aSz_ne, aIt_ne, aCo_ne, aCm_ne])
theorem as_66 {j : Nat} {x : Int32} {I : fc_I} : aX 45 (fc_wI I 66 j x) = aX 45 I := aX_eq (by simp [aR, fc_wI_c, fc_wI_ne, aS_ne, aWa_ne, aWi_ne, aTp_ne, aSz_ne, aIt_ne, aCo_ne, aCm_ne])
