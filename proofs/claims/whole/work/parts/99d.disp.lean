/-! ===== what class and reference do at a token ===== -/
theorem fq_uid {q : Option fc_I} : (fq_u q fun I => some I) = q := by
  cases q <;> rfl
theorem k_45 : (45 : Int32).toInt = 45 := rfl
/-- the class at level 5 -/
theorem X_lv5 {v : Nat} {kr : Int32 → Int32 → fc_I → Option fc_I} {o : Int32} {I : fc_I} {t : Tk} (h7 : I 43 7 = Tx t) (ok : Tok t) : f_X5_readLevel_B v kr 5 o I = if t = (3, 45) ∨ t = (3, 40) then (if o.toInt < 5 then f_X5_readOpened v kr I 5 o else f_X5_fail I) else f_X5_readLeaf v I := by
  obtain ⟨i18, i45, i40, _⟩ := Tx_is ok
  have e37 : f_X5_readLevel_37 v kr 5 o I = if o.toInt < 5 then f_X5_readOpened v kr I 5 o else f_X5_fail I := by
    unfold f_X5_readLevel_37 f_X5_readLevel_42
    rw [kt_1, if_neg (by decide), kt_5]
    by_cases c : o.toInt < 5
    · rw [if_pos c, if_pos c]
      unfold f_X5_readLevel_59
      rw [kt_1, if_neg (by decide), fq_uid]
    · rw [if_neg c, if_neg c, fq_uid]
  have e41 : f_X5_readLevel_41 v kr 5 o I = f_X5_readLeaf v I := by
    unfold f_X5_readLevel_41 f_X5_readLevel_42
    rw [kt_0, if_pos rfl]
    unfold f_X5_readLevel_59
    rw [kt_0, if_pos rfl, kt_5, if_neg (by decide), fq_uid]
  unfold f_X5_readLevel_B
  rw [kt_5, kt_2, if_neg (by decide)]
  unfold f_X5_readLevel_14
  rw [kt_5, if_pos rfl, h7, k_45, kt_40, e37, e41]
  by_cases a : t = (3, 45)
  · rw [if_pos (i45.mpr a), if_pos (Or.inl a)]
  · rw [if_neg (fun z => a (i45.mp z))]
    by_cases b : t = (3, 40)
    · rw [if_pos (i40.mpr b), if_pos (Or.inr b)]
    · rw [if_neg (fun z => b (i40.mp z)), if_neg (fun z => z.elim a b)]
/-- at another level, no not ahead -/
theorem X_lvN {v L : Nat} {kr : Int32 → Int32 → fc_I → Option fc_I} {o : Int32} {I : fc_I} {t : Tk} (h7 : I 43 7 = Tx t) (ok : Tok t) (hL : L < 5) (h2 : L = 2 → t ≠ (4, 4)) : f_X5_readLevel_B v kr (zi L) o I = fq_u (kr (zi (L + 1)) o I) fun I89 => f_X5_readLevel_109 v kr (zi L) o (if L = 2 then 1 else 160) 4000 0 I89 := by
  obtain ⟨i18, _⟩ := Tx_is ok
  have zL := zi_int (n := L) (by omega)
  have e41 : f_X5_readLevel_41 v kr (zi L) o I = fq_u (kr (zi (L + 1)) o I) fun I89 => f_X5_readLevel_109 v kr (zi L) o (if L = 2 then 1 else 160) 4000 0 I89 := by
    unfold f_X5_readLevel_41 f_X5_readLevel_42
    rw [kt_0, if_pos rfl]
    unfold f_X5_readLevel_59
    rw [kt_0, if_pos rfl, kt_5, zL, if_pos (by omega), zi_S (by omega), kt_2]
    by_cases c : L = 2
    · rw [c]
      rfl
    · simp only [if_neg c, if_neg (show ¬ (L : Int) = 2 by omega)]
  have e14 : f_X5_readLevel_14 v kr (zi L) o I = f_X5_readLevel_41 v kr (zi L) o I := by
    unfold f_X5_readLevel_14
    rw [kt_5, zL, if_neg (by omega)]
  unfold f_X5_readLevel_B
  rw [e14, e41, kt_2, kt_18, h7, zL]
  by_cases c : L = 2
  · rw [if_pos (by omega), if_neg (fun z => h2 c (i18.mp z))]
  · rw [if_neg (by omega)]
/-- at level 2, a not ahead -/
theorem X_lv2 {v : Nat} {kr : Int32 → Int32 → fc_I → Option fc_I} {o : Int32} {I : fc_I} (h7 : I 43 7 = 18) : f_X5_readLevel_B v kr (zi 2) o I = if o.toInt < 5 then f_X5_readOpened v kr I (zi 2) o else f_X5_fail I := by
  have e37 : f_X5_readLevel_37 v kr (zi 2) o I = if o.toInt < 5 then f_X5_readOpened v kr I (zi 2) o else f_X5_fail I := by
    unfold f_X5_readLevel_37 f_X5_readLevel_42
    rw [kt_1, if_neg (by decide), kt_5]
    by_cases c : o.toInt < 5
    · rw [if_pos c, if_pos c]
      unfold f_X5_readLevel_59
      rw [kt_1, if_neg (by decide), fq_uid]
    · rw [if_neg c, if_neg c, fq_uid]
  unfold f_X5_readLevel_B
  rw [zi_int (by omega), kt_2, kt_18, if_pos (by rfl), h7, kt_18, if_pos rfl, e37]
theorem X_opP {v : Nat} {kr : Int32 → Int32 → fc_I → Option fc_I} {x1 x2 : Int32} {I : fc_I} (h7 : I 43 7 = 40) : f_X5_readOpened v kr I x1 x2 = fq_u (f_X5_nextToken I) fun I6 => fq_u (kr 0 (x2 + 1) I6) fun I24 => f_X5_expect I24 41 := by
  unfold f_X5_readOpened
  simp only [fq_l, h7, kt_40, if_true, fq_uid]
theorem X_opN {v : Nat} {kr : Int32 → Int32 → fc_I → Option fc_I} {x1 x2 : Int32} {I : fc_I} (h7 : I 43 7 = 18) : f_X5_readOpened v kr I x1 x2 = fq_u (f_X5_nextToken I) fun I6 => fq_u (kr x1 (x2 + 1) I6) fun I24 => f_X5_put v I24 (-18) := by
  unfold f_X5_readOpened
  simp only [fq_l, h7, kt_40, kt_18, if_true, fq_uid, if_neg (show ¬ (18 : Int) = 40 by decide)]
theorem X_opM {v : Nat} {kr : Int32 → Int32 → fc_I → Option fc_I} {x1 x2 : Int32} {I : fc_I} (h7 : I 43 7 = 45) : f_X5_readOpened v kr I x1 x2 = fq_u (f_X5_nextToken I) fun I6 => fq_u (kr x1 (x2 + 1) I6) fun I24 => f_X5_put v I24 (-9) := by
  unfold f_X5_readOpened
  simp only [fq_l, h7, kt_40, kt_18, k_45, fq_uid, if_neg (show ¬ (45 : Int) = 40 by decide), if_neg (show ¬ (45 : Int) = 18 by decide)]
/-- the class at a leaf -/
theorem X_leaf {v : Nat} {I : fc_I} {t : Tk} (h7 : I 43 7 = Tx t) (c : t.1 = 1 ∨ t.1 = 2) : f_X5_readLeaf v I = fq_u (f_X5_put v I (if t.1 = 1 then I 43 8 else -1 - I 43 8)) fun I41 => f_X5_nextToken I41 := by
  unfold f_X5_readLeaf
  rcases c with c | c
  · rw [h7, Tx_1 c, kt_12, if_pos rfl, if_pos rfl, if_pos c]
    simp only [fq_uid]
  · rw [h7, Tx_2 c, kt_12, kt_13, if_neg (by decide), if_pos rfl, if_neg (by decide), if_neg (by omega)]
    simp only [fq_uid]
theorem X_leafF {v : Nat} {I : fc_I} {t : Tk} (h7 : I 43 7 = Tx t) (ok : Tok t) (c1 : t.1 ≠ 1) (c2 : t.1 ≠ 2) : f_X5_readLeaf v I = f_X5_fail I := by
  obtain ⟨_, _, _, _, _, _, _, _, i12, i13⟩ := Tx_is ok
  unfold f_X5_readLeaf
  rw [h7, kt_12, kt_13, if_neg (fun z => c1 (i12.mp z)), if_neg (fun z => c2 (i13.mp z)), fq_uid]
/-- the reference where a worth is wanted -/
theorem R_worth {x s : Int32} {kk : Int32 → Int32 → fc_I → Option (Int32 × fc_I)} {J : fc_I} {t : Tk} (h : SM J t) (c : t.1 = 1 ∨ t.1 = 2) : f_X11_readE_40_B x kk 1 s J = fq_u (f_X11_emit J (if t.1 = 1 then -1 - t.2 else t.2)) fun I82 => fq_u (f_X11_doAll I82 7) fun I88 => fq_u (f_X11_next I88) fun I209 => kk 0 s I209 := by
  have e := SM_45 h
  have q := h.2.1 (by omega) (by omega)
  unfold f_X11_readE_40_B
  rw [kt_1, if_neg (by decide), e, kt_2, q]
  rcases c with c | c
  · rw [if_pos (show (t.1 : Int) = 1 by omega), if_pos c, if_pos (show (t.1 : Int) = 1 by omega)]
  · rw [if_neg (show ¬ (t.1 : Int) = 1 by omega), if_pos (show (t.1 : Int) = 2 by omega), if_neg (show ¬ t.1 = 1 by omega), if_neg (show ¬ (t.1 : Int) = 1 by omega)]
theorem R_other {x s : Int32} {kk : Int32 → Int32 → fc_I → Option (Int32 × fc_I)} {J : fc_I} {t : Tk} (h : SM J t) (c1 : t.1 ≠ 1) (c2 : t.1 ≠ 2) : f_X11_readE_40_B x kk 1 s J = fq_b (f_X11_ahead J s) fun r I => if r.toInt = 0 then some (0, I) else if t = (3, 45) then (fq_u (f_X11_next I) fun I209 => kk 1 0 I209) else (fq_u (f_X11_next I) fun I209 => kk 1 1 I209) := by
  have e := SM_45 h
  unfold f_X11_readE_40_B f_X11_readE_96
  rw [kt_1, if_neg (by decide), e, kt_2, if_neg (show ¬ (t.1 : Int) = 1 by omega), if_neg (show ¬ (t.1 : Int) = 2 by omega), if_neg (by decide), M_isSign h, fq_vsome]
  by_cases a : t = (3, 45)
  · simp only [if_pos a, kt_1, if_neg (show ¬ (1 : Int) = 0 by decide)]
  · simp only [if_neg a, kt_0, if_true]
/-- the reference where a sign is wanted, and no end -/
theorem R_sign {x s : Int32} {kk : Int32 → Int32 → fc_I → Option (Int32 × fc_I)} {J : fc_I} {t : Tk} (h : SM J t) (c : t ≠ (3, 59) ∨ ¬ (J 78 53).toInt = 0) : f_X11_readE_40_B x kk 0 s J = fq_b (f_X11_between_97 (bS t) J) fun r I => if r.toInt = 0 then (fq_b (f_X11_closes I) fun r2 I2 => if r2.toInt = 0 then some (0, I2) else fq_u (f_X11_next I2) fun I209 => kk 0 s I209) else (fq_v (f_X11_isKey I 3) fun r176 => if r176.toInt = 0 then (fq_v (f_X11_isKey I 2) fun r184 => if r184.toInt = 0 then (fq_u (f_X11_next I) fun I209 => kk 1 0 I209) else (fq_u (f_X11_next I) fun I209 => kk 1 1 I209)) else (fq_u (f_X11_next I) fun I209 => kk 1 1 I209)) := by
  unfold f_X11_readE_40_B f_X11_readE_96
  rw [kt_0, if_pos rfl, if_pos rfl, M_isSign h, stpP, M_between h]
  by_cases a : t = (3, 59)
  · rw [if_pos a]
    rcases c with c | c
    · exact absurd a c
    · rw [if_neg c]
  · rw [if_neg a]
