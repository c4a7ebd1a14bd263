/-! ===== the reference: a sign ahead of a worth ===== -/
theorem M_ahead {J : fc_I} {t : Tk} {x : Int32} (h : SM J t) : f_X11_ahead J x = if t = (3, 40) ∨ t = (3, 45) ∨ (¬ x.toInt = 0 ∧ t = (4, 4)) then f_X11_ahead_35 1 J else some (0, J) := by
  have e0 : f_X11_ahead_34 J = some (0, J) := by
    unfold f_X11_ahead_34 f_X11_ahead_35
    rw [kt_0, if_pos rfl]
  have e1 : f_X11_ahead_30 J = f_X11_ahead_35 1 J := rfl
  unfold f_X11_ahead
  simp only [M_isSign h, M_isKey h, stpP, e0, e1]
  by_cases a : t = (3, 40)
  · rw [if_pos a, if_pos (Or.inl a)]
  · rw [if_neg a]
    by_cases b : t = (3, 45)
    · rw [if_pos b, if_pos (Or.inr (Or.inl b))]
    · rw [if_neg b]
      by_cases c : x.toInt = 0
      · rw [if_pos c, if_neg (fun z => by rcases z with z | z | z; exact a z; exact b z; exact z.1 c)]
      · rw [if_neg c]
        by_cases d : t = (4, 4)
        · rw [if_pos d, if_pos (Or.inr (Or.inr ⟨c, d⟩))]
        · rw [if_neg d, if_neg (fun z => by rcases z with z | z | z; exact a z; exact b z; exact d z.2)]
/-- no sixth may open -/
theorem M_ahead5 {J : fc_I} (h : (J 78 52).toInt = 5) : f_X11_ahead_35 1 J = some (0, J) := by
  unfold f_X11_ahead_35
  rw [kt_1, if_neg (by decide), kt_5, if_pos h]
/-- a not or a minus waits -/
theorem M_aheadS {J : fc_I} {x1 : Nat} {W C : List Int32} {o : Int} {t : Tk} {s : Int32} (hr : RS J x1 W C o) (h : SM J t) (hb : W.length < 170) (ho : -1000 < o ∧ o < 5) (ht : (t = (4, 4) ∧ s = 13) ∨ (t = (3, 45) ∧ s = 14)) : f_X11_ahead_35 1 J = some (1, pushI (fc_wI J 78 52 (J 78 52 + 1)) W s) ∧ RS (pushI (fc_wI J 78 52 (J 78 52 + 1)) W s) x1 (s :: W) C (o + 1) := by
  obtain ⟨a1, a2, a3, a4, a5, a6⟩ := hr
  have e1 : (J 78 52 + 1).toInt = o + 1 := by
    rw [i_add (by rw [kt_1]; omega) (by rw [kt_1]; omega), kt_1, a6]
  have hr' : RS (fc_wI J 78 52 (J 78 52 + 1)) x1 W C (o + 1) := ⟨a1, stk_c (J := J) W (fun _ _ => rfl) a2, a3, cds_c (J := J) C (fun _ _ => rfl) a4, a5, e1⟩
  have h' : SM (fc_wI J 78 52 (J 78 52 + 1)) t := h
  refine ⟨?_, RS_push hr' hb⟩
  have s45 : (fc_wI J 78 52 (J 78 52 + 1) 78 45).toInt = (t.1 : Int) := SM_45 h'
  unfold f_X11_ahead_35
  rw [kt_1, if_neg (by decide), kt_5, if_neg (by omega)]
  simp only [fq_l, M_isSign h', stpP, M_await hr' hb, fq_usome, s45, kt_4]
  rcases ht with ⟨ht, hs⟩ | ⟨ht, hs⟩
  · rw [ht, hs, if_neg (by decide)]
    exact if_pos rfl
  · rw [ht, hs, if_neg (by decide)]
    exact if_neg (by decide)
