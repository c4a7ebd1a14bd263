theorem M_btw97n {J : fc_I} : f_X11_between_97 (-1) J = some (0, J) := by
  unfold f_X11_between_97
  rw [if_pos rfl]
theorem M_btw97 {J : fc_I} {x : Int32} {d : Nat} (hx : x.toInt ≠ -1) (hd : (J 78 53).toInt = (d : Int)) (hd8 : d < 8) : f_X11_between_97 x J = if rk x = 4 ∧ ¬ (J 114 d).toInt = 0 then some (0, J) else f_X11_between_125 x J := by
  have km : ((-1 : Int32)).toInt = -1 := rfl
  have rb := rk_b x
  unfold f_X11_between_97
  rw [km, if_neg hx, e_rank, fq_vsome, zi_int (by omega), kt_4]
  by_cases c : rk x = 4
  · rw [if_pos (show (rk x : Int) = 4 by omega), fq_gp ⟨by omega, by omega⟩, cn_eq hd]
    by_cases e : (J 114 d).toInt = 0
    · rw [if_pos e, if_neg (fun z => z.2 e)]
    · rw [if_neg e, if_pos ⟨c, e⟩]
  · rw [if_neg (show ¬ (rk x : Int) = 4 by omega), if_neg (fun z => c z.1)]
theorem M_closesN {J : fc_I} {t : Tk} (h : SM J t) (c : t ≠ (3, 41) ∨ (J 78 53).toInt = 0) : f_X11_closes J = some (0, J) := by
  unfold f_X11_closes
  rw [M_isSign h, stpP]
  by_cases a : t = (3, 41)
  · rw [if_pos a]
    rcases c with c | c
    · exact absurd a c
    · rw [if_pos c]
  · rw [if_neg a]
