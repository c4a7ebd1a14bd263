def parI (J : fc_I) (W : List Int32) (d : Nat) : fc_I := fc_wI (fc_wI (pushI (fc_wI J 78 52 (J 78 52 + 1)) W 15) 78 53 (zi (d + 1))) 114 (d + 1) 0
/-- a bracket opens -/
theorem M_aheadP {J : fc_I} {x1 d : Nat} {W C : List Int32} {o : Int} (hr : RS J x1 W C o) (h : SM J (3, 40)) (hb : W.length < 170) (ho : -1000 < o ∧ o < 5) (hd : (J 78 53).toInt = (d : Int)) (hd7 : d < 7) : f_X11_ahead_35 1 J = some (1, parI J W d) ∧ RS (parI J W d) x1 (15 :: W) C (o + 1) := by
  obtain ⟨a1, a2, a3, a4, a5, a6⟩ := hr
  have e1 : (J 78 52 + 1).toInt = o + 1 := by
    rw [i_add (by rw [kt_1]; omega) (by rw [kt_1]; omega), kt_1, a6]
  have hr' : RS (fc_wI J 78 52 (J 78 52 + 1)) x1 W C (o + 1) := ⟨a1, stk_c (J := J) W (fun _ _ => rfl) a2, a3, cds_c (J := J) C (fun _ _ => rfl) a4, a5, e1⟩
  have h' : SM (fc_wI J 78 52 (J 78 52 + 1)) (3, 40) := h
  have rp := RS_push (x := 15) hr' hb
  have d1 : J 78 53 = zi d := zi_of hd (by omega)
  have p53 : pushI (fc_wI J 78 52 (J 78 52 + 1)) W 15 78 53 = zi d := d1
  have q53 : ∀ y, fc_wI (pushI (fc_wI J 78 52 (J 78 52 + 1)) W 15) 78 53 y 78 53 = y := fun _ => rfl
  have n0 : vp_nar .boolean 0 = 0 := rfl
  refine ⟨?_, ?_⟩
  · unfold f_X11_ahead_35
    rw [kt_1, if_neg (by decide), kt_5, if_neg (by omega)]
    simp only [fq_l, M_isSign h', stpP, M_await hr' hb, fq_usome, p53, q53, n0, zi_S (n := d) (by omega)]
    rw [fq_gp ⟨by rw [zi_int (by omega)]; omega, by rw [zi_int (by omega)]; omega⟩, zi_cn (by omega)]
    exact if_pos trivial
  · obtain ⟨b1, b2, b3, b4, b5, b6⟩ := rp
    exact ⟨b1, stk_c (J := pushI (fc_wI J 78 52 (J 78 52 + 1)) W 15) _ (fun _ _ => rfl) b2, b3, cds_c (J := pushI (fc_wI J 78 52 (J 78 52 + 1)) W 15) _ (fun _ _ => rfl) b4, b5, b6⟩
