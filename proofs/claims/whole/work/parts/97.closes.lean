/-! ===== the reference: a bracket closes ===== -/
def clsI (J : fc_I) : fc_I := fc_wI (fc_wI (fc_wI J 78 51 (J 78 51 - 1)) 78 53 (J 78 53 - 1)) 78 52 (J 78 52 - 1)
theorem M_closes {J : fc_I} {x1 d : Nat} {W C w : List Int32} {o : Int} (h1 : x1 < 12) (hr : RS J x1 W C o) (h : SM J (3, 41)) (hb : W.length + C.length ≤ 160) (ho : -400 + (W.length : Int) < o ∧ o < 400) (hd : (J 78 53).toInt = ((d + 1 : Nat) : Int)) (hd7 : d < 7) (hw : (dA 1 W C o).1 = 15 :: w) (ho2 : -450 + (w.length : Int) < (dA 1 W C o).2.2 ∧ (dA 1 W C o).2.2 < 450) : ∃ J1 J', f_X11_closes J = some (1, J') ∧ FR x1 J J1 ∧ FR x1 (clsI J1) J' ∧ RS J' x1 (dA 7 w (dA 1 W C o).2.1 ((dA 1 W C o).2.2 - 1)).1 (dA 7 w (dA 1 W C o).2.1 ((dA 1 W C o).2.2 - 1)).2.1 (dA 7 w (dA 1 W C o).2.1 ((dA 1 W C o).2.2 - 1)).2.2 ∧ (J' 78 53).toInt = (d : Int) := by
  have k7 : (7 : Int32).toInt = ((7 : Nat) : Int) := rfl
  have k1 : (1 : Int32).toInt = ((1 : Nat) : Int) := rfl
  obtain ⟨J1, q1, q2, q3⟩ := e_doAllL k1 h1 W C o J 4000 (by omega) hb (by omega) hr
  have dl := dA_len 1 W C o
  generalize dA 1 W C o = D at q2 dl hw ho2
  obtain ⟨D1, D2, D3⟩ := D
  simp only at q2 dl hw ho2
  subst hw
  simp only [List.length_cons] at dl
  have q4 : f_X11_doAll J 1 = some J1 := q1
  obtain ⟨a1, a2, a3, a4, a5, a6⟩ := q2
  have a1' : (J1 78 51).toInt = ((w.length + 1 : Nat) : Int) := a1
  have d1 : J1 78 53 = J 78 53 := q3.1 78 53 (by decide) (Or.inr (by decide))
  have r : RS (clsI J1) x1 w D2 (D3 - 1) := by
    refine ⟨?_, stk_c (J := J1) w (fun _ _ => rfl) a2.2, a3, cds_c (J := J1) D2 (fun _ _ => rfl) a4, a5, ?_⟩
    · show (J1 78 51 - 1).toInt = (w.length : Int)
      rw [i_sub (by rw [kt_1]; omega) (by rw [kt_1]; omega), kt_1]
      omega
    · show (J1 78 52 - 1).toInt = D3 - 1
      rw [i_sub (by rw [kt_1]; omega) (by rw [kt_1]; omega), kt_1, a6]
  have c53 : (clsI J1 78 53).toInt = (d : Int) := by
    show (J1 78 53 - 1).toInt = (d : Int)
    rw [d1, i_sub (by rw [kt_1]; omega) (by rw [kt_1]; omega), kt_1]
    omega
  obtain ⟨J2, p1, p2, p3⟩ := e_doAllL k7 h1 w D2 (D3 - 1) (clsI J1) 4000 (by omega) (by omega) (by omega) r
  have p4 : f_X11_doAll (clsI J1) 7 = some J2 := p1
  refine ⟨J1, J2, ?_, q3, p3, p2, ?_⟩
  · unfold f_X11_closes
    rw [M_isSign h, stpP, if_pos rfl, if_neg (by omega), q4, fq_usome]
    show fq_u (f_X11_doAll (clsI J1) 7) _ = _
    rw [p4, fq_usome]
  · rw [p3.1 78 53 (by decide) (Or.inr (by decide))]
    exact c53
