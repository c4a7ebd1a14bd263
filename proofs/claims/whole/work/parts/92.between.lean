/-! ===== the reference: the sign between two worths ===== -/
/-- the sign that a token stands for between two worths; -1: none -/
def bS (t : Tk) : Int32 := if t = (3, 43) then 6 else if t = (3, 45) then 7 else if t = (3, 42) then 8 else if t = (3, 60) then 9 else if t = (3, 61) then 10 else if t = (4, 3) then 11 else if t = (4, 2) then 12 else -1
theorem M_between {J : fc_I} {t : Tk} (h : SM J t) : f_X11_between J = f_X11_between_97 (bS t) J := by
  unfold f_X11_between bS
  simp only [M_isSign h, M_isKey h, stpP]
  repeat' split
  all_goals first | rfl | contradiction
theorem dA_len (x : Nat) : ∀ (W C : List Int32) (o : Int), (dA x W C o).1.length + (dA x W C o).2.1.length = W.length + C.length
  | [], C, o => rfl
  | h :: w, C, o => by
    unfold dA
    by_cases c : h = 15 ∨ rk h < x
    · rw [if_pos c]
    · rw [if_neg c, dA_len x w (h :: C)]
      simp only [List.length_cons]
      omega
/-- what a sign between two worths leaves as it is -/
def FB (x1 d : Nat) (J J' : fc_I) : Prop := (∀ c s, c ≠ 109 → c ≠ 113 → (c ≠ 114 ∨ s ≠ d) → (c ≠ 78 ∨ s ≠ 51 ∧ s ≠ 52 ∧ s ≠ 56) → J' c s = J c s) ∧ ∀ s, (s < 160 * x1 ∨ 160 * x1 + 160 ≤ s) → J' 109 s = J 109 s
/-- what a sign between two worths does: what waits of its rank or above is done, it waits itself -/
theorem M_btw125 {J : fc_I} {x1 : Nat} {W C : List Int32} {o : Int} {x : Int32} {d : Nat} (h1 : x1 < 12) (hr : RS J x1 W C o) (hb : W.length + C.length ≤ 160) (ho : -500 + (W.length : Int) < o ∧ o < 500) (hd : (J 78 53).toInt = (d : Int)) (hd8 : d < 8) (hc : J 114 d = 0 ∨ J 114 d = 1) : ∃ J', f_X11_between_125 x J = some (1, J') ∧ RS J' x1 (x :: (dA (rk x) W C o).1) (dA (rk x) W C o).2.1 (dA (rk x) W C o).2.2 ∧ J' 114 d = (if rk x = 4 then 1 else if 4 < rk x then J 114 d else 0) ∧ FB x1 d J J' := by
  have rb := rk_b x
  have zr : (zi (rk x)).toInt = (rk x : Int) := zi_int (by omega)
  obtain ⟨J1, q1, q2, q3⟩ := e_doAllL (x := zi (rk x)) zr h1 W C o J 4000 (by omega) hb ho hr
  have dl := dA_len (rk x) W C o
  generalize dA (rk x) W C o = D at q2 dl
  have q4 : f_X11_doAll J (zi (rk x)) = some J1 := q1
  have aw := M_await (x := x) q2 (by omega)
  have rp := RS_push (x := x) q2 (by omega)
  have d1 : J1 78 53 = J 78 53 := q3.1 78 53 (by decide) (Or.inr (by decide))
  have c1 : J1 114 d = J 114 d := q3.1 114 d (by decide) (Or.inl (by decide))
  have gp : ∀ {γ : Type} (k : Option γ), fq_g 8 (J 78 53) k = k := fun k => fq_gp ⟨by omega, by omega⟩
  have dd : cn (J 78 53) = d := cn_eq hd
  have e1 : pushI J1 D.1 x 78 53 = J 78 53 := d1
  have e2 : pushI J1 D.1 x 114 d = J 114 d := c1
  have n0 : vp_nar .boolean 0 = 0 := rfl
  have n1 : vp_nar .boolean 1 = 1 := rfl
  have fin : ∀ y : Int32, RS (fc_wI (pushI J1 D.1 x) 114 d y) x1 (x :: D.1) D.2.1 D.2.2 ∧ fc_wI (pushI J1 D.1 x) 114 d y 114 d = y ∧ FB x1 d J (fc_wI (pushI J1 D.1 x) 114 d y) := fun y => by
    refine ⟨?_, ?_, ?_, ?_⟩
    · obtain ⟨a1, a2, a3, a4, a5, a6⟩ := rp
      exact ⟨a1, stk_c (J := pushI J1 D.1 x) _ (fun s _ => rfl) a2, a3, cds_c (J := pushI J1 D.1 x) _ (fun s _ => rfl) a4, a5, a6⟩
    · rw [fc_wI_at, if_pos rfl]
    · intro c s g1 g2 g3 g4
      have r1 : fc_wI (pushI J1 D.1 x) 114 d y c s = pushI J1 D.1 x c s := by
        by_cases c4 : c = 114
        · subst c4
          rw [fc_wI_at, if_neg (by rcases g3 with g3 | g3; exact absurd rfl g3; exact g3)]
        · rw [fc_wI_ne c4]
      have r2 : pushI J1 D.1 x c s = J1 c s := by
        unfold pushI
        by_cases c8 : c = 78
        · subst c8
          rw [fc_wI_at, if_neg (by rcases g4 with g4 | g4; exact absurd rfl g4; exact g4.1), fc_wI_ne (by decide)]
        · rw [fc_wI_ne c8, fc_wI_ne g2]
      rw [r1, r2]
      exact q3.1 c s g1 g4
    · intro s hs
      exact q3.2 s hs
  unfold f_X11_between_125
  simp only [e_rank, fq_vsome, q4, fq_usome, aw, zr, fq_l, e1, gp, dd, kt_4, n0, n1, e2]
  by_cases c : rk x = 4
  · rw [if_pos (show (rk x : Int) = 4 by omega), if_pos c]
    exact ⟨_, rfl, fin 1⟩
  · rw [if_neg (show ¬ (rk x : Int) = 4 by omega), if_neg c]
    by_cases c4 : 4 < rk x
    · rw [if_pos (show (4 : Int) < (rk x : Int) by omega), if_pos c4]
      rcases hc with hc | hc
      · rw [hc, kt_0, if_pos rfl]
        exact ⟨_, rfl, fin 0⟩
      · rw [hc, kt_1, if_neg (by decide)]
        exact ⟨_, rfl, fin 1⟩
    · rw [if_neg (show ¬ (4 : Int) < (rk x : Int) by omega), if_neg c4]
      exact ⟨_, rfl, fin 0⟩
