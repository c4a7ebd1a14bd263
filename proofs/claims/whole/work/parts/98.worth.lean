/-- a worth is met: its code is made, the minuses before it are done -/
theorem M_worth {J : fc_I} {x1 : Nat} {W C : List Int32} {o : Int} {x : Int32} (h1 : x1 < 12) (hr : RS J x1 W C o) (hb : W.length + C.length < 160) (ho : -500 + (W.length : Int) < o ∧ o < 500) : ∃ J', (∀ k : fc_I → Option (Int32 × fc_I), (fq_u (f_X11_emit J x) fun I82 => fq_u (f_X11_doAll I82 7) fun I88 => k I88) = k J') ∧ RS J' x1 (dA 7 W (x :: C) o).1 (dA 7 W (x :: C) o).2.1 (dA 7 W (x :: C) o).2.2 ∧ FR x1 J J' := by
  have k7 : (7 : Int32).toInt = ((7 : Nat) : Int) := rfl
  have em := M_emit (x := x) hr h1 (by omega)
  have re := RS_emit (x := x) hr (by omega)
  obtain ⟨J1, q1, q2, q3⟩ := e_doAllL k7 h1 W (x :: C) o (emitI J x1 C x) 4000 (by omega) (by simp only [List.length_cons]; omega) ho re
  have q4 : f_X11_doAll (emitI J x1 C x) 7 = some J1 := q1
  refine ⟨J1, fun k => ?_, q2, FR_t ⟨fun c s g1 g2 => ?_, fun s hs => ?_⟩ q3⟩
  · rw [em, fq_usome, q4, fq_usome]
  · unfold emitI
    by_cases c8 : c = 78
    · subst c8
      rw [fc_wI_at, if_neg (by rcases g2 with g2 | g2; exact absurd rfl g2; exact g2.2.2), fc_wI_ne (by decide)]
    · rw [fc_wI_ne c8, fc_wI_ne g1]
  · unfold emitI
    rw [fc_wI_ne (by decide), fc_wI_at, if_neg (by omega)]
