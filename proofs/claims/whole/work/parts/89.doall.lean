/-! ===== the reference's waiting signs and codes; doAll ===== -/
/-- waiting signs, the newest first; codes, the newest first -/
def stk (J : fc_I) : List Int32 → Prop
  | [] => True
  | x :: w => J 113 w.length = x ∧ stk J w
def cds (J : fc_I) (base : Nat) : List Int32 → Prop
  | [] => True
  | x :: c => J 109 (base + c.length) = x ∧ cds J base c
theorem stk_c {J J' : fc_I} : ∀ W, (∀ s, s < W.length → J' 113 s = J 113 s) → stk J W → stk J' W
  | [], _, _ => trivial
  | x :: w, h, q => ⟨(h w.length (Nat.lt_succ_self _)).trans q.1, stk_c w (fun s hs => h s (Nat.lt_succ_of_lt hs)) q.2⟩
theorem cds_c {J J' : fc_I} {base : Nat} : ∀ C, (∀ s, s < base + C.length → J' 109 s = J 109 s) → cds J base C → cds J' base C
  | [], _, _ => trivial
  | x :: c, h, q => ⟨(h (base + c.length) (by simp only [List.length_cons]; omega)).trans q.1, cds_c c (fun s hs => h s (by simp only [List.length_cons]; omega)) q.2⟩
def rk (x : Int32) : Nat := if x = 12 then 1 else if x = 11 then 2 else if x = 13 then 3 else if x = 9 then 4 else if x = 10 then 4 else if x = 6 then 5 else if x = 7 then 5 else if x = 8 then 6 else if x = 14 then 7 else 0
theorem rk_b (x : Int32) : rk x < 8 := by
  unfold rk
  repeat' split
  all_goals decide
theorem e_rank (x : Int32) : f_X11_rank x = some (zi (rk x)) := by
  have te : ∀ c : Int32, (x.toInt = c.toInt) = (x = c) := fun c => propext Int32.toInt_inj
  unfold f_X11_rank rk
  simp only [te]
  repeat' split
  all_goals rfl
/-- the reference's reading: signs W wait, codes C are made, o have opened -/
def RS (J : fc_I) (x1 : Nat) (W C : List Int32) (o : Int) : Prop := (J 78 51).toInt = (W.length : Int) ∧ stk J W ∧ (J 78 56).toInt = (C.length : Int) ∧ cds J (160 * x1) C ∧ (J 78 55).toInt = ((160 * x1 : Nat) : Int) ∧ (J 78 52).toInt = o
/-- what doAll leaves as it is -/
def FR (x1 : Nat) (J J' : fc_I) : Prop := (∀ c s, c ≠ 109 → (c ≠ 78 ∨ s ≠ 51 ∧ s ≠ 52 ∧ s ≠ 56) → J' c s = J c s) ∧ ∀ s, (s < 160 * x1 ∨ 160 * x1 + 160 ≤ s) → J' 109 s = J 109 s
theorem FR_r {x1 : Nat} {J : fc_I} : FR x1 J J := ⟨fun _ _ _ _ => rfl, fun _ _ => rfl⟩
theorem FR_t {x1 : Nat} {J J' J'' : fc_I} (a : FR x1 J J') (b : FR x1 J' J'') : FR x1 J J'' := ⟨fun c s h1 h2 => (b.1 c s h1 h2).trans (a.1 c s h1 h2), fun s h => (b.2 s h).trans (a.2 s h)⟩
def dA (x : Nat) : List Int32 → List Int32 → Int → List Int32 × List Int32 × Int
  | [], C, o => ([], C, o)
  | h :: w, C, o => if h = 15 ∨ rk h < x then (h :: w, C, o) else dA x w (h :: C) (if h = 13 ∨ h = 14 then o - 1 else o)
def popI (J : fc_I) (x1 : Nat) (h : Int32) (w C : List Int32) (v : Int32) : fc_I := fc_wI (fc_wI (fc_wI (fc_wI J 78 51 (zi w.length)) 78 52 v) 109 (160 * x1 + C.length) h) 78 56 (zi (C.length + 1))
theorem e_pop {J : fc_I} {x1 : Nat} {h : Int32} {w C : List Int32} {o : Int} {k : fc_I → Option fc_I} {x : Int32} {xn : Nat} (hx : x.toInt = (xn : Int)) (h1 : x1 < 12) (hb : w.length + C.length < 160) (ho : -1000 < o ∧ o < 1000) (hr : RS J x1 (h :: w) C o) (hh : ¬(h = 15 ∨ rk h < xn)) : ∃ v : Int32, v.toInt = (if h = 13 ∨ h = 14 then o - 1 else o) ∧ f_X11_doAll_0_B x k J = k (popI J x1 h w C v) := by
  obtain ⟨a1, a2, a3, a4, a5, a6⟩ := hr
  have te : ∀ c d : Int32, (c.toInt = d.toInt) = (c = d) := fun c d => propext Int32.toInt_inj
  have l1 : (J 78 51).toInt = ((w.length + 1 : Nat) : Int) := a1
  have e51 : (J 78 51 - 1) = zi w.length := zi_of (by rw [i_sub (by rw [kt_1]; omega) (by rw [kt_1]; omega), kt_1]; omega) (by omega)
  have g51 : ∀ {γ : Type} (q : Option γ), fq_g 170 (zi w.length) q = q := fun q => fq_gp ⟨by rw [zi_int (by omega)]; omega, by rw [zi_int (by omega)]; omega⟩
  have t2 := a2.1
  have esum : ∀ y : Int32, y.toInt = ((160 * x1 : Nat) : Int) → (y + zi C.length).toInt = ((160 * x1 + C.length : Nat) : Int) := fun y hy => by
    have z := zi_int (n := C.length) (by omega)
    rw [i_add (by omega) (by omega)]
    omega
  have e56 : J 78 56 = zi C.length := zi_of a3 (by omega)
  have em : ∀ v : Int32, f_X11_emit (fc_wI (fc_wI J 78 51 (zi w.length)) 78 52 v) h = some (popI J x1 h w C v) := fun v => by
    unfold f_X11_emit popI
    simp only [fq_l]
    have q5 : fc_wI (fc_wI J 78 51 (zi w.length)) 78 52 v 78 55 = J 78 55 := rfl
    have q6 : fc_wI (fc_wI J 78 51 (zi w.length)) 78 52 v 78 56 = zi C.length := e56
    have q7 : ∀ s y, fc_wI (fc_wI (fc_wI J 78 51 (zi w.length)) 78 52 v) 109 s y 78 56 = zi C.length := fun s y => e56
    rw [q5, q6, q7, fq_gp ⟨by rw [esum _ a5]; omega, by rw [esum _ a5]; omega⟩, cn_eq (esum _ a5), zi_S (by omega)]
  have h15 : ¬ h = 15 := fun z => hh (Or.inl z)
  have hrk : ¬ rk h < xn := fun z => hh (Or.inr z)
  have rb := rk_b h
  have p1 : fc_wI J 78 51 (zi w.length) 78 51 = zi w.length := rfl
  have p2 : ∀ v, fc_wI (fc_wI J 78 51 (zi w.length)) 78 52 v 78 51 = zi w.length := fun _ => rfl
  have p3 : fc_wI J 78 51 (zi w.length) 113 w.length = h := t2
  have p4 : ∀ v, fc_wI (fc_wI J 78 51 (zi w.length)) 78 52 v 113 w.length = h := fun _ => t2
  have p5 : fc_wI J 78 51 (zi w.length) 78 52 = J 78 52 := rfl
  have key : f_X11_doAll_0_B x k J = if h = 13 then k (popI J x1 h w C (J 78 52 - 1)) else if h = 14 then k (popI J x1 h w C (J 78 52 - 1)) else k (popI J x1 h w C (J 78 52 - 0)) := by
    unfold f_X11_doAll_0_B
    rw [if_pos (by omega), e51, g51, zi_cn (by omega), t2]
    simp only [te]
    rw [if_neg h15, g51, e_rank, fq_vsome, zi_int (by omega), if_neg (by omega)]
    simp only [fq_l, p1, p2, g51, zi_cn (n := w.length) (by omega), p3, p4, p5, em, fq_usome]
  rw [key]
  have s1 : (J 78 52 - 1).toInt = o - 1 := by rw [i_sub (by rw [kt_1]; omega) (by rw [kt_1]; omega), kt_1, a6]
  have s0 : (J 78 52 - 0).toInt = o := by rw [i_sub (by rw [kt_0]; omega) (by rw [kt_0]; omega), kt_0, a6]; omega
  by_cases c : h = 13
  · refine ⟨_, ?_, if_pos c⟩
    rw [if_pos (Or.inl c)]
    exact s1
  · by_cases d : h = 14
    · refine ⟨_, ?_, (if_neg c).trans (if_pos d)⟩
      rw [if_pos (Or.inr d)]
      exact s1
    · refine ⟨_, ?_, (if_neg c).trans (if_neg d)⟩
      rw [if_neg (fun z => z.elim c d)]
      exact s0
theorem RS_pop {J : fc_I} {x1 : Nat} {h : Int32} {w C : List Int32} {o : Int} {v : Int32} (hb : w.length + C.length < 160) (hr : RS J x1 (h :: w) C o) : RS (popI J x1 h w C v) x1 w (h :: C) v.toInt := by
  obtain ⟨a1, a2, a3, a4, a5, a6⟩ := hr
  refine ⟨zi_int (n := w.length) (by omega), stk_c (J := J) w (fun s _ => rfl) a2.2, zi_int (n := C.length + 1) (by omega), ⟨?_, ?_⟩, a5, rfl⟩
  · show fc_wI (fc_wI (fc_wI (fc_wI J 78 51 (zi w.length)) 78 52 v) 109 (160 * x1 + C.length) h) 78 56 (zi (C.length + 1)) 109 (160 * x1 + C.length) = h
    rw [fc_wI_ne (by decide), fc_wI_at, if_pos rfl]
  · refine cds_c C (fun s hs => ?_) a4
    show fc_wI (fc_wI (fc_wI (fc_wI J 78 51 (zi w.length)) 78 52 v) 109 (160 * x1 + C.length) h) 78 56 (zi (C.length + 1)) 109 s = J 109 s
    rw [fc_wI_ne (by decide), fc_wI_at, if_neg (by omega), fc_wI_ne (by decide), fc_wI_ne (by decide)]
theorem FR_pop {J : fc_I} {x1 : Nat} {h : Int32} {w C : List Int32} {v : Int32} (hb : w.length + C.length < 160) : FR x1 J (popI J x1 h w C v) := by
  refine ⟨fun c s h1 h2 => ?_, fun s hs => ?_⟩
  · unfold popI
    by_cases c8 : c = 78
    · subst c8
      rcases h2 with h2 | ⟨h2, h3, h4⟩
      · exact absurd rfl h2
      · rw [fc_wI_at, if_neg h4, fc_wI_ne (by decide), fc_wI_at, if_neg h3, fc_wI_at, if_neg h2]
    · rw [fc_wI_ne c8, fc_wI_ne h1, fc_wI_ne c8, fc_wI_ne c8]
  · unfold popI
    rw [fc_wI_ne (by decide), fc_wI_at, if_neg (by omega), fc_wI_ne (by decide), fc_wI_ne (by decide)]
theorem e_doAllL {x1 : Nat} {x : Int32} {xn : Nat} (hx : x.toInt = (xn : Int)) (h1 : x1 < 12) : ∀ (W C : List Int32) (o : Int) (J : fc_I) (m : Nat), W.length < m → W.length + C.length ≤ 160 → -500 + (W.length : Int) < o ∧ o < 500 → RS J x1 W C o → ∃ J', lpm0 (f_X11_doAll_0_B x) m J = some J' ∧ RS J' x1 (dA xn W C o).1 (dA xn W C o).2.1 (dA xn W C o).2.2 ∧ FR x1 J J'
  | [], C, o, J, 0, hm, _, _, _ => absurd hm (by decide)
  | _ :: _, C, o, J, 0, hm, _, _, _ => absurd hm (Nat.not_lt_zero _)
  | [], C, o, J, m + 1, hm, hb, ho, hr => by
    refine ⟨J, ?_, hr, FR_r⟩
    show f_X11_doAll_0_B x (lpm0 (f_X11_doAll_0_B x) m) J = some J
    have a1 : (J 78 51).toInt = ((0 : Nat) : Int) := hr.1
    unfold f_X11_doAll_0_B
    rw [if_neg (by omega)]
  | h :: w, C, o, J, m + 1, hm, hb, ho, hr => by
    simp only [List.length_cons] at hm hb ho
    show ∃ J', f_X11_doAll_0_B x (lpm0 (f_X11_doAll_0_B x) m) J = some J' ∧ _
    by_cases c : h = 15 ∨ rk h < xn
    · have e : dA xn (h :: w) C o = (h :: w, C, o) := by
        unfold dA
        rw [if_pos c]
      rw [e]
      refine ⟨J, ?_, hr, FR_r⟩
      obtain ⟨a1, a2, a3, a4, a5, a6⟩ := hr
      have te : ∀ c d : Int32, (c.toInt = d.toInt) = (c = d) := fun c d => propext Int32.toInt_inj
      have l1 : (J 78 51).toInt = ((w.length + 1 : Nat) : Int) := a1
      have e51 : (J 78 51 - 1) = zi w.length := zi_of (by rw [i_sub (by rw [kt_1]; omega) (by rw [kt_1]; omega), kt_1]; omega) (by omega)
      have g51 : ∀ {γ : Type} (q : Option γ), fq_g 170 (zi w.length) q = q := fun q => fq_gp ⟨by rw [zi_int (by omega)]; omega, by rw [zi_int (by omega)]; omega⟩
      have rb := rk_b h
      unfold f_X11_doAll_0_B
      rw [if_pos (by omega), e51, g51, zi_cn (by omega), a2.1]
      simp only [te]
      by_cases h15 : h = 15
      · rw [if_pos h15]
      · rw [if_neg h15, g51, e_rank, fq_vsome, zi_int (by omega), if_pos (by rcases c with c | c; exact absurd c h15; omega)]
    · have e : dA xn (h :: w) C o = dA xn w (h :: C) (if h = 13 ∨ h = 14 then o - 1 else o) := by
        conv => lhs; unfold dA
        rw [if_neg c]
      obtain ⟨v, v1, v2⟩ := e_pop (k := lpm0 (f_X11_doAll_0_B x) m) hx h1 (by omega) (by omega) hr c
      have hr' := RS_pop (v := v) (by omega) hr
      rw [v1] at hr'
      have ob : -500 + (w.length : Int) < (if h = 13 ∨ h = 14 then o - 1 else o) ∧ (if h = 13 ∨ h = 14 then o - 1 else o) < 500 := by
        by_cases d : h = 13 ∨ h = 14
        · rw [if_pos d]; omega
        · rw [if_neg d]; omega
      obtain ⟨J', q1, q2, q3⟩ := e_doAllL hx h1 w (h :: C) _ (popI J x1 h w C v) m (by omega) (by simp only [List.length_cons]; omega) ob hr'
      rw [e, v2]
      exact ⟨J', q1, q2, FR_t (FR_pop (by omega)) q3⟩
