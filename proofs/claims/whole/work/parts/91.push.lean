/-! ===== the reference: a sign waits, a code is made, what the token is ===== -/
def pushI (J : fc_I) (W : List Int32) (x : Int32) : fc_I := fc_wI (fc_wI J 113 W.length x) 78 51 (zi (W.length + 1))
theorem M_await {J : fc_I} {x1 : Nat} {W C : List Int32} {o : Int} {x : Int32} (hr : RS J x1 W C o) (hb : W.length < 170) : f_X11_await J x = some (pushI J W x) := by
  obtain ⟨a1, a2, a3, a4, a5, a6⟩ := hr
  have e : J 78 51 = zi W.length := zi_of a1 (by omega)
  unfold f_X11_await pushI
  simp only [fq_l]
  have q : ∀ k, fc_wI J 113 k x 78 51 = zi W.length := fun k => e
  rw [q, e, fq_gp ⟨by rw [zi_int (by omega)]; omega, by rw [zi_int (by omega)]; omega⟩, zi_cn (by omega), zi_S (by omega)]
theorem RS_push {J : fc_I} {x1 : Nat} {W C : List Int32} {o : Int} {x : Int32} (hr : RS J x1 W C o) (hb : W.length < 170) : RS (pushI J W x) x1 (x :: W) C o := by
  obtain ⟨a1, a2, a3, a4, a5, a6⟩ := hr
  refine ⟨zi_int (n := W.length + 1) (by omega), ⟨?_, ?_⟩, a3, cds_c (J := J) C (fun s _ => rfl) a4, a5, a6⟩
  · show fc_wI (fc_wI J 113 W.length x) 78 51 (zi (W.length + 1)) 113 W.length = x
    rw [fc_wI_ne (by decide), fc_wI_at, if_pos rfl]
  · refine stk_c (J := J) W (fun s hs => ?_) a2
    show fc_wI (fc_wI J 113 W.length x) 78 51 (zi (W.length + 1)) 113 s = J 113 s
    rw [fc_wI_ne (by decide), fc_wI_at, if_neg (by omega)]
def emitI (J : fc_I) (x1 : Nat) (C : List Int32) (x : Int32) : fc_I := fc_wI (fc_wI J 109 (160 * x1 + C.length) x) 78 56 (zi (C.length + 1))
theorem M_emit {J : fc_I} {x1 : Nat} {W C : List Int32} {o : Int} {x : Int32} (hr : RS J x1 W C o) (h1 : x1 < 12) (hb : C.length < 160) : f_X11_emit J x = some (emitI J x1 C x) := by
  obtain ⟨a1, a2, a3, a4, a5, a6⟩ := hr
  have e : J 78 56 = zi C.length := zi_of a3 (by omega)
  have es : (J 78 55 + zi C.length).toInt = ((160 * x1 + C.length : Nat) : Int) := by
    have z := zi_int (n := C.length) (by omega)
    rw [i_add (by omega) (by omega)]
    omega
  unfold f_X11_emit emitI
  simp only [fq_l]
  have q : ∀ k, fc_wI J 109 k x 78 56 = zi C.length := fun k => e
  rw [q, e, fq_gp ⟨by rw [es]; omega, by rw [es]; omega⟩, cn_eq es, zi_S (by omega)]
theorem RS_emit {J : fc_I} {x1 : Nat} {W C : List Int32} {o : Int} {x : Int32} (hr : RS J x1 W C o) (hb : C.length < 160) : RS (emitI J x1 C x) x1 W (x :: C) o := by
  obtain ⟨a1, a2, a3, a4, a5, a6⟩ := hr
  refine ⟨a1, stk_c (J := J) W (fun s _ => rfl) a2, zi_int (n := C.length + 1) (by omega), ⟨?_, ?_⟩, a5, a6⟩
  · show fc_wI (fc_wI J 109 (160 * x1 + C.length) x) 78 56 (zi (C.length + 1)) 109 (160 * x1 + C.length) = x
    rw [fc_wI_ne (by decide), fc_wI_at, if_pos rfl]
  · refine cds_c (J := J) C (fun s hs => ?_) a4
    show fc_wI (fc_wI J 109 (160 * x1 + C.length) x) 78 56 (zi (C.length + 1)) 109 s = J 109 s
    rw [fc_wI_ne (by decide), fc_wI_at, if_neg (by omega)]
/-- the token that the reference holds -/
def SM (J : fc_I) (t : Tk) : Prop := J 78 45 = Tr t ∧ (t.1 ≠ 0 → t.1 ≠ 5 → J 78 46 = t.2) ∧ Tok t
theorem Tok_6 {t : Tk} (h : Tok t) : t.1 < 6 := by
  rcases h with o | o | o | o | o | o
  · rw [o.1]; decide
  · rw [o.1]; decide
  · rw [o.1]; decide
  · rw [o.1]; decide
  · rw [o]; decide
  · rw [o]; decide
theorem SM_45 {J : fc_I} {t : Tk} (h : SM J t) : (J 78 45).toInt = (t.1 : Int) := by
  have := Tok_6 h.2.2
  rw [h.1]
  exact zi_int (n := t.1) (by omega)
theorem M_isSign {J : fc_I} {t : Tk} {x : Int32} (h : SM J t) : f_X11_isSign J x = some (if t = (3, x) then 1 else 0) := by
  have e := SM_45 h
  unfold f_X11_isSign
  rw [e, kt_3]
  by_cases c : t.1 = 3
  · have q := h.2.1 (by omega) (by omega)
    rw [if_pos (by omega), q]
    by_cases d : t.2.toInt = x.toInt
    · rw [if_pos d, if_pos (Prod.ext c (Int32.toInt_inj.mp d))]
    · rw [if_neg d, if_neg (fun z => d (by rw [z]))]
  · rw [if_neg (by omega), if_neg (fun z => c (by rw [z]))]
theorem M_isKey {J : fc_I} {t : Tk} {x : Int32} (h : SM J t) : f_X11_isKey J x = some (if t = (4, x) then 1 else 0) := by
  have e := SM_45 h
  unfold f_X11_isKey
  rw [e, kt_4]
  by_cases c : t.1 = 4
  · have q := h.2.1 (by omega) (by omega)
    rw [if_pos (by omega), q]
    by_cases d : t.2.toInt = x.toInt
    · rw [if_pos d, if_pos (Prod.ext c (Int32.toInt_inj.mp d))]
    · rw [if_neg d, if_neg (fun z => d (by rw [z]))]
  · rw [if_neg (by omega), if_neg (fun z => c (by rw [z]))]
