/-! ===== the class: a code is put ===== -/
/-- the class's codes in cell v, the newest first -/
def cdv (J : fc_I) (v : Nat) : List Int32 → Prop
  | [] => True
  | x :: c => J v c.length = x ∧ cdv J v c
theorem cdv_c {J J' : fc_I} {v : Nat} : ∀ C, (∀ s, s < C.length → J' v s = J v s) → cdv J v C → cdv J' v C
  | [], _, _ => trivial
  | x :: c, h, q => ⟨(h c.length (Nat.lt_succ_self _)).trans q.1, cdv_c c (fun s hs => h s (Nat.lt_succ_of_lt hs)) q.2⟩
/-- the class's reading: codes C stand in cell v -/
def XS (J : fc_I) (v : Nat) (C : List Int32) : Prop := J 43 2 = zi C.length ∧ cdv J v C
def putI (J : fc_I) (v : Nat) (C : List Int32) (x : Int32) : fc_I := fc_wI (fc_wI J 43 2 (zi (C.length + 1))) v C.length x
theorem X_put {J : fc_I} {v : Nat} {C : List Int32} {x : Int32} (h : XS J v C) (hb : C.length < 160) : f_X5_put v J x = some (putI J v C x) := by
  have z := zi_int (n := C.length) (by omega)
  unfold f_X5_put putI
  simp only [fq_l]
  rw [h.1, kt_160, if_pos (by omega), fq_gp ⟨by omega, by omega⟩, zi_cn (by omega), zi_S (by omega)]
theorem XS_put {J : fc_I} {v : Nat} {C : List Int32} {x : Int32} (h : XS J v C) (hv : v ≠ 43) : XS (putI J v C x) v (x :: C) := by
  refine ⟨?_, ?_, ?_⟩
  · show putI J v C x 43 2 = zi (C.length + 1)
    unfold putI
    rw [fc_wI_ne (fun z => hv z.symm), fc_wI_at, if_pos rfl]
  · show putI J v C x v C.length = x
    unfold putI
    rw [fc_wI_at, if_pos rfl]
  · refine cdv_c (J := J) C (fun s hs => ?_) h.2
    unfold putI
    rw [fc_wI_at, if_neg (by omega), fc_wI_ne hv]
/-- behind a fault a put changes the codes and their number alone -/
theorem X_putF {J : fc_I} {v : Nat} {x : Int32} (hv : v ≠ 43) (hl : 0 ≤ (J 43 2).toInt) : ∃ J', f_X5_put v J x = some J' ∧ (∀ c s, c ≠ v → (c ≠ 43 ∨ s ≠ 2) → J' c s = J c s) ∧ 0 ≤ (J' 43 2).toInt := by
  unfold f_X5_put
  simp only [fq_l]
  rw [kt_160]
  by_cases c : (J 43 2).toInt < 160
  · rw [if_pos c, fq_gp ⟨hl, c⟩]
    refine ⟨_, rfl, fun a s h1 h2 => ?_, ?_⟩
    · rw [fc_wI_ne h1]
      by_cases a4 : a = 43
      · subst a4
        rw [fc_wI_at, if_neg (by rcases h2 with h2 | h2; exact absurd rfl h2; exact h2)]
      · rw [fc_wI_ne a4]
    · rw [fc_wI_ne (fun z => hv z.symm), fc_wI_at, if_pos rfl, i_add (by rw [kt_1]; omega) (by rw [kt_1]; omega), kt_1]
      omega
  · rw [if_neg c]
    exact ⟨_, rfl, fun _ _ _ _ => rfl, hl⟩
