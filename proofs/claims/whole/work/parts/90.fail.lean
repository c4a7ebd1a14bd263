/-! ===== the class's reading behind a fault ===== -/
/-- the class has met a fault: its token is the faulty one -/
def XF (I : fc_I) : Prop := I 43 7 = 10 ∧ (I 43 9).toInt ≠ -1
theorem X_failF {I : fc_I} (h : XF I) : f_X5_fail I = some I := by
  have km : ((-1 : Int32)).toInt = -1 := rfl
  unfold f_X5_fail
  rw [km, if_neg h.2]
  simp only [fq_l]
  rw [fc_wI_id h.1.symm]
theorem X_109F {v : Nat} {I : fc_I} {kr : Int32 → Int32 → fc_I → Option fc_I} {L o x4 : Int32} (h : XF I) (hL : 0 ≤ L.toInt) (h4 : 0 < x4.toInt) : f_X5_readLevel_109 v kr L o x4 4000 0 I = some I := by
  have q : f_X5_readLevel_109 v kr L o x4 4000 0 I = f_X5_readLevel_109_B v kr L o x4 (lpm1 (f_X5_readLevel_109_B v kr L o x4) 3999) 0 I := rfl
  have jl : f_X5_joinLevel 10 = some (-1) := by
    unfold f_X5_joinLevel
    rfl
  have km : ((-1 : Int32)).toInt = -1 := rfl
  rw [q]
  unfold f_X5_readLevel_109_B
  rw [kt_0, if_pos h4, h.1, jl, fq_vsome, km, if_neg (by omega)]
theorem X_lvF {v : Nat} {I : fc_I} (h : XF I) : ∀ (d f : Nat) (L o : Int32), L.toInt = (5 : Int) - (d : Int) → d ≤ 5 → d < f → lpm2 (f_X5_readLevel_B v) f L o I = some I
  | _, 0, _, _, _, _, h3 => absurd h3 (Nat.not_lt_zero _)
  | d, f + 1, L, o, h1, h2, h3 => by
    show f_X5_readLevel_B v (lpm2 (f_X5_readLevel_B v) f) L o I = some I
    have k45 : (45 : Int32).toInt = 45 := rfl
    have k40 : (40 : Int32).toInt = 40 := rfl
    have t7 := h.1
    have e59 : f_X5_readLevel_59 v (lpm2 (f_X5_readLevel_B v) f) L o 0 I = some I := by
      unfold f_X5_readLevel_59
      rw [kt_0, if_pos rfl, kt_5]
      by_cases c : L.toInt < 5
      · rw [if_pos c]
        obtain ⟨d', hd⟩ : ∃ d', d = d' + 1 := ⟨d - 1, by omega⟩
        have z1 : (L + 1).toInt = L.toInt + 1 := by
          rw [i_add (by rw [kt_1]; omega) (by rw [kt_1]; omega), kt_1]
        have ih := X_lvF (v := v) h d' f (L + 1) o (by omega) (by omega) (by omega)
        rw [ih, fq_usome, kt_2]
        by_cases c2 : L.toInt = 2
        · rw [if_pos c2]
          exact X_109F h (by omega) (by decide)
        · rw [if_neg c2]
          exact X_109F h (by omega) (by decide)
      · rw [if_neg c]
        unfold f_X5_readLeaf
        rw [t7, kt_10, kt_12, kt_13, if_neg (by decide), if_neg (by decide), X_failF h]
        rfl
    have e14 : f_X5_readLevel_14 v (lpm2 (f_X5_readLevel_B v) f) L o I = some I := by
      unfold f_X5_readLevel_14
      rw [t7, kt_10, k45, k40, if_neg (show ¬ (10 : Int) = 45 by decide), if_neg (show ¬ (10 : Int) = 40 by decide)]
      have e41 : f_X5_readLevel_41 v (lpm2 (f_X5_readLevel_B v) f) L o I = some I := by
        unfold f_X5_readLevel_41 f_X5_readLevel_42
        rw [kt_0, if_pos rfl]
        exact e59
      by_cases c : L.toInt = (5 : Int32).toInt
      · rw [if_pos c]
        exact e41
      · rw [if_neg c]
        exact e41
    unfold f_X5_readLevel_B
    by_cases c : L.toInt = (2 : Int32).toInt
    · rw [if_pos c, t7, kt_10, kt_18, if_neg (by decide)]
      exact e14
    · rw [if_neg c]
      exact e14
theorem X_expF {I : fc_I} {x : Int32} (h : XF I) (hx : x.toInt ≠ 10) : f_X5_expect I x = some I := by
  unfold f_X5_expect
  rw [h.1, kt_10, if_neg (fun z => hx z.symm), X_failF h]
  rfl
/-- the first fault -/
theorem X_fail1 {I : fc_I} (h : (I 43 9).toInt = -1) : f_X5_fail I = some (fc_wI (fc_wI I 43 9 (I 43 5)) 43 7 10) := by
  have km : ((-1 : Int32)).toInt = -1 := rfl
  unfold f_X5_fail
  rw [km, if_pos h]
