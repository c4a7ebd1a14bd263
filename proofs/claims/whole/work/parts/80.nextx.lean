/-! ===== the class's next token ===== -/
def tkI (I : fc_I) (b q t v : Int32) : fc_I := fun c s => if c = 43 then (if s = 5 then b else if s = 6 then q else if s = 7 then t else if s = 8 then v else I 43 s) else I c s
theorem tk_5 {I : fc_I} {b q t v : Int32} : tkI I b q t v 43 5 = b := rfl
theorem tk_6 {I : fc_I} {b q t v : Int32} : tkI I b q t v 43 6 = q := rfl
theorem tk_7 {I : fc_I} {b q t v : Int32} : tkI I b q t v 43 7 = t := rfl
theorem tk_8 {I : fc_I} {b q t v : Int32} : tkI I b q t v 43 8 = v := rfl
theorem tk_4 {I : fc_I} {b q t v : Int32} : tkI I b q t v 43 4 = I 43 4 := rfl
theorem tk_T {I : fc_I} {b q t v : Int32} : tkI I b q t v 32 = I 32 := rfl
theorem tk_w5 {I : fc_I} {b q t v x : Int32} : fc_wI (tkI I b q t v) 43 5 x = tkI I x q t v := by
  funext c s
  unfold fc_wI tkI
  by_cases h : c = 43
  · subst h
    by_cases h5 : s = 5
    · subst h5; rfl
    · simp [h5]
  · simp [h]
theorem tk_w6 {I : fc_I} {b q t v x : Int32} : fc_wI (tkI I b q t v) 43 6 x = tkI I b x t v := by
  funext c s
  unfold fc_wI tkI
  by_cases h : c = 43
  · subst h
    by_cases h5 : s = 6
    · subst h5; rfl
    · simp [h5]
  · simp [h]
theorem tk_w7 {I : fc_I} {b q t v x : Int32} : fc_wI (tkI I b q t v) 43 7 x = tkI I b q x v := by
  funext c s
  unfold fc_wI tkI
  by_cases h : c = 43
  · subst h
    by_cases h5 : s = 7
    · subst h5; rfl
    · simp [h5]
  · simp [h]
theorem tk_w8 {I : fc_I} {b q t v x : Int32} : fc_wI (tkI I b q t v) 43 8 x = tkI I b q t x := by
  funext c s
  unfold fc_wI tkI
  by_cases h : c = 43
  · subst h
    by_cases h5 : s = 8
    · subst h5; rfl
    · simp [h5]
  · simp [h]
theorem tk_self {I : fc_I} : tkI I (I 43 5) (I 43 6) (I 43 7) (I 43 8) = I := by
  funext c s
  unfold tkI
  by_cases h : c = 43
  · subst h
    by_cases h5 : s = 5
    · subst h5; rfl
    · by_cases h6 : s = 6
      · subst h6; rfl
      · by_cases h7 : s = 7
        · subst h7; rfl
        · by_cases h8 : s = 8
          · subst h8; rfl
          · simp [h5, h6, h7, h8]
  · simp [h]
theorem tk_tk {I : fc_I} {b q t v b' q' t' v' : Int32} : tkI (tkI I b q t v) b' q' t' v' = tkI I b' q' t' v' := by
  funext c s
  unfold tkI
  by_cases h : c = 43
  · subst h
    by_cases h5 : s = 5
    · simp [h5]
    · by_cases h6 : s = 6
      · simp [h6]
      · by_cases h7 : s = 7
        · simp [h7]
        · by_cases h8 : s = 8
          · simp [h8]
          · simp [h5, h6, h7, h8]
  · simp [h]
theorem X_num {I : fc_I} {n b : Nat} {t v : Int32} (hn : (I 43 4).toInt = (n : Int)) (h160 : n ≤ 160) (hb : b ≤ n) : f_X5_takeNumber (tkI I (zi b) (zi b) t v) = some (tkI I (zi b) (zi (rn (isDi (I 32)) n (n - b) b)) (if 4 < rn (isDi (I 32)) n (n - b) b - b then 10 else 12) (nvC (I 32) b (rn (isDi (I 32)) n (n - b) b - b))) := by
  obtain ⟨r1, r2, r3, r4⟩ := rn_b (C := isDi (I 32)) (n := n) (n - b) b hb (by omega)
  obtain ⟨e, he⟩ : ∃ e, rn (isDi (I 32)) n (n - b) b = e := ⟨_, rfl⟩
  rw [he] at r1 r2 r3 r4 ⊢
  have fin : ∀ (k : fc_I → Option fc_I) (J : fc_I), J = tkI I (zi b) (zi (b + (e - b))) t (nvC (I 32) b (e - b)) → f_X5_takeNumber_5_B k J = some (tkI I (zi b) (zi e) (if 4 < e - b then 10 else 12) (nvC (I 32) b (e - b))) := fun k J hJ => by
    rw [hJ, show b + (e - b) = e from by omega]
    have es : (zi e - zi b).toInt = ((e - b : Nat) : Int) := by
      have z1 := zi_int (n := e) (by omega)
      have z2 := zi_int (n := b) (by omega)
      rw [i_sub (by omega) (by omega)]
      omega
    unfold f_X5_takeNumber_5_B
    simp only [fq_l, tk_4, tk_5, tk_6, tk_T, tk_w7, es, hn, zi_int (n := e) (by omega), zi_cn (n := e) (by omega), kt_4]
    have tail : (if (4 : Int) < ((e - b : Nat) : Int) then some (tkI I (zi b) (zi e) 10 (nvC (I 32) b (e - b))) else some (tkI I (zi b) (zi e) 12 (nvC (I 32) b (e - b)))) = some (tkI I (zi b) (zi e) (if 4 < e - b then 10 else 12) (nvC (I 32) b (e - b))) := by
      by_cases c : 4 < e - b
      · rw [if_pos (by omega), if_pos c]
      · rw [if_neg (by omega), if_neg c]
    by_cases c : e < n
    · have q := r4 c
      have q' : ¬(48 ≤ (I 32 e).toInt ∧ (I 32 e).toInt ≤ 57) := of_decide_eq_false q
      rw [if_pos (by omega), fq_gp ⟨by rw [zi_int (by omega)]; omega, by rw [zi_int (by omega)]; omega⟩, e_isDig, fq_vsome, if_neg q', kt_0, if_pos rfl]
      exact tail
    · rw [if_neg (by omega)]
      exact tail
  obtain ⟨J', q1, q2⟩ := lpm0_K (B := f_X5_takeNumber_5_B) (e - b) (fun k J => J = tkI I (zi b) (zi (b + k)) t (nvC (I 32) b k)) (fun _ => some (tkI I (zi b) (zi e) (if 4 < e - b then 10 else 12) (nvC (I 32) b (e - b)))) (fun k m J hm hJ => by
    refine ⟨_, rfl, ?_⟩
    rw [hJ]
    have q : 48 ≤ (I 32 (b + m)).toInt ∧ (I 32 (b + m)).toInt ≤ 57 := of_decide_eq_true (r3 (b + m) (by omega) (by omega))
    unfold f_X5_takeNumber_5_B
    simp only [fq_l, tk_4, tk_5, tk_6, tk_8, tk_T, tk_w6, tk_w8, hn, zi_int (n := b + m) (by omega), zi_cn (n := b + m) (by omega)]
    rw [if_pos (by omega), fq_gp ⟨by rw [zi_int (by omega)]; omega, by rw [zi_int (by omega)]; omega⟩, e_isDig, fq_vsome, if_pos q, kt_1, if_neg (by omega), fq_gp ⟨by rw [zi_int (by omega)]; omega, by rw [zi_int (by omega)]; omega⟩, zi_S (by omega)]
    rfl) (fun k J hJ => fin k J hJ) 4000 0 (tkI I (zi b) (zi b) t 0) (by omega) (by omega) rfl
  unfold f_X5_takeNumber
  simp only [fq_l, tk_w8]
  exact q2
