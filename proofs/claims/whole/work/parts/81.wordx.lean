/-! ===== the class's next token: words, all ===== -/
theorem sptK {γ : Type} {w : Bool} {A B : Option γ} : (fq_v (some (if w = true then (1 : Int32) else 0)) fun r => if r.toInt = 0 then A else B) = if w = true then B else A := by
  cases w <;> rfl
def wdK (w : Nat) : Int32 := if w = 0 then 10 else if w < 7 then 13 else zi (w + 7)
def wdV (w : Nat) : Int32 := if w = 0 ∨ 6 < w then -1 else zi (w - 1)
theorem X_wd {I : fc_I} {b e : Nat} {t v : Int32} (hb : b ≤ e) (he : e ≤ 160) : f_X5_takeWord_39 (tkI I (zi b) (zi e) t v) = some (tkI I (zi b) (zi e) (wdK (wid (I 32) b (e - b))) (wdV (wid (I 32) b (e - b)))) := by
  have sp : ∀ (k : Nat), k < 12 → ∀ (t v : Int32), f_X5_spells k (tkI I (zi b) (zi e) t v) = some (if weq (I 32) b (e - b) k = true then 1 else 0) := fun k hk t v => by
    have q := e_spells (I := tkI I (zi b) (zi e) t v) (k := k) (p := b) (len := e - b) hk (by rw [tk_5]; exact zi_int (by omega)) (by rw [tk_6, zi_int (by omega)]; omega) (by omega)
    rw [tk_T] at q
    exact q
  unfold f_X5_takeWord_39
  rw [sp 1 (by omega), sptK]
  by_cases c1 : weq (I 32) b (e - b) 1 = true
  · have hW : wid (I 32) b (e - b) = 1 := by
      unfold wid
      rw [if_pos c1]
    rw [if_pos c1, hW]
    unfold f_X5_takeWord_119
    simp only [fq_l, tk_w8, tk_8, tk_w7]
    rfl
  rw [if_neg c1]
  rw [sp 2 (by omega), sptK]
  by_cases c2 : weq (I 32) b (e - b) 2 = true
  · have hW : wid (I 32) b (e - b) = 2 := by
      unfold wid
      rw [if_neg c1, if_pos c2]
    rw [if_pos c2, hW]
    unfold f_X5_takeWord_119
    simp only [fq_l, tk_w8, tk_8, tk_w7]
    rfl
  rw [if_neg c2]
  rw [sp 3 (by omega), sptK]
  by_cases c3 : weq (I 32) b (e - b) 3 = true
  · have hW : wid (I 32) b (e - b) = 3 := by
      unfold wid
      rw [if_neg c1, if_neg c2, if_pos c3]
    rw [if_pos c3, hW]
    unfold f_X5_takeWord_119
    simp only [fq_l, tk_w8, tk_8, tk_w7]
    rfl
  rw [if_neg c3]
  rw [sp 4 (by omega), sptK]
  by_cases c4 : weq (I 32) b (e - b) 4 = true
  · have hW : wid (I 32) b (e - b) = 4 := by
      unfold wid
      rw [if_neg c1, if_neg c2, if_neg c3, if_pos c4]
    rw [if_pos c4, hW]
    unfold f_X5_takeWord_119
    simp only [fq_l, tk_w8, tk_8, tk_w7]
    rfl
  rw [if_neg c4]
  rw [sp 5 (by omega), sptK]
  by_cases c5 : weq (I 32) b (e - b) 5 = true
  · have hW : wid (I 32) b (e - b) = 5 := by
      unfold wid
      rw [if_neg c1, if_neg c2, if_neg c3, if_neg c4, if_pos c5]
    rw [if_pos c5, hW]
    unfold f_X5_takeWord_119
    simp only [fq_l, tk_w8, tk_8, tk_w7]
    rfl
  rw [if_neg c5]
  rw [sp 6 (by omega), sptK]
  by_cases c6 : weq (I 32) b (e - b) 6 = true
  · have hW : wid (I 32) b (e - b) = 6 := by
      unfold wid
      rw [if_neg c1, if_neg c2, if_neg c3, if_neg c4, if_neg c5, if_pos c6]
    rw [if_pos c6, hW]
    unfold f_X5_takeWord_119
    simp only [fq_l, tk_w8, tk_8, tk_w7]
    rfl
  rw [if_neg c6]
  unfold f_X5_takeWord_119
  simp only [fq_l, tk_w8, tk_8]
  rw [if_pos trivial]
  rw [sp 7 (by omega), sptK]
  by_cases c7 : weq (I 32) b (e - b) 7 = true
  · have hW : wid (I 32) b (e - b) = 7 := by
      unfold wid
      rw [if_neg c1, if_neg c2, if_neg c3, if_neg c4, if_neg c5, if_neg c6, if_pos c7]
    rw [if_pos c7, hW]
    simp only [fq_l, tk_w7]
    rfl
  rw [if_neg c7]
  rw [sp 8 (by omega), sptK]
  by_cases c8 : weq (I 32) b (e - b) 8 = true
  · have hW : wid (I 32) b (e - b) = 8 := by
      unfold wid
      rw [if_neg c1, if_neg c2, if_neg c3, if_neg c4, if_neg c5, if_neg c6, if_neg c7, if_pos c8]
    rw [if_pos c8, hW]
    simp only [fq_l, tk_w7]
    rfl
  rw [if_neg c8]
  rw [sp 9 (by omega), sptK]
  by_cases c9 : weq (I 32) b (e - b) 9 = true
  · have hW : wid (I 32) b (e - b) = 9 := by
      unfold wid
      rw [if_neg c1, if_neg c2, if_neg c3, if_neg c4, if_neg c5, if_neg c6, if_neg c7, if_neg c8, if_pos c9]
    rw [if_pos c9, hW]
    simp only [fq_l, tk_w7]
    rfl
  rw [if_neg c9]
  rw [sp 10 (by omega), sptK]
  by_cases c10 : weq (I 32) b (e - b) 10 = true
  · have hW : wid (I 32) b (e - b) = 10 := by
      unfold wid
      rw [if_neg c1, if_neg c2, if_neg c3, if_neg c4, if_neg c5, if_neg c6, if_neg c7, if_neg c8, if_neg c9, if_pos c10]
    rw [if_pos c10, hW]
    simp only [fq_l, tk_w7]
    rfl
  rw [if_neg c10]
  rw [sp 11 (by omega), sptK]
  by_cases c11 : weq (I 32) b (e - b) 11 = true
  · have hW : wid (I 32) b (e - b) = 11 := by
      unfold wid
      rw [if_neg c1, if_neg c2, if_neg c3, if_neg c4, if_neg c5, if_neg c6, if_neg c7, if_neg c8, if_neg c9, if_neg c10, if_pos c11]
    rw [if_pos c11, hW]
    simp only [fq_l, tk_w7]
    rfl
  rw [if_neg c11]
  have hW : wid (I 32) b (e - b) = 0 := by
    unfold wid
    rw [if_neg c1, if_neg c2, if_neg c3, if_neg c4, if_neg c5, if_neg c6, if_neg c7, if_neg c8, if_neg c9, if_neg c10, if_neg c11]
  rw [hW]
  simp only [fq_l, tk_w7]
  rfl
theorem X_word {I : fc_I} {n b : Nat} {t v : Int32} (hn : (I 43 4).toInt = (n : Int)) (h160 : n ≤ 160) (hb : b ≤ n) : f_X5_takeWord (tkI I (zi b) (zi b) t v) = some (tkI I (zi b) (zi (rn (isLe (I 32)) n (n - b) b)) (wdK (wid (I 32) b (rn (isLe (I 32)) n (n - b) b - b))) (wdV (wid (I 32) b (rn (isLe (I 32)) n (n - b) b - b)))) := by
  obtain ⟨r1, r2, r3, r4⟩ := rn_b (C := isLe (I 32)) (n := n) (n - b) b hb (by omega)
  obtain ⟨e, he⟩ : ∃ e, rn (isLe (I 32)) n (n - b) b = e := ⟨_, rfl⟩
  rw [he] at r1 r2 r3 r4 ⊢
  obtain ⟨J', q1, q2⟩ := lpm0_K (B := f_X5_takeWord_0_B) (e - b) (fun k J => J = tkI I (zi b) (zi (b + k)) t v) (fun J => f_X5_takeWord_39 J) (fun k m J hm hJ => by
    refine ⟨_, rfl, ?_⟩
    rw [hJ]
    have q : 97 ≤ (I 32 (b + m)).toInt ∧ (I 32 (b + m)).toInt ≤ 122 := of_decide_eq_true (r3 (b + m) (by omega) (by omega))
    unfold f_X5_takeWord_0_B
    simp only [fq_l, tk_4, tk_6, tk_T, tk_w6, hn, zi_int (n := b + m) (by omega), zi_cn (n := b + m) (by omega)]
    rw [if_pos (by omega), fq_gp ⟨by rw [zi_int (by omega)]; omega, by rw [zi_int (by omega)]; omega⟩, e_isLet, fq_vsome, if_pos q, kt_1, if_neg (by omega), zi_S (by omega)]
    rfl) (fun k J hJ => by
    rw [hJ, show b + (e - b) = e from by omega]
    unfold f_X5_takeWord_0_B
    simp only [fq_l, tk_4, tk_6, tk_T, hn, zi_int (n := e) (by omega), zi_cn (n := e) (by omega)]
    by_cases c : e < n
    · have q := r4 c
      have q' : ¬(97 ≤ (I 32 e).toInt ∧ (I 32 e).toInt ≤ 122) := of_decide_eq_false q
      rw [if_pos (by omega), fq_gp ⟨by rw [zi_int (by omega)]; omega, by rw [zi_int (by omega)]; omega⟩, e_isLet, fq_vsome, if_neg q', kt_0, if_pos rfl]
    · rw [if_neg (by omega)]) 4000 0 (tkI I (zi b) (zi b) t v) (by omega) (by omega) rfl
  show lpm0 f_X5_takeWord_0_B 4000 _ = _
  rw [q2, q1, show b + (e - b) = e from by omega]
  exact X_wd r1 (by omega)
