theorem wid_b (T : Nat → Int32) (p l : Nat) : wid T p l + 7 < 100000 := by
  unfold wid
  repeat' split
  all_goals decide
theorem tkB_b {T : Nat → Int32} {n p : Nat} (h : p ≤ n) : p ≤ tkB T n p ∧ tkB T n p ≤ n := by
  obtain ⟨a, b, _, _⟩ := rn_b (C := isBl T) (n := n) (n - p) p h (by omega)
  exact ⟨a, b⟩
theorem tkE_b {T : Nat → Int32} {n b : Nat} (h : b ≤ n) : b ≤ tkE T n b ∧ tkE T n b ≤ n := by
  unfold tkE
  by_cases c : n ≤ b
  · rw [if_pos c]
    exact ⟨by omega, h⟩
  · rw [if_neg c]
    by_cases l : isLe T b = true
    · rw [if_pos l]
      obtain ⟨x, y, _, _⟩ := rn_b (C := isLe T) (n := n) (n - b) b h (by omega)
      exact ⟨x, y⟩
    · rw [if_neg l]
      by_cases d : isDi T b = true
      · rw [if_pos d]
        obtain ⟨x, y, _, _⟩ := rn_b (C := isDi T) (n := n) (n - b) b h (by omega)
        exact ⟨x, y⟩
      · rw [if_neg d]
        omega
theorem X_n52 {I : fc_I} {n b : Nat} {b0 t v : Int32} (hn : (I 43 4).toInt = (n : Int)) (h160 : n ≤ 160) (hb : b ≤ n) : ∃ v', f_X5_nextToken_52 (tkI I b0 (zi b) t v) = some (tkI I (zi b) (zi (tkE (I 32) n b)) (tkK (I 32) n b) v') ∧ (tkK (I 32) n b = 12 ∨ tkK (I 32) n b = 13 → v' = tkV (I 32) n b) := by
  unfold f_X5_nextToken_52
  simp only [fq_l, tk_6, tk_w5, tk_4, tk_T, hn, zi_int (n := b) (by omega), zi_cn (n := b) (by omega)]
  by_cases c : b < n
  · have c' : ¬ n ≤ b := by omega
    have gp : ∀ k : Option fc_I, fq_g 160 (zi b) k = k := fun k => fq_gp ⟨by rw [zi_int (by omega)]; omega, by rw [zi_int (by omega)]; omega⟩
    rw [if_pos (by omega), gp, e_isLet, fq_vsome]
    by_cases l : isLe (I 32) b = true
    · have q : 97 ≤ (I 32 b).toInt ∧ (I 32 b).toInt ≤ 122 := of_decide_eq_true l
      have eE : tkE (I 32) n b = rn (isLe (I 32)) n (n - b) b := by
        unfold tkE
        rw [if_neg c', if_pos l]
      have eK : tkK (I 32) n b = wdK (wid (I 32) b (tkE (I 32) n b - b)) := by
        unfold tkK
        rw [if_neg c', if_pos l]
        rfl
      rw [if_pos q, kt_1, if_neg (by omega), X_word hn h160 hb, fq_usome, eK, eE]
      refine ⟨_, rfl, ?_⟩
      intro h
      unfold tkV
      rw [if_pos l, eE]
      have hw := wid_b (I 32) b (rn (isLe (I 32)) n (n - b) b - b)
      generalize wid (I 32) b (rn (isLe (I 32)) n (n - b) b - b) = w at h hw
      unfold wdK at h
      unfold wdV
      by_cases w0 : w = 0
      · rw [if_pos w0] at h
        rcases h with h | h <;> exact absurd h (by decide)
      · rw [if_neg w0] at h
        by_cases w7 : w < 7
        · rw [if_neg (by omega)]
        · rw [if_neg w7] at h
          exfalso
          rcases h with h | h
          · have h2 := congrArg Int32.toInt h
            rw [zi_int (n := w + 7) hw] at h2
            have k : (12 : Int32).toInt = 12 := rfl
            rw [k] at h2
            omega
          · have h2 := congrArg Int32.toInt h
            rw [zi_int (n := w + 7) hw] at h2
            have k : (13 : Int32).toInt = 13 := rfl
            rw [k] at h2
            omega
    · have q : ¬(97 ≤ (I 32 b).toInt ∧ (I 32 b).toInt ≤ 122) := fun z => l (decide_eq_true z)
      rw [if_neg q, kt_0, if_pos rfl, gp, e_isDig, fq_vsome]
      by_cases d : isDi (I 32) b = true
      · have qd : 48 ≤ (I 32 b).toInt ∧ (I 32 b).toInt ≤ 57 := of_decide_eq_true d
        have eE : tkE (I 32) n b = rn (isDi (I 32)) n (n - b) b := by
          unfold tkE
          rw [if_neg c', if_neg l, if_pos d]
        have eK : tkK (I 32) n b = if 4 < tkE (I 32) n b - b then 10 else 12 := by
          unfold tkK
          rw [if_neg c', if_neg l, if_pos d]
        rw [if_pos qd, kt_1, if_neg (by omega), X_num hn h160 hb, fq_usome, eK, eE]
        refine ⟨_, rfl, ?_⟩
        intro h
        unfold tkV
        rw [if_neg l, eE]
      · have qd : ¬(48 ≤ (I 32 b).toInt ∧ (I 32 b).toInt ≤ 57) := fun z => d (decide_eq_true z)
        have eE : tkE (I 32) n b = b + 1 := by
          unfold tkE
          rw [if_neg c', if_neg l, if_neg d]
        have eK : tkK (I 32) n b = if isSg (I 32 b) then I 32 b else 10 := by
          unfold tkK
          rw [if_neg c', if_neg l, if_neg d]
        rw [if_neg qd, kt_0, if_pos rfl, gp, e_isSgX, fq_vsome, eE, eK]
        by_cases s : isSg (I 32 b)
        · rw [if_pos s, kt_1, if_neg (by omega), gp, if_pos s]
          simp only [tk_w7, tk_w6, tk_6]
          rw [zi_S (by omega)]
          refine ⟨_, rfl, ?_⟩
          intro h
          exfalso
          rcases h with h | h <;> rw [h] at s <;> exact absurd s (by decide)
        · rw [if_neg s, kt_0, if_pos rfl, if_neg s]
          simp only [tk_w7, tk_w6, tk_6]
          rw [zi_S (by omega)]
          refine ⟨_, rfl, ?_⟩
          intro h
          exact absurd h (by decide)
  · have c' : n ≤ b := by omega
    have eE : tkE (I 32) n b = b := by
      unfold tkE
      rw [if_pos c']
    have eK : tkK (I 32) n b = 11 := by
      unfold tkK
      rw [if_pos c']
    rw [if_neg (by omega), eE, eK]
    simp only [tk_w7]
    refine ⟨_, rfl, ?_⟩
    intro h
    exact absurd h (by decide)
theorem e_nextX {I : fc_I} {n p : Nat} (hn : (I 43 4).toInt = (n : Int)) (h160 : n ≤ 160) (hp : p ≤ n) (h6 : I 43 6 = zi p) : ∃ v', f_X5_nextToken I = some (tkI I (zi (tkB (I 32) n p)) (zi (tkE (I 32) n (tkB (I 32) n p))) (tkK (I 32) n (tkB (I 32) n p)) v') ∧ (tkK (I 32) n (tkB (I 32) n p) = 12 ∨ tkK (I 32) n (tkB (I 32) n p) = 13 → v' = tkV (I 32) n (tkB (I 32) n p)) := by
  obtain ⟨r1, r2, r3, r4⟩ := rn_b (C := isBl (I 32)) (n := n) (n - p) p hp (by omega)
  have he : tkB (I 32) n p = rn (isBl (I 32)) n (n - p) p := rfl
  rw [← he] at r1 r2 r3 r4
  generalize tkB (I 32) n p = e at r1 r2 r3 r4
  have k32 : (32 : Int32).toInt = 32 := rfl
  have k10 : (10 : Int32).toInt = 10 := rfl
  obtain ⟨J', q1, q2⟩ := lpm0_K (B := f_X5_nextToken_0_B) (e - p) (fun k J => J = tkI I (I 43 5) (zi (p + k)) (I 43 7) (I 43 8)) (fun J => f_X5_nextToken_52 J) (fun k m J hm hJ => by
    refine ⟨_, rfl, ?_⟩
    rw [hJ]
    have q : (I 32 (p + m)).toInt = 32 ∨ (I 32 (p + m)).toInt = 10 := of_decide_eq_true (r3 (p + m) (by omega) (by omega))
    have gp : ∀ k : Option fc_I, fq_g 160 (zi (p + m)) k = k := fun k => fq_gp ⟨by rw [zi_int (by omega)]; omega, by rw [zi_int (by omega)]; omega⟩
    unfold f_X5_nextToken_0_B
    simp only [fq_l, tk_4, tk_6, tk_T, tk_w6, hn, zi_int (n := p + m) (by omega), zi_cn (n := p + m) (by omega), k32, k10]
    rw [if_pos (by omega), gp, gp, zi_S (by omega)]
    by_cases a : (I 32 (p + m)).toInt = 32
    · rw [if_pos a]
      rfl
    · rw [if_neg a, if_pos (by omega)]
      rfl) (fun k J hJ => by
    rw [hJ, show p + (e - p) = e from by omega]
    unfold f_X5_nextToken_0_B
    simp only [fq_l, tk_4, tk_6, tk_T, hn, zi_int (n := e) (by omega), zi_cn (n := e) (by omega), k32, k10]
    by_cases c : e < n
    · have q := r4 c
      have q' : ¬((I 32 e).toInt = 32 ∨ (I 32 e).toInt = 10) := of_decide_eq_false q
      have gp : ∀ k : Option fc_I, fq_g 160 (zi e) k = k := fun k => fq_gp ⟨by rw [zi_int (by omega)]; omega, by rw [zi_int (by omega)]; omega⟩
      rw [if_pos (by omega), gp, gp, if_neg (by omega), if_neg (by omega)]
    · rw [if_neg (by omega)]) 4000 0 I (by omega) (by omega) (by
      show I = tkI I (I 43 5) (zi p) (I 43 7) (I 43 8)
      rw [← h6]
      exact tk_self.symm)
  have q3 : f_X5_nextToken I = f_X5_nextToken_52 J' := q2
  rw [q3, q1, show p + (e - p) = e from by omega]
  exact X_n52 hn h160 r2
