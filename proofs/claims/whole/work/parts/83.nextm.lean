/-! ===== the reference's next token: numbers ===== -/
theorem stpP {γ : Type} {c : Prop} {_ : Decidable c} {A B : Option γ} : (fq_v (some (if c then (1 : Int32) else 0)) fun r => if r.toInt = 0 then A else B) = if c then B else A := by
  by_cases h : c
  · rw [if_pos h, if_pos h]
    rfl
  · rw [if_neg h, if_neg h]
    rfl
def rI (I : fc_I) (a t w p : Int32) : fc_I := fun c s => if c = 78 then (if s = 44 then a else if s = 45 then t else if s = 46 then w else if s = 47 then p else I 78 s) else I c s
theorem rI_39 {I : fc_I} {a t w p : Int32} : rI I a t w p 78 39 = I 78 39 := rfl
theorem rI_44 {I : fc_I} {a t w p : Int32} : rI I a t w p 78 44 = a := rfl
theorem rI_45 {I : fc_I} {a t w p : Int32} : rI I a t w p 78 45 = t := rfl
theorem rI_46 {I : fc_I} {a t w p : Int32} : rI I a t w p 78 46 = w := rfl
theorem rI_47 {I : fc_I} {a t w p : Int32} : rI I a t w p 78 47 = p := rfl
theorem rI_T {I : fc_I} {a t w p : Int32} : rI I a t w p 108 = I 108 := rfl
theorem rI_L {I : fc_I} {a t w p : Int32} : rI I a t w p 111 = I 111 := rfl
theorem rI_B {I : fc_I} {a t w p : Int32} : rI I a t w p 112 = I 112 := rfl
theorem rI_w44 {I : fc_I} {a t w p x : Int32} : fc_wI (rI I a t w p) 78 44 x = rI I x t w p := by
  funext c s
  unfold fc_wI rI
  by_cases h : c = 78
  · subst h
    by_cases h5 : s = 44
    · subst h5; rfl
    · simp [h5]
  · simp [h]
theorem rI_w45 {I : fc_I} {a t w p x : Int32} : fc_wI (rI I a t w p) 78 45 x = rI I a x w p := by
  funext c s
  unfold fc_wI rI
  by_cases h : c = 78
  · subst h
    by_cases h5 : s = 45
    · subst h5; rfl
    · simp [h5]
  · simp [h]
theorem rI_w46 {I : fc_I} {a t w p x : Int32} : fc_wI (rI I a t w p) 78 46 x = rI I a t x p := by
  funext c s
  unfold fc_wI rI
  by_cases h : c = 78
  · subst h
    by_cases h5 : s = 46
    · subst h5; rfl
    · simp [h5]
  · simp [h]
theorem rI_w47 {I : fc_I} {a t w p x : Int32} : fc_wI (rI I a t w p) 78 47 x = rI I a t w x := by
  funext c s
  unfold fc_wI rI
  by_cases h : c = 78
  · subst h
    by_cases h5 : s = 47
    · subst h5; rfl
    · simp [h5]
  · simp [h]
theorem rI_self {I : fc_I} : rI I (I 78 44) (I 78 45) (I 78 46) (I 78 47) = I := by
  funext c s
  unfold rI
  by_cases h : c = 78
  · subst h
    by_cases h5 : s = 44
    · subst h5; rfl
    · by_cases h6 : s = 45
      · subst h6; rfl
      · by_cases h7 : s = 46
        · subst h7; rfl
        · by_cases h8 : s = 47
          · subst h8; rfl
          · simp [h5, h6, h7, h8]
  · simp [h]
theorem rI_rI {I : fc_I} {a t w p a' t' w' p' : Int32} : rI (rI I a t w p) a' t' w' p' = rI I a' t' w' p' := by
  funext c s
  unfold rI
  by_cases h : c = 78
  · subst h
    by_cases h5 : s = 44
    · simp [h5]
    · by_cases h6 : s = 45
      · simp [h6]
      · by_cases h7 : s = 46
        · simp [h7]
        · by_cases h8 : s = 47
          · simp [h8]
          · simp [h5, h6, h7, h8]
  · simp [h]
theorem M_isL {I : fc_I} {n q : Nat} {a t w p : Int32} (hn : (I 78 39).toInt = (n : Int)) (h160 : n ≤ 160) (hq : q ≤ 160) : f_X11_isLetter (rI I a t w p) (zi q) = some (if q < n ∧ isLe (I 108) q = true then 1 else 0) := by
  unfold f_X11_isLetter
  have k97 : (97 : Int32).toInt = 97 := rfl
  have k122 : (122 : Int32).toInt = 122 := rfl
  simp only [rI_39, rI_T, hn, zi_int (n := q) (by omega), zi_cn (n := q) (by omega), k97, k122]
  have e : isLe (I 108) q = true ↔ 97 ≤ (I 108 q).toInt ∧ (I 108 q).toInt ≤ 122 := ⟨fun h => of_decide_eq_true h, fun h => decide_eq_true h⟩
  by_cases c : q < n
  · have gp : ∀ k : Option Int32, fq_g 160 (zi q) k = k := fun k => fq_gp ⟨by rw [zi_int (by omega)]; omega, by rw [zi_int (by omega)]; omega⟩
    rw [if_pos (by omega), gp, gp]
    by_cases h1 : (I 108 q).toInt < 97
    · rw [if_pos h1, if_neg (fun z => by have := (e.mp z.2).1; omega)]
    · rw [if_neg h1]
      by_cases h2 : 122 < (I 108 q).toInt
      · rw [if_pos h2, if_neg (fun z => by have := (e.mp z.2).2; omega)]
      · rw [if_neg h2, if_pos ⟨c, e.mpr ⟨by omega, by omega⟩⟩]
  · rw [if_neg (by omega), if_neg (fun z => c z.1)]
theorem M_isD {I : fc_I} {n q : Nat} {a t w p : Int32} (hn : (I 78 39).toInt = (n : Int)) (h160 : n ≤ 160) (hq : q ≤ 160) : f_X11_isDigit (rI I a t w p) (zi q) = some (if q < n ∧ isDi (I 108) q = true then 1 else 0) := by
  unfold f_X11_isDigit
  have k48 : (48 : Int32).toInt = 48 := rfl
  have k57 : (57 : Int32).toInt = 57 := rfl
  simp only [rI_39, rI_T, hn, zi_int (n := q) (by omega), zi_cn (n := q) (by omega), k48, k57]
  have e : isDi (I 108) q = true ↔ 48 ≤ (I 108 q).toInt ∧ (I 108 q).toInt ≤ 57 := ⟨fun h => of_decide_eq_true h, fun h => decide_eq_true h⟩
  by_cases c : q < n
  · have gp : ∀ k : Option Int32, fq_g 160 (zi q) k = k := fun k => fq_gp ⟨by rw [zi_int (by omega)]; omega, by rw [zi_int (by omega)]; omega⟩
    rw [if_pos (by omega), gp, gp]
    by_cases h1 : (I 108 q).toInt < 48
    · rw [if_pos h1, if_neg (fun z => by have := (e.mp z.2).1; omega)]
    · rw [if_neg h1]
      by_cases h2 : 57 < (I 108 q).toInt
      · rw [if_pos h2, if_neg (fun z => by have := (e.mp z.2).2; omega)]
      · rw [if_neg h2, if_pos ⟨c, e.mpr ⟨by omega, by omega⟩⟩]
  · rw [if_neg (by omega), if_neg (fun z => c z.1)]
/-- a worth of four digits at most -/
def nv4 (T : Nat → Int32) (p j : Nat) : Int32 := nvC T p (min j 4)
theorem M_num {I : fc_I} {n b : Nat} {t w : Int32} (hn : (I 78 39).toInt = (n : Int)) (h160 : n ≤ 160) (hb : b ≤ n) : f_X11_readNumber (rI I (zi b) t w (zi b)) = some (rI I (zi (rn (isDi (I 108)) n (n - b) b)) (if 4 < rn (isDi (I 108)) n (n - b) b - b then 5 else 1) (nv4 (I 108) b (rn (isDi (I 108)) n (n - b) b - b)) (zi b)) := by
  obtain ⟨r1, r2, r3, r4⟩ := rn_b (C := isDi (I 108)) (n := n) (n - b) b hb (by omega)
  obtain ⟨e, he⟩ : ∃ e, rn (isDi (I 108)) n (n - b) b = e := ⟨_, rfl⟩
  rw [he] at r1 r2 r3 r4 ⊢
  have es : ∀ m, m ≤ e - b → (zi (b + m) - zi b).toInt = (m : Int) := fun m hm => by
    have z1 := zi_int (n := b + m) (by omega)
    have z2 := zi_int (n := b) (by omega)
    rw [i_sub (by omega) (by omega)]
    omega
  obtain ⟨J', q1, q2⟩ := lpm0_K (B := f_X11_readNumber_5_B) (e - b) (fun k J => J = rI I (zi (b + k)) t (nv4 (I 108) b k) (zi b)) (fun _ => some (rI I (zi e) (if 4 < e - b then 5 else 1) (nv4 (I 108) b (e - b)) (zi b))) (fun k m J hm hJ => by
    refine ⟨_, rfl, ?_⟩
    rw [hJ]
    unfold f_X11_readNumber_5_B
    simp only [fq_l, rI_44, rI_46, rI_47, rI_T, rI_w44, rI_w46, M_isD hn h160 (q := b + m) (by omega), stpP]
    rw [if_pos ⟨by omega, r3 (b + m) (by omega) (by omega)⟩, es m (by omega), kt_4, zi_S (by omega), zi_cn (by omega)]
    by_cases c : m < 4
    · rw [if_pos (by omega), fq_gp ⟨by rw [zi_int (by omega)]; omega, by rw [zi_int (by omega)]; omega⟩]
      have q : nv4 (I 108) b (m + 1) = (10 : Int32) * nv4 (I 108) b m + I 108 (b + m) - 48 := by
        unfold nv4
        rw [show min (m + 1) 4 = m + 1 from by omega, show min m 4 = m from by omega, Int32.mul_comm]
        rfl
      rw [← q]
      rfl
    · rw [if_neg (by omega)]
      have q : nv4 (I 108) b (m + 1) = nv4 (I 108) b m := by
        unfold nv4
        rw [show min (m + 1) 4 = 4 from by omega, show min m 4 = 4 from by omega]
      rw [← q]
      rfl) (fun k J hJ => by
    rw [hJ]
    unfold f_X11_readNumber_5_B
    simp only [fq_l, rI_44, rI_46, rI_47, rI_T, rI_w45, M_isD hn h160 (q := b + (e - b)) (by omega), stpP]
    rw [if_neg (fun z => by
      have q := r4 (by omega)
      have z2 := z.2
      rw [show b + (e - b) = e from by omega, q] at z2
      exact absurd z2 (by decide)), es (e - b) (by omega), kt_4, show b + (e - b) = e from by omega]
    by_cases c : 4 < e - b
    · rw [if_pos (by omega), if_pos c]
    · rw [if_neg (by omega), if_neg c]) 4000 0 (rI I (zi b) t 0 (zi b)) (by omega) (by omega) rfl
  unfold f_X11_readNumber
  simp only [fq_l, rI_w46]
  exact q2
