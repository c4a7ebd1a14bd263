/-- the reference's sort of the token -/
def tkR (T : Nat → Int32) (n b : Nat) : Int32 := if n ≤ b then 0 else if isLe T b = true then tW (wid T b (tkE T n b - b)) else if isDi T b = true then (if 4 < tkE T n b - b then 5 else 1) else if isSg (T b) then 3 else 5
/-- the reference's worth of the token -/
def tkU (T : Nat → Int32) (n b : Nat) : Int32 := if isLe T b = true then vW (wid T b (tkE T n b - b)) 0 else if isDi T b = true then nvC T b (tkE T n b - b) else T b
theorem M_word {I : fc_I} {n b : Nat} {t w : Int32} (hC : mC I) (hn : (I 78 39).toInt = (n : Int)) (h160 : n ≤ 160) (hb : b ≤ n) : f_X11_readWord (rI I (zi b) t w (zi b)) = some (rI I (zi (rn (isLe (I 108)) n (n - b) b)) (tW (wid (I 108) b (rn (isLe (I 108)) n (n - b) b - b))) (vW (wid (I 108) b (rn (isLe (I 108)) n (n - b) b - b)) w) (zi b)) := by
  obtain ⟨r1, r2, r3, r4⟩ := rn_b (C := isLe (I 108)) (n := n) (n - b) b hb (by omega)
  obtain ⟨e, he⟩ : ∃ e, rn (isLe (I 108)) n (n - b) b = e := ⟨_, rfl⟩
  rw [he] at r1 r2 r3 r4 ⊢
  obtain ⟨J', q1, q2⟩ := lpm0_K (B := f_X11_readWord_0_B) (e - b) (fun k J => J = rI I (zi (b + k)) t w (zi b)) (fun J => f_X11_readWord_31 4000 0 (fc_wI J 78 45 5)) (fun k m J hm hJ => by
    refine ⟨_, rfl, ?_⟩
    rw [hJ]
    unfold f_X11_readWord_0_B
    simp only [fq_l, rI_44, rI_w44, M_isL hn h160 (q := b + m) (by omega), stpP]
    rw [if_pos ⟨by omega, r3 (b + m) (by omega) (by omega)⟩, zi_S (by omega)]
    rfl) (fun k J hJ => by
    rw [hJ]
    unfold f_X11_readWord_0_B
    simp only [fq_l, rI_44, M_isL hn h160 (q := b + (e - b)) (by omega), stpP]
    rw [if_neg (fun z => by
      have q := r4 (by omega)
      have z2 := z.2
      rw [show b + (e - b) = e from by omega, q] at z2
      exact absurd z2 (by decide))]) 4000 0 (rI I (zi b) t w (zi b)) (by omega) (by omega) rfl
  show lpm0 f_X11_readWord_0_B 4000 _ = _
  rw [q2, q1, show b + (e - b) = e from by omega, rI_w45]
  exact M_w31 hC r1 (by omega)
theorem M_n52 {I : fc_I} {n b : Nat} {t w p : Int32} (hC : mC I) (hn : (I 78 39).toInt = (n : Int)) (h160 : n ≤ 160) (hb : b ≤ n) : ∃ w', f_X11_next_52 (rI I (zi b) t w p) = some (rI I (zi (tkE (I 108) n b)) (tkR (I 108) n b) w' (zi b)) ∧ (tkR (I 108) n b ≠ 0 → tkR (I 108) n b ≠ 5 → w' = tkU (I 108) n b) := by
  unfold f_X11_next_52
  simp only [fq_l, rI_44, rI_w47, rI_39, hn, zi_int (n := b) (by omega), zi_cn (n := b) (by omega), M_isL hn h160 (q := b) (by omega), M_isD hn h160 (q := b) (by omega), stpP]
  by_cases c : b < n
  · have c' : ¬ n ≤ b := by omega
    rw [if_neg (by omega)]
    by_cases l : isLe (I 108) b = true
    · have eE : tkE (I 108) n b = rn (isLe (I 108)) n (n - b) b := by
        unfold tkE
        rw [if_neg c', if_pos l]
      have eK : tkR (I 108) n b = tW (wid (I 108) b (tkE (I 108) n b - b)) := by
        unfold tkR
        rw [if_neg c', if_pos l]
      rw [if_pos ⟨c, l⟩, M_word hC hn h160 hb, fq_usome, eK, eE]
      refine ⟨_, rfl, ?_⟩
      intro h0 h5
      unfold tkU
      rw [if_pos l, eE]
      generalize wid (I 108) b (rn (isLe (I 108)) n (n - b) b - b) = W at h5
      unfold tW at h5
      unfold vW
      by_cases w0 : W = 0
      · rw [if_pos w0] at h5
        exact absurd rfl h5
      · rw [if_neg w0, if_neg w0]
    · rw [if_neg (fun z => l z.2)]
      by_cases d : isDi (I 108) b = true
      · have eE : tkE (I 108) n b = rn (isDi (I 108)) n (n - b) b := by
          unfold tkE
          rw [if_neg c', if_neg l, if_pos d]
        have eK : tkR (I 108) n b = if 4 < tkE (I 108) n b - b then 5 else 1 := by
          unfold tkR
          rw [if_neg c', if_neg l, if_pos d]
        rw [if_pos ⟨c, d⟩, M_num hn h160 hb, fq_usome, eK, eE]
        refine ⟨_, rfl, ?_⟩
        intro h0 h5
        unfold tkU nv4
        rw [if_neg l, if_pos d, eE]
        by_cases g : 4 < rn (isDi (I 108)) n (n - b) b - b
        · rw [if_pos g] at h5
          exact absurd rfl h5
        · rw [show min (rn (isDi (I 108)) n (n - b) b - b) 4 = rn (isDi (I 108)) n (n - b) b - b from by omega]
      · have eE : tkE (I 108) n b = b + 1 := by
          unfold tkE
          rw [if_neg c', if_neg l, if_neg d]
        have eK : tkR (I 108) n b = if isSg (I 108 b) then 3 else 5 := by
          unfold tkR
          rw [if_neg c', if_neg l, if_neg d]
        have eU : tkU (I 108) n b = I 108 b := by
          unfold tkU
          rw [if_neg l, if_neg d]
        have e200 : f_X11_next_200 (rI I (zi b) t (I 108 b) (zi b)) = some (rI I (zi (b + 1)) 3 (I 108 b) (zi b)) := by
          unfold f_X11_next_200
          simp only [fq_l, rI_44, rI_w45, rI_w44]
          rw [zi_S (by omega)]
        rw [if_neg (fun z => d z.2), fq_gp ⟨by rw [zi_int (by omega)]; omega, by rw [zi_int (by omega)]; omega⟩, eE, eK, eU]
        simp only [rI_T, rI_46, rI_w46, rI_w45, rI_w44, rI_44, e200, zi_S (n := b) (by omega)]
        have k40 : (40 : Int32).toInt = 40 := rfl
        have k45 : (45 : Int32).toInt = 45 := rfl
        simp only [k40, kt_41, kt_59, kt_43, k45, kt_42, kt_60, kt_61]
        refine ⟨I 108 b, ?_, fun _ _ => rfl⟩
        by_cases s : isSg (I 108 b)
        · rw [if_pos s]
          repeat' split
          all_goals first | rfl | (exfalso; omega)
        · rw [if_neg s]
          repeat' split
          all_goals first | rfl | (exfalso; omega)
  · have c' : n ≤ b := by omega
    have eE : tkE (I 108) n b = b := by
      unfold tkE
      rw [if_pos c']
    have eK : tkR (I 108) n b = 0 := by
      unfold tkR
      rw [if_pos c']
    rw [if_pos (by omega), eE, eK]
    simp only [rI_w45]
    refine ⟨_, rfl, ?_⟩
    intro h
    exact absurd rfl h
theorem e_nextM {I : fc_I} {n p : Nat} (hC : mC I) (hn : (I 78 39).toInt = (n : Int)) (h160 : n ≤ 160) (hp : p ≤ n) (h6 : I 78 44 = zi p) : ∃ w', f_X11_next I = some (rI I (zi (tkE (I 108) n (tkB (I 108) n p))) (tkR (I 108) n (tkB (I 108) n p)) w' (zi (tkB (I 108) n p))) ∧ (tkR (I 108) n (tkB (I 108) n p) ≠ 0 → tkR (I 108) n (tkB (I 108) n p) ≠ 5 → w' = tkU (I 108) n (tkB (I 108) n p)) := by
  obtain ⟨r1, r2, r3, r4⟩ := rn_b (C := isBl (I 108)) (n := n) (n - p) p hp (by omega)
  have he : tkB (I 108) n p = rn (isBl (I 108)) n (n - p) p := rfl
  rw [← he] at r1 r2 r3 r4
  generalize tkB (I 108) n p = e at r1 r2 r3 r4
  have k32 : (32 : Int32).toInt = 32 := rfl
  have k10 : (10 : Int32).toInt = 10 := rfl
  obtain ⟨J', q1, q2⟩ := lpm0_K (B := f_X11_next_0_B) (e - p) (fun k J => J = rI I (zi (p + k)) (I 78 45) (I 78 46) (I 78 47)) (fun J => f_X11_next_52 J) (fun k m J hm hJ => by
    refine ⟨_, rfl, ?_⟩
    rw [hJ]
    have q : (I 108 (p + m)).toInt = 32 ∨ (I 108 (p + m)).toInt = 10 := of_decide_eq_true (r3 (p + m) (by omega) (by omega))
    have gp : ∀ k : Option fc_I, fq_g 160 (zi (p + m)) k = k := fun k => fq_gp ⟨by rw [zi_int (by omega)]; omega, by rw [zi_int (by omega)]; omega⟩
    unfold f_X11_next_0_B
    simp only [fq_l, rI_39, rI_44, rI_T, rI_w44, hn, zi_int (n := p + m) (by omega), zi_cn (n := p + m) (by omega), k32, k10]
    rw [if_pos (by omega), gp, gp, zi_S (by omega)]
    by_cases a : (I 108 (p + m)).toInt = 32
    · rw [if_pos a]
      rfl
    · rw [if_neg a, if_pos (by omega)]
      rfl) (fun k J hJ => by
    rw [hJ, show p + (e - p) = e from by omega]
    unfold f_X11_next_0_B
    simp only [fq_l, rI_39, rI_44, rI_T, hn, zi_int (n := e) (by omega), zi_cn (n := e) (by omega), k32, k10]
    by_cases c : e < n
    · have q := r4 c
      have q' : ¬((I 108 e).toInt = 32 ∨ (I 108 e).toInt = 10) := of_decide_eq_false q
      have gp : ∀ k : Option fc_I, fq_g 160 (zi e) k = k := fun k => fq_gp ⟨by rw [zi_int (by omega)]; omega, by rw [zi_int (by omega)]; omega⟩
      rw [if_pos (by omega), gp, gp, if_neg (by omega), if_neg (by omega)]
    · rw [if_neg (by omega)]) 4000 0 I (by omega) (by omega) (by
      show I = rI I (zi p) (I 78 45) (I 78 46) (I 78 47)
      rw [← h6]
      exact rI_self.symm)
  have q3 : f_X11_next I = f_X11_next_52 J' := q2
  rw [q3, q1, show p + (e - p) = e from by omega]
  exact M_n52 hC hn h160 r2
