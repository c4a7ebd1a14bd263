/-! ===== the reference's next token: all ===== -/
def wdB (j k : Nat) : Bool := decide (j = 0) || decide (k = 0) || decide (j = k) || decide (fc_len.getD j 0 ≠ fc_len.getD k 0) || !((List.range (fc_len.getD j 0)).all (fun i => decide ((fc_byt.getD j []).getD i 0 = (fc_byt.getD k []).getD i 0)))
theorem wdB_t : ∀ j, j < 12 → ∀ k, k < 12 → wdB j k = true := by decide +kernel
theorem wd_ne (j : Nat) (hj : j < 12) (k : Nat) (hk : k < 12) (j1 : 1 ≤ j) (k1 : 1 ≤ k) (h : j ≠ k) : fc_len.getD j 0 ≠ fc_len.getD k 0 ∨ ¬ ∀ i, i < fc_len.getD j 0 → (fc_byt.getD j []).getD i 0 = (fc_byt.getD k []).getD i 0 := by
  have q := wdB_t j hj k hk
  unfold wdB at q
  rw [decide_eq_false (show ¬ j = 0 by omega), decide_eq_false (show ¬ k = 0 by omega), decide_eq_false h, Bool.false_or, Bool.false_or, Bool.false_or] at q
  rcases Bool.or_eq_true_iff.mp q with a | a
  · exact Or.inl (of_decide_eq_true a)
  · right
    intro z
    have y : (List.range (fc_len.getD j 0)).all (fun i => decide ((fc_byt.getD j []).getD i 0 = (fc_byt.getD k []).getD i 0)) = true := List.all_eq_true.mpr (fun i hi => decide_eq_true (z i (List.mem_range.mp hi)))
    rw [y] at a
    exact absurd a (by decide)
theorem weq_ne {T : Nat → Int32} {p len j k : Nat} (hj : j < 12) (hk : k < 12) (j1 : 1 ≤ j) (k1 : 1 ≤ k) (h : j ≠ k) (q : weq T p len k = true) : ¬ weq T p len j = true := by
  intro r
  have lj : len = fc_len.getD j 0 := by
    unfold weq at r
    exact of_decide_eq_true (Bool.and_eq_true_iff.mp r).1
  have lk : len = fc_len.getD k 0 := by
    unfold weq at q
    exact of_decide_eq_true (Bool.and_eq_true_iff.mp q).1
  rcases wd_ne j hj k hk j1 k1 h with a | a
  · exact a (lj.symm.trans lk)
  · refine a (fun i hi => ?_)
    have r2 := (weq_iff rfl lj).mp r i hi
    have q2 := (weq_iff rfl lk).mp q i (by rw [← lk, lj]; exact hi)
    exact r2.symm.trans q2
theorem wid_is {T : Nat → Int32} {p len : Nat} : ∀ k, 1 ≤ k → k < 12 → weq T p len k = true → wid T p len = k := by
  intro k h1 h2 q
  have nn : ∀ j, 1 ≤ j → j < k → ¬ weq T p len j = true := fun j j1 j2 => weq_ne (by omega) h2 j1 h1 (by omega) q
  unfold wid
  by_cases c1 : k = 1
  · subst c1
    rw [if_pos q]
  by_cases c2 : k = 2
  · subst c2
    rw [if_neg (nn 1 (by omega) (by omega)), if_pos q]
  by_cases c3 : k = 3
  · subst c3
    rw [if_neg (nn 1 (by omega) (by omega)), if_neg (nn 2 (by omega) (by omega)), if_pos q]
  by_cases c4 : k = 4
  · subst c4
    rw [if_neg (nn 1 (by omega) (by omega)), if_neg (nn 2 (by omega) (by omega)), if_neg (nn 3 (by omega) (by omega)), if_pos q]
  by_cases c5 : k = 5
  · subst c5
    rw [if_neg (nn 1 (by omega) (by omega)), if_neg (nn 2 (by omega) (by omega)), if_neg (nn 3 (by omega) (by omega)), if_neg (nn 4 (by omega) (by omega)), if_pos q]
  by_cases c6 : k = 6
  · subst c6
    rw [if_neg (nn 1 (by omega) (by omega)), if_neg (nn 2 (by omega) (by omega)), if_neg (nn 3 (by omega) (by omega)), if_neg (nn 4 (by omega) (by omega)), if_neg (nn 5 (by omega) (by omega)), if_pos q]
  by_cases c7 : k = 7
  · subst c7
    rw [if_neg (nn 1 (by omega) (by omega)), if_neg (nn 2 (by omega) (by omega)), if_neg (nn 3 (by omega) (by omega)), if_neg (nn 4 (by omega) (by omega)), if_neg (nn 5 (by omega) (by omega)), if_neg (nn 6 (by omega) (by omega)), if_pos q]
  by_cases c8 : k = 8
  · subst c8
    rw [if_neg (nn 1 (by omega) (by omega)), if_neg (nn 2 (by omega) (by omega)), if_neg (nn 3 (by omega) (by omega)), if_neg (nn 4 (by omega) (by omega)), if_neg (nn 5 (by omega) (by omega)), if_neg (nn 6 (by omega) (by omega)), if_neg (nn 7 (by omega) (by omega)), if_pos q]
  by_cases c9 : k = 9
  · subst c9
    rw [if_neg (nn 1 (by omega) (by omega)), if_neg (nn 2 (by omega) (by omega)), if_neg (nn 3 (by omega) (by omega)), if_neg (nn 4 (by omega) (by omega)), if_neg (nn 5 (by omega) (by omega)), if_neg (nn 6 (by omega) (by omega)), if_neg (nn 7 (by omega) (by omega)), if_neg (nn 8 (by omega) (by omega)), if_pos q]
  by_cases c10 : k = 10
  · subst c10
    rw [if_neg (nn 1 (by omega) (by omega)), if_neg (nn 2 (by omega) (by omega)), if_neg (nn 3 (by omega) (by omega)), if_neg (nn 4 (by omega) (by omega)), if_neg (nn 5 (by omega) (by omega)), if_neg (nn 6 (by omega) (by omega)), if_neg (nn 7 (by omega) (by omega)), if_neg (nn 8 (by omega) (by omega)), if_neg (nn 9 (by omega) (by omega)), if_pos q]
  by_cases c11 : k = 11
  · subst c11
    rw [if_neg (nn 1 (by omega) (by omega)), if_neg (nn 2 (by omega) (by omega)), if_neg (nn 3 (by omega) (by omega)), if_neg (nn 4 (by omega) (by omega)), if_neg (nn 5 (by omega) (by omega)), if_neg (nn 6 (by omega) (by omega)), if_neg (nn 7 (by omega) (by omega)), if_neg (nn 8 (by omega) (by omega)), if_neg (nn 9 (by omega) (by omega)), if_neg (nn 10 (by omega) (by omega)), if_pos q]
  exfalso
  omega
theorem wid_w {T : Nat → Int32} {p len : Nat} : wid T p len < 12 ∧ (wid T p len = 0 ∨ weq T p len (wid T p len) = true) := by
  unfold wid
  by_cases c1 : weq T p len 1 = true
  · rw [if_pos c1]
    exact ⟨by decide, Or.inr c1⟩
  rw [if_neg c1]
  by_cases c2 : weq T p len 2 = true
  · rw [if_pos c2]
    exact ⟨by decide, Or.inr c2⟩
  rw [if_neg c2]
  by_cases c3 : weq T p len 3 = true
  · rw [if_pos c3]
    exact ⟨by decide, Or.inr c3⟩
  rw [if_neg c3]
  by_cases c4 : weq T p len 4 = true
  · rw [if_pos c4]
    exact ⟨by decide, Or.inr c4⟩
  rw [if_neg c4]
  by_cases c5 : weq T p len 5 = true
  · rw [if_pos c5]
    exact ⟨by decide, Or.inr c5⟩
  rw [if_neg c5]
  by_cases c6 : weq T p len 6 = true
  · rw [if_pos c6]
    exact ⟨by decide, Or.inr c6⟩
  rw [if_neg c6]
  by_cases c7 : weq T p len 7 = true
  · rw [if_pos c7]
    exact ⟨by decide, Or.inr c7⟩
  rw [if_neg c7]
  by_cases c8 : weq T p len 8 = true
  · rw [if_pos c8]
    exact ⟨by decide, Or.inr c8⟩
  rw [if_neg c8]
  by_cases c9 : weq T p len 9 = true
  · rw [if_pos c9]
    exact ⟨by decide, Or.inr c9⟩
  rw [if_neg c9]
  by_cases c10 : weq T p len 10 = true
  · rw [if_pos c10]
    exact ⟨by decide, Or.inr c10⟩
  rw [if_neg c10]
  by_cases c11 : weq T p len 11 = true
  · rw [if_pos c11]
    exact ⟨by decide, Or.inr c11⟩
  rw [if_neg c11]
  exact ⟨by decide, Or.inl rfl⟩
theorem wid_iff {T : Nat → Int32} {p len k : Nat} (h1 : 1 ≤ k) (h2 : k < 12) : weq T p len k = true ↔ wid T p len = k := by
  constructor
  · exact wid_is k h1 h2
  · intro h
    rcases (wid_w (T := T) (p := p) (len := len)).2 with a | a
    · omega
    · rw [h] at a
      exact a
def tW (W : Nat) : Int32 := if W = 0 then 5 else if W < 7 then 2 else 4
def vW (W : Nat) (w : Int32) : Int32 := if W = 0 then w else if W < 7 then zi (W - 1) else zi (W - 7)
theorem M_w75n {I : fc_I} {m L : Nat} {k31 : Int32 → fc_I → Option fc_I} (hm : m < 11) (hL : 0 < L) (hL2 : L < 10) : f_X11_readWord_75 (zi m) (zi L) k31 4000 0 0 I = k31 (zi (m + 1)) I := by
  have q : f_X11_readWord_75 (zi m) (zi L) k31 4000 0 0 I = f_X11_readWord_75_B (zi m) (zi L) k31 (lpm2 (f_X11_readWord_75_B (zi m) (zi L) k31) 3999) 0 0 I := rfl
  rw [q]
  unfold f_X11_readWord_75_B
  simp only [fq_l]
  rw [kt_0, if_pos (by rw [zi_int (by omega)]; omega), if_pos rfl, if_pos rfl, zi_S (by omega)]
theorem M_w31 {I : fc_I} {e b : Nat} {w : Int32} (hC : mC I) (hb : b ≤ e) (he : e ≤ 160) : f_X11_readWord_31 4000 0 (rI I (zi e) 5 w (zi b)) = some (rI I (zi e) (tW (wid (I 108) b (e - b))) (vW (wid (I 108) b (e - b)) w) (zi b)) := by
  obtain ⟨w12, hw⟩ := wid_w (T := I 108) (p := b) (len := e - b)
  have wi := fun k => wid_iff (T := I 108) (p := b) (len := e - b) (k := k)
  generalize wid (I 108) b (e - b) = W at w12 hw wi
  obtain ⟨J', q1, q2⟩ := lpm1_K (B := f_X11_readWord_31_B) 11 (by omega) (fun m J => J = rI I (zi e) (if 1 ≤ W ∧ W ≤ m then tW W else 5) (if 1 ≤ W ∧ W ≤ m then vW W w else w) (zi b)) (fun J => some J) (fun k i m J hi hm hJ => by
    have hi' : i = zi m := zi_of hi (by omega)
    obtain ⟨o1, o2, o3, o4⟩ := offN_d m hm
    obtain ⟨L, hL⟩ : ∃ L, fc_len.getD (m + 1) 0 = L := ⟨_, rfl⟩
    rw [hL] at o1 o3 o4
    have y : I 112 (m + 1) - I 112 m = zi L := by
      rw [hC.2 m (by omega), hC.2 (m + 1) (by omega), offN_b m (by omega), offN_b (m + 1) (by omega)]
      refine zi_of ?_ (by omega)
      have z1 := zi_int (n := offN m) (by omega)
      have z2 := zi_int (n := offN (m + 1)) (by omega)
      rw [i_sub (by omega) (by omega)]
      omega
    have es : (zi e - zi b).toInt = ((e - b : Nat) : Int) := by
      have z1 := zi_int (n := e) (by omega)
      have z2 := zi_int (n := b) (by omega)
      rw [i_sub (by omega) (by omega)]
      omega
    have k11 : (11 : Int32).toInt = 11 := rfl
    have hB : f_X11_readWord_31_B k i J = if weq (I 108) b (e - b) (m + 1) = true then k (zi (m + 1)) (wmI I e b m) else k (zi (m + 1)) J := by
      rw [hi', hJ]
      generalize (if 1 ≤ W ∧ W ≤ m then tW W else 5) = t1
      generalize (if 1 ≤ W ∧ W ≤ m then vW W w else w) = w1
      unfold f_X11_readWord_31_B
      simp only [fq_l, rI_B, rI_44, rI_47, zi_S (n := m) (by omega), zi_cn (n := m) (by omega), zi_cn (n := m + 1) (by omega), y]
      rw [k11, if_pos (by rw [zi_int (by omega)]; omega), fq_gp ⟨by rw [zi_int (by omega)]; omega, by rw [zi_int (by omega)]; omega⟩, fq_gp ⟨by rw [zi_int (by omega)]; omega, by rw [zi_int (by omega)]; omega⟩, es, zi_int (by omega)]
      by_cases c : e - b = L
      · rw [if_pos (by omega)]
        exact M_w75 hC hb he hm hL c
      · rw [if_neg (by omega), M_w75n hm o3 o4, if_neg]
        intro z
        unfold weq at z
        have z2 := of_decide_eq_true (Bool.and_eq_true_iff.mp z).1
        exact c (z2.trans hL)
    rw [hB, hi', zi_S (by omega)]
    by_cases c : W = m + 1
    · rw [if_pos ((wi (m + 1) (by omega) (by omega)).mpr c)]
      refine ⟨_, ?_, rfl⟩
      have t1 : (if 1 ≤ W ∧ W ≤ m + 1 then tW W else 5) = (if m < 6 then 2 else 4) := by
        rw [if_pos ⟨by omega, by omega⟩]
        unfold tW
        rw [if_neg (show ¬ W = 0 by omega)]
        by_cases d : m < 6
        · rw [if_pos d, if_pos (by omega)]
        · rw [if_neg d, if_neg (by omega)]
      have t2 : (if 1 ≤ W ∧ W ≤ m + 1 then vW W w else w) = (if m < 6 then zi m else zi (m - 6)) := by
        rw [if_pos ⟨by omega, by omega⟩]
        unfold vW
        rw [if_neg (show ¬ W = 0 by omega)]
        by_cases d : m < 6
        · rw [if_pos d, if_pos (by omega), show W - 1 = m from by omega]
        · rw [if_neg d, if_neg (by omega), show W - 7 = m - 6 from by omega]
      show wmI I e b m = rI I (zi e) _ _ (zi b)
      rw [t1, t2]
      rfl
    · rw [if_neg (fun z => c ((wi (m + 1) (by omega) (by omega)).mp z))]
      refine ⟨_, ?_, rfl⟩
      rw [hJ]
      by_cases d : 1 ≤ W ∧ W ≤ m
      · rw [if_pos d, if_pos d, if_pos ⟨d.1, by omega⟩, if_pos ⟨d.1, by omega⟩]
      · rw [if_neg d, if_neg d, if_neg (fun z => d ⟨z.1, by omega⟩), if_neg (fun z => d ⟨z.1, by omega⟩)]) (fun k i J hi hJ => by
    have k11 : (11 : Int32).toInt = 11 := rfl
    unfold f_X11_readWord_31_B
    rw [k11, if_neg (by omega)]) 4000 0 0 (rI I (zi e) 5 w (zi b)) kt_0 (by omega) (by omega) (by
      have n1 : ¬ (1 ≤ W ∧ W ≤ 0) := by omega
      show rI I (zi e) 5 w (zi b) = rI I (zi e) (if 1 ≤ W ∧ W ≤ 0 then tW W else 5) (if 1 ≤ W ∧ W ≤ 0 then vW W w else w) (zi b)
      rw [if_neg n1, if_neg n1])
  show lpm1 f_X11_readWord_31_B 4000 0 _ = _
  rw [q2, q1]
  by_cases c : W = 0
  · have n1 : ¬ (1 ≤ W ∧ W ≤ 11) := by omega
    rw [if_neg n1, if_neg n1]
    unfold tW vW
    rw [if_pos c, if_pos c]
  · have n1 : 1 ≤ W ∧ W ≤ 11 := by omega
    rw [if_pos n1, if_pos n1]
