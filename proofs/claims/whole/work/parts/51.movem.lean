/-! ===== roads: the reference ===== -/
def dnA (t : Int32) (A : fc_I) : Nat → Nat → Int32
  | 0 => A 3
  | n + 1 => upd (dnA t A n) (cn (A 10 n)) (dnA t A n (cn (A 10 n)) - mvA t A n)
def upA (t : Int32) (A : fc_I) (u : Nat → Int32) : Nat → Nat → Int32
  | 0 => u
  | n + 1 => if (A 11 n).toInt < 6 then upd (upA t A u n) (cn (A 11 n)) (upA t A u n (cn (A 11 n)) + mvA t A n) else upA t A u n
def rdQ (t : Int32) (A : fc_I) (n : Nat) : fc_I := fun r k => if r = 3 then dnA t A n k else if r = 7 then rmA t A n k else if r = 8 then shA t A n k else if r = 0 ∧ k = 11 then ouA t A n else A r k
theorem i_sab (a m b : Int32) : a - m + b = a + b - m := by
  rw [Int32.sub_eq_add_neg, Int32.sub_eq_add_neg, Int32.add_assoc, Int32.add_comm (-m) b, ← Int32.add_assoc]
theorem i_sbm (a b m c : Int32) : a - (b + m) - c = a - b - c - m := by
  simp only [Int32.sub_eq_add_neg, Int32.neg_add]
  simp only [Int32.add_assoc]
  rw [Int32.add_comm (-m) (-c)]
theorem cr_dn {t : Int32} {A : fc_I} {u : Nat → Int32} {k : Nat} (hk : u k = 0) : ∀ n, crA t A n k = dnA t A n k + upA t A u n k
  | 0 => by
    show A 3 k = A 3 k + u k
    rw [hk, Int32.add_zero]
  | n + 1 => by
    have ih := cr_dn (t := t) (A := A) hk n
    have e : upd (crA t A n) (cn (A 10 n)) (crA t A n (cn (A 10 n)) - mvA t A n) k = dnA t A (n + 1) k + upA t A u n k := by
      show _ = upd (dnA t A n) (cn (A 10 n)) (dnA t A n (cn (A 10 n)) - mvA t A n) k + _
      unfold upd
      by_cases q : k = cn (A 10 n)
      · rw [if_pos q, if_pos q, ← q, ih, ← i_sab]
      · rw [if_neg q, if_neg q, ih]
    by_cases c : (A 11 n).toInt < 6
    · have r0 : crA t A (n + 1) = upd (upd (crA t A n) (cn (A 10 n)) (crA t A n (cn (A 10 n)) - mvA t A n)) (cn (A 11 n)) ((upd (crA t A n) (cn (A 10 n)) (crA t A n (cn (A 10 n)) - mvA t A n)) (cn (A 11 n)) + mvA t A n) := by show (if _ then _ else _) = _; rw [if_pos c]
      have r1 : upA t A u (n + 1) = upd (upA t A u n) (cn (A 11 n)) (upA t A u n (cn (A 11 n)) + mvA t A n) := by show (if _ then _ else _) = _; rw [if_pos c]
      rw [r0, r1]
      generalize upd (crA t A n) (cn (A 10 n)) (crA t A n (cn (A 10 n)) - mvA t A n) = g at *
      unfold upd
      by_cases q : k = cn (A 11 n)
      · rw [if_pos q, if_pos q, ← q, e, Int32.add_assoc]
      · rw [if_neg q, if_neg q, e]
    · have r0 : crA t A (n + 1) = upd (crA t A n) (cn (A 10 n)) (crA t A n (cn (A 10 n)) - mvA t A n) := by show (if _ then _ else _) = _; rw [if_neg c]
      have r1 : upA t A u (n + 1) = upA t A u n := by show (if _ then _ else _) = _; rw [if_neg c]
      rw [r0, r1, e]
theorem cr_hi {t : Int32} {A : fc_I} (hw : Wh A) {k : Nat} (hk : (A 0 2).toInt ≤ (k : Int)) : ∀ n : Nat, (n : Int) ≤ (A 0 4).toInt → crA t A n k = A 3 k ∧ dnA t A n k = A 3 k
  | 0, _ => ⟨rfl, rfl⟩
  | n + 1, hn => by
    obtain ⟨i1, i2⟩ := cr_hi (t := t) hw hk n (by omega)
    obtain ⟨g1, ⟨g2, g3, g4⟩, g5, g6⟩ := wr_go hw (n := n) (by omega)
    have q1 := cn_int g2
    have q2 := cn_int g5
    have n1 : ¬ k = cn (A 10 n) := by omega
    have d1 : dnA t A (n + 1) k = A 3 k := by
      show upd _ _ _ k = _
      unfold upd
      rw [if_neg n1, i2]
    refine ⟨?_, d1⟩
    by_cases c : (A 11 n).toInt < 6
    · have r0 : crA t A (n + 1) = upd (upd (crA t A n) (cn (A 10 n)) (crA t A n (cn (A 10 n)) - mvA t A n)) (cn (A 11 n)) ((upd (crA t A n) (cn (A 10 n)) (crA t A n (cn (A 10 n)) - mvA t A n)) (cn (A 11 n)) + mvA t A n) := by show (if _ then _ else _) = _; rw [if_pos c]
      rw [r0]
      unfold upd
      rw [if_neg (show ¬ k = cn (A 11 n) by omega), if_neg n1, i1]
    · have r0 : crA t A (n + 1) = upd (crA t A n) (cn (A 10 n)) (crA t A n (cn (A 10 n)) - mvA t A n) := by show (if _ then _ else _) = _; rw [if_neg c]
      rw [r0]
      unfold upd
      rw [if_neg n1, i1]
theorem dn_way {t : Int32} {A : fc_I} (hw : Wh A) {z m : Nat} (hz : (A 6 z).toInt = (m : Int)) : ∀ n : Nat, n ≤ m → (n : Int) ≤ (A 0 4).toInt → dnA t A n z = A 3 z
  | 0, _, _ => rfl
  | n + 1, h1, h2 => by
    have ih := dn_way (t := t) hw hz n (by omega) (by omega)
    show upd _ _ _ z = _
    unfold upd
    by_cases c : z = cn (A 10 n)
    · rw [if_pos c, ← c, ih]
      have q := (mvA_b (t := t) hw (r := n) (by omega)).2.2 (by rw [← c, hz]; omega)
      rw [q, Int32.sub_zero]
    · rw [if_neg c, ih]
theorem rdQ_o {t : Int32} {A : fc_I} {n r : Nat} (h : r ≠ 3 ∧ r ≠ 7 ∧ r ≠ 8 ∧ r ≠ 0) : rdQ t A n r = A r := by
  funext k
  unfold rdQ
  rw [if_neg h.1, if_neg h.2.1, if_neg h.2.2.1, if_neg (fun z => h.2.2.2 z.1)]
theorem rdQ_0 {t : Int32} {A : fc_I} {n k : Nat} (h : k ≠ 11) : rdQ t A n 0 k = A 0 k := by
  unfold rdQ
  simp [h]
theorem rdQ_00 {t : Int32} {A : fc_I} : rdQ t A 0 = A := by
  funext r k
  unfold rdQ dnA rmA shA ouA
  by_cases h3 : r = 3
  · subst h3; simp
  by_cases h7 : r = 7
  · subst h7; simp
  by_cases h8 : r = 8
  · subst h8; simp
  by_cases h0 : r = 0 ∧ k = 11
  · rw [h0.1, h0.2]; simp
  simp [h3, h7, h8, h0]
theorem rdQ_skip {t : Int32} {A : fc_I} {u : Nat → Int32} {n : Nat} (h : mvA t A n = 0) : rdQ t A (n + 1) = rdQ t A n ∧ upA t A u (n + 1) = upA t A u n := by
  have d : dnA t A (n + 1) = dnA t A n := by
    show upd _ _ _ = _
    rw [h, Int32.sub_zero, upd_id rfl]
  have s : shA t A (n + 1) = shA t A n := by
    show (if _ then _ else _) = _
    split
    · rw [h, Int32.add_zero, upd_id rfl]
    · rfl
  have o : ouA t A (n + 1) = ouA t A n := by
    show (if _ then _ else _) = _
    split
    · rfl
    · rw [h, Int32.add_zero]
  have m : rmA t A (n + 1) = rmA t A n := by
    by_cases c : isS A n
    · have e : mvA t A n = imin (baA t A n) (rmA t A n (cn (A 11 n) - 10)) := by unfold mvA; rw [if_pos c]
      show (if _ then _ else _) = _
      rw [if_pos c, ← e, h, Int32.sub_zero, upd_id rfl]
    · show (if _ then _ else _) = _
      rw [if_neg c]
  refine ⟨?_, ?_⟩
  · unfold rdQ
    rw [d, s, o, m]
  · show (if _ then _ else _) = _
    split
    · rw [h, Int32.add_zero, upd_id rfl]
    · rfl
theorem rdQ_go {t : Int32} {A : fc_I} {n : Nat} : rdQ t A (n + 1) = if (A 11 n).toInt < 6 then fc_wI (rdQ t A n) 3 (cn (A 10 n)) (dnA t A n (cn (A 10 n)) - mvA t A n) else if isS A n then fc_wI (fc_wI (fc_wI (rdQ t A n) 8 (cn (A 11 n) - 10) (shA t A n (cn (A 11 n) - 10) + mvA t A n)) 7 (cn (A 11 n) - 10) (rmA t A n (cn (A 11 n) - 10) - mvA t A n)) 3 (cn (A 10 n)) (dnA t A n (cn (A 10 n)) - mvA t A n) else fc_wI (fc_wI (rdQ t A n) 0 11 (ouA t A n + mvA t A n)) 3 (cn (A 10 n)) (dnA t A n (cn (A 10 n)) - mvA t A n) := by
  have d : dnA t A (n + 1) = upd (dnA t A n) (cn (A 10 n)) (dnA t A n (cn (A 10 n)) - mvA t A n) := rfl
  by_cases c : (A 11 n).toInt < 6
  · have c2 : ¬ isS A n := fun z => by have := z.1; omega
    have o : ouA t A (n + 1) = ouA t A n := by show (if _ then _ else _) = _; rw [if_pos (Or.inl c)]
    have s : shA t A (n + 1) = shA t A n := by show (if _ then _ else _) = _; rw [if_neg c2]
    have m : rmA t A (n + 1) = rmA t A n := by show (if _ then _ else _) = _; rw [if_neg c2]
    rw [if_pos c]
    funext r k
    unfold rdQ fc_wI
    rw [o, s, d, m]
    by_cases h3 : r = 3
    · subst h3
      simp [upd]
    · simp [h3]
  · rw [if_neg c]
    by_cases c2 : isS A n
    · have o : ouA t A (n + 1) = ouA t A n := by show (if _ then _ else _) = _; rw [if_pos (Or.inr c2)]
      have s : shA t A (n + 1) = upd (shA t A n) (cn (A 11 n) - 10) (shA t A n (cn (A 11 n) - 10) + mvA t A n) := by show (if _ then _ else _) = _; rw [if_pos c2]
      have e : mvA t A n = imin (baA t A n) (rmA t A n (cn (A 11 n) - 10)) := by unfold mvA; rw [if_pos c2]
      have m : rmA t A (n + 1) = upd (rmA t A n) (cn (A 11 n) - 10) (rmA t A n (cn (A 11 n) - 10) - mvA t A n) := by rw [e]; show (if _ then _ else _) = _; rw [if_pos c2]
      rw [if_pos c2]
      funext r k
      unfold rdQ fc_wI
      rw [o, s, d, m]
      by_cases h3 : r = 3
      · subst h3
        simp [upd]
      · by_cases h8 : r = 8
        · subst h8
          simp [upd]
        · by_cases h7 : r = 7
          · subst h7
            simp [upd]
          · simp [h3, h8, h7]
    · have o : ouA t A (n + 1) = ouA t A n + mvA t A n := by show (if _ then _ else _) = _; rw [if_neg (fun z => by rcases z with z | z; exact c z; exact c2 z)]
      have s : shA t A (n + 1) = shA t A n := by show (if _ then _ else _) = _; rw [if_neg c2]
      have m : rmA t A (n + 1) = rmA t A n := by show (if _ then _ else _) = _; rw [if_neg c2]
      rw [if_neg c2]
      funext r k
      unfold rdQ fc_wI
      rw [o, s, d, m]
      by_cases h3 : r = 3
      · subst h3
        simp [upd]
      · by_cases h0 : r = 0 ∧ k = 11
        · rw [h0.1, h0.2]
          simp
        · simp [h3, h0]
