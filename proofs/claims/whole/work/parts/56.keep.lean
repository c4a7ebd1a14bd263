/-! ===== bounds hold through an hour; in a wet zone nothing changes ===== -/
def s6 (g : Nat → Int32) : Int := (g 0).toInt + (g 1).toInt + (g 2).toInt + (g 3).toInt + (g 4).toInt + (g 5).toInt
theorem s6_upd {g : Nat → Int32} {k : Nat} {v : Int32} (hk : k < 6) : s6 (upd g k v) = s6 g - (g k).toInt + v.toInt := by
  unfold s6 upd
  rcases (show k = 0 ∨ k = 1 ∨ k = 2 ∨ k = 3 ∨ k = 4 ∨ k = 5 by omega) with rfl | rfl | rfl | rfl | rfl | rfl <;> simp <;> omega
theorem s6_le {g : Nat → Int32} (h : ∀ z, z < 6 → 0 ≤ (g z).toInt) {k : Nat} (hk : k < 6) : (g k).toInt ≤ s6 g := by
  have h0 := h 0 (by omega)
  have h1 := h 1 (by omega)
  have h2 := h 2 (by omega)
  have h3 := h 3 (by omega)
  have h4 := h 4 (by omega)
  have h5 := h 5 (by omega)
  unfold s6
  rcases (show k = 0 ∨ k = 1 ∨ k = 2 ∨ k = 3 ∨ k = 4 ∨ k = 5 by omega) with rfl | rfl | rfl | rfl | rfl | rfl <;> omega
theorem s6_mono {g h : Nat → Int32} (q : ∀ z, z < 6 → (g z).toInt ≤ (h z).toInt) : s6 g ≤ s6 h := by
  have h0 := q 0 (by omega)
  have h1 := q 1 (by omega)
  have h2 := q 2 (by omega)
  have h3 := q 3 (by omega)
  have h4 := q 4 (by omega)
  have h5 := q 5 (by omega)
  unfold s6
  omega
def sA (A : fc_I) : Int := s6 (A 2) + s6 (A 3) + s6 (A 4)
theorem wS_s {A : fc_I} : wS A 0 + wS A 1 + wS A 2 + wS A 3 + wS A 4 + wS A 5 = sA A := by
  unfold wS sA s6
  omega
theorem Wh_s {A : fc_I} (hw : Wh A) : sA A ≤ 100998 * (A 0 2).toInt ∧ sA A ≤ 605988 := by
  have h := hw.2.2.2.2.2.1.2
  have z := hw.1.2.1
  rw [wS_s] at h
  exact ⟨h, by omega⟩
theorem Wh_z {A : fc_I} (hw : Wh A) : (∀ z, z < 6 → 0 ≤ (A 2 z).toInt) ∧ (∀ z, z < 6 → 0 ≤ (A 3 z).toInt) ∧ ∀ z, z < 6 → 0 ≤ (A 4 z).toInt :=
  ⟨fun z hz => (hw.2.2.2.1 z hz).1.1, fun z hz => (hw.2.2.2.1 z hz).1.2.1, fun z hz => (hw.2.2.2.1 z hz).1.2.2⟩
/-- no zone has more than all -/
theorem Wh_m {A : fc_I} (hw : Wh A) {z : Nat} (hz : z < 6) : (A 2 z).toInt + (A 3 z).toInt + (A 4 z).toInt ≤ 605988 ∧ s6 (A 2) ≤ 605988 ∧ s6 (A 3) ≤ 605988 := by
  obtain ⟨h2, h3, h4⟩ := Wh_z hw
  have s := (Wh_s hw).2
  have a2 := s6_le h2 hz
  have a3 := s6_le h3 hz
  have a4 := s6_le h4 hz
  have b2 := s6_le h2 (k := 0) (by omega)
  have b3 := s6_le h3 (k := 0) (by omega)
  have b4 := s6_le h4 (k := 0) (by omega)
  have c2 := h2 0 (by omega)
  have c3 := h3 0 (by omega)
  have c4 := h4 0 (by omega)
  unfold sA at s
  omega
theorem Wh_mk {A B : fc_I} (hw : Wh A) (h0 : ∀ k, k ≠ 11 → B 0 k = A 0 k) (hr : ∀ r, r = 6 ∨ (9 ≤ r ∧ r ≤ 17) ∨ r = 35 ∨ r = 36 → B r = A r) (hu : ∀ b : Nat, b < 4 → ((B 18 b).toInt = -1 ∨ (A 0 0).toInt < (B 18 b).toInt ∧ (B 18 b).toInt ≤ 69 ∧ (b : Int) < (A 0 5).toInt) ∧ 0 ≤ (B 19 b).toInt) (hz : ∀ z, z < 6 → 0 ≤ (B 2 z).toInt ∧ 0 ≤ (B 3 z).toInt ∧ 0 ≤ (B 4 z).toInt) (hz0 : ∀ z : Nat, z < 6 → (A 0 2).toInt ≤ (z : Int) → (B 2 z).toInt = 0 ∧ (B 3 z).toInt = 0 ∧ (B 4 z).toInt = 0) (h7 : ∀ s, s < 3 → 0 ≤ (B 7 s).toInt) (hs : sA B ≤ sA A) : Wh B := by
  have hs2 := (Wh_s hw).1
  obtain ⟨w0, wr, wu, wz, wg, wh, wt⟩ := hw
  have z0 := h0 0 (by decide)
  have z1 := h0 1 (by decide)
  have z2 := h0 2 (by decide)
  have z3 := h0 3 (by decide)
  have z4 := h0 4 (by decide)
  have z5 := h0 5 (by decide)
  refine ⟨?_, ?_, ?_, ?_, ?_, ?_, ?_⟩
  · unfold Wf0
    rw [z0, z1, z2, z3, z4, z5, h0 6 (by decide), h0 7 (by decide), h0 8 (by decide), h0 9 (by decide), h0 10 (by decide)]
    exact w0
  · unfold WfR
    rw [z0, z2, z4, hr 9 (by omega), hr 10 (by omega), hr 11 (by omega), hr 12 (by omega), hr 13 (by omega)]
    exact wr
  · intro b hb
    obtain ⟨a1, a2, a3⟩ := wu b hb
    rw [z0, z2, z3, z5, hr 14 (by omega), hr 15 (by omega), hr 16 (by omega), hr 17 (by omega)]
    exact ⟨a1, hu b hb⟩
  · intro z hz'
    obtain ⟨a1, a2, a3⟩ := wz z hz'
    rw [z2, z4, hr 6 (by omega)]
    exact ⟨hz z hz', a2, hz0 z hz'⟩
  · unfold WfG
    rw [z2, z3, z4, hr 11 (by omega)]
    exact wg
  · refine ⟨h7, ?_⟩
    rw [wS_s, z2]
    omega
  · unfold WfT
    rw [h0 9 (by decide), hr 35 (by omega), hr 36 (by omega)]
    exact wt
theorem Wh_lv {C : Nat → Bool} {S : Nat → Int32} {t : Int32} {A : fc_I} (hw : Wh A) : Wh (lvA C S t A) := by
  have ez := cn_int (x := A 0 2) hw.1.2.1.1
  have hb : ∀ z, z < 6 → (0 ≤ (lvA C S t A 2 z).toInt ∧ 0 ≤ (lvA C S t A 3 z).toInt) ∧ (lvA C S t A 2 z).toInt + (lvA C S t A 3 z).toInt = (A 2 z).toInt + (A 3 z).toInt := fun z hz => by
    obtain ⟨h2, h3, h4⟩ := Wh_z hw
    have m := (Wh_m hw hz).1
    have a2 := h2 z hz
    have a3 := h3 z hz
    have a4 := h4 z hz
    obtain ⟨l1, l2⟩ := lvn_b (C := C) (S := S) (t := t) a2 (by omega)
    unfold lvA lvP
    by_cases c : z < cn (A 0 2)
    · simp only [c, if_true, ite_true, show (3 : Nat) ≠ 2 by decide, if_false, ite_false]
      rw [i_sub (by omega) (by omega), i_add (by omega) (by omega)]
      omega
    · simp only [c, if_true, ite_true, show (3 : Nat) ≠ 2 by decide, if_false, ite_false]
      exact ⟨⟨a2, a3⟩, trivial⟩
  refine Wh_mk hw (fun k _ => by unfold lvA; rw [lvP_o (by decide)]) (fun r hr => by unfold lvA; rw [lvP_o (by omega)]) (fun b hb => ?_) (fun z hz => ?_) (fun z hz hq => ?_) (fun s hs => ?_) ?_
  · unfold lvA
    rw [lvP_o (by decide), lvP_o (by decide)]
    exact (hw.2.2.1 b hb).2
  · refine ⟨(hb z hz).1.1, (hb z hz).1.2, ?_⟩
    unfold lvA
    rw [lvP_o (by decide)]
    exact (Wh_z hw).2.2 z hz
  · have q := (hw.2.2.2.1 z hz).2.2 hq
    unfold lvA
    rw [lvP_o (show 4 ≠ 2 ∧ 4 ≠ 3 by decide)]
    unfold lvP
    simp only [show ¬ z < cn (A 0 2) by omega, if_true, ite_true, show (3 : Nat) ≠ 2 by decide, if_false, ite_false]
    exact q
  · unfold lvA
    rw [lvP_o (by decide)]
    exact hw.2.2.2.2.2.1.1 s hs
  · have e4 : lvA C S t A 4 = A 4 := by unfold lvA; rw [lvP_o (by decide)]
    unfold sA
    rw [e4]
    have q0 := (hb 0 (by omega)).2
    have q1 := (hb 1 (by omega)).2
    have q2 := (hb 2 (by omega)).2
    have q3 := (hb 3 (by omega)).2
    have q4 := (hb 4 (by omega)).2
    have q5 := (hb 5 (by omega)).2
    unfold s6
    omega
/-- folk on the way, while roads are gone -/
theorem cr_b {t : Int32} {A : fc_I} (hw : Wh A) : ∀ n : Nat, (n : Int) ≤ (A 0 4).toInt → (∀ z, z < 6 → 0 ≤ (crA t A n z).toInt) ∧ s6 (crA t A n) ≤ s6 (A 3) ∧ ∀ z, z < 6 → (n : Int) ≤ (A 6 z).toInt → (A 3 z).toInt ≤ (crA t A n z).toInt
  | 0, _ => ⟨(Wh_z hw).2.1, Int.le_refl _, fun _ _ _ => Int.le_refl _⟩
  | n + 1, hn => by
    obtain ⟨i1, i2, i3⟩ := cr_b (t := t) hw n (by omega)
    obtain ⟨g1, ⟨g2, g3, g4⟩, g5, g6⟩ := wr_go hw (n := n) (by omega)
    obtain ⟨m1, m2, m3⟩ := mvA_b (t := t) hw (r := n) (by omega)
    obtain ⟨b1, b2, b3⟩ := baA_b (t := t) hw (r := n) (by omega)
    have tot := (Wh_m hw (z := 0) (by omega)).2.2
    have e1 := cn_int g2
    have hf : cn (A 10 n) < 6 := by omega
    have mc : (mvA t A n).toInt ≤ (crA t A n (cn (A 10 n))).toInt := by
      by_cases c : (A 6 (cn (A 10 n))).toInt = (n : Int)
      · have q := i3 _ hf (by omega)
        have q2 := b2 c
        omega
      · rw [m3 c, kt_0]
        exact i1 _ hf
    have up := s6_le i1 hf
    have es : (crA t A n (cn (A 10 n)) - mvA t A n).toInt = (crA t A n (cn (A 10 n))).toInt - (mvA t A n).toInt := i_sub (by omega) (by omega)
    obtain ⟨g, hg⟩ : ∃ g, g = upd (crA t A n) (cn (A 10 n)) (crA t A n (cn (A 10 n)) - mvA t A n) := ⟨_, rfl⟩
    have k1 : ∀ z, z < 6 → 0 ≤ (g z).toInt := fun z hz => by
      rw [hg]
      unfold upd
      split
      · omega
      · exact i1 z hz
    have k2 : s6 g = s6 (crA t A n) - (mvA t A n).toInt := by
      rw [hg, s6_upd hf, es]
      omega
    have k3 : ∀ z, z < 6 → ((n + 1 : Nat) : Int) ≤ (A 6 z).toInt → (A 3 z).toInt ≤ (g z).toInt := fun z hz hq => by
      have q := i3 z hz (by omega)
      rw [hg]
      unfold upd
      by_cases c : z = cn (A 10 n)
      · rw [if_pos c, es, m3 (by rw [← c]; omega), kt_0, ← c]
        omega
      · rw [if_neg c]
        exact q
    by_cases c : (A 11 n).toInt < 6
    · have r0 : crA t A (n + 1) = upd g (cn (A 11 n)) (g (cn (A 11 n)) + mvA t A n) := by rw [hg]; show (if _ then _ else _) = _; rw [if_pos c]
      have e2 := cn_int g5
      have ht : cn (A 11 n) < 6 := by omega
      have up2 := s6_le k1 ht
      have u0 := k1 _ ht
      have ea : (g (cn (A 11 n)) + mvA t A n).toInt = (g (cn (A 11 n))).toInt + (mvA t A n).toInt := i_add (by omega) (by omega)
      rw [r0]
      refine ⟨fun z hz => ?_, ?_, fun z hz hq => ?_⟩
      · unfold upd
        split
        · omega
        · exact k1 z hz
      · rw [s6_upd ht, ea]
        omega
      · have q := k3 z hz hq
        unfold upd
        by_cases c : z = cn (A 11 n)
        · rw [if_pos c, ea, ← c]
          omega
        · rw [if_neg c]
          exact q
    · have r0 : crA t A (n + 1) = g := by rw [hg]; show (if _ then _ else _) = _; rw [if_neg c]
      rw [r0]
      exact ⟨k1, by omega, k3⟩
theorem Wh_rd {t : Int32} {A : fc_I} (hw : Wh A) : Wh (rdA t A) := by
  have e4 := cn_int (x := A 0 4) hw.1.2.2.2.1.1
  obtain ⟨c1, c2, c3⟩ := cr_b (t := t) hw (cn (A 0 4)) (by omega)
  have r3 : rdA t A 3 = crA t A (cn (A 0 4)) := by
    funext z
    unfold rdA rdP
    simp
  have r7 : rdA t A 7 = rmA t A (cn (A 0 4)) := by
    funext z
    unfold rdA rdP
    simp
  refine Wh_mk hw (fun k hk => rdP_0 hk) (fun r hr => rdP_o (by omega)) (fun b hb => ?_) (fun z hz => ?_) (fun z hz hq => ?_) (fun s hs => ?_) ?_
  · unfold rdA
    rw [rdP_o (by decide), rdP_o (by decide)]
    exact (hw.2.2.1 b hb).2
  · rw [r3]
    unfold rdA
    rw [rdP_o (by decide), rdP_o (by decide)]
    exact ⟨(Wh_z hw).1 z hz, c1 z hz, (Wh_z hw).2.2 z hz⟩
  · rw [r3, (cr_hi (t := t) hw hq _ (by omega)).1]
    unfold rdA
    rw [rdP_o (by decide), rdP_o (by decide)]
    exact (hw.2.2.2.1 z hz).2.2 hq
  · rw [r7]
    exact rmA_b (t := t) hw _ (by omega) s hs
  · have e2 : rdA t A 2 = A 2 := rdP_o (by decide)
    have e4 : rdA t A 4 = A 4 := rdP_o (by decide)
    unfold sA
    rw [r3, e2, e4]
    omega
theorem bdm_b {S : Nat → Int32} {t : Int32} {A : fc_I} (hw : Wh A) {n : Nat} (hn : (n : Int) < (A 0 5).toInt) : 0 ≤ (bdm (bdA S t A n) n).toInt := by
  obtain ⟨i1, i2⟩ := bdA_b (S := S) (t := t) hw n (by omega)
  obtain ⟨b0, b1, b2, b3, b4⟩ := bus_at hw (n := n) (by omega)
  have e1 := cn_int b1.1
  have e2 := cn_int b2.1
  have j1 := i1 (cn (A 14 n)) (by omega)
  have j2 := i2 (cn (A 15 n)) (by omega)
  unfold bdm
  rw [bdA_o (r := 14) (by decide), bdA_o (r := 15) (by decide), bdA_o (r := 16) (by decide)]
  generalize bdA S t A n 4 (cn (A 14 n)) = x at *
  generalize bdA S t A n 7 (cn (A 15 n)) = y at *
  obtain ⟨c1, c2, c3⟩ := imin_le (x := x) (y := y)
  obtain ⟨d1, d2, d3⟩ := imin_le (x := A 16 n) (y := imin x y)
  omega
theorem bdA_u {S : Nat → Int32} {t : Int32} {A : fc_I} (hw : Wh A) : ∀ n : Nat, (n : Int) ≤ (A 0 5).toInt → ∀ b : Nat, b < 4 → ((bdA S t A n 18 b).toInt = -1 ∨ (A 0 0).toInt < (bdA S t A n 18 b).toInt ∧ (bdA S t A n 18 b).toInt ≤ 69 ∧ (b : Int) < (A 0 5).toInt) ∧ 0 ≤ (bdA S t A n 19 b).toInt
  | 0, _, b, hb => (hw.2.2.1 b hb).2
  | n + 1, hn, b, hb => by
    have ih := bdA_u (S := S) (t := t) hw n (by omega) b hb
    have m := bdm_b (S := S) (t := t) hw (n := n) (by omega)
    obtain ⟨b0, b1, b2, b3, b4⟩ := bus_at hw (n := n) (by omega)
    obtain ⟨⟨w1, w2, w3, w4⟩, _⟩ := hw.1
    have o0 : bdA S t A n 0 = A 0 := bdA_o (by decide) n
    have o17 : bdA S t A n 17 = A 17 := bdA_o (by decide) n
    have ea : (A 0 0 + A 17 n).toInt = (A 0 0).toInt + (A 17 n).toInt := i_add (by omega) (by omega)
    show ((bd1 S t (bdA S t A n) n 18 b).toInt = -1 ∨ (A 0 0).toInt < (bd1 S t (bdA S t A n) n 18 b).toInt ∧ (bd1 S t (bdA S t A n) n 18 b).toInt ≤ 69 ∧ (b : Int) < (A 0 5).toInt) ∧ 0 ≤ (bd1 S t (bdA S t A n) n 19 b).toInt
    unfold bd1
    split
    · exact ih
    · rw [fc_wI_lo (show (19 : Nat) ≠ 18 by decide), fc_wI_at, fc_wI_at, o0, o17]
      by_cases e : b = n
      · rw [if_pos e, if_pos e, ea]
        refine ⟨Or.inr ⟨by omega, by omega, by omega⟩, m⟩
      · rw [if_neg e, if_neg e, fc_wI_lo (by decide), fc_wI_lo (by decide), fc_wI_lo (by decide), fc_wI_lo (by decide), fc_wI_lo (by decide)]
        exact ih
theorem bdA_z {S : Nat → Int32} {t : Int32} {A : fc_I} (hw : Wh A) {z : Nat} (hz : (A 0 2).toInt ≤ (z : Int)) : ∀ n : Nat, (n : Int) ≤ (A 0 5).toInt → bdA S t A n 4 z = A 4 z
  | 0, _ => rfl
  | n + 1, hn => by
    have ih := bdA_z (S := S) (t := t) hw hz n (by omega)
    obtain ⟨b0, b1, b2, b3, b4⟩ := bus_at hw (n := n) (by omega)
    have e1 := cn_int b1.1
    have o14 : bdA S t A n 14 = A 14 := bdA_o (by decide) n
    show bd1 S t (bdA S t A n) n 4 z = A 4 z
    unfold bd1
    split
    · exact ih
    · rw [fc_wI_lo (by decide), fc_wI_lo (by decide), fc_wI_lo (by decide), fc_wI_at, o14, if_neg (by omega), ih]
theorem Wh_bd {S : Nat → Int32} {t : Int32} {A : fc_I} (hw : Wh A) : Wh (bdA S t A (cn (A 0 5))) := by
  have e5 := cn_int (x := A 0 5) hw.1.2.2.2.2.1.1
  obtain ⟨i1, i2⟩ := bdA_b (S := S) (t := t) hw (cn (A 0 5)) (by omega)
  refine Wh_mk hw (fun k hk => by rw [bdA_o (by decide)]) (fun r hr => bdA_o (by omega) _) (bdA_u hw _ (by omega)) (fun z hz => ?_) (fun z hz hq => ?_) i2 ?_
  · rw [bdA_o (by decide), bdA_o (by decide)]
    exact ⟨(Wh_z hw).1 z hz, (Wh_z hw).2.1 z hz, (i1 z hz).1⟩
  · rw [bdA_o (by decide), bdA_o (by decide), bdA_z hw hq _ (by omega)]
    exact (hw.2.2.2.1 z hz).2.2 hq
  · unfold sA
    rw [bdA_o (by decide), bdA_o (by decide)]
    have := s6_mono (g := bdA S t A (cn (A 0 5)) 4) (h := A 4) (fun z hz => (i1 z hz).2)
    omega
theorem frA_at {A : fc_I} {b : Nat} : ∀ n, b < n → frA A n 18 b = (if (A 18 b).toInt = (A 0 0).toInt then -1 else A 18 b) ∧ (0 ≤ (A 19 b).toInt → 0 ≤ (frA A n 19 b).toInt)
  | 0, h => absurd h (by omega)
  | n + 1, h => by
    have o0 : frA A n 0 = A 0 := frA_o (by decide) n
    show fr1 (frA A n) n 18 b = _ ∧ (_ → 0 ≤ (fr1 (frA A n) n 19 b).toInt)
    by_cases e : b = n
    · subst e
      have q18 := frA_18 (A := A) (b := b) (Or.inl rfl) b (Nat.le_refl _)
      have q19 := frA_18 (A := A) (b := b) (Or.inr rfl) b (Nat.le_refl _)
      unfold fr1
      rw [q18, o0]
      by_cases c : (A 18 b).toInt = (A 0 0).toInt
      · rw [if_pos c, if_pos c, fc_wI_at, if_pos rfl, fc_wI_lo (by decide), fc_wI_at, if_pos rfl]
        exact ⟨rfl, fun _ => by rw [kt_0]; omega⟩
      · rw [if_neg c, if_neg c, q18, q19]
        exact ⟨rfl, fun z => z⟩
    · obtain ⟨i1, i2⟩ := frA_at (A := A) (b := b) n (by omega)
      unfold fr1
      split
      · rw [fc_wI_at, if_neg e, fc_wI_lo (by decide), fc_wI_lo (by decide), fc_wI_lo (show (19 : Nat) ≠ 18 by decide), fc_wI_at, if_neg e, fc_wI_lo (by decide)]
        exact ⟨i1, i2⟩
      · exact ⟨i1, i2⟩
theorem frA_hi {A : fc_I} {b r : Nat} (hr : r = 18 ∨ r = 19) : ∀ n, n ≤ b → frA A n r b = A r b := frA_18 hr
/-- the hour is one more -/
theorem Wh_fr {A : fc_I} (hw : Wh A) (hn : (A 0 0).toInt < (A 0 1).toInt) : Wh (frA (tkA A) (cn (A 0 5))) ∧ (frA (tkA A) (cn (A 0 5)) 0 0).toInt = (A 0 0).toInt + 1 := by
  have hs2 := (Wh_s hw).1
  obtain ⟨w0, wr, wu, wz, wg, wh, wt⟩ := hw
  have w0' := w0
  obtain ⟨⟨w1, w2, w3, w4⟩, ⟨w5, w6⟩, ⟨w7, w8⟩, ⟨w9, w10⟩, ⟨w11, w12⟩, w13⟩ := w0
  have e5 := cn_int (x := A 0 5) w11
  have ep : (A 0 0 + 1).toInt = (A 0 0).toInt + 1 := i_add (by rw [kt_1]; omega) (by rw [kt_1]; omega)
  obtain ⟨F, hF⟩ : ∃ F, F = frA (tkA A) (cn (A 0 5)) := ⟨_, rfl⟩
  have fo : ∀ r, r ≠ 8 ∧ r ≠ 18 ∧ r ≠ 19 ∧ r ≠ 0 → F r = A r := fun r hr => by
    rw [hF, frA_o ⟨hr.1, hr.2.1, hr.2.2.1⟩]
    exact fc_wI_lo hr.2.2.2
  have f0 : ∀ k, k ≠ 0 → F 0 k = A 0 k := fun k hk => by
    rw [hF, frA_o (by decide)]
    unfold tkA
    rw [fc_wI_at, if_neg hk]
  have f00 : F 0 0 = A 0 0 + 1 := by
    rw [hF, frA_o (by decide)]
    unfold tkA
    rw [fc_wI_at, if_pos rfl]
  rw [← hF]
  refine ⟨⟨?_, ?_, ?_, ?_, ?_, ?_, ?_⟩, by rw [f00, ep]⟩
  · unfold Wf0
    rw [f00, f0 1 (by decide), f0 2 (by decide), f0 3 (by decide), f0 4 (by decide), f0 5 (by decide), f0 6 (by decide), f0 7 (by decide), f0 8 (by decide), f0 9 (by decide), f0 10 (by decide), ep]
    exact ⟨⟨by omega, by omega, w3, w4⟩, w0'.2⟩
  · intro r hr
    rw [f0 4 (by decide)] at hr
    obtain ⟨a1, a2, a3, a4, a5⟩ := wr r hr
    rw [f00, f0 2 (by decide), fo 9 (by decide), fo 10 (by decide), fo 11 (by decide), fo 12 (by decide), fo 13 (by decide), ep]
    exact ⟨a1, a2, a3, a4, by omega⟩
  · intro b hb
    obtain ⟨a1, a2, a3⟩ := wu b hb
    rw [f00, f0 2 (by decide), f0 3 (by decide), f0 5 (by decide), fo 14 (by decide), fo 15 (by decide), fo 16 (by decide), fo 17 (by decide), ep]
    refine ⟨a1, ?_⟩
    have t18 : tkA A 18 b = A 18 b := by unfold tkA; rw [fc_wI_lo (by decide)]
    have t19 : tkA A 19 b = A 19 b := by unfold tkA; rw [fc_wI_lo (by decide)]
    have t00 : tkA A 0 0 = A 0 0 + 1 := by unfold tkA; rw [fc_wI_at, if_pos rfl]
    by_cases c : b < cn (A 0 5)
    · obtain ⟨q1, q2⟩ := frA_at (A := tkA A) (b := b) (cn (A 0 5)) c
      rw [← hF] at q1 q2
      rw [t18, t00] at q1
      rw [t19] at q2
      refine ⟨?_, q2 a3⟩
      rw [q1]
      by_cases d : (A 18 b).toInt = (A 0 0 + 1).toInt
      · rw [if_pos d]
        exact Or.inl rfl
      · rw [if_neg d]
        omega
    · have q1 := frA_hi (A := tkA A) (b := b) (Or.inl rfl) (cn (A 0 5)) (by omega)
      have q2 := frA_hi (A := tkA A) (b := b) (Or.inr rfl) (cn (A 0 5)) (by omega)
      rw [← hF] at q1 q2
      rw [q1, q2, t18, t19]
      refine ⟨Or.inl ?_, a3⟩
      omega
  · intro z hz
    obtain ⟨a1, a2, a3⟩ := wz z hz
    rw [f0 2 (by decide), f0 4 (by decide), fo 2 (by decide), fo 3 (by decide), fo 4 (by decide), fo 6 (by decide)]
    exact ⟨a1, a2, a3⟩
  · unfold WfG
    rw [f0 2 (by decide), f0 3 (by decide), f0 4 (by decide), fo 11 (by decide)]
    exact wg
  · refine ⟨?_, ?_⟩
    · rw [fo 7 (by decide)]
      exact wh.1
    · rw [wS_s, f0 2 (by decide)]
      unfold sA at hs2 ⊢
      rw [fo 2 (by decide), fo 3 (by decide), fo 4 (by decide)]
      omega
  · unfold WfT
    rw [f0 9 (by decide), fo 35 (by decide), fo 36 (by decide)]
    exact wt
