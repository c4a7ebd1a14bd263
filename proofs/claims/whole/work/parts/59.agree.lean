/-! ===== an hour asks no more of the rows than their places, and of calls than whether and since when ===== -/
def inb (r k : Nat) : Prop := (r ≠ 5 ∧ r ≠ 27) ∧ ((r = 2 ∨ r = 3 ∨ r = 4) → k < 6) ∧ ((r = 7 ∨ r = 8) → k < 3) ∧ ((r = 18 ∨ r = 19) → k < 4)
def Agr (A B : fc_I) : Prop := ∀ r k, inb r k → B r k = A r k
theorem Agr.row {A B : fc_I} (h : Agr A B) {r : Nat} (hr : r ≠ 2 ∧ r ≠ 3 ∧ r ≠ 4 ∧ r ≠ 5 ∧ r ≠ 7 ∧ r ≠ 8 ∧ r ≠ 18 ∧ r ≠ 19 ∧ r ≠ 27) : B r = A r := by
  funext k
  exact h r k ⟨by omega, by omega, by omega, by omega⟩
theorem Agr.z {A B : fc_I} (h : Agr A B) {r k : Nat} (hr : r = 2 ∨ r = 3 ∨ r = 4) (hk : k < 6) : B r k = A r k := h r k ⟨by omega, by omega, by omega, by omega⟩
theorem Agr.s {A B : fc_I} (h : Agr A B) {r k : Nat} (hr : r = 7 ∨ r = 8) (hk : k < 3) : B r k = A r k := h r k ⟨by omega, by omega, by omega, by omega⟩
theorem Agr.b {A B : fc_I} (h : Agr A B) {r k : Nat} (hr : r = 18 ∨ r = 19) (hk : k < 4) : B r k = A r k := h r k ⟨by omega, by omega, by omega, by omega⟩
theorem Agr.wh {A B : fc_I} (h : Agr A B) (hw : Wh A) : Wh B := by
  have r0 := h.row (r := 0) (by decide)
  obtain ⟨w0, wr, wu, wz, wg, wh, wt⟩ := hw
  refine ⟨?_, ?_, fun b hb => ?_, fun z hz => ?_, ?_, ⟨fun s hs => ?_, ?_⟩, ?_⟩
  · unfold Wf0
    rw [r0]
    exact w0
  · unfold WfR
    rw [r0, h.row (r := 9) (by decide), h.row (r := 10) (by decide), h.row (r := 11) (by decide), h.row (r := 12) (by decide), h.row (r := 13) (by decide)]
    exact wr
  · rw [r0, h.row (r := 14) (by decide), h.row (r := 15) (by decide), h.row (r := 16) (by decide), h.row (r := 17) (by decide), h.b (Or.inl rfl) hb, h.b (Or.inr rfl) hb]
    exact wu b hb
  · rw [r0, h.row (r := 6) (by decide), h.z (r := 2) (by decide) hz, h.z (r := 3) (by decide) hz, h.z (r := 4) (by decide) hz]
    exact wz z hz
  · unfold WfG
    rw [r0, h.row (r := 11) (by decide)]
    exact wg
  · rw [h.s (Or.inl rfl) hs]
    exact wh.1 s hs
  · unfold wS
    rw [r0]
    simp only [h.z (r := 2) (k := 0) (by decide) (by decide), h.z (r := 2) (k := 1) (by decide) (by decide), h.z (r := 2) (k := 2) (by decide) (by decide), h.z (r := 2) (k := 3) (by decide) (by decide), h.z (r := 2) (k := 4) (by decide) (by decide), h.z (r := 2) (k := 5) (by decide) (by decide), h.z (r := 3) (k := 0) (by decide) (by decide), h.z (r := 3) (k := 1) (by decide) (by decide), h.z (r := 3) (k := 2) (by decide) (by decide), h.z (r := 3) (k := 3) (by decide) (by decide), h.z (r := 3) (k := 4) (by decide) (by decide), h.z (r := 3) (k := 5) (by decide) (by decide), h.z (r := 4) (k := 0) (by decide) (by decide), h.z (r := 4) (k := 1) (by decide) (by decide), h.z (r := 4) (k := 2) (by decide) (by decide), h.z (r := 4) (k := 3) (by decide) (by decide), h.z (r := 4) (k := 4) (by decide) (by decide), h.z (r := 4) (k := 5) (by decide) (by decide)]
    exact wh.2
  · unfold WfT
    rw [r0, h.row (r := 35) (by decide), h.row (r := 36) (by decide)]
    exact wt
theorem Agr.ev {A B : fc_I} (h : Agr A B) {s t z : Int32} {p : Nat} (hz : cn z < 6) : evA B s t z p = evA A s t z p := by
  have r0 := h.row (r := 0) (by decide)
  exact evA_congr (by rw [r0]) (by rw [r0]) (by rw [h.row (r := 1) (by decide)]) (h.row (by decide)) (h.z (by decide) hz) (h.z (by decide) hz) (h.row (by decide)) (h.row (by decide))
theorem Agr.wet {A B : fc_I} (h : Agr A B) {t : Int32} {z : Nat} : wetA B t z = wetA A t z := by
  unfold wetA
  rw [h.row (r := 0) (by decide), h.row (r := 1) (by decide), h.row (r := 30) (by decide)]
theorem Agr.lv {A B : fc_I} (h : Agr A B) (hw : Wh A) {C C' : Nat → Bool} {S S' : Nat → Int32} (hc : ∀ z, z < 6 → C' z = C z ∧ S' z = S z) {t : Int32} : Agr (lvA C S t A) (lvA C' S' t B) := by
  have r0 := h.row (r := 0) (by decide)
  have hv : ∀ z, z < 6 → lvn C' S' t B z = lvn C S t A z := fun z hz => by
    have ez := zi_cn (n := z) (by omega)
    unfold lvn
    rw [h.ev (z := zi z) (p := 1) (by omega), h.ev (z := zi z) (p := 0) (by omega), (hc z hz).1, (hc z hz).2, h.z (r := 2) (by decide) hz]
    simp only [h.wet]
  have z6 := hw.1.2.1
  have ez := cn_int (x := A 0 2) z6.1
  intro r k hk
  unfold lvA lvP
  rw [r0]
  by_cases h2 : r = 2
  · subst h2
    have k6 : k < 6 := hk.2.1 (by decide)
    simp only [if_true, ite_true]
    rw [hv k k6, h.z (r := 2) (by decide) k6]
  · by_cases h3 : r = 3
    · subst h3
      have k6 : k < 6 := hk.2.1 (by decide)
      simp only [h2, if_true, ite_true, if_false, ite_false]
      rw [hv k k6, h.z (r := 3) (by decide) k6]
    · simp only [h2, h3, if_false, ite_false]
      exact h r k hk
theorem Agr.rd {A B : fc_I} (h : Agr A B) (hw : Wh A) {t : Int32} : Agr (rdA t A) (rdA t B) := by
  have r0 := h.row (r := 0) (by decide)
  have r10 := h.row (r := 10) (by decide)
  have r11 := h.row (r := 11) (by decide)
  have r6 := h.row (r := 6) (by decide)
  have e4 := cn_int (x := A 0 4) hw.1.2.2.2.1.1
  have ho : ∀ n, opA t B n = opA t A n := fun n => opA_congr (by rw [r0]) (fun q hq => h.row (by omega))
  have hb : ∀ n : Nat, (n : Int) < (A 0 4).toInt → baA t B n = baA t A n := fun n hn => by
    obtain ⟨g1, ⟨g2, g3, g4⟩, g5, g6⟩ := wr_go hw hn
    have e := cn_int g2
    unfold baA
    rw [ho, r6, r10, h.z (r := 3) (by decide) (by omega)]
  have hm : ∀ n : Nat, (n : Int) ≤ (A 0 4).toInt → ∀ s, s < 3 → rmA t B n s = rmA t A n s := fun n => by
    induction n with
    | zero => exact fun _ s hs => h.s (Or.inl rfl) hs
    | succ n ih =>
      intro hn s hs
      have i1 := ih (by omega)
      obtain ⟨g1, ⟨g2, g3, g4⟩, g5, g6⟩ := wr_go hw (n := n) (by omega)
      have e := cn_int g5
      by_cases c : isS A n
      · have c' : isS B n := by unfold isS; rw [r11]; exact c
        have l : cn (A 11 n) - 10 < 3 := by have := c.1; have := c.2; omega
        have q1 : rmA t A (n + 1) = upd (rmA t A n) (cn (A 11 n) - 10) (rmA t A n (cn (A 11 n) - 10) - imin (baA t A n) (rmA t A n (cn (A 11 n) - 10))) := by show (if _ then _ else _) = _; rw [if_pos c]
        have q2 : rmA t B (n + 1) = upd (rmA t B n) (cn (A 11 n) - 10) (rmA t B n (cn (A 11 n) - 10) - imin (baA t B n) (rmA t B n (cn (A 11 n) - 10))) := by show (if _ then _ else _) = _; rw [if_pos c', r11]
        rw [q1, q2, i1 _ l, hb n (by omega)]
        unfold upd
        split
        · rfl
        · exact i1 s hs
      · have c' : ¬ isS B n := by unfold isS; rw [r11]; exact c
        have q1 : rmA t A (n + 1) = rmA t A n := by show (if _ then _ else _) = _; rw [if_neg c]
        have q2 : rmA t B (n + 1) = rmA t B n := by show (if _ then _ else _) = _; rw [if_neg c']
        rw [q1, q2]
        exact i1 s hs
  have hv : ∀ n : Nat, (n : Int) < (A 0 4).toInt → mvA t B n = mvA t A n := fun n hn => by
    obtain ⟨g1, ⟨g2, g3, g4⟩, g5, g6⟩ := wr_go hw hn
    have e := cn_int g5
    unfold mvA
    by_cases c : isS A n
    · have c' : isS B n := by unfold isS; rw [r11]; exact c
      have l : cn (A 11 n) - 10 < 3 := by have := c.1; have := c.2; omega
      rw [if_pos c, if_pos c', hb n hn, r11, hm n (by omega) _ l]
    · have c' : ¬ isS B n := by unfold isS; rw [r11]; exact c
      rw [if_neg c, if_neg c', hb n hn]
  have hs : ∀ n : Nat, (n : Int) ≤ (A 0 4).toInt → (∀ s, s < 3 → shA t B n s = shA t A n s) ∧ ouA t B n = ouA t A n ∧ ∀ z, z < 6 → crA t B n z = crA t A n z := fun n => by
    induction n with
    | zero => exact fun _ => ⟨fun s hs => h.s (Or.inr rfl) hs, by show B 0 11 = A 0 11; rw [r0], fun z hz => h.z (by decide) hz⟩
    | succ n ih =>
      intro hn
      obtain ⟨i1, i2, i3⟩ := ih (by omega)
      obtain ⟨g1, ⟨g2, g3, g4⟩, g5, g6⟩ := wr_go hw (n := n) (by omega)
      have e := cn_int g5
      have e' := cn_int g2
      have v := hv n (by omega)
      refine ⟨fun s hs => ?_, ?_, fun z hz => ?_⟩
      · by_cases c : isS A n
        · have c' : isS B n := by unfold isS; rw [r11]; exact c
          have l : cn (A 11 n) - 10 < 3 := by have := c.1; have := c.2; omega
          have q1 : shA t A (n + 1) = upd (shA t A n) (cn (A 11 n) - 10) (shA t A n (cn (A 11 n) - 10) + mvA t A n) := by show (if _ then _ else _) = _; rw [if_pos c]
          have q2 : shA t B (n + 1) = upd (shA t B n) (cn (A 11 n) - 10) (shA t B n (cn (A 11 n) - 10) + mvA t B n) := by show (if _ then _ else _) = _; rw [if_pos c', r11]
          rw [q1, q2, i1 _ l, v]
          unfold upd
          split
          · rfl
          · exact i1 s hs
        · have c' : ¬ isS B n := by unfold isS; rw [r11]; exact c
          have q1 : shA t A (n + 1) = shA t A n := by show (if _ then _ else _) = _; rw [if_neg c]
          have q2 : shA t B (n + 1) = shA t B n := by show (if _ then _ else _) = _; rw [if_neg c']
          rw [q1, q2]
          exact i1 s hs
      · show (if _ then _ else _) = (if _ then _ else _)
        by_cases d : (A 11 n).toInt < 6 ∨ isS A n
        · have d' : (B 11 n).toInt < 6 ∨ isS B n := by unfold isS; rw [r11]; exact d
          rw [if_pos d, if_pos d', i2]
        · have d' : ¬ ((B 11 n).toInt < 6 ∨ isS B n) := by unfold isS; rw [r11]; exact d
          rw [if_neg d, if_neg d', i2, v]
      · have up : ∀ z, z < 6 → upd (crA t B n) (cn (A 10 n)) (crA t B n (cn (A 10 n)) - mvA t B n) z = upd (crA t A n) (cn (A 10 n)) (crA t A n (cn (A 10 n)) - mvA t A n) z := fun z hz => by
          rw [i3 _ (by omega), v]
          unfold upd
          split
          · rfl
          · exact i3 z hz
        by_cases c : (A 11 n).toInt < 6
        · have q1 : crA t A (n + 1) = upd (upd (crA t A n) (cn (A 10 n)) (crA t A n (cn (A 10 n)) - mvA t A n)) (cn (A 11 n)) ((upd (crA t A n) (cn (A 10 n)) (crA t A n (cn (A 10 n)) - mvA t A n)) (cn (A 11 n)) + mvA t A n) := by show (if _ then _ else _) = _; rw [if_pos c]
          have q2 : crA t B (n + 1) = upd (upd (crA t B n) (cn (A 10 n)) (crA t B n (cn (A 10 n)) - mvA t B n)) (cn (A 11 n)) ((upd (crA t B n) (cn (A 10 n)) (crA t B n (cn (A 10 n)) - mvA t B n)) (cn (A 11 n)) + mvA t B n) := by
            show (if _ then _ else _) = _
            rw [r11, r10, if_pos c]
          rw [q1, q2]
          generalize upd (crA t A n) (cn (A 10 n)) (crA t A n (cn (A 10 n)) - mvA t A n) = g at *
          generalize upd (crA t B n) (cn (A 10 n)) (crA t B n (cn (A 10 n)) - mvA t B n) = g' at *
          rw [up _ (by omega), v]
          unfold upd
          split
          · rfl
          · exact up z hz
        · have q1 : crA t A (n + 1) = upd (crA t A n) (cn (A 10 n)) (crA t A n (cn (A 10 n)) - mvA t A n) := by show (if _ then _ else _) = _; rw [if_neg c]
          have q2 : crA t B (n + 1) = upd (crA t B n) (cn (A 10 n)) (crA t B n (cn (A 10 n)) - mvA t B n) := by
            show (if _ then _ else _) = _
            rw [r11, r10, if_neg c]
          rw [q1, q2]
          exact up z hz
  intro r k hk
  obtain ⟨s1, s2, s3⟩ := hs (cn (A 0 4)) (by omega)
  have m1 := hm (cn (A 0 4)) (by omega)
  unfold rdA rdP
  rw [r0]
  by_cases h3 : r = 3
  · subst h3
    simp only [if_true, ite_true]
    exact s3 k (hk.2.1 (by decide))
  · by_cases h7 : r = 7
    · subst h7
      simp only [h3, if_true, ite_true, if_false, ite_false]
      exact m1 k (hk.2.2.1 (by decide))
    · by_cases h8 : r = 8
      · subst h8
        simp only [h3, h7, if_true, ite_true, if_false, ite_false]
        exact s1 k (hk.2.2.1 (by decide))
      · simp only [h3, h7, h8, if_false, ite_false]
        by_cases h0 : r = 0 ∧ k = 11
        · rw [if_pos h0, if_pos h0]
          exact s2
        · rw [if_neg h0, if_neg h0]
          exact h r k hk
theorem Agr.w {A B : fc_I} (h : Agr A B) {r k : Nat} {v v' : Int32} (hv : v' = v) : Agr (fc_wI A r k v) (fc_wI B r k v') := by
  intro a b hab
  unfold fc_wI
  rw [hv]
  split
  · rfl
  · exact h a b hab
theorem Agr.bd {A B : fc_I} (h : Agr A B) (hw : Wh A) {S S' : Nat → Int32} (hc : ∀ z, z < 6 → S' z = S z) {t : Int32} : ∀ n : Nat, (n : Int) ≤ (A 0 5).toInt → Agr (bdA S t A n) (bdA S' t B n)
  | 0, _ => h
  | n + 1, hn => by
    have ih := Agr.bd h hw hc (t := t) n (by omega)
    obtain ⟨b0, b1, b2, b3, b4⟩ := bus_at hw (n := n) (by omega)
    have e1 := cn_int b1.1
    have e2 := cn_int b2.1
    show Agr (bd1 S t (bdA S t A n) n) (bd1 S' t (bdA S' t B n) n)
    have o14 : bdA S t A n 14 = A 14 := bdA_o (by decide) n
    have o15 : bdA S t A n 15 = A 15 := bdA_o (by decide) n
    generalize bdA S t A n = X at *
    generalize bdA S' t B n = Y at *
    have em : bdm Y n = bdm X n := by
      unfold bdm
      rw [ih.row (r := 14) (by decide), ih.row (r := 15) (by decide), ih.row (r := 16) (by decide), o14, o15, ih.z (r := 4) (by decide) (by omega), ih.s (r := 7) (by decide) (by omega)]
    have ec : ((bdm Y n).toInt = 0 ∨ ¬ (Y 18 n).toInt = -1 ∨ wetA Y t (cn (Y 14 n)) ∨ ¬ (evA Y (S' (cn (Y 14 n))) t (Y 14 n) 1).toInt = 0) = ((bdm X n).toInt = 0 ∨ ¬ (X 18 n).toInt = -1 ∨ wetA X t (cn (X 14 n)) ∨ ¬ (evA X (S (cn (X 14 n))) t (X 14 n) 1).toInt = 0) := by
      rw [em, ih.row (r := 14) (by decide), ih.b (Or.inl rfl) b0, ih.ev (z := X 14 n) (by rw [o14]; omega), hc _ (by rw [o14]; omega), ih.wet]
    unfold bd1
    by_cases d : (bdm X n).toInt = 0 ∨ ¬ (X 18 n).toInt = -1 ∨ wetA X t (cn (X 14 n)) ∨ ¬ (evA X (S (cn (X 14 n))) t (X 14 n) 1).toInt = 0
    · rw [if_pos d, if_pos (by rw [ec]; exact d)]
      exact ih
    · rw [if_neg d, if_neg (by rw [ec]; exact d), em, ih.row (r := 14) (by decide), ih.row (r := 15) (by decide), ih.row (r := 17) (by decide), ih.row (r := 0) (by decide)]
      exact (((ih.w (by rw [ih.z (r := 4) (by decide) (by rw [o14]; omega)])).w (by rw [ih.s (r := 7) (by decide) (by rw [o15]; omega)])).w rfl).w rfl
theorem Agr.fr {A B : fc_I} (h : Agr A B) (hb : ∀ b : Nat, b < 4 → (b : Int) < (A 0 5).toInt → cn (A 15 b) < 3) : ∀ n : Nat, n ≤ 4 → (n : Int) ≤ (A 0 5).toInt → Agr (frA A n) (frA B n)
  | 0, _, _ => h
  | n + 1, h4, hn => by
    have ih := Agr.fr h hb n (by omega) (by omega)
    have q := hb n (by omega) (by omega)
    show Agr (fr1 (frA A n) n) (fr1 (frA B n) n)
    have o15 : frA A n 15 = A 15 := frA_o (by decide) n
    generalize frA A n = X at *
    generalize frA B n = Y at *
    unfold fr1
    rw [ih.row (r := 15) (by decide), ih.row (r := 0) (by decide), ih.b (Or.inl rfl) (show n < 4 by omega), ih.b (r := 19) (Or.inr rfl) (show n < 4 by omega)]
    split
    · exact ((ih.w (by rw [ih.s (r := 8) (by decide) (by rw [o15]; omega)])).w rfl).w rfl
    · exact ih
theorem Agr.hS {A B : fc_I} (h : Agr A B) (hw : Wh A) {C C' : Nat → Bool} {S S' : Nat → Int32} (hc : ∀ z, z < 6 → C' z = C z ∧ S' z = S z) {t : Int32} : Agr (hS C S t A) (hS C' S' t B) := by
  have r0 := h.row (r := 0) (by decide)
  have h1 := Wh_lv (C := C) (S := S) (t := t) hw
  have h2 := Wh_rd (t := t) h1
  have a1 := h.lv hw hc (t := t)
  have a2 := a1.rd h1 (t := t)
  have n5 : rdA t (lvA C S t A) 0 5 = A 0 5 := by rw [rdA_0 (by decide), lvA_o (by decide)]
  have n15 : rdA t (lvA C S t A) 15 = A 15 := by rw [rdA_o (by decide), lvA_o (by decide)]
  have z5 := hw.1.2.2.2.2.1
  have e5 := cn_int (x := A 0 5) z5.1
  have a3 := a2.bd h2 (fun z hz => (hc z hz).2) (t := t) (cn (A 0 5)) (by rw [n5]; omega)
  have a4 : Agr (tkA (bdA S t (rdA t (lvA C S t A)) (cn (A 0 5)))) (tkA (bdA S' t (rdA t (lvA C' S' t B)) (cn (A 0 5)))) := by
    unfold tkA
    exact a3.w (by rw [a3.row (r := 0) (by decide)])
  have t5 : tkA (bdA S t (rdA t (lvA C S t A)) (cn (A 0 5))) 0 5 = A 0 5 := by
    unfold tkA
    rw [fc_wI_at, if_neg (by decide), bdA_o (by decide), n5]
  have t15 : tkA (bdA S t (rdA t (lvA C S t A)) (cn (A 0 5))) 15 = A 15 := by
    unfold tkA
    rw [fc_wI_lo (by decide), bdA_o (by decide), n15]
  have a5 := a4.fr (fun b hb hq => by
    rw [t5] at hq
    obtain ⟨b0, b1, b2, _⟩ := bus_at hw hq
    rw [t15]
    have := cn_int b2.1
    omega) (cn (A 0 5)) (by omega) (by rw [t5]; omega)
  show Agr (frA _ (cn (A 0 5))) (frA _ (cn (B 0 5)))
  rw [r0]
  exact a5
