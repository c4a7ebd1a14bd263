/-- does one of n numbers from k on have p -/
def anyB (p : Nat → Bool) : Nat → Nat → Bool
  | 0, _ => false
  | n + 1, k => p k || anyB p n (k + 1)
theorem anyB_s {p : Nat → Bool} {n k : Nat} : anyB p (n + 1) k = (p k || anyB p n (k + 1)) := rfl
def b2 (b : Bool) : Int32 := if b = true then 1 else 0
theorem b2_0 {b : Bool} : ((b2 b).toInt = 0) = (b = false) := by cases b <;> simp [b2] <;> decide
theorem b2_z {γ : Type} {b : Bool} {k : Option γ} : fq_z (b2 b) k = k := fq_zp (by cases b; exact Or.inl rfl; exact Or.inr rfl)
/-- was water above a height known to come in an hour -/
def wkB (I : fc_I) (t y q : Int32) (h : Nat) : Bool := decide (y.toInt < (valB (tlB I t (Int32.ofNat h) q) (cn (I 15 9)) (I 28)).toInt)
theorem i_of {x : Int32} (h : 0 ≤ x.toInt) : Int32.ofNat (cn x) = x := by
  have e := cn_int h
  apply Int32.toInt_inj.mp
  rw [Int32.toInt_ofNat_of_lt (by have := Int32.toInt_lt x; omega)]
  exact e
/-- the reference: was a zone wet by a track, as known in an hour -/
theorem e_wasWet {I : fc_I} (he : aX 45 I = aM I) {t z q : Int32} (hc : 0 ≤ (I 15 9).toInt ∧ (I 15 9).toInt ≤ 40) (hz : 0 ≤ z.toInt ∧ z.toInt < 6) (hq : 0 ≤ q.toInt ∧ q.toInt ≤ 60) (hE : (I 15 11).toInt ≤ 60) : f_X11_wasWet I t z q = some (b2 (anyB (wkB I t (I 2 (cn z)) q) ((if q.toInt + 12 < (I 15 11).toInt then q.toInt + 12 else (I 15 11).toInt) + 1 - q.toInt).toNat (cn q))) := by
  have e12 : (q + 12).toInt = q.toInt + 12 := i_add (by rw [kt_12]; omega) (by rw [kt_12]; omega)
  obtain ⟨u, hu⟩ : ∃ u : Int, u = (if q.toInt + 12 < (I 15 11).toInt then q.toInt + 12 else (I 15 11).toInt) := ⟨_, rfl⟩
  rw [← hu]
  have hu1 : u ≤ q.toInt + 12 ∧ u ≤ (I 15 11).toInt ∧ (u = q.toInt + 12 ∨ u = (I 15 11).toInt) := by rw [hu]; split <;> omega
  have eq0 := cn_int hq.1
  have key := lpp2_S (B := f_X11_wasWet_6_B I t z q) (fun _ i => (u + 1 - i.toInt).toNat) (fun x i => q.toInt ≤ i.toInt ∧ i.toInt ≤ 80 ∧ ∃ b, x = b2 b) (fun x i => some (b2 (decide (¬ x.toInt = 0) || anyB (wkB I t (I 2 (cn z)) q) (u + 1 - i.toInt).toNat (cn i)))) (fun k x i hi ih => by
    obtain ⟨h1, h2, bb, rfl⟩ := hi
    have ei := cn_int (x := i) (by omega)
    unfold f_X11_wasWet_6_B
    simp only [fq_l, q0_1 he, qr_79 he, b2_z, e12]
    by_cases c1 : u < i.toInt
    · rw [show (u + 1 - i.toInt).toNat = 0 by omega]
      have efin : (some (b2 bb) : Option Int32) = some (b2 (decide (¬ (b2 bb).toInt = 0) || anyB (wkB I t (I 2 (cn z)) q) 0 (cn i))) := by cases bb <;> rfl
      by_cases c2 : q.toInt + 12 < i.toInt
      · rw [if_pos c2]; exact efin
      · rw [if_neg c2, if_pos (by omega)]; exact efin
    · rw [if_neg (by omega), if_neg (by omega)]
      obtain ⟨e1, e2⟩ := i_p1 (N := 1000) (x := i) (by omega) (by omega) (by omega)
      rw [show (u + 1 - i.toInt).toNat = (u + 1 - (i + 1).toInt).toNat + 1 by omega, anyB_s]
      have go : ∀ b', k (b2 b') (i + 1) = some (b2 (decide (¬ (b2 b').toInt = 0) || anyB (wkB I t (I 2 (cn z)) q) (u + 1 - (i + 1).toInt).toNat (cn i + 1))) := fun b' => by
        rw [ih (b2 b') (i + 1) ⟨by omega, by omega, b', rfl⟩ (by omega), e2]
      cases bb with
      | true =>
        rw [if_neg (by decide), show k 1 (i + 1) = _ from go true]
        rfl
      | false =>
        rw [if_pos (by decide), e_knownOf he (Or.inl rfl) hc, fq_vsome, fq_gp ⟨hz.1, by omega⟩, if_pos kt_0]
        have ew : wkB I t (I 2 (cn z)) q (cn i) = decide ((I 2 (cn z)).toInt < (valB (tlB I t i q) (cn (I 15 9)) (I 28)).toInt) := by
          unfold wkB
          rw [i_of (by omega)]
        rw [ew]
        by_cases c3 : (I 2 (cn z)).toInt < (valB (tlB I t i q) (cn (I 15 9)) (I 28)).toInt
        · rw [if_pos c3, show k 1 (i + 1) = _ from go true, decide_eq_true c3]
          rfl
        · rw [if_neg c3, show k 0 (i + 1) = _ from go false, decide_eq_false c3]
          rfl)
  have r := key 4000 0 q ⟨by omega, by omega, false, rfl⟩ (by show (u + 1 - q.toInt).toNat < 4000; omega)
  exact r
/-- is a track likely by which that is so -/
def trB (I : fc_I) (y q : Int32) (N : Nat) (t : Nat) : Bool := decide (¬ (I 16 t).toInt = 0) && anyB (wkB I (Int32.ofNat t) y q) N (cn q)
theorem e_danger {I : fc_I} {y q : Int32} (hc : 0 ≤ (I 15 9).toInt ∧ (I 15 9).toInt ≤ 40) (hq : 0 ≤ q.toInt ∧ q.toInt ≤ 60) (hE : (I 15 11).toInt ≤ 60) : f_X8_wasDanger I y q = some (b2 (anyB (trB I y q ((if q.toInt + 12 < (I 15 11).toInt then q.toInt + 12 else (I 15 11).toInt) + 1 - q.toInt).toNat) 3 0)) := by
  have e12 : (q + 12).toInt = q.toInt + 12 := i_add (by rw [kt_12]; omega) (by rw [kt_12]; omega)
  obtain ⟨u, hu⟩ : ∃ u : Int, u = (if q.toInt + 12 < (I 15 11).toInt then q.toInt + 12 else (I 15 11).toInt) := ⟨_, rfl⟩
  rw [← hu]
  obtain ⟨v, hv⟩ : ∃ v : Int32, v = imin (q + 12) (I 15 11) := ⟨_, rfl⟩
  have hvu : v.toInt = u := by
    rw [hv, hu]
    unfold imin
    by_cases c : I 15 11 < q + 12
    · rw [if_pos c]
      have c := Int32.lt_iff_toInt_lt.mp c
      rw [if_neg (by omega)]
    · rw [if_neg c]
      have c : ¬ (I 15 11).toInt < (q + 12).toInt := fun z => c (Int32.lt_iff_toInt_lt.mpr z)
      by_cases d : q.toInt + 12 < (I 15 11).toInt
      · rw [if_pos d]; exact e12
      · rw [if_neg d]; omega
  have hu1 : u ≤ q.toInt + 12 := by rw [hu]; split <;> omega
  have eq0 := cn_int hq.1
  have inner : ∀ (k : Int32 → Option Int32) (t : Int32), 0 ≤ t.toInt → t.toInt < 3 → f_X8_wasDanger_24 I y q v t k 4000 q = if trB I y q (u + 1 - q.toInt).toNat (cn t) = true then some 1 else k (t + 1) := fun k t h0 h3 => by
    have et : Int32.ofNat (cn t) = t := i_of h0
    have key := lpp1_S (B := f_X8_wasDanger_24_B I y q v t k) (fun i => (u + 1 - i.toInt).toNat) (fun i => q.toInt ≤ i.toInt ∧ i.toInt ≤ 80) (fun i => if (decide (¬ (I 16 (cn t)).toInt = 0) && anyB (wkB I t y q) (u + 1 - i.toInt).toNat (cn i)) = true then some 1 else k (t + 1)) (fun k' i hi ih => by
      have ei := cn_int (x := i) (by omega)
      unfold f_X8_wasDanger_24_B
      rw [fq_gp ⟨h0, by omega⟩]
      simp only [fq_l, hvu]
      by_cases c0 : (I 16 (cn t)).toInt = 0
      · rw [if_pos c0, decide_eq_false (not_not_intro c0)]
        rfl
      · rw [if_neg c0]
        by_cases c1 : u < i.toInt
        · rw [if_pos c1, show (u + 1 - i.toInt).toNat = 0 by omega, decide_eq_true c0]
          rfl
        · rw [if_neg c1, e_waterKnown hc, fq_vsome]
          obtain ⟨e1, e2⟩ := i_p1 (N := 1000) (x := i) (by omega) (by omega) (by omega)
          rw [show (u + 1 - i.toInt).toNat = (u + 1 - (i + 1).toInt).toNat + 1 by omega, anyB_s]
          have ew : wkB I t y q (cn i) = decide (y.toInt < (valB (tlB I t i q) (cn (I 15 9)) (I 28)).toInt) := by
            unfold wkB
            rw [i_of (by omega)]
          rw [ew]
          by_cases c3 : y.toInt < (valB (tlB I t i q) (cn (I 15 9)) (I 28)).toInt
          · rw [if_pos c3, decide_eq_true c3, decide_eq_true c0]
            rfl
          · rw [if_neg c3, decide_eq_false c3, ih (i + 1) ⟨by omega, by omega⟩ (by omega), e2]
            rfl)
    have r := key 4000 q ⟨by omega, by omega⟩ (by show (u + 1 - q.toInt).toNat < 4000; omega)
    unfold trB
    rw [et]
    exact r
  have key := lpp1_S (B := f_X8_wasDanger_15_B I y q v) (fun t => 3 - cn t) (fun t => 0 ≤ t.toInt ∧ t.toInt ≤ 3) (fun t => some (b2 (anyB (trB I y q (u + 1 - q.toInt).toNat) (3 - cn t) (cn t)))) (fun k t hi ih => by
    have et := cn_int hi.1
    unfold f_X8_wasDanger_15_B
    by_cases c : t.toInt < (3 : Int32).toInt
    · have c := c
      rw [if_pos c, inner k t hi.1 (by rw [kt_3] at c; exact c)]
      rw [kt_3] at c
      obtain ⟨e1, e2⟩ := i_p1 (N := 3) (x := t) hi.1 (by omega) (by omega)
      rw [show 3 - cn t = (3 - (cn t + 1)) + 1 by omega, anyB_s]
      by_cases d : trB I y q (u + 1 - q.toInt).toNat (cn t) = true
      · rw [if_pos d, d]
        rfl
      · rw [if_neg d, ih (t + 1) ⟨by omega, by omega⟩ (by omega), e2]
        rw [Bool.not_eq_true] at d
        rw [d]
        rfl
    · rw [if_neg c]
      rw [kt_3] at c
      rw [show 3 - cn t = 0 by omega]
      rfl)
  have r := key 4000 0 ⟨by rw [kt_0]; omega, by rw [kt_0]; omega⟩ (by show 3 - cn 0 < 4000; omega)
  show f_X8_wasDanger_15 I y q (imin (q + 12) (I 15 11)) 4000 0 = _
  rw [← hv]
  exact r
theorem e_goodM {I : fc_I} (he : aX 45 I = aM I) {z q : Int32} (hc : 0 ≤ (I 15 9).toInt ∧ (I 15 9).toInt ≤ 40) (hL : WfL (aX 45 I)) (hz : 0 ≤ z.toInt ∧ z.toInt < 6) (hq0 : I 49 (cn z) = q) (hq : 0 ≤ q.toInt ∧ q.toInt ≤ 60) (hE : (I 15 11).toInt ≤ 60) : f_X11_good_27 I z 4000 0 0 = some (b2 (anyB (trB I (I 2 (cn z)) q ((if q.toInt + 12 < (I 15 11).toInt then q.toInt + 12 else (I 15 11).toInt) + 1 - q.toInt).toNat) 3 0)) := by
  obtain ⟨N, hN⟩ : ∃ N : Nat, N = ((if q.toInt + 12 < (I 15 11).toInt then q.toInt + 12 else (I 15 11).toInt) + 1 - q.toInt).toNat := ⟨_, rfl⟩
  have ww : ∀ t : Int32, f_X11_wasWet I t z q = some (b2 (anyB (wkB I t (I 2 (cn z)) q) N (cn q))) := fun t => by rw [hN]; exact e_wasWet he hc hz hq hE
  rw [← hN]
  have key := lpp2_S (B := f_X11_good_27_B I z) (fun _ t => 3 - cn t) (fun x t => 0 ≤ t.toInt ∧ t.toInt ≤ 3 ∧ ∃ b, x = b2 b) (fun x t => some (b2 (decide (¬ x.toInt = 0) || anyB (trB I (I 2 (cn z)) q N) (3 - cn t) (cn t)))) (fun k x t hi ih => by
    obtain ⟨h1, h2, bb, rfl⟩ := hi
    have et := cn_int h1
    unfold f_X11_good_27_B
    simp only [fq_l, qr_99 he, qr_83 he, hq0]
    by_cases c : t.toInt < (3 : Int32).toInt
    · rw [if_pos c]
      rw [kt_3] at c
      obtain ⟨e1, e2⟩ := i_p1 (N := 3) (x := t) h1 (by omega) (by omega)
      rw [show 3 - cn t = (3 - (cn t + 1)) + 1 by omega, anyB_s]
      have go : ∀ b', k (b2 b') (t + 1) = some (b2 (decide (¬ (b2 b').toInt = 0) || anyB (trB I (I 2 (cn z)) q N) (3 - (cn t + 1)) (cn t + 1))) := fun b' => by
        rw [ih (b2 b') (t + 1) ⟨by omega, by omega, b', rfl⟩ (by omega), e2]
      cases bb with
      | true =>
        rw [if_neg (by decide), show k 1 (t + 1) = _ from go true]
        rfl
      | false =>
        rw [if_pos (by decide), fq_gp ⟨h1, by omega⟩]
        have hl := wl_at hL t h1 (by omega)
        have etr : trB I (I 2 (cn z)) q N (cn t) = (decide (¬ (I 16 (cn t)).toInt = 0) && anyB (wkB I t (I 2 (cn z)) q) N (cn q)) := by
          unfold trB
          rw [i_of h1]
        rw [etr]
        by_cases d : (I 16 (cn t)).toInt = (1 : Int32).toInt
        · rw [if_pos d, fq_gp ⟨hz.1, by omega⟩, ww t, fq_vsome]
          rw [kt_1] at d
          rw [decide_eq_true (show ¬ (I 16 (cn t)).toInt = 0 by omega)]
          cases ha : anyB (wkB I t (I 2 (cn z)) q) N (cn q) with
          | true =>
            rw [if_neg (by decide), show k 1 (t + 1) = _ from go true]
            rfl
          | false =>
            rw [if_pos (by decide), show k 0 (t + 1) = _ from go false]
            rfl
        · rw [if_neg d]
          rw [kt_1] at d
          rw [decide_eq_false (show ¬ ¬ (I 16 (cn t)).toInt = 0 by omega), show k 0 (t + 1) = _ from go false]
          rfl
    · rw [if_neg c]
      rw [kt_3] at c
      rw [show 3 - cn t = 0 by omega]
      cases bb <;> rfl)
  exact key 4000 0 0 ⟨by rw [kt_0]; omega, by rw [kt_0]; omega, false, rfl⟩ (by show 3 - cn 0 < 4000; omega)
set_option maxHeartbeats 4000000 in
set_option maxRecDepth 100000 in
theorem r_good {I : fc_I} {x1 : Int32} (hR : Rel I) : PR (f_X10_good I x1) (f_X11_good I x1) := by
  have he := hR.1
  have hw0 : (0 ≤ (I 45 9).toInt ∧ (I 45 9).toInt ≤ (I 15 11).toInt ∧ 1 ≤ (I 15 11).toInt ∧ (I 15 11).toInt ≤ 60) ∧ (0 ≤ (I 1 2).toInt ∧ (I 1 2).toInt ≤ 6) ∧ (0 ≤ (I 1 3).toInt ∧ (I 1 3).toInt ≤ 3) ∧ (0 ≤ (I 4 5).toInt ∧ (I 4 5).toInt ≤ 14) ∧ (0 ≤ (I 10 4).toInt ∧ (I 10 4).toInt ≤ 4) ∧ (0 ≤ (I 15 10).toInt ∧ (I 15 10).toInt ≤ 2) ∧ (0 ≤ (I 15 9).toInt ∧ (I 15 9).toInt ≤ 40) ∧ (0 ≤ (I 31 6).toInt ∧ (I 31 6).toInt ≤ 160) ∧ (1 ≤ (I 31 7).toInt ∧ (I 31 7).toInt ≤ 6) ∧ (0 ≤ (I 31 8).toInt ∧ (I 31 8).toInt < (I 31 7).toInt) := hR.2.1.1
  obtain ⟨⟨w1, w2, w3, w4⟩, ⟨w5, w6⟩, ⟨w7, w8⟩, ⟨w9, w10⟩, ⟨w11, w12⟩, ⟨w13, w14⟩, ⟨w15, w16⟩, ⟨w17, w18⟩, ⟨w19, w20⟩, ⟨w21, w22⟩⟩ := hw0
  have f1 := wz_at hR.2.1.2.2.2.2.2.1 x1
  have hx : f_X10_good I x1 = (if ¬ (x1.toInt < 0 ∨ (I 1 2).toInt ≤ x1.toInt) then fq_g 6 x1 (if (I 49 (cn x1)).toInt = -1 then some (-1) else fq_g 6 x1 (fq_v (f_X8_wasDanger I (I 2 (cn x1)) (I 49 (cn x1))) fun r => if r.toInt = 0 then some 0 else some 1)) else some (-2)) := by
    unfold f_X10_good
    rw [e_isNoZone (I := I) (h := ⟨w5, by omega⟩), fq_vsome]
    simp only [b2i, fq_l, kt_m1]
  have hm : f_X11_good I x1 = (if ¬ (0 ≤ x1.toInt ∧ x1.toInt < (I 1 2).toInt) then some (-2) else fq_g 6 x1 (if (I 49 (cn x1)).toInt = -1 then some (-1) else f_X11_good_27 I x1 4000 0 0)) := by
    unfold f_X11_good
    rw [e_isZone, fq_vsome, q0_2 he, qr_83 he]
    simp only [b2i, kt_m1]
  by_cases c : x1.toInt < 0 ∨ (I 1 2).toInt ≤ x1.toInt
  · rw [if_neg (not_not_intro c)] at hx
    rw [if_pos (show ¬ (0 ≤ x1.toInt ∧ x1.toInt < (I 1 2).toInt) by omega)] at hm
    exact ⟨_, hx, hm⟩
  · rw [if_pos c, fq_gp ⟨by omega, by omega⟩] at hx
    rw [if_neg (show ¬ ¬ (0 ≤ x1.toInt ∧ x1.toInt < (I 1 2).toInt) by omega), fq_gp ⟨by omega, by omega⟩] at hm
    by_cases d : (I 49 (cn x1)).toInt = -1
    · rw [if_pos d] at hx hm
      exact ⟨_, hx, hm⟩
    · rw [if_neg d, fq_gp ⟨by omega, by omega⟩, e_danger ⟨w15, w16⟩ ⟨by omega, by omega⟩ w4, fq_vsome] at hx
      rw [if_neg d, e_goodM he ⟨w15, w16⟩ hR.2.1.2.2.2.2.1 ⟨by omega, by omega⟩ rfl ⟨by omega, by omega⟩ w4] at hm
      refine ⟨_, ?_, hm⟩
      rw [hx]
      cases anyB (trB I (I 2 (cn x1)) (I 49 (cn x1)) ((if (I 49 (cn x1)).toInt + 12 < (I 15 11).toInt then (I 49 (cn x1)).toInt + 12 else (I 15 11).toInt) + 1 - (I 49 (cn x1)).toInt).toNat) 3 0
      · rfl
      · rfl
