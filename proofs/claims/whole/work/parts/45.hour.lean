/-! ===== an hour on the abstract rows ===== -/
def zi (n : Nat) : Int32 := Int32.ofNat n
theorem zi_int {n : Nat} (h : n < 100000) : (zi n).toInt = (n : Int) := Int32.toInt_ofNat_of_lt (by omega)
theorem zi_cn {n : Nat} (h : n < 100000) : cn (zi n) = n := cn_eq (zi_int h)
theorem zi_of {x : Int32} {n : Nat} (h : x.toInt = (n : Int)) (hn : n < 100000) : x = zi n := Int32.toInt_inj.mp (h.trans (zi_int hn).symm)
abbrev wetA (A : fc_I) (t : Int32) (z : Nat) : Prop := (A 1 z).toInt < (A 30 (61 * cn t + cn (A 0 0))).toInt
/-- how many set out -/
def lvn (C : Nat → Bool) (S : Nat → Int32) (t : Int32) (A : fc_I) (z : Nat) : Int32 := if C z = true ∧ ¬ wetA A t z ∧ (evA A (S z) t (zi z) 1).toInt = 0 then (A 2 z * imax 0 (imin 100 (evA A (S z) t (zi z) 0))) / 100 else 0
/-- the first n zones' folk have set out -/
def lvP (C : Nat → Bool) (S : Nat → Int32) (t : Int32) (A : fc_I) (n : Nat) : fc_I := fun r k => if r = 2 then (if k < n then A 2 k - lvn C S t A k else A 2 k) else if r = 3 then (if k < n then A 3 k + lvn C S t A k else A 3 k) else A r k
/-- what a road can take -/
def opA (t : Int32) (A : fc_I) (r : Nat) : Int32 :=
  if wetA A t (cn (A 10 r)) then 0 else if (A 11 r).toInt < 6 ∧ wetA A t (cn (A 11 r)) then 0
  else if ¬ (A 13 r).toInt = -1 ∧ (A 0 0).toInt < (A 13 r).toInt + (if (A 9 r).toInt = 3 then 2 else 1) then 0
  else if (A 9 r).toInt = 1 ∨ (A 9 r).toInt = 3 then (if (A 13 r).toInt = -1 then A 12 r else A 12 r * 2)
  else if (A 9 r).toInt = 2 then (if 40 < (A 31 (61 * cn t + cn (A 0 0))).toInt then 0 else A 12 r)
  else if (A 9 r).toInt = 4 then (if 40 < (A 31 (61 * cn t + cn (A 0 0))).toInt then 0 else if 20 < (A 31 (61 * cn t + cn (A 0 0))).toInt then A 12 r / 2 else A 12 r)
  else if (A 9 r).toInt = 5 then A 12 r / 3 else A 12 r
def baA (t : Int32) (A : fc_I) (r : Nat) : Int32 := if (A 6 (cn (A 10 r))).toInt = (r : Int) then imin (A 3 (cn (A 10 r))) (opA t A r) else 0
abbrev isS (A : fc_I) (r : Nat) : Prop := 10 ≤ (A 11 r).toInt ∧ (A 11 r).toInt ≤ 12
def rmA (t : Int32) (A : fc_I) : Nat → Nat → Int32
  | 0 => A 7
  | n + 1 => if isS A n then upd (rmA t A n) (cn (A 11 n) - 10) (rmA t A n (cn (A 11 n) - 10) - imin (baA t A n) (rmA t A n (cn (A 11 n) - 10))) else rmA t A n
/-- how many take a road -/
def mvA (t : Int32) (A : fc_I) (n : Nat) : Int32 := if isS A n then imin (baA t A n) (rmA t A n (cn (A 11 n) - 10)) else baA t A n
def crA (t : Int32) (A : fc_I) : Nat → Nat → Int32
  | 0 => A 3
  | n + 1 => if (A 11 n).toInt < 6 then upd (upd (crA t A n) (cn (A 10 n)) (crA t A n (cn (A 10 n)) - mvA t A n)) (cn (A 11 n)) ((upd (crA t A n) (cn (A 10 n)) (crA t A n (cn (A 10 n)) - mvA t A n)) (cn (A 11 n)) + mvA t A n) else upd (crA t A n) (cn (A 10 n)) (crA t A n (cn (A 10 n)) - mvA t A n)
def shA (t : Int32) (A : fc_I) : Nat → Nat → Int32
  | 0 => A 8
  | n + 1 => if isS A n then upd (shA t A n) (cn (A 11 n) - 10) (shA t A n (cn (A 11 n) - 10) + mvA t A n) else shA t A n
def ouA (t : Int32) (A : fc_I) : Nat → Int32
  | 0 => A 0 11
  | n + 1 => if (A 11 n).toInt < 6 ∨ isS A n then ouA t A n else ouA t A n + mvA t A n
/-- n roads have been gone, m have been chosen -/
def rdP (t : Int32) (A : fc_I) (n m : Nat) : fc_I := fun r k => if r = 3 then crA t A n k else if r = 7 then rmA t A m k else if r = 8 then shA t A n k else if r = 0 ∧ k = 11 then ouA t A n else A r k
/-- a bus -/
def bdm (A : fc_I) (b : Nat) : Int32 := imin (A 16 b) (imin (A 4 (cn (A 14 b))) (A 7 (cn (A 15 b))))
def bd1 (S : Nat → Int32) (t : Int32) (A : fc_I) (b : Nat) : fc_I := if (bdm A b).toInt = 0 ∨ ¬ (A 18 b).toInt = -1 ∨ wetA A t (cn (A 14 b)) ∨ ¬ (evA A (S (cn (A 14 b))) t (A 14 b) 1).toInt = 0 then A else fc_wI (fc_wI (fc_wI (fc_wI A 4 (cn (A 14 b)) (A 4 (cn (A 14 b)) - bdm A b)) 7 (cn (A 15 b)) (A 7 (cn (A 15 b)) - bdm A b)) 19 b (bdm A b)) 18 b (A 0 0 + A 17 b)
def bdA (S : Nat → Int32) (t : Int32) (A : fc_I) : Nat → fc_I
  | 0 => A
  | n + 1 => bd1 S t (bdA S t A n) n
def fr1 (A : fc_I) (b : Nat) : fc_I := if (A 18 b).toInt = (A 0 0).toInt then fc_wI (fc_wI (fc_wI A 8 (cn (A 15 b)) (A 8 (cn (A 15 b)) + A 19 b)) 19 b 0) 18 b (-1) else A
def frA (A : fc_I) : Nat → fc_I
  | 0 => A
  | n + 1 => fr1 (frA A n) n
def lvA (C : Nat → Bool) (S : Nat → Int32) (t : Int32) (A : fc_I) : fc_I := lvP C S t A (cn (A 0 2))
def rdA (t : Int32) (A : fc_I) : fc_I := rdP t A (cn (A 0 4)) (cn (A 0 4))
def tkA (A : fc_I) : fc_I := fc_wI A 0 0 (A 0 0 + 1)
def hS (C : Nat → Bool) (S : Nat → Int32) (t : Int32) (A : fc_I) : fc_I := frA (tkA (bdA S t (rdA t (lvA C S t A)) (cn (A 0 5)))) (cn (A 0 5))
def isCb (A : fc_I) (z : Nat) : Bool := decide (isC A z)
/-- bounds through an hour -/
def WzA (A : fc_I) : Prop := ∀ z : Nat, z < 6 → (0 ≤ (A 2 z).toInt ∧ 0 ≤ (A 3 z).toInt ∧ 0 ≤ (A 4 z).toInt) ∧ (-1 ≤ (A 6 z).toInt ∧ (A 6 z).toInt < (A 0 4).toInt) ∧ ((A 0 2).toInt ≤ (z : Int) → (A 2 z).toInt = 0 ∧ (A 3 z).toInt = 0 ∧ (A 4 z).toInt = 0)
def Wh (A : fc_I) : Prop := Wf0 A ∧ WfR A ∧ WfU A ∧ WzA A ∧ WfG A ∧ WfH A ∧ WfT A
theorem Wh_of {A : fc_I} (h : Wf A) : Wh A := by
  obtain ⟨h0, h1, h2, h3, h4, h5, h6, h7, h8⟩ := h
  refine ⟨h0, h1, h2, fun z hz => ?_, h6, h7, h8⟩
  obtain ⟨a1, a2, a3, a4, a5, a6⟩ := h5 z hz
  exact ⟨a2, a4, fun q => ⟨(a5 q).1, (a5 q).2.1, (a5 q).2.2.1⟩⟩
theorem imin_le {x y : Int32} : (imin x y).toInt ≤ x.toInt ∧ (imin x y).toInt ≤ y.toInt ∧ ((imin x y).toInt = x.toInt ∨ (imin x y).toInt = y.toInt) := by
  unfold imin
  by_cases h : y < x
  · rw [if_pos h]
    have := Int32.lt_iff_toInt_lt.mp h
    exact ⟨by omega, by omega, Or.inr rfl⟩
  · rw [if_neg h]
    have h2 : ¬ y.toInt < x.toInt := fun z => h (Int32.lt_iff_toInt_lt.mpr z)
    exact ⟨by omega, by omega, Or.inl rfl⟩
theorem imin_comm {x y : Int32} : imin x y = imin y x := by
  obtain ⟨a1, a2, a3⟩ := imin_le (x := x) (y := y)
  obtain ⟨b1, b2, b3⟩ := imin_le (x := y) (y := x)
  exact Int32.toInt_inj.mp (by omega)
theorem imax_le {x y : Int32} : x.toInt ≤ (imax x y).toInt ∧ y.toInt ≤ (imax x y).toInt ∧ ((imax x y).toInt = x.toInt ∨ (imax x y).toInt = y.toInt) := by
  unfold imax
  by_cases h : x < y
  · rw [if_pos h]
    have := Int32.lt_iff_toInt_lt.mp h
    exact ⟨by omega, by omega, Or.inr rfl⟩
  · rw [if_neg h]
    have h2 : ¬ x.toInt < y.toInt := fun z => h (Int32.lt_iff_toInt_lt.mpr z)
    exact ⟨by omega, by omega, Or.inl rfl⟩
theorem i_div {x y : Int32} {n : Nat} (hy : y.toInt = (n : Int)) (h0 : 0 ≤ x.toInt) (hn : 0 < n) : (x / y).toInt = x.toInt / (n : Int) := by
  have hne : y ≠ -1 := fun z => by rw [z] at hy; have e : (-1 : Int32).toInt = -1 := rfl; omega
  rw [Int32.toInt_div_of_ne_right _ _ hne, hy, Int.tdiv_eq_ediv_of_nonneg h0]
theorem i_zero {x : Int32} (h : x.toInt = 0) : x = 0 := Int32.toInt_inj.mp (h.trans kt_0.symm)
theorem upd_id {f : Nat → Int32} {k : Nat} {v : Int32} (h : v = f k) : upd f k v = f := by
  funext j
  unfold upd
  by_cases e : j = k
  · rw [if_pos e, h, e]
  · rw [if_neg e]
theorem fc_wI_id {A : fc_I} {r k : Nat} {v : Int32} (h : v = A r k) : fc_wI A r k v = A := by
  funext a b
  unfold fc_wI
  by_cases e : a = r ∧ b = k
  · rw [if_pos e, h, e.1, e.2]
  · rw [if_neg e]
/-- those that set out are some of those at home -/
theorem lvn_b {C : Nat → Bool} {S : Nat → Int32} {t : Int32} {A : fc_I} {z : Nat} (h0 : 0 ≤ (A 2 z).toInt) (h1 : (A 2 z).toInt ≤ 1000000) : 0 ≤ (lvn C S t A z).toInt ∧ (lvn C S t A z).toInt ≤ (A 2 z).toInt := by
  unfold lvn
  by_cases c : C z = true ∧ ¬ wetA A t z ∧ (evA A (S z) t (zi z) 1).toInt = 0
  · rw [if_pos c]
    generalize evA A (S z) t (zi z) 0 = v
    obtain ⟨a1, a2, a3⟩ := imin_le (x := 100) (y := v)
    obtain ⟨b1, b2, b3⟩ := imax_le (x := 0) (y := imin 100 v)
    rw [kt_0] at b1
    rw [kt_0] at b3
    have k100 : (100 : Int32).toInt = 100 := rfl
    rw [k100] at a1
    generalize imax 0 (imin 100 v) = w at *
    have hw : 0 ≤ w.toInt ∧ w.toInt ≤ 100 := by omega
    have e1 : (A 2 z).toInt * w.toInt ≤ (A 2 z).toInt * 100 := Int.mul_le_mul_of_nonneg_left hw.2 h0
    have e2 : 0 ≤ (A 2 z).toInt * w.toInt := Int.mul_nonneg h0 hw.1
    have e3 : (A 2 z * w).toInt = (A 2 z).toInt * w.toInt := i_mul (by omega) (by omega)
    rw [i_div (n := 100) k100 (by rw [e3]; exact e2) (by omega), e3]
    omega
  · rw [if_neg c, kt_0]
    omega
theorem opA_b {t : Int32} {A : fc_I} (h : WfR A) {r : Nat} (hr : (r : Int) < (A 0 4).toInt) : 0 ≤ (opA t A r).toInt := by
  obtain ⟨a1, a2, a3, a4, a5⟩ := h r hr
  have m2 : (A 12 r * 2).toInt = (A 12 r).toInt * 2 := i_mul (by rw [kt_2]; omega) (by rw [kt_2]; omega)
  have d2 : (A 12 r / 2).toInt = (A 12 r).toInt / 2 := i_div (n := 2) kt_2 (by omega) (by omega)
  have d3 : (A 12 r / 3).toInt = (A 12 r).toInt / 3 := i_div (n := 3) kt_3 (by omega) (by omega)
  unfold opA
  repeat' split
  all_goals first | (rw [kt_0]; omega) | omega
theorem baA_b {t : Int32} {A : fc_I} (h : Wh A) {r : Nat} (hr : (r : Int) < (A 0 4).toInt) : 0 ≤ (baA t A r).toInt ∧ ((A 6 (cn (A 10 r))).toInt = (r : Int) → (baA t A r).toInt ≤ (A 3 (cn (A 10 r))).toInt) ∧ (¬ (A 6 (cn (A 10 r))).toInt = (r : Int) → baA t A r = 0) := by
  obtain ⟨w0, wr, wu, wz, wg, wh, wt⟩ := h
  have o := opA_b (t := t) wr hr
  obtain ⟨a1, a2, a3, a4, a5⟩ := wr r hr
  have e2 := cn_int a2.1
  have z2 := w0.2.1
  obtain ⟨b1, b2, b3⟩ := wz (cn (A 10 r)) (by omega)
  unfold baA
  obtain ⟨c1, c2, c3⟩ := imin_le (x := A 3 (cn (A 10 r))) (y := opA t A r)
  by_cases c : (A 6 (cn (A 10 r))).toInt = (r : Int)
  · rw [if_pos c]
    exact ⟨by omega, fun _ => c1, fun q => absurd c q⟩
  · rw [if_neg c]
    exact ⟨by rw [kt_0]; omega, fun q => absurd q c, fun _ => rfl⟩
theorem rmA_b {t : Int32} {A : fc_I} (h : Wh A) : ∀ n : Nat, (n : Int) ≤ (A 0 4).toInt → ∀ s, s < 3 → 0 ≤ (rmA t A n s).toInt
  | 0, _, s, hs => h.2.2.2.2.2.1.1 s hs
  | n + 1, hn, s, hs => by
    have ih := rmA_b (t := t) h n (by omega)
    have b := (baA_b (t := t) h (r := n) (by omega)).1
    unfold rmA
    by_cases c : isS A n
    · rw [if_pos c]
      have e := cn_int (x := A 11 n) (by omega)
      have q := ih (cn (A 11 n) - 10) (by omega)
      obtain ⟨c1, c2, c3⟩ := imin_le (x := baA t A n) (y := rmA t A n (cn (A 11 n) - 10))
      unfold upd
      by_cases g : s = cn (A 11 n) - 10
      · have h9 := Int32.toInt_lt (rmA t A n (cn (A 11 n) - 10))
        rw [if_pos g, i_sub (by omega) (by omega)]
        omega
      · rw [if_neg g]
        exact ih s hs
    · rw [if_neg c]
      exact ih s hs
theorem mvA_b {t : Int32} {A : fc_I} (h : Wh A) {r : Nat} (hr : (r : Int) < (A 0 4).toInt) : 0 ≤ (mvA t A r).toInt ∧ (mvA t A r).toInt ≤ (baA t A r).toInt ∧ (¬ (A 6 (cn (A 10 r))).toInt = (r : Int) → mvA t A r = 0) := by
  obtain ⟨b1, b2, b3⟩ := baA_b (t := t) h hr
  unfold mvA
  by_cases c : isS A r
  · rw [if_pos c]
    have e := cn_int (x := A 11 r) (by omega)
    have q := rmA_b (t := t) h r (by omega) (cn (A 11 r) - 10) (by omega)
    obtain ⟨c1, c2, c3⟩ := imin_le (x := baA t A r) (y := rmA t A r (cn (A 11 r) - 10))
    refine ⟨by omega, c1, fun z => ?_⟩
    have z2 := b3 z
    rw [z2, kt_0] at c1
    rw [z2, kt_0] at c3
    rw [z2]
    exact i_zero (by omega)
  · rw [if_neg c]
    exact ⟨b1, Int.le_refl _, b3⟩
