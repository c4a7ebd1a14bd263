/-! ===== the tie of the class's cells and the reference's ===== -/
theorem fc_wI_lo {I : fc_I} {c j : Nat} {x : Int32} {c' : Nat} (h : c' ≠ c) : fc_wI I c j x c' = I c' := fc_wI_ne h
theorem fc_wI_at {I : fc_I} {c j k : Nat} {x : Int32} : fc_wI I c j x c k = if k = j then x else I c k := by
  unfold fc_wI
  by_cases h : k = j <;> simp [h]
theorem fc_wI_comm {I : fc_I} {c j c' j' : Nat} {x x' : Int32} (h : c ≠ c') : fc_wI (fc_wI I c j x) c' j' x' = fc_wI (fc_wI I c' j' x') c j x := by
  funext a b
  unfold fc_wI
  by_cases h1 : a = c
  · have h2 : ¬ a = c' := fun z => h (h1.symm.trans z)
    simp [h1, h]
  · simp [h1]
theorem i_ac (x : Int32) : x + 1 - 1 = x := by
  apply Int32.toBitVec_inj.mp
  simp
theorem fq_vsome {α γ : Type} {a : α} {k : α → Option γ} : fq_v (some a) k = k a := rfl
theorem fq_bsome {α γ : Type} {a : α} {I : fc_I} {k : α → fc_I → Option γ} : fq_b (some (a, I)) k = k a I := rfl
theorem fq_usome {γ : Type} {I : fc_I} {k : fc_I → Option γ} : fq_u (some I) k = k I := rfl
theorem fq_b_g {α γ : Type} {N : Nat} {i : Int32} {A : Option (α × fc_I)} {k : α → fc_I → Option γ} : fq_b (fq_g N i A) k = fq_g N i (fq_b A k) := by
  unfold fq_g
  split <;> rfl
theorem fq_v_g {α γ : Type} {N : Nat} {i : Int32} {A : Option α} {k : α → Option γ} : fq_v (fq_g N i A) k = fq_g N i (fq_v A k) := by
  unfold fq_g
  split <;> rfl
theorem fq_u_g {γ : Type} {N : Nat} {i : Int32} {A : Option fc_I} {k : fc_I → Option γ} : fq_u (fq_g N i A) k = fq_g N i (fq_u A k) := by
  unfold fq_g
  split <;> rfl
theorem fq_b_i {α γ : Type} {c : Prop} [Decidable c] {A B : Option (α × fc_I)} {k : α → fc_I → Option γ} : fq_b (if c then A else B) k = if c then fq_b A k else fq_b B k := by split <;> rfl
theorem fq_v_i {α γ : Type} {c : Prop} [Decidable c] {A B : Option α} {k : α → Option γ} : fq_v (if c then A else B) k = if c then fq_v A k else fq_v B k := by split <;> rfl
theorem fq_u_i {γ : Type} {c : Prop} [Decidable c] {A B : Option fc_I} {k : fc_I → Option γ} : fq_u (if c then A else B) k = if c then fq_u A k else fq_u B k := by split <;> rfl
theorem b2i {c : Prop} [Decidable c] : ((if c then (1 : Int32) else 0).toInt = 0) = ¬ c := by
  by_cases h : c
  · rw [if_pos h]; exact propext ⟨fun q => absurd q (by decide), fun q => absurd h q⟩
  · rw [if_neg h]; exact propext ⟨fun _ => h, fun _ => rfl⟩
theorem b2z {c : Prop} [Decidable c] : ((if c then (1 : Int32) else 0).toInt = 0 ∨ (if c then (1 : Int32) else 0).toInt = 1) := by
  by_cases h : c
  · rw [if_pos h]; exact Or.inr rfl
  · rw [if_neg h]; exact Or.inl rfl
theorem fq_zb {γ : Type} {c : Prop} [Decidable c] {k : Option γ} : fq_z (if c then 1 else 0) k = k := fq_zp b2z
/-- comparing whole numbers -/
theorem cmp_0 {x y : Int64} : ((lg_cmp x y).toInt < 0) = (x.toInt < y.toInt) := by
  unfold lg_cmp
  by_cases h1 : x > y
  · rw [if_pos h1]
    have h1 := Int64.lt_iff_toInt_lt.mp h1
    exact propext ⟨fun q => absurd q (by decide), fun q => by omega⟩
  · rw [if_neg h1]
    by_cases h2 : x = y
    · rw [if_pos h2, h2]
      exact propext ⟨fun q => absurd q (by decide), fun q => by omega⟩
    · rw [if_neg h2]
      have h1 : ¬ y.toInt < x.toInt := fun z => h1 (Int64.lt_iff_toInt_lt.mpr z)
      have h2 : ¬ x.toInt = y.toInt := fun z => h2 (Int64.toInt_inj.mp z)
      exact propext ⟨fun _ => by omega, fun _ => by decide⟩
theorem cmp_1 {x y : Int64} : (0 < (lg_cmp x y).toInt) = (y.toInt < x.toInt) := by
  unfold lg_cmp
  by_cases h1 : x > y
  · rw [if_pos h1]
    have h1 := Int64.lt_iff_toInt_lt.mp h1
    exact propext ⟨fun _ => h1, fun _ => by decide⟩
  · rw [if_neg h1]
    have h1 : ¬ y.toInt < x.toInt := fun z => h1 (Int64.lt_iff_toInt_lt.mpr z)
    by_cases h2 : x = y
    · rw [if_pos h2]
      exact propext ⟨fun q => absurd q (by decide), fun q => absurd q h1⟩
    · rw [if_neg h2]
      exact propext ⟨fun q => absurd q (by decide), fun q => absurd q h1⟩
theorem e_isOutside (a b c : Int32) : f_X10_isOutside a b c = some (if a.toInt < b.toInt ∨ c.toInt < a.toInt then 1 else 0) := by
  unfold f_X10_isOutside
  by_cases h1 : a.toInt < b.toInt
  · rw [if_pos h1, if_pos (Or.inl h1)]
  · rw [if_neg h1]
    by_cases h2 : c.toInt < a.toInt
    · rw [if_pos h2, if_pos (Or.inr h2)]
    · rw [if_neg h2, if_neg (by omega)]
theorem e_isIn (a b c : Int64) : f_X11_isIn a b c = some (if b.toInt ≤ a.toInt ∧ a.toInt ≤ c.toInt then 1 else 0) := by
  unfold f_X11_isIn
  simp only [cmp_0, cmp_1]
  by_cases h1 : a.toInt < b.toInt
  · rw [if_pos h1, if_neg (by omega)]
  · rw [if_neg h1]
    by_cases h2 : c.toInt < a.toInt
    · rw [if_pos h2, if_neg (by omega)]
    · rw [if_neg h2, if_pos (by omega)]
theorem e_isNoTrack (t : Int32) : f_X10_isNoTrack t = some (if t.toInt < 0 ∨ 2 < t.toInt then 1 else 0) := by
  unfold f_X10_isNoTrack
  simp only [e_isOutside, fq_vsome, fq_zb]; rfl
theorem e_isNoSheet (t : Int32) : f_X10_isNoSheet t = some (if t.toInt < 0 ∨ 3 < t.toInt then 1 else 0) := by
  unfold f_X10_isNoSheet
  simp only [e_isOutside, fq_vsome, fq_zb]; rfl
theorem e_isTrack (t : Int32) : f_X11_isTrack t = some (if 0 ≤ t.toInt ∧ t.toInt ≤ 2 then 1 else 0) := by
  unfold f_X11_isTrack
  simp only [e_isIn, fq_vsome, fq_zb, Int32.toInt_toInt64]; rfl
theorem e_isSheet (t : Int32) : f_X11_isSheet t = some (if 0 ≤ t.toInt ∧ t.toInt ≤ 3 then 1 else 0) := by
  unfold f_X11_isSheet
  simp only [e_isIn, fq_vsome, fq_zb, Int32.toInt_toInt64]; rfl
theorem e_isNoZone {I : fc_I} (t : Int32) (h : 0 ≤ (I 1 2).toInt ∧ (I 1 2).toInt ≤ 1000) : f_X10_isNoZone I t = some (if t.toInt < 0 ∨ (I 1 2).toInt ≤ t.toInt then 1 else 0) := by
  unfold f_X10_isNoZone
  have k0 : (0 : Int32).toInt = 0 := rfl
  have e : ((I 1 2) - 1).toInt = (I 1 2).toInt - 1 := i_sub (by rw [show (1 : Int32).toInt = 1 from rfl]; omega) (by rw [show (1 : Int32).toInt = 1 from rfl]; omega)
  simp only [e_isOutside, fq_vsome, fq_zb, e, k0]
  exact congrArg some (ite_congr (propext (by omega)) (fun _ => rfl) (fun _ => rfl))
theorem e_isNoShelter {I : fc_I} (t : Int32) (h : 0 ≤ (I 1 3).toInt ∧ (I 1 3).toInt ≤ 1000) : f_X10_isNoShelter I t = some (if t.toInt < 0 ∨ (I 1 3).toInt ≤ t.toInt then 1 else 0) := by
  unfold f_X10_isNoShelter
  have k0 : (0 : Int32).toInt = 0 := rfl
  have e : ((I 1 3) - 1).toInt = (I 1 3).toInt - 1 := i_sub (by rw [show (1 : Int32).toInt = 1 from rfl]; omega) (by rw [show (1 : Int32).toInt = 1 from rfl]; omega)
  simp only [e_isOutside, fq_vsome, fq_zb, e, k0]
  exact congrArg some (ite_congr (propext (by omega)) (fun _ => rfl) (fun _ => rfl))
theorem e_isNoRoad {I : fc_I} (t : Int32) (h : 0 ≤ (I 4 5).toInt ∧ (I 4 5).toInt ≤ 1000) : f_X10_isNoRoad I t = some (if t.toInt < 0 ∨ (I 4 5).toInt ≤ t.toInt then 1 else 0) := by
  unfold f_X10_isNoRoad
  have k0 : (0 : Int32).toInt = 0 := rfl
  have e : ((I 4 5) - 1).toInt = (I 4 5).toInt - 1 := i_sub (by rw [show (1 : Int32).toInt = 1 from rfl]; omega) (by rw [show (1 : Int32).toInt = 1 from rfl]; omega)
  simp only [e_isOutside, fq_vsome, fq_zb, e, k0]
  exact congrArg some (ite_congr (propext (by omega)) (fun _ => rfl) (fun _ => rfl))
theorem e_isZone {I : fc_I} (t : Int32) : f_X11_isZone I t = some (if 0 ≤ t.toInt ∧ t.toInt < (I 78 2).toInt then 1 else 0) := by
  unfold f_X11_isZone
  by_cases h1 : t.toInt < 0
  · rw [if_pos h1, if_neg (by omega)]
  · rw [if_neg h1]
    by_cases h2 : t.toInt < (I 78 2).toInt
    · rw [if_pos h2, if_pos (by omega)]
    · rw [if_neg h2, if_neg (by omega)]
theorem e_isShelter {I : fc_I} (t : Int32) : f_X11_isShelter I t = some (if 0 ≤ t.toInt ∧ t.toInt < (I 78 9).toInt then 1 else 0) := by
  unfold f_X11_isShelter
  by_cases h1 : t.toInt < 0
  · rw [if_pos h1, if_neg (by omega)]
  · rw [if_neg h1]
    by_cases h2 : t.toInt < (I 78 9).toInt
    · rw [if_pos h2, if_pos (by omega)]
    · rw [if_neg h2, if_neg (by omega)]
theorem e_isRoad {I : fc_I} (t : Int32) : f_X11_isRoad I t = some (if 0 ≤ t.toInt ∧ t.toInt < (I 78 13).toInt then 1 else 0) := by
  unfold f_X11_isRoad
  by_cases h1 : t.toInt < 0
  · rw [if_pos h1, if_neg (by omega)]
  · rw [if_neg h1]
    by_cases h2 : t.toInt < (I 78 13).toInt
    · rw [if_pos h2, if_pos (by omega)]
    · rw [if_neg h2, if_neg (by omega)]
theorem e_isBus {I : fc_I} (t : Int32) : f_X11_isBus I t = some (if 0 ≤ t.toInt ∧ t.toInt < (I 78 19).toInt then 1 else 0) := by
  unfold f_X11_isBus
  by_cases h1 : t.toInt < 0
  · rw [if_pos h1, if_neg (by omega)]
  · rw [if_neg h1]
    by_cases h2 : t.toInt < (I 78 19).toInt
    · rw [if_pos h2, if_pos (by omega)]
    · rw [if_neg h2, if_neg (by omega)]
/-- folk, zones: bounds -/
def WfZ (A : fc_I) : Prop := ∀ z : Nat, z < 6 → ((z : Int) < (A 0 2).toInt → (0 ≤ (A 1 z).toInt ∧ (A 1 z).toInt ≤ 99)) ∧ (0 ≤ (A 2 z).toInt ∧ 0 ≤ (A 3 z).toInt ∧ 0 ≤ (A 4 z).toInt) ∧ (-1 ≤ (A 5 z).toInt ∧ (A 5 z).toInt ≤ (A 0 0).toInt) ∧ (-1 ≤ (A 6 z).toInt ∧ (A 6 z).toInt < (A 0 4).toInt) ∧ ((A 0 2).toInt ≤ (z : Int) → (A 2 z).toInt = 0 ∧ (A 3 z).toInt = 0 ∧ (A 4 z).toInt = 0 ∧ (A 5 z).toInt = -1 ∧ (A 6 z).toInt = -1 ∧ (A 27 z).toInt = -1) ∧ (-1 ≤ (A 27 z).toInt)
/-- of a bus -/
def WfU (A : fc_I) : Prop := ∀ b : Nat, b < 4 → ((b : Int) < (A 0 5).toInt → (0 ≤ (A 14 b).toInt ∧ (A 14 b).toInt < (A 0 2).toInt) ∧ (0 ≤ (A 15 b).toInt ∧ (A 15 b).toInt < (A 0 3).toInt) ∧ (1 ≤ (A 16 b).toInt ∧ (A 16 b).toInt ≤ 99) ∧ (1 ≤ (A 17 b).toInt ∧ (A 17 b).toInt ≤ 9)) ∧ ((A 18 b).toInt = -1 ∨ (A 0 0).toInt < (A 18 b).toInt ∧ (A 18 b).toInt ≤ 69 ∧ (b : Int) < (A 0 5).toInt) ∧ 0 ≤ (A 19 b).toInt
/-- where roads lead is there -/
def WfG (A : fc_I) : Prop := ∀ r : Nat, (r : Int) < (A 0 4).toInt → ((A 11 r).toInt < 6 → (A 11 r).toInt < (A 0 2).toInt) ∧ (10 ≤ (A 11 r).toInt → (A 11 r).toInt < 13 → (A 11 r).toInt < 10 + (A 0 3).toInt)
/-- folk of a zone; all folk are no more than came; room -/
def wS (A : fc_I) (z : Nat) : Int := (A 2 z).toInt + (A 3 z).toInt + (A 4 z).toInt
def WfH (A : fc_I) : Prop := (∀ s : Nat, s < 3 → 0 ≤ (A 7 s).toInt) ∧ wS A 0 + wS A 1 + wS A 2 + wS A 3 + wS A 4 + wS A 5 ≤ 100998 * (A 0 2).toInt
/-- how many numbers lie there behind a code; a row of codes comes to one -/
def cpk (c : Int32) (d : Nat) : Option Nat := if c.toInt < 6 then some (d + 1) else if c.toInt = 13 ∨ c.toInt = 14 then (if 1 ≤ d then some d else none) else (if 2 ≤ d then some (d - 1) else none)
def cdp (f : Nat → Int32) : Nat → Option Nat
  | 0 => some 0
  | k + 1 => (cdp f k).bind (cpk (f k))
def WfT (A : fc_I) : Prop := ∀ t : Nat, (t : Int) < (A 0 9).toInt → ∃ n m : Nat, (A 36 (2 * t)).toInt = (n : Int) ∧ (A 36 (2 * t + 1)).toInt = (m : Int) ∧ n + m ≤ 160 ∧ cdp (fun k => A 35 (320 * t + k)) n = some 1 ∧ cdp (fun k => A 35 (320 * t + 160 + k)) m = some 1
def WfN (A : fc_I) : Prop := WfG A ∧ WfH A ∧ WfT A
def Wf (A : fc_I) : Prop := Wf0 A ∧ WfR A ∧ WfU A ∧ WfS A ∧ WfL A ∧ WfZ A ∧ WfN A
/-- rows of the reference that never change -/
def mC (I : fc_I) : Prop := (∀ k : Nat, k < 44 → I 111 k = ([115, 105, 110, 99, 101, 104, 101, 105, 103, 104, 116, 119, 105, 110, 100, 108, 101, 102, 116, 99, 114, 111, 119, 100, 122, 111, 110, 101, 104, 101, 101, 100, 115, 116, 111, 112, 111, 114, 97, 110, 100, 110, 111, 116] : List Int32).getD k 0) ∧ ∀ k : Nat, k < 12 → I 112 k = ([0, 5, 11, 15, 19, 24, 28, 32, 36, 38, 41, 44] : List Int32).getD k 0
/-- shelters of the reference that aren't there yet are empty -/
def mK (I : fc_I) : Prop := ∀ s : Nat, (I 78 9).toInt ≤ (s : Int) → s < 3 → I 86 s = 0 ∧ I 87 s = 0
def Rel (I : fc_I) : Prop := aX 45 I = aM I ∧ Wf (aX 45 I) ∧ mC I ∧ mK I
theorem mK_lo {I J : fc_I} (h : ∀ c, c = 78 ∨ c = 86 ∨ c = 87 ∨ c = 0 → J c = I c) (k : mK I) : mK J := by
  unfold mK
  rw [h 78 (by decide), h 86 (by decide), h 87 (by decide)]
  exact k
def RR {α : Type} (q : Option (α × fc_I)) (m : fc_I → Option (α × fc_I)) : Prop := ∃ r I1 I2, q = some (r, I1) ∧ m I1 = some (r, I2) ∧ Rel I2
def MR {α : Type} (r : α) (q : Option (α × fc_I)) : Prop := ∃ I2, q = some (r, I2) ∧ Rel I2
def PR {α : Type} (q m : Option α) : Prop := ∃ r, q = some r ∧ m = some r
section RRS
variable {α : Type} {A B : Option (α × fc_I)} {m : fc_I → Option (α × fc_I)} {r : α} {I : fc_I}
theorem RR_ite {c : Prop} {_ : Decidable c} (h1 : c → RR A m) (h2 : ¬ c → RR B m) : RR (if c then A else B) m := by
  by_cases h : c
  · rw [if_pos h]; exact h1 h
  · rw [if_neg h]; exact h2 h
theorem RR_g {N : Nat} {i : Int32} (h : 0 ≤ i.toInt ∧ i.toInt < (N : Int)) (k : RR A m) : RR (fq_g N i A) m := by rw [fq_gp h]; exact k
theorem RR_some (h : MR r (m I)) : RR (some (r, I)) m := ⟨r, I, h.choose, rfl, h.choose_spec.1, h.choose_spec.2⟩
theorem MR_ite {c : Prop} {_ : Decidable c} (h1 : c → MR r A) (h2 : ¬ c → MR r B) : MR r (if c then A else B) := by
  by_cases h : c
  · rw [if_pos h]; exact h1 h
  · rw [if_neg h]; exact h2 h
theorem MR_pos {c : Prop} {_ : Decidable c} (h : c) (h1 : MR r A) : MR r (if c then A else B) := by rw [if_pos h]; exact h1
theorem MR_neg {c : Prop} {_ : Decidable c} (h : ¬ c) (h1 : MR r B) : MR r (if c then A else B) := by rw [if_neg h]; exact h1
theorem MR_g {N : Nat} {i : Int32} (h : 0 ≤ i.toInt ∧ i.toInt < (N : Int)) (k : MR r A) : MR r (fq_g N i A) := by rw [fq_gp h]; exact k
theorem MR_some {s : α} (h : s = r) (k : Rel I) : MR r (some (s, I)) := ⟨I, by rw [h], k⟩
end RRS
section PRS
variable {α : Type} {A B m : Option α} {r : α}
theorem PR_ite {c : Prop} {_ : Decidable c} (h1 : c → PR A m) (h2 : ¬ c → PR B m) : PR (if c then A else B) m := by
  by_cases h : c
  · rw [if_pos h]; exact h1 h
  · rw [if_neg h]; exact h2 h
theorem PR_g {N : Nat} {i : Int32} (h : 0 ≤ i.toInt ∧ i.toInt < (N : Int)) (k : PR A m) : PR (fq_g N i A) m := by rw [fq_gp h]; exact k
theorem PR_some (h : m = some r) : PR (some r) m := ⟨r, rfl, h⟩
theorem PM_pos {c : Prop} {_ : Decidable c} (h : c) (h1 : A = some r) : (if c then A else B) = some r := by rw [if_pos h]; exact h1
theorem PM_neg {c : Prop} {_ : Decidable c} (h : ¬ c) (h1 : B = some r) : (if c then A else B) = some r := by rw [if_neg h]; exact h1
theorem PM_ite {c : Prop} {_ : Decidable c} (h1 : c → A = some r) (h2 : ¬ c → B = some r) : (if c then A else B) = some r := by
  by_cases h : c
  · rw [if_pos h]; exact h1 h
  · rw [if_neg h]; exact h2 h
theorem PM_g {N : Nat} {i : Int32} (h : 0 ≤ i.toInt ∧ i.toInt < (N : Int)) (k : A = some r) : fq_g N i A = some r := by rw [fq_gp h]; exact k
theorem PM_some {s : α} (h : s = r) : some s = some r := by rw [h]
end PRS
theorem q0_0 {I : fc_I} (h : aX 45 I = aM I) : I 78 0 = I 45 9 := (congrFun (congrFun h 0) 0).symm
theorem q0_1 {I : fc_I} (h : aX 45 I = aM I) : I 78 1 = I 15 11 := (congrFun (congrFun h 0) 1).symm
theorem q0_2 {I : fc_I} (h : aX 45 I = aM I) : I 78 2 = I 1 2 := (congrFun (congrFun h 0) 2).symm
theorem q0_3 {I : fc_I} (h : aX 45 I = aM I) : I 78 9 = I 1 3 := (congrFun (congrFun h 0) 3).symm
theorem q0_4 {I : fc_I} (h : aX 45 I = aM I) : I 78 13 = I 4 5 := (congrFun (congrFun h 0) 4).symm
theorem q0_5 {I : fc_I} (h : aX 45 I = aM I) : I 78 19 = I 10 4 := (congrFun (congrFun h 0) 5).symm
theorem q0_6 {I : fc_I} (h : aX 45 I = aM I) : I 78 28 = I 15 10 := (congrFun (congrFun h 0) 6).symm
theorem q0_7 {I : fc_I} (h : aX 45 I = aM I) : I 78 29 = I 15 9 := (congrFun (congrFun h 0) 7).symm
theorem q0_8 {I : fc_I} (h : aX 45 I = aM I) : I 78 39 = I 31 6 := (congrFun (congrFun h 0) 8).symm
theorem q0_9 {I : fc_I} (h : aX 45 I = aM I) : I 78 40 = I 31 7 := (congrFun (congrFun h 0) 9).symm
theorem q0_10 {I : fc_I} (h : aX 45 I = aM I) : I 78 41 = I 31 8 := (congrFun (congrFun h 0) 10).symm
theorem q0_11 {I : fc_I} (h : aX 45 I = aM I) : I 78 26 = I 45 8 := (congrFun (congrFun h 0) 11).symm
theorem qr_79 {I : fc_I} (h : aX 45 I = aM I) : I 79 = I 2 := (congrFun h 1).symm
theorem qr_80 {I : fc_I} (h : aX 45 I = aM I) : I 80 = I 46 := (congrFun h 2).symm
theorem qr_81 {I : fc_I} (h : aX 45 I = aM I) : I 81 = I 47 := (congrFun h 3).symm
theorem qr_82 {I : fc_I} (h : aX 45 I = aM I) : I 82 = I 48 := (congrFun h 4).symm
theorem qr_83 {I : fc_I} (h : aX 45 I = aM I) : I 83 = I 49 := (congrFun h 5).symm
theorem qr_84 {I : fc_I} (h : aX 45 I = aM I) : I 84 = I 3 := (congrFun h 6).symm
theorem qr_86 {I : fc_I} (h : aX 45 I = aM I) : I 86 = I 51 := (congrFun h 8).symm
theorem qr_88 {I : fc_I} (h : aX 45 I = aM I) : I 88 = I 5 := (congrFun h 9).symm
theorem qr_89 {I : fc_I} (h : aX 45 I = aM I) : I 89 = I 6 := (congrFun h 10).symm
theorem qr_90 {I : fc_I} (h : aX 45 I = aM I) : I 90 = I 7 := (congrFun h 11).symm
theorem qr_91 {I : fc_I} (h : aX 45 I = aM I) : I 91 = I 8 := (congrFun h 12).symm
theorem qr_92 {I : fc_I} (h : aX 45 I = aM I) : I 92 = I 9 := (congrFun h 13).symm
theorem qr_93 {I : fc_I} (h : aX 45 I = aM I) : I 93 = I 11 := (congrFun h 14).symm
theorem qr_94 {I : fc_I} (h : aX 45 I = aM I) : I 94 = I 12 := (congrFun h 15).symm
theorem qr_95 {I : fc_I} (h : aX 45 I = aM I) : I 95 = I 13 := (congrFun h 16).symm
theorem qr_96 {I : fc_I} (h : aX 45 I = aM I) : I 96 = I 14 := (congrFun h 17).symm
theorem qr_97 {I : fc_I} (h : aX 45 I = aM I) : I 97 = I 53 := (congrFun h 18).symm
theorem qr_98 {I : fc_I} (h : aX 45 I = aM I) : I 98 = I 52 := (congrFun h 19).symm
theorem qr_99 {I : fc_I} (h : aX 45 I = aM I) : I 99 = I 16 := (congrFun h 20).symm
theorem qr_100 {I : fc_I} (h : aX 45 I = aM I) : I 100 = I 25 := (congrFun h 21).symm
theorem qr_101 {I : fc_I} (h : aX 45 I = aM I) : I 101 = I 26 := (congrFun h 22).symm
theorem qr_102 {I : fc_I} (h : aX 45 I = aM I) : I 102 = I 27 := (congrFun h 23).symm
theorem qr_103 {I : fc_I} (h : aX 45 I = aM I) : I 103 = I 28 := (congrFun h 24).symm
theorem qr_104 {I : fc_I} (h : aX 45 I = aM I) : I 104 = I 29 := (congrFun h 25).symm
theorem qr_105 {I : fc_I} (h : aX 45 I = aM I) : I 105 = I 30 := (congrFun h 26).symm
theorem qr_126 {I : fc_I} (h : aX 45 I = aM I) : I 126 = I 68 := (congrFun h 27).symm
theorem qr_127 {I : fc_I} (h : aX 45 I = aM I) : I 127 = I 76 := (congrFun h 28).symm
theorem qr_7 {I : fc_I} (h : aX 45 I = aM I) (k : Nat) : I 85 k - I 86 k - I 87 k = I 50 k := (congrFun (congrFun h 7) k).symm
theorem aX_hi {I : fc_I} {c j : Nat} {x : Int32} (h : 78 ≤ c) : aX 45 (fc_wI I c j x) = aX 45 I := by
  apply aX_eq
  simp only [aR, aS_ne (f := 45) (I := I) (c := c) (j := j) (x := x) ⟨by omega, by omega, by omega, by omega, by omega, by omega⟩, aWa_ne (I := I) (c := c) (j := j) (x := x) (by omega), aWi_ne (I := I) (c := c) (j := j) (x := x) (by omega), aTp_ne (I := I) (c := c) (j := j) (x := x) ⟨by omega, by omega⟩, aSz_ne (I := I) (c := c) (j := j) (x := x) ⟨by omega, by omega⟩, aIt_ne (I := I) (c := c) (j := j) (x := x) (by omega), aCo_ne (I := I) (c := c) (j := j) (x := x) (by omega), aCm_ne (I := I) (c := c) (j := j) (x := x) (by omega), fc_wI_ne (I := I) (c := c) (k := j) (v := x) (c' := 2) (by omega), fc_wI_ne (I := I) (c := c) (k := j) (v := x) (c' := 45 + 1) (by omega), fc_wI_ne (I := I) (c := c) (k := j) (v := x) (c' := 45 + 2) (by omega), fc_wI_ne (I := I) (c := c) (k := j) (v := x) (c' := 45 + 3) (by omega), fc_wI_ne (I := I) (c := c) (k := j) (v := x) (c' := 45 + 4) (by omega), fc_wI_ne (I := I) (c := c) (k := j) (v := x) (c' := 3) (by omega), fc_wI_ne (I := I) (c := c) (k := j) (v := x) (c' := 45 + 5) (by omega), fc_wI_ne (I := I) (c := c) (k := j) (v := x) (c' := 45 + 6) (by omega), fc_wI_ne (I := I) (c := c) (k := j) (v := x) (c' := 5) (by omega), fc_wI_ne (I := I) (c := c) (k := j) (v := x) (c' := 6) (by omega), fc_wI_ne (I := I) (c := c) (k := j) (v := x) (c' := 7) (by omega), fc_wI_ne (I := I) (c := c) (k := j) (v := x) (c' := 8) (by omega), fc_wI_ne (I := I) (c := c) (k := j) (v := x) (c' := 9) (by omega), fc_wI_ne (I := I) (c := c) (k := j) (v := x) (c' := 11) (by omega), fc_wI_ne (I := I) (c := c) (k := j) (v := x) (c' := 12) (by omega), fc_wI_ne (I := I) (c := c) (k := j) (v := x) (c' := 13) (by omega), fc_wI_ne (I := I) (c := c) (k := j) (v := x) (c' := 14) (by omega), fc_wI_ne (I := I) (c := c) (k := j) (v := x) (c' := 45 + 8) (by omega), fc_wI_ne (I := I) (c := c) (k := j) (v := x) (c' := 45 + 7) (by omega), fc_wI_ne (I := I) (c := c) (k := j) (v := x) (c' := 16) (by omega), fc_wI_ne (I := I) (c := c) (k := j) (v := x) (c' := 25) (by omega), fc_wI_ne (I := I) (c := c) (k := j) (v := x) (c' := 26) (by omega), fc_wI_ne (I := I) (c := c) (k := j) (v := x) (c' := 27) (by omega), fc_wI_ne (I := I) (c := c) (k := j) (v := x) (c' := 28) (by omega), fc_wI_ne (I := I) (c := c) (k := j) (v := x) (c' := 29) (by omega), fc_wI_ne (I := I) (c := c) (k := j) (v := x) (c' := 30) (by omega), fc_wI_ne (I := I) (c := c) (k := j) (v := x) (c' := 68) (by omega), fc_wI_ne (I := I) (c := c) (k := j) (v := x) (c' := 76) (by omega)]
theorem aM_lo {I : fc_I} {c j : Nat} {x : Int32} (h : c < 78) : aM (fc_wI I c j x) = aM I := by
  apply aM_eq
  simp only [mR, mS_ne (I := I) (c := c) (j := j) (x := x) (by omega), mRo_ne (I := I) (c := c) (j := j) (x := x) (by omega), mWa_ne (I := I) (c := c) (j := j) (x := x) (by omega), mWi_ne (I := I) (c := c) (j := j) (x := x) (by omega), mTp_ne (I := I) (c := c) (j := j) (x := x) ⟨by omega, by omega⟩, mSz_ne (I := I) (c := c) (j := j) (x := x) ⟨by omega, by omega⟩, mIt_ne (I := I) (c := c) (j := j) (x := x) ⟨by omega, by omega⟩, mCo_ne (I := I) (c := c) (j := j) (x := x) ⟨by omega, by omega, by omega⟩, mCm_ne (I := I) (c := c) (j := j) (x := x) ⟨by omega, by omega⟩, fc_wI_ne (I := I) (c := c) (k := j) (v := x) (c' := 79) (by omega), fc_wI_ne (I := I) (c := c) (k := j) (v := x) (c' := 80) (by omega), fc_wI_ne (I := I) (c := c) (k := j) (v := x) (c' := 81) (by omega), fc_wI_ne (I := I) (c := c) (k := j) (v := x) (c' := 82) (by omega), fc_wI_ne (I := I) (c := c) (k := j) (v := x) (c' := 83) (by omega), fc_wI_ne (I := I) (c := c) (k := j) (v := x) (c' := 84) (by omega), fc_wI_ne (I := I) (c := c) (k := j) (v := x) (c' := 86) (by omega), fc_wI_ne (I := I) (c := c) (k := j) (v := x) (c' := 88) (by omega), fc_wI_ne (I := I) (c := c) (k := j) (v := x) (c' := 89) (by omega), fc_wI_ne (I := I) (c := c) (k := j) (v := x) (c' := 90) (by omega), fc_wI_ne (I := I) (c := c) (k := j) (v := x) (c' := 91) (by omega), fc_wI_ne (I := I) (c := c) (k := j) (v := x) (c' := 92) (by omega), fc_wI_ne (I := I) (c := c) (k := j) (v := x) (c' := 93) (by omega), fc_wI_ne (I := I) (c := c) (k := j) (v := x) (c' := 94) (by omega), fc_wI_ne (I := I) (c := c) (k := j) (v := x) (c' := 95) (by omega), fc_wI_ne (I := I) (c := c) (k := j) (v := x) (c' := 96) (by omega), fc_wI_ne (I := I) (c := c) (k := j) (v := x) (c' := 97) (by omega), fc_wI_ne (I := I) (c := c) (k := j) (v := x) (c' := 98) (by omega), fc_wI_ne (I := I) (c := c) (k := j) (v := x) (c' := 99) (by omega), fc_wI_ne (I := I) (c := c) (k := j) (v := x) (c' := 100) (by omega), fc_wI_ne (I := I) (c := c) (k := j) (v := x) (c' := 101) (by omega), fc_wI_ne (I := I) (c := c) (k := j) (v := x) (c' := 102) (by omega), fc_wI_ne (I := I) (c := c) (k := j) (v := x) (c' := 103) (by omega), fc_wI_ne (I := I) (c := c) (k := j) (v := x) (c' := 104) (by omega), fc_wI_ne (I := I) (c := c) (k := j) (v := x) (c' := 105) (by omega), fc_wI_ne (I := I) (c := c) (k := j) (v := x) (c' := 126) (by omega), fc_wI_ne (I := I) (c := c) (k := j) (v := x) (c' := 127) (by omega)]
theorem mC_ne {I : fc_I} {c j : Nat} {x : Int32} (h : c ≠ 111 ∧ c ≠ 112) : mC (fc_wI I c j x) = mC I := by
  unfold mC
  rw [fc_wI_ne (fun z => h.1 z.symm), fc_wI_ne (fun z => h.2 z.symm)]
theorem kt_m100 : Int32.toInt (-100) = (-100) := rfl
theorem kl_m100 : Int64.toInt (-100) = (-100) := rfl
theorem kt_m18 : Int32.toInt (-18) = (-18) := rfl
theorem kl_m18 : Int64.toInt (-18) = (-18) := rfl
theorem kt_m17 : Int32.toInt (-17) = (-17) := rfl
theorem kl_m17 : Int64.toInt (-17) = (-17) := rfl
theorem kt_m16 : Int32.toInt (-16) = (-16) := rfl
theorem kl_m16 : Int64.toInt (-16) = (-16) := rfl
theorem kt_m14 : Int32.toInt (-14) = (-14) := rfl
theorem kl_m14 : Int64.toInt (-14) = (-14) := rfl
theorem kt_m13 : Int32.toInt (-13) = (-13) := rfl
theorem kl_m13 : Int64.toInt (-13) = (-13) := rfl
theorem kt_m12 : Int32.toInt (-12) = (-12) := rfl
theorem kl_m12 : Int64.toInt (-12) = (-12) := rfl
theorem kt_m11 : Int32.toInt (-11) = (-11) := rfl
theorem kl_m11 : Int64.toInt (-11) = (-11) := rfl
theorem kt_m9 : Int32.toInt (-9) = (-9) := rfl
theorem kl_m9 : Int64.toInt (-9) = (-9) := rfl
theorem kt_m6 : Int32.toInt (-6) = (-6) := rfl
theorem kl_m6 : Int64.toInt (-6) = (-6) := rfl
theorem kt_m5 : Int32.toInt (-5) = (-5) := rfl
theorem kl_m5 : Int64.toInt (-5) = (-5) := rfl
theorem kt_m4 : Int32.toInt (-4) = (-4) := rfl
theorem kl_m4 : Int64.toInt (-4) = (-4) := rfl
theorem kt_m3 : Int32.toInt (-3) = (-3) := rfl
theorem kl_m3 : Int64.toInt (-3) = (-3) := rfl
theorem kt_m2 : Int32.toInt (-2) = (-2) := rfl
theorem kl_m2 : Int64.toInt (-2) = (-2) := rfl
theorem kt_m1 : Int32.toInt (-1) = (-1) := rfl
theorem kl_m1 : Int64.toInt (-1) = (-1) := rfl
theorem kt_0 : Int32.toInt 0 = 0 := rfl
theorem kl_0 : Int64.toInt 0 = 0 := rfl
theorem kt_1 : Int32.toInt 1 = 1 := rfl
theorem kl_1 : Int64.toInt 1 = 1 := rfl
theorem kt_2 : Int32.toInt 2 = 2 := rfl
theorem kl_2 : Int64.toInt 2 = 2 := rfl
theorem kt_3 : Int32.toInt 3 = 3 := rfl
theorem kl_3 : Int64.toInt 3 = 3 := rfl
theorem kt_4 : Int32.toInt 4 = 4 := rfl
theorem kl_4 : Int64.toInt 4 = 4 := rfl
theorem kt_5 : Int32.toInt 5 = 5 := rfl
theorem kl_5 : Int64.toInt 5 = 5 := rfl
theorem kt_6 : Int32.toInt 6 = 6 := rfl
theorem kl_6 : Int64.toInt 6 = 6 := rfl
theorem kt_7 : Int32.toInt 7 = 7 := rfl
theorem kl_7 : Int64.toInt 7 = 7 := rfl
theorem kt_8 : Int32.toInt 8 = 8 := rfl
theorem kl_8 : Int64.toInt 8 = 8 := rfl
theorem kt_9 : Int32.toInt 9 = 9 := rfl
theorem kl_9 : Int64.toInt 9 = 9 := rfl
theorem kt_10 : Int32.toInt 10 = 10 := rfl
theorem kl_10 : Int64.toInt 10 = 10 := rfl
theorem kt_11 : Int32.toInt 11 = 11 := rfl
theorem kl_11 : Int64.toInt 11 = 11 := rfl
theorem kt_12 : Int32.toInt 12 = 12 := rfl
theorem kl_12 : Int64.toInt 12 = 12 := rfl
theorem kt_13 : Int32.toInt 13 = 13 := rfl
theorem kl_13 : Int64.toInt 13 = 13 := rfl
theorem kt_14 : Int32.toInt 14 = 14 := rfl
theorem kl_14 : Int64.toInt 14 = 14 := rfl
theorem kt_15 : Int32.toInt 15 = 15 := rfl
theorem kl_15 : Int64.toInt 15 = 15 := rfl
theorem kt_16 : Int32.toInt 16 = 16 := rfl
theorem kl_16 : Int64.toInt 16 = 16 := rfl
theorem kt_17 : Int32.toInt 17 = 17 := rfl
theorem kl_17 : Int64.toInt 17 = 17 := rfl
theorem kt_18 : Int32.toInt 18 = 18 := rfl
theorem kl_18 : Int64.toInt 18 = 18 := rfl
theorem kt_19 : Int32.toInt 19 = 19 := rfl
theorem kl_19 : Int64.toInt 19 = 19 := rfl
theorem kt_20 : Int32.toInt 20 = 20 := rfl
theorem kl_20 : Int64.toInt 20 = 20 := rfl
theorem kt_21 : Int32.toInt 21 = 21 := rfl
theorem kl_21 : Int64.toInt 21 = 21 := rfl
theorem kt_22 : Int32.toInt 22 = 22 := rfl
theorem kl_22 : Int64.toInt 22 = 22 := rfl
theorem kt_23 : Int32.toInt 23 = 23 := rfl
theorem kl_23 : Int64.toInt 23 = 23 := rfl
theorem kt_24 : Int32.toInt 24 = 24 := rfl
theorem kl_24 : Int64.toInt 24 = 24 := rfl
theorem kt_25 : Int32.toInt 25 = 25 := rfl
theorem kl_25 : Int64.toInt 25 = 25 := rfl
theorem kt_26 : Int32.toInt 26 = 26 := rfl
theorem kl_26 : Int64.toInt 26 = 26 := rfl
theorem kt_27 : Int32.toInt 27 = 27 := rfl
theorem kl_27 : Int64.toInt 27 = 27 := rfl
theorem kt_28 : Int32.toInt 28 = 28 := rfl
theorem kl_28 : Int64.toInt 28 = 28 := rfl
theorem kt_29 : Int32.toInt 29 = 29 := rfl
theorem kl_29 : Int64.toInt 29 = 29 := rfl
theorem kt_30 : Int32.toInt 30 = 30 := rfl
theorem kl_30 : Int64.toInt 30 = 30 := rfl
theorem kt_31 : Int32.toInt 31 = 31 := rfl
theorem kl_31 : Int64.toInt 31 = 31 := rfl
theorem kt_32 : Int32.toInt 32 = 32 := rfl
theorem kl_32 : Int64.toInt 32 = 32 := rfl
theorem kt_33 : Int32.toInt 33 = 33 := rfl
theorem kl_33 : Int64.toInt 33 = 33 := rfl
theorem kt_34 : Int32.toInt 34 = 34 := rfl
theorem kl_34 : Int64.toInt 34 = 34 := rfl
theorem kt_35 : Int32.toInt 35 = 35 := rfl
theorem kl_35 : Int64.toInt 35 = 35 := rfl
theorem kt_36 : Int32.toInt 36 = 36 := rfl
theorem kl_36 : Int64.toInt 36 = 36 := rfl
theorem kt_37 : Int32.toInt 37 = 37 := rfl
theorem kl_37 : Int64.toInt 37 = 37 := rfl
theorem kt_38 : Int32.toInt 38 = 38 := rfl
theorem kl_38 : Int64.toInt 38 = 38 := rfl
theorem kt_39 : Int32.toInt 39 = 39 := rfl
theorem kl_39 : Int64.toInt 39 = 39 := rfl
theorem kt_40 : Int32.toInt 40 = 40 := rfl
theorem kl_40 : Int64.toInt 40 = 40 := rfl
theorem kt_41 : Int32.toInt 41 = 41 := rfl
theorem kl_41 : Int64.toInt 41 = 41 := rfl
theorem kt_42 : Int32.toInt 42 = 42 := rfl
theorem kl_42 : Int64.toInt 42 = 42 := rfl
theorem kt_43 : Int32.toInt 43 = 43 := rfl
theorem kl_43 : Int64.toInt 43 = 43 := rfl
theorem kt_44 : Int32.toInt 44 = 44 := rfl
theorem kl_44 : Int64.toInt 44 = 44 := rfl
theorem kt_45 : Int32.toInt 45 = 45 := rfl
theorem kl_45 : Int64.toInt 45 = 45 := rfl
theorem kt_46 : Int32.toInt 46 = 46 := rfl
theorem kl_46 : Int64.toInt 46 = 46 := rfl
theorem kt_47 : Int32.toInt 47 = 47 := rfl
theorem kl_47 : Int64.toInt 47 = 47 := rfl
theorem kt_48 : Int32.toInt 48 = 48 := rfl
theorem kl_48 : Int64.toInt 48 = 48 := rfl
theorem kt_49 : Int32.toInt 49 = 49 := rfl
theorem kl_49 : Int64.toInt 49 = 49 := rfl
theorem kt_50 : Int32.toInt 50 = 50 := rfl
theorem kl_50 : Int64.toInt 50 = 50 := rfl
theorem kt_51 : Int32.toInt 51 = 51 := rfl
theorem kl_51 : Int64.toInt 51 = 51 := rfl
theorem kt_52 : Int32.toInt 52 = 52 := rfl
theorem kl_52 : Int64.toInt 52 = 52 := rfl
theorem kt_53 : Int32.toInt 53 = 53 := rfl
theorem kl_53 : Int64.toInt 53 = 53 := rfl
theorem kt_54 : Int32.toInt 54 = 54 := rfl
theorem kl_54 : Int64.toInt 54 = 54 := rfl
theorem kt_55 : Int32.toInt 55 = 55 := rfl
theorem kl_55 : Int64.toInt 55 = 55 := rfl
theorem kt_56 : Int32.toInt 56 = 56 := rfl
theorem kl_56 : Int64.toInt 56 = 56 := rfl
theorem kt_57 : Int32.toInt 57 = 57 := rfl
theorem kl_57 : Int64.toInt 57 = 57 := rfl
theorem kt_58 : Int32.toInt 58 = 58 := rfl
theorem kl_58 : Int64.toInt 58 = 58 := rfl
theorem kt_59 : Int32.toInt 59 = 59 := rfl
theorem kl_59 : Int64.toInt 59 = 59 := rfl
theorem kt_60 : Int32.toInt 60 = 60 := rfl
theorem kl_60 : Int64.toInt 60 = 60 := rfl
theorem kt_61 : Int32.toInt 61 = 61 := rfl
theorem kl_61 : Int64.toInt 61 = 61 := rfl
theorem kt_62 : Int32.toInt 62 = 62 := rfl
theorem kl_62 : Int64.toInt 62 = 62 := rfl
theorem kt_63 : Int32.toInt 63 = 63 := rfl
theorem kl_63 : Int64.toInt 63 = 63 := rfl
theorem kt_64 : Int32.toInt 64 = 64 := rfl
theorem kl_64 : Int64.toInt 64 = 64 := rfl
theorem kt_65 : Int32.toInt 65 = 65 := rfl
theorem kl_65 : Int64.toInt 65 = 65 := rfl
theorem kt_97 : Int32.toInt 97 = 97 := rfl
theorem kl_97 : Int64.toInt 97 = 97 := rfl
theorem kt_99 : Int32.toInt 99 = 99 := rfl
theorem kl_99 : Int64.toInt 99 = 99 := rfl
theorem kt_100 : Int32.toInt 100 = 100 := rfl
theorem kl_100 : Int64.toInt 100 = 100 := rfl
theorem kt_122 : Int32.toInt 122 = 122 := rfl
theorem kl_122 : Int64.toInt 122 = 122 := rfl
theorem kt_159 : Int32.toInt 159 = 159 := rfl
theorem kl_159 : Int64.toInt 159 = 159 := rfl
theorem kt_160 : Int32.toInt 160 = 160 := rfl
theorem kl_160 : Int64.toInt 160 = 160 := rfl
theorem kt_161 : Int32.toInt 161 = 161 := rfl
theorem kl_161 : Int64.toInt 161 = 161 := rfl
theorem kt_170 : Int32.toInt 170 = 170 := rfl
theorem kl_170 : Int64.toInt 170 = 170 := rfl
theorem kt_999 : Int32.toInt 999 = 999 := rfl
theorem kl_999 : Int64.toInt 999 = 999 := rfl
theorem kt_9999 : Int32.toInt 9999 = 9999 := rfl
theorem kl_9999 : Int64.toInt 9999 = 9999 := rfl
theorem kt_99999 : Int32.toInt 99999 = 99999 := rfl
theorem kl_99999 : Int64.toInt 99999 = 99999 := rfl
theorem kt_1000000 : Int32.toInt 1000000 = 1000000 := rfl
theorem kl_1000000 : Int64.toInt 1000000 = 1000000 := rfl
theorem bw_2 {j : Nat} {x : Int32} {I : fc_I} : aX 45 (fc_wI I 2 j x) = fc_wI (aX 45 I) 1 j x := aw_2 (Or.inl rfl)
theorem bw_3 {j : Nat} {x : Int32} {I : fc_I} : aX 45 (fc_wI I 3 j x) = fc_wI (aX 45 I) 6 j x := aw_3 (Or.inl rfl)
theorem bw_5 {j : Nat} {x : Int32} {I : fc_I} : aX 45 (fc_wI I 5 j x) = fc_wI (aX 45 I) 9 j x := aw_5 (Or.inl rfl)
theorem bw_6 {j : Nat} {x : Int32} {I : fc_I} : aX 45 (fc_wI I 6 j x) = fc_wI (aX 45 I) 10 j x := aw_6 (Or.inl rfl)
theorem bw_7 {j : Nat} {x : Int32} {I : fc_I} : aX 45 (fc_wI I 7 j x) = fc_wI (aX 45 I) 11 j x := aw_7 (Or.inl rfl)
theorem bw_8 {j : Nat} {x : Int32} {I : fc_I} : aX 45 (fc_wI I 8 j x) = fc_wI (aX 45 I) 12 j x := aw_8 (Or.inl rfl)
theorem bw_9 {j : Nat} {x : Int32} {I : fc_I} : aX 45 (fc_wI I 9 j x) = fc_wI (aX 45 I) 13 j x := aw_9 (Or.inl rfl)
theorem bw_11 {j : Nat} {x : Int32} {I : fc_I} : aX 45 (fc_wI I 11 j x) = fc_wI (aX 45 I) 14 j x := aw_11 (Or.inl rfl)
theorem bw_12 {j : Nat} {x : Int32} {I : fc_I} : aX 45 (fc_wI I 12 j x) = fc_wI (aX 45 I) 15 j x := aw_12 (Or.inl rfl)
theorem bw_13 {j : Nat} {x : Int32} {I : fc_I} : aX 45 (fc_wI I 13 j x) = fc_wI (aX 45 I) 16 j x := aw_13 (Or.inl rfl)
theorem bw_14 {j : Nat} {x : Int32} {I : fc_I} : aX 45 (fc_wI I 14 j x) = fc_wI (aX 45 I) 17 j x := aw_14 (Or.inl rfl)
theorem bw_16 {j : Nat} {x : Int32} {I : fc_I} : aX 45 (fc_wI I 16 j x) = fc_wI (aX 45 I) 20 j x := aw_16 (Or.inl rfl)
theorem bw_25 {j : Nat} {x : Int32} {I : fc_I} : aX 45 (fc_wI I 25 j x) = fc_wI (aX 45 I) 21 j x := aw_25 (Or.inl rfl)
theorem bw_26 {j : Nat} {x : Int32} {I : fc_I} : aX 45 (fc_wI I 26 j x) = fc_wI (aX 45 I) 22 j x := aw_26 (Or.inl rfl)
theorem bw_27 {j : Nat} {x : Int32} {I : fc_I} : aX 45 (fc_wI I 27 j x) = fc_wI (aX 45 I) 23 j x := aw_27 (Or.inl rfl)
theorem bw_28 {j : Nat} {x : Int32} {I : fc_I} : aX 45 (fc_wI I 28 j x) = fc_wI (aX 45 I) 24 j x := aw_28 (Or.inl rfl)
theorem bw_29 {j : Nat} {x : Int32} {I : fc_I} : aX 45 (fc_wI I 29 j x) = fc_wI (aX 45 I) 25 j x := aw_29 (Or.inl rfl)
theorem bw_30 {j : Nat} {x : Int32} {I : fc_I} : aX 45 (fc_wI I 30 j x) = fc_wI (aX 45 I) 26 j x := aw_30 (Or.inl rfl)
theorem bw_68 {j : Nat} {x : Int32} {I : fc_I} : aX 45 (fc_wI I 68 j x) = fc_wI (aX 45 I) 27 j x := aw_68 (Or.inl rfl)
theorem bw_46 {j : Nat} {x : Int32} {I : fc_I} : aX 45 (fc_wI I 46 j x) = fc_wI (aX 45 I) 2 j x := awf_1 (Or.inl rfl)
theorem bw_47 {j : Nat} {x : Int32} {I : fc_I} : aX 45 (fc_wI I 47 j x) = fc_wI (aX 45 I) 3 j x := awf_2 (Or.inl rfl)
theorem bw_48 {j : Nat} {x : Int32} {I : fc_I} : aX 45 (fc_wI I 48 j x) = fc_wI (aX 45 I) 4 j x := awf_3 (Or.inl rfl)
theorem bw_49 {j : Nat} {x : Int32} {I : fc_I} : aX 45 (fc_wI I 49 j x) = fc_wI (aX 45 I) 5 j x := awf_4 (Or.inl rfl)
theorem bw_50 {j : Nat} {x : Int32} {I : fc_I} : aX 45 (fc_wI I 50 j x) = fc_wI (aX 45 I) 7 j x := awf_5 (Or.inl rfl)
theorem bw_51 {j : Nat} {x : Int32} {I : fc_I} : aX 45 (fc_wI I 51 j x) = fc_wI (aX 45 I) 8 j x := awf_6 (Or.inl rfl)
theorem bw_53 {j : Nat} {x : Int32} {I : fc_I} : aX 45 (fc_wI I 53 j x) = fc_wI (aX 45 I) 18 j x := awf_8 (Or.inl rfl)
theorem bw_52 {j : Nat} {x : Int32} {I : fc_I} : aX 45 (fc_wI I 52 j x) = fc_wI (aX 45 I) 19 j x := awf_7 (Or.inl rfl)
theorem bw0_2 {x : Int32} {I : fc_I} : aX 45 (fc_wI I 1 2 x) = fc_wI (aX 45 I) 0 2 x := aw0_2 (Or.inl rfl)
theorem bw0_3 {x : Int32} {I : fc_I} : aX 45 (fc_wI I 1 3 x) = fc_wI (aX 45 I) 0 3 x := aw0_3 (Or.inl rfl)
theorem bw0_4 {x : Int32} {I : fc_I} : aX 45 (fc_wI I 4 5 x) = fc_wI (aX 45 I) 0 4 x := aw0_4 (Or.inl rfl)
theorem bw0_5 {x : Int32} {I : fc_I} : aX 45 (fc_wI I 10 4 x) = fc_wI (aX 45 I) 0 5 x := aw0_5 (Or.inl rfl)
theorem bw0_7 {x : Int32} {I : fc_I} : aX 45 (fc_wI I 15 9 x) = fc_wI (aX 45 I) 0 7 x := aw0_7 (Or.inl rfl)
theorem bw0_6 {x : Int32} {I : fc_I} : aX 45 (fc_wI I 15 10 x) = fc_wI (aX 45 I) 0 6 x := aw0_6 (Or.inl rfl)
theorem bw0_1 {x : Int32} {I : fc_I} : aX 45 (fc_wI I 15 11 x) = fc_wI (aX 45 I) 0 1 x := aw0_1 (Or.inl rfl)
theorem bw0_10 {x : Int32} {I : fc_I} : aX 45 (fc_wI I 31 8 x) = fc_wI (aX 45 I) 0 10 x := aw0_10 (Or.inl rfl)
theorem bw0_11 {x : Int32} {I : fc_I} : aX 45 (fc_wI I 45 8 x) = fc_wI (aX 45 I) 0 11 x := aw0_11 (Or.inl rfl)
theorem bw0_0 {x : Int32} {I : fc_I} : aX 45 (fc_wI I 45 9 x) = fc_wI (aX 45 I) 0 0 x := aw0_0 (Or.inl rfl)
theorem bs_42 {j : Nat} {x : Int32} {I : fc_I} : aX 45 (fc_wI I 42 j x) = aX 45 I := as_42 (Or.inl rfl)
theorem bs_43 {j : Nat} {x : Int32} {I : fc_I} : aX 45 (fc_wI I 43 j x) = aX 45 I := as_43 (Or.inl rfl)
theorem bs_44 {j : Nat} {x : Int32} {I : fc_I} : aX 45 (fc_wI I 44 j x) = aX 45 I := as_44 (Or.inl rfl)
theorem bs_54 {j : Nat} {x : Int32} {I : fc_I} : aX 45 (fc_wI I 54 j x) = aX 45 I := as_54 (Or.inl rfl)
theorem bs_55 {j : Nat} {x : Int32} {I : fc_I} : aX 45 (fc_wI I 55 j x) = aX 45 I := as_55 (Or.inl rfl)
theorem bs_56 {j : Nat} {x : Int32} {I : fc_I} : aX 45 (fc_wI I 56 j x) = aX 45 I := as_56 (Or.inl rfl)
theorem bs_57 {j : Nat} {x : Int32} {I : fc_I} : aX 45 (fc_wI I 57 j x) = aX 45 I := as_57 (Or.inl rfl)
theorem bs_67 {j : Nat} {x : Int32} {I : fc_I} : aX 45 (fc_wI I 67 j x) = aX 45 I := as_67 (Or.inl rfl)
theorem bs_69 {j : Nat} {x : Int32} {I : fc_I} : aX 45 (fc_wI I 69 j x) = aX 45 I := as_69 (Or.inl rfl)

