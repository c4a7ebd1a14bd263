/-! ===== what tokens there are, what they are to class and reference ===== -/
def tokL : List Tk := [(0, 0), (5, 0), (3, 40), (3, 41), (3, 42), (3, 43), (3, 45), (3, 59), (3, 60), (3, 61), (4, 0), (4, 1), (4, 2), (4, 3), (4, 4)]
theorem Tok_c {t : Tk} (h : Tok t) : t.1 = 1 ∨ t.1 = 2 ∨ t ∈ tokL := by
  have te : ∀ c d : Int32, c.toInt = d.toInt → c = d := fun c d => Int32.toInt_inj.mp
  rcases h with o | o | o | o | o | o
  · exact Or.inl o.1
  · exact Or.inr (Or.inl o.1)
  · obtain ⟨a, x⟩ := t
    obtain ⟨o1, o2⟩ := o
    have o1' : a = 3 := o1
    subst o1'
    right
    right
    have o3 : x.toInt = 40 ∨ x.toInt = 41 ∨ x.toInt = 42 ∨ x.toInt = 43 ∨ x.toInt = 45 ∨ x.toInt = 59 ∨ x.toInt = 60 ∨ x.toInt = 61 := o2
    rcases o3 with z | z | z | z | z | z | z | z
    · rw [te x 40 z]; decide
    · rw [te x 41 z]; decide
    · rw [te x 42 z]; decide
    · rw [te x 43 z]; decide
    · rw [te x 45 z]; decide
    · rw [te x 59 z]; decide
    · rw [te x 60 z]; decide
    · rw [te x 61 z]; decide
  · obtain ⟨a, x⟩ := t
    obtain ⟨o1, o2, o4⟩ := o
    have o1' : a = 4 := o1
    subst o1'
    right
    right
    have o3 : x.toInt = 0 ∨ x.toInt = 1 ∨ x.toInt = 2 ∨ x.toInt = 3 ∨ x.toInt = 4 := by
      have o2' : 0 ≤ x.toInt := o2
      have o4' : x.toInt < 5 := o4
      omega
    rcases o3 with z | z | z | z | z
    · rw [te x 0 z]; decide
    · rw [te x 1 z]; decide
    · rw [te x 2 z]; decide
    · rw [te x 3 z]; decide
    · rw [te x 4 z]; decide
  · rw [o]; right; right; decide
  · rw [o]; right; right; decide
theorem bS_n {t : Tk} (h3 : t.1 ≠ 3) (h4 : t.1 ≠ 4) : bS t = -1 := by
  have n3 : ∀ x : Int32, ¬ t = (3, x) := fun x z => h3 (by rw [z])
  have n4 : ∀ x : Int32, ¬ t = (4, x) := fun x z => h4 (by rw [z])
  unfold bS
  rw [if_neg (n3 _), if_neg (n3 _), if_neg (n3 _), if_neg (n3 _), if_neg (n3 _), if_neg (n4 _), if_neg (n4 _)]
/-- the level at which a token joins; -1: none -/
def jv (t : Tk) : Int := if bS t = 12 then 0 else if bS t = 11 then 1 else if bS t = 9 ∨ bS t = 10 then 2 else if bS t = 6 ∨ bS t = 7 then 3 else if bS t = 8 then 4 else -1
theorem jv_b (t : Tk) : -1 ≤ jv t ∧ jv t ≤ 4 := by
  unfold jv
  repeat' split
  all_goals decide
theorem jv_n {t : Tk} (h3 : t.1 ≠ 3) (h4 : t.1 ≠ 4) : jv t = -1 := by
  unfold jv
  rw [bS_n h3 h4]
  decide
theorem Tx_1 {t : Tk} (h : t.1 = 1) : Tx t = 12 := by
  unfold Tx
  rw [h]
  rfl
theorem Tx_2 {t : Tk} (h : t.1 = 2) : Tx t = 13 := by
  unfold Tx
  rw [h]
  rfl
theorem e_joinL : ∀ t ∈ tokL, ((f_X5_joinLevel (Tx t)).map Int32.toInt) = some (jv t) := by decide
theorem e_join {t : Tk} (h : Tok t) : ∃ r, f_X5_joinLevel (Tx t) = some r ∧ r.toInt = jv t := by
  rcases Tok_c h with c | c | c
  · rw [Tx_1 c, jv_n (by omega) (by omega)]
    exact ⟨-1, rfl, rfl⟩
  · rw [Tx_2 c, jv_n (by omega) (by omega)]
    exact ⟨-1, rfl, rfl⟩
  · have k := e_joinL t c
    cases q : f_X5_joinLevel (Tx t) with
    | none => rw [q] at k; cases k
    | some r =>
      rw [q] at k
      exact ⟨r, rfl, Option.some.inj k⟩
/-- the rank of what joins at a level; ranks above stay above it; the ranks that a level leaves waiting -/
def lim (L : Nat) : Nat := ([1, 2, 4, 5, 6] : List Nat).getD L 7
def lo (L : Nat) : Nat := ([1, 2, 3, 5, 6] : List Nat).getD L 8
theorem jv_atL1 : ∀ t ∈ tokL, ∀ L < 5, jv t = ((L : Nat) : Int) → rk (bS t) = lim L ∧ (bS t).toInt ≠ -1 ∧ trc (-(Tx t)) = bS t ∧ t.1 ≠ 0 ∧ 6 ≤ (bS t).toInt := by decide
theorem jv_atL2 : ∀ t ∈ tokL, ∀ L < 5, jv t = ((L : Nat) : Int) → bS t ≠ 13 ∧ bS t ≠ 14 ∧ bS t ≠ 15 ∧ t ≠ (3, 59) := by decide
theorem jv_atL3 : ∀ t ∈ tokL, ∀ L < 5, jv t = ((L : Nat) : Int) → (L ≤ 1 ↔ (t = (4, 3) ∨ t = (4, 2))) := by decide
theorem jv_at {t : Tk} (h : Tok t) {L : Nat} (hL : L < 5) (e : jv t = (L : Int)) : rk (bS t) = lim L ∧ (bS t).toInt ≠ -1 ∧ trc (-(Tx t)) = bS t ∧ t.1 ≠ 0 ∧ 6 ≤ (bS t).toInt ∧ bS t ≠ 13 ∧ bS t ≠ 14 ∧ bS t ≠ 15 ∧ (L ≤ 1 ↔ (t = (4, 3) ∨ t = (4, 2))) ∧ t ≠ (3, 59) := by
  rcases Tok_c h with c | c | c
  · rw [jv_n (by omega) (by omega)] at e
    omega
  · rw [jv_n (by omega) (by omega)] at e
    omega
  · obtain ⟨a1, a2, a3, a4, a5⟩ := jv_atL1 t c L hL e
    obtain ⟨b1, b2, b3, b4⟩ := jv_atL2 t c L hL e
    exact ⟨a1, a2, a3, a4, a5, b1, b2, b3, jv_atL3 t c L hL e, b4⟩
theorem jv_mL : ∀ t ∈ tokL, jv t = -1 → bS t = -1 := by decide
theorem jv_m {t : Tk} (h : Tok t) (e : jv t = -1) : bS t = -1 := by
  rcases Tok_c h with c | c | c
  · exact bS_n (by omega) (by omega)
  · exact bS_n (by omega) (by omega)
  · exact jv_mL t c e
theorem Tx_isL : ∀ t ∈ tokL, ((Tx t).toInt = 18 ↔ t = (4, 4)) ∧ ((Tx t).toInt = 45 ↔ t = (3, 45)) ∧ ((Tx t).toInt = 40 ↔ t = (3, 40)) ∧ ((Tx t).toInt = 41 ↔ t = (3, 41)) ∧ ((Tx t).toInt = 59 ↔ t = (3, 59)) ∧ ((Tx t).toInt = 14 ↔ t = (4, 0)) ∧ ((Tx t).toInt = 15 ↔ t = (4, 1)) ∧ ((Tx t).toInt = 11 ↔ t.1 = 0) ∧ ((Tx t).toInt = 12 ↔ t.1 = 1) ∧ ((Tx t).toInt = 13 ↔ t.1 = 2) := by decide
theorem Tx_is {t : Tk} (h : Tok t) : ((Tx t).toInt = 18 ↔ t = (4, 4)) ∧ ((Tx t).toInt = 45 ↔ t = (3, 45)) ∧ ((Tx t).toInt = 40 ↔ t = (3, 40)) ∧ ((Tx t).toInt = 41 ↔ t = (3, 41)) ∧ ((Tx t).toInt = 59 ↔ t = (3, 59)) ∧ ((Tx t).toInt = 14 ↔ t = (4, 0)) ∧ ((Tx t).toInt = 15 ↔ t = (4, 1)) ∧ ((Tx t).toInt = 11 ↔ t.1 = 0) ∧ ((Tx t).toInt = 12 ↔ t.1 = 1) ∧ ((Tx t).toInt = 13 ↔ t.1 = 2) := by
  rcases Tok_c h with c | c | c
  · have n3 : ∀ x : Int32, ¬ t = (3, x) := fun x z => absurd (show (3 : Nat) = 1 by rw [z] at c; exact c) (by decide)
    have n4 : ∀ x : Int32, ¬ t = (4, x) := fun x z => absurd (show (4 : Nat) = 1 by rw [z] at c; exact c) (by decide)
    rw [Tx_1 c, kt_12, c]
    simp only [n3, n4]
    decide
  · have n3 : ∀ x : Int32, ¬ t = (3, x) := fun x z => absurd (show (3 : Nat) = 2 by rw [z] at c; exact c) (by decide)
    have n4 : ∀ x : Int32, ¬ t = (4, x) := fun x z => absurd (show (4 : Nat) = 2 by rw [z] at c; exact c) (by decide)
    rw [Tx_2 c, kt_13, c]
    simp only [n3, n4]
    decide
  · exact Tx_isL t c
theorem trc_num {x : Int32} (h : 0 ≤ x.toInt) : trc x = -1 - x := by
  unfold trc
  rw [if_pos]
  rw [Int32.le_iff_toInt_le, kt_m6]
  omega
theorem trc_nam {x : Int32} (h : 0 ≤ x.toInt) (h' : x.toInt < 6) : trc (-1 - x) = x := by
  have e : (-1 - x).toInt = -1 - x.toInt := by
    rw [i_sub (by rw [kt_m1]; omega) (by rw [kt_m1]; omega), kt_m1]
  have e2 : (-1 - (-1 - x)).toInt = x.toInt := by
    rw [i_sub (by rw [kt_m1, e]; omega) (by rw [kt_m1, e]; omega), kt_m1, e]
    omega
  unfold trc
  rw [if_pos]
  · exact Int32.toInt_inj.mp e2
  · rw [Int32.le_iff_toInt_le, kt_m6, e]
    omega
/-- how many numbers a row of codes leaves (the newest first) -/
def cdl : List Int32 → Option Nat
  | [] => some 0
  | x :: c => (cdl c).bind (cpk x)
def mn (k : Nat) : List Int32 := List.replicate k 14
theorem opn_mn : ∀ k, opn (mn k) = (k : Int)
  | 0 => rfl
  | k + 1 => by
    show (if (14 : Int32) = 13 ∨ (14 : Int32) = 14 then 1 else 0) + opn (mn k) = ((k + 1 : Nat) : Int)
    rw [opn_mn k, if_pos (Or.inr rfl)]
    omega
theorem opn_b : ∀ P : List Int32, 0 ≤ opn P ∧ opn P ≤ (P.length : Int)
  | [] => ⟨Int.le_refl _, Int.le_refl _⟩
  | h :: p => by
    obtain ⟨a, b⟩ := opn_b p
    have e3 : opn (h :: p) = (if h = 13 ∨ h = 14 then 1 else 0) + opn p := rfl
    rw [e3]
    simp only [List.length_cons]
    split
    · omega
    · omega
theorem opn_a : ∀ P Q : List Int32, opn (P ++ Q) = opn P + opn Q
  | [], Q => (Int.zero_add _).symm
  | h :: p, Q => by
    show (if h = 13 ∨ h = 14 then 1 else 0) + opn (p ++ Q) = (if h = 13 ∨ h = 14 then 1 else 0) + opn p + opn Q
    rw [opn_a p Q]
    omega
theorem dA_mn {W0 C : List Int32} {o : Int} {k : Nat} (h : stops 7 W0) : dA 7 (mn k ++ W0) C o = (W0, mn k ++ C, o - k) := by
  rw [dA_P h (mn k) C o (fun x hx => by
    rw [show x = 14 from List.eq_of_mem_replicate hx]
    decide), opn_mn]
  unfold mn
  rw [List.reverse_replicate]
theorem stops_le {x y : Nat} (h : x ≤ y) : ∀ W, stops x W → stops y W
  | [], _ => trivial
  | _ :: _, q => q.elim Or.inl (fun z => Or.inr (by omega))
theorem lim_S : ∀ L, L < 5 → lim L < lim (L + 1) ∧ lim L ≤ lo (L + 1) ∧ lo L ≤ lim L ∧ lo L ≤ lo (L + 1) ∧ lim L ≤ 7 := by decide
theorem mn_S {k : Nat} {x : List Int32} : mn (k + 1) ++ x = mn k ++ 14 :: x := by
  unfold mn
  rw [List.replicate_succ', List.append_assoc]
  rfl
