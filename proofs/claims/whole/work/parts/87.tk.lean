/-! ===== a token ===== -/
/-- what stands at a place: 0 the end, 1 a number, 2 a name, 3 a sign, 4 a key, 5 something ill; its worth -/
abbrev Tk := Nat × Int32
/-- the class's code of it; the reference's -/
def Tx (t : Tk) : Int32 := if t.1 = 0 then 11 else if t.1 = 1 then 12 else if t.1 = 2 then 13 else if t.1 = 3 then t.2 else if t.1 = 4 then 14 + t.2 else 10
def Tr (t : Tk) : Int32 := zi t.1
/-- what a token's worth is, within its bounds -/
def Tok (t : Tk) : Prop := (t.1 = 1 ∧ 0 ≤ t.2.toInt ∧ t.2.toInt ≤ 9999) ∨ (t.1 = 2 ∧ 0 ≤ t.2.toInt ∧ t.2.toInt < 6) ∨ (t.1 = 3 ∧ isSg t.2) ∨ (t.1 = 4 ∧ 0 ≤ t.2.toInt ∧ t.2.toInt < 5) ∨ t = (0, 0) ∨ t = (5, 0)
def tk (T : Nat → Int32) (n b : Nat) : Tk := if n ≤ b then (0, 0) else if isLe T b = true then (if wid T b (tkE T n b - b) = 0 then (5, 0) else if wid T b (tkE T n b - b) < 7 then (2, zi (wid T b (tkE T n b - b) - 1)) else (4, zi (wid T b (tkE T n b - b) - 7))) else if isDi T b = true then (if 4 < tkE T n b - b then (5, 0) else (1, nvC T b (tkE T n b - b))) else if isSg (T b) then (3, T b) else (5, 0)
theorem zi_14 : ∀ w, w < 12 → 7 ≤ w → zi (w + 7) = 14 + zi (w - 7) := by decide
theorem tk_x {T : Nat → Int32} {n b : Nat} : tkK T n b = Tx (tk T n b) := by
  obtain ⟨w12, _⟩ := wid_w (T := T) (p := b) (len := tkE T n b - b)
  unfold tkK tk
  generalize wid T b (tkE T n b - b) = W at w12
  by_cases c : n ≤ b
  · rw [if_pos c, if_pos c]
    rfl
  · rw [if_neg c, if_neg c]
    by_cases l : isLe T b = true
    · rw [if_pos l, if_pos l]
      by_cases w0 : W = 0
      · rw [if_pos w0, if_pos w0]
        rfl
      · rw [if_neg w0, if_neg w0]
        by_cases w7 : W < 7
        · rw [if_pos w7, if_pos w7]
          rfl
        · rw [if_neg w7, if_neg w7]
          exact zi_14 W w12 (by omega)
    · rw [if_neg l, if_neg l]
      by_cases d : isDi T b = true
      · rw [if_pos d, if_pos d]
        by_cases g : 4 < tkE T n b - b
        · rw [if_pos g, if_pos g]
          rfl
        · rw [if_neg g, if_neg g]
          rfl
      · rw [if_neg d, if_neg d]
        by_cases s : isSg (T b)
        · rw [if_pos s, if_pos s]
          rfl
        · rw [if_neg s, if_neg s]
          rfl
theorem tk_r {T : Nat → Int32} {n b : Nat} : tkR T n b = Tr (tk T n b) := by
  unfold tkR tk tW
  generalize wid T b (tkE T n b - b) = W
  by_cases c : n ≤ b
  · rw [if_pos c, if_pos c]
    rfl
  · rw [if_neg c, if_neg c]
    by_cases l : isLe T b = true
    · rw [if_pos l, if_pos l]
      by_cases w0 : W = 0
      · rw [if_pos w0, if_pos w0]
        rfl
      · rw [if_neg w0, if_neg w0]
        by_cases w7 : W < 7
        · rw [if_pos w7, if_pos w7]
          rfl
        · rw [if_neg w7, if_neg w7]
          rfl
    · rw [if_neg l, if_neg l]
      by_cases d : isDi T b = true
      · rw [if_pos d, if_pos d]
        by_cases g : 4 < tkE T n b - b
        · rw [if_pos g, if_pos g]
          rfl
        · rw [if_neg g, if_neg g]
          rfl
      · rw [if_neg d, if_neg d]
        by_cases s : isSg (T b)
        · rw [if_pos s, if_pos s]
          rfl
        · rw [if_neg s, if_neg s]
          rfl
theorem nvC_b {T : Nat → Int32} {p : Nat} : ∀ j, j ≤ 4 → (∀ k, k < j → isDi T (p + k) = true) → 0 ≤ (nvC T p j).toInt ∧ (nvC T p j).toInt < ((10 ^ j : Nat) : Int)
  | 0, _, _ => by
    show 0 ≤ (0 : Int32).toInt ∧ (0 : Int32).toInt < ((10 ^ 0 : Nat) : Int)
    decide
  | j + 1, hj, h => by
    obtain ⟨a1, a2⟩ := nvC_b j (by omega) (fun k hk => h k (by omega))
    have q : 48 ≤ (T (p + j)).toInt ∧ (T (p + j)).toInt ≤ 57 := of_decide_eq_true (h j (by omega))
    have e10 : (10 : Int32).toInt = 10 := rfl
    have e48 : (48 : Int32).toInt = 48 := rfl
    have pw : 10 ^ j ≤ 1000 := by
      have : ∀ j, j < 4 → 10 ^ j ≤ 1000 := by decide
      exact this j (by omega)
    have pp : 10 ^ (j + 1) = 10 ^ j * 10 := Nat.pow_succ 10 j
    unfold nvC
    rw [pp]
    generalize 10 ^ j = P at a2 pw
    generalize nvC T p j = v at a1 a2
    generalize T (p + j) = d at q
    have m1 : (v * 10).toInt = v.toInt * 10 := by
      rw [i_mul (by rw [e10]; omega) (by rw [e10]; omega), e10]
    have m2 : (v * 10 + d).toInt = v.toInt * 10 + d.toInt := by
      rw [i_add (by omega) (by omega), m1]
    have m3 : (v * 10 + d - 48).toInt = v.toInt * 10 + d.toInt - 48 := by
      rw [i_sub (by omega) (by omega), m2, e48]
    rw [m3]
    omega
theorem tk_ok {T : Nat → Int32} {n b : Nat} : Tok (tk T n b) := by
  obtain ⟨w12, _⟩ := wid_w (T := T) (p := b) (len := tkE T n b - b)
  unfold tk
  generalize wid T b (tkE T n b - b) = W at w12
  by_cases c : n ≤ b
  · rw [if_pos c]
    exact Or.inr (Or.inr (Or.inr (Or.inr (Or.inl rfl))))
  · rw [if_neg c]
    by_cases l : isLe T b = true
    · rw [if_pos l]
      by_cases w0 : W = 0
      · rw [if_pos w0]
        exact Or.inr (Or.inr (Or.inr (Or.inr (Or.inr rfl))))
      · rw [if_neg w0]
        by_cases w7 : W < 7
        · rw [if_pos w7]
          refine Or.inr (Or.inl ⟨rfl, ?_⟩)
          show 0 ≤ (zi (W - 1)).toInt ∧ (zi (W - 1)).toInt < 6
          rw [zi_int (by omega)]
          omega
        · rw [if_neg w7]
          refine Or.inr (Or.inr (Or.inr (Or.inl ⟨rfl, ?_⟩)))
          show 0 ≤ (zi (W - 7)).toInt ∧ (zi (W - 7)).toInt < 5
          rw [zi_int (by omega)]
          omega
    · rw [if_neg l]
      by_cases d : isDi T b = true
      · rw [if_pos d]
        by_cases g : 4 < tkE T n b - b
        · rw [if_pos g]
          exact Or.inr (Or.inr (Or.inr (Or.inr (Or.inr rfl))))
        · rw [if_neg g]
          have eE : tkE T n b = rn (isDi T) n (n - b) b := by
            unfold tkE
            rw [if_neg c, if_neg l, if_pos d]
          obtain ⟨r1, r2, r3, r4⟩ := rn_b (C := isDi T) (n := n) (n - b) b (by omega) (by omega)
          rw [← eE] at r1 r2 r3
          obtain ⟨z1, z2⟩ := nvC_b (T := T) (p := b) (tkE T n b - b) (by omega) (fun k hk => r3 (b + k) (by omega) (by omega))
          have pw : ∀ j, j < 5 → 10 ^ j ≤ 10000 := by decide
          have := pw (tkE T n b - b) (by omega)
          refine Or.inl ⟨rfl, z1, ?_⟩
          show (nvC T b (tkE T n b - b)).toInt ≤ 9999
          omega
      · rw [if_neg d]
        by_cases s : isSg (T b)
        · rw [if_pos s]
          exact Or.inr (Or.inr (Or.inl ⟨rfl, s⟩))
        · rw [if_neg s]
          exact Or.inr (Or.inr (Or.inr (Or.inr (Or.inr rfl))))
