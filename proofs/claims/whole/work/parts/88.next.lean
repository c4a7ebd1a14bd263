theorem tk_V {T : Nat → Int32} {n b : Nat} : ((tk T n b).1 = 1 ∨ (tk T n b).1 = 2 → tkV T n b = (tk T n b).2) ∧ ((tk T n b).1 ≠ 0 → (tk T n b).1 ≠ 5 → tkU T n b = (tk T n b).2) := by
  unfold tkV tkU tk vW
  generalize wid T b (tkE T n b - b) = W
  by_cases c : n ≤ b
  · rw [if_pos c]
    exact ⟨fun h => absurd h (by decide), fun h => absurd rfl h⟩
  · rw [if_neg c]
    by_cases l : isLe T b = true
    · rw [if_pos l, if_pos l, if_pos l]
      by_cases w0 : W = 0
      · rw [if_pos w0, if_pos w0]
        exact ⟨fun h => absurd h (by decide), fun _ h => absurd rfl h⟩
      · rw [if_neg w0, if_neg w0]
        by_cases w7 : W < 7
        · rw [if_pos w7, if_pos w7]
          exact ⟨fun _ => rfl, fun _ _ => rfl⟩
        · rw [if_neg w7, if_neg w7]
          refine ⟨fun h => ?_, fun _ _ => rfl⟩
          rcases h with h | h
          · exact absurd (show (4 : Nat) = 1 from h) (by decide)
          · exact absurd (show (4 : Nat) = 2 from h) (by decide)
    · rw [if_neg l, if_neg l, if_neg l]
      by_cases d : isDi T b = true
      · rw [if_pos d, if_pos d]
        by_cases g : 4 < tkE T n b - b
        · rw [if_pos g]
          exact ⟨fun h => absurd h (by decide), fun _ h => absurd rfl h⟩
        · rw [if_neg g]
          exact ⟨fun _ => rfl, fun _ _ => rfl⟩
      · rw [if_neg d, if_neg d]
        by_cases s : isSg (T b)
        · rw [if_pos s]
          refine ⟨fun h => ?_, fun _ _ => rfl⟩
          rcases h with h | h
          · exact absurd (show (3 : Nat) = 1 from h) (by decide)
          · exact absurd (show (3 : Nat) = 2 from h) (by decide)
        · rw [if_neg s]
          exact ⟨fun h => absurd h (by decide), fun _ h => absurd rfl h⟩
/-- the token that stands behind place p; where it begins and ends -/
def nB (T : Nat → Int32) (n p : Nat) : Nat := tkB T n p
def nE (T : Nat → Int32) (n p : Nat) : Nat := tkE T n (tkB T n p)
def nT (T : Nat → Int32) (n p : Nat) : Tk := tk T n (tkB T n p)
theorem nB_b {T : Nat → Int32} {n p : Nat} (h : p ≤ n) : p ≤ nB T n p ∧ nB T n p ≤ nE T n p ∧ nE T n p ≤ n := by
  obtain ⟨a, b⟩ := tkB_b (T := T) h
  obtain ⟨c, d⟩ := tkE_b (T := T) b
  exact ⟨a, c, d⟩
/-- a token that isn't the end takes a byte at least -/
theorem nE_lt {T : Nat → Int32} {n p : Nat} (h : p ≤ n) (h2 : (nT T n p).1 ≠ 0) : nB T n p < nE T n p := by
  obtain ⟨a, b⟩ := tkB_b (T := T) h
  unfold nT at h2
  unfold nB nE
  generalize tkB T n p = q at b h2
  by_cases c : n ≤ q
  · exfalso
    apply h2
    unfold tk
    rw [if_pos c]
  · unfold tkE
    rw [if_neg c]
    have rr : ∀ C : Nat → Bool, C q = true → q < rn C n (n - q) q := fun C hq => by
      have e : n - q = (n - q - 1) + 1 := by omega
      rw [e]
      unfold rn
      rw [if_pos ⟨by omega, hq⟩]
      obtain ⟨x, _, _, _⟩ := rn_b (C := C) (n := n) (n - q - 1) (q + 1) (by omega) (by omega)
      omega
    by_cases l : isLe T q = true
    · rw [if_pos l]
      exact rr _ l
    · rw [if_neg l]
      by_cases d : isDi T q = true
      · rw [if_pos d]
        exact rr _ d
      · rw [if_neg d]
        omega
theorem X_next {I : fc_I} {n p : Nat} (hn : (I 43 4).toInt = (n : Int)) (h160 : n ≤ 160) (hp : p ≤ n) (h6 : I 43 6 = zi p) : ∃ v, f_X5_nextToken I = some (tkI I (zi (nB (I 32) n p)) (zi (nE (I 32) n p)) (Tx (nT (I 32) n p)) v) ∧ ((nT (I 32) n p).1 = 1 ∨ (nT (I 32) n p).1 = 2 → v = (nT (I 32) n p).2) := by
  obtain ⟨v, h1, h2⟩ := e_nextX hn h160 hp h6
  refine ⟨v, ?_, ?_⟩
  · rw [h1, tk_x]
    rfl
  · intro h
    have k := (tk_V (T := I 32) (n := n) (b := tkB (I 32) n p)).1 h
    refine (h2 ?_).trans k
    rw [tk_x]
    unfold Tx
    rcases h with h | h
    · have h' : (tk (I 32) n (tkB (I 32) n p)).1 = 1 := h
      rw [h']
      left
      rfl
    · have h' : (tk (I 32) n (tkB (I 32) n p)).1 = 2 := h
      rw [h']
      right
      rfl
theorem M_next {I : fc_I} {n p : Nat} (hC : mC I) (hn : (I 78 39).toInt = (n : Int)) (h160 : n ≤ 160) (hp : p ≤ n) (h6 : I 78 44 = zi p) : ∃ w, f_X11_next I = some (rI I (zi (nE (I 108) n p)) (Tr (nT (I 108) n p)) w (zi (nB (I 108) n p))) ∧ ((nT (I 108) n p).1 ≠ 0 → (nT (I 108) n p).1 ≠ 5 → w = (nT (I 108) n p).2) := by
  obtain ⟨w, h1, h2⟩ := e_nextM hC hn h160 hp h6
  refine ⟨w, ?_, ?_⟩
  · rw [h1, tk_r]
    rfl
  · intro h0 h5
    have k := (tk_V (T := I 108) (n := n) (b := tkB (I 108) n p)).2 h0 h5
    refine (h2 ?_ ?_).trans k
    · rw [tk_r]
      unfold Tr
      intro z
      have z2 := congrArg Int32.toInt z
      have ok := tk_ok (T := I 108) (n := n) (b := tkB (I 108) n p)
      have l5 : (tk (I 108) n (tkB (I 108) n p)).1 < 6 := by
        rcases ok with o | o | o | o | o | o
        · rw [o.1]; decide
        · rw [o.1]; decide
        · rw [o.1]; decide
        · rw [o.1]; decide
        · rw [o]; decide
        · rw [o]; decide
      rw [zi_int (by omega), kt_0] at z2
      exact h0 (show (tk (I 108) n (tkB (I 108) n p)).1 = 0 by omega)
    · rw [tk_r]
      unfold Tr
      intro z
      have z2 := congrArg Int32.toInt z
      have ok := tk_ok (T := I 108) (n := n) (b := tkB (I 108) n p)
      have l5 : (tk (I 108) n (tkB (I 108) n p)).1 < 6 := by
        rcases ok with o | o | o | o | o | o
        · rw [o.1]; decide
        · rw [o.1]; decide
        · rw [o.1]; decide
        · rw [o.1]; decide
        · rw [o]; decide
        · rw [o]; decide
      rw [zi_int (by omega), kt_5] at z2
      exact h5 (show (tk (I 108) n (tkB (I 108) n p)).1 = 5 by omega)
