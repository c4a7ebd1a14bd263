/-! ===== bits, steps of a way ===== -/
def bt (x : Int32) (z : Nat) : Bool := decide (((x >>> (zi z &&& 31)) &&& 1).toInt = 1)
/-- how many bits are set below -/
def kb (x : Int32) : Nat → Nat
  | 0 => 0
  | n + 1 => kb x n + (if bt x n = true then 1 else 0)
theorem bt_01 : ∀ v, v < 64 → ∀ z, z < 6 → ((zi v >>> (zi z &&& 31)) &&& 1) = if bt (zi v) z = true then 1 else 0 := by decide +kernel
theorem bt_hi : ∀ n, n < 7 → ∀ v, v < 2 ^ n → ∀ z, z < 6 → n ≤ z → bt (zi v) z = false := by decide +kernel
theorem bt_count : ∀ v, v < 64 → f_J6_bitCount_0f7a4 (zi v) = some (zi (kb (zi v) 6)) := by decide +kernel
theorem shl_1 : ∀ n, n < 7 → (((1 : Int32) <<< (zi n &&& 31)) - 1).toInt = ((2 ^ n : Nat) : Int) - 1 := by decide +kernel
theorem shl_4 : ∀ m, m < 5 → ((1 : Int32) <<< (((2 : Int32) * zi m) &&& 31)).toInt = ((4 ^ m : Nat) : Int) := by decide +kernel
/-- step k of a way -/
def stp (w : Int32) (m k : Nat) : Int32 := (w >>> (((2 : Int32) * ((zi m - 1) - zi k)) &&& 31)) &&& 3
theorem stp_all : ∀ m, m < 5 → ∀ k, k < m → stp (zi (4 ^ m - 1)) m k = 3 := by decide +kernel
theorem stp_b (w : Int32) (m k : Nat) : 0 ≤ (stp w m k).toInt ∧ (stp w m k).toInt ≤ 3 := by
  unfold stp
  generalize w >>> (((2 : Int32) * ((zi m - 1) - zi k)) &&& 31) = y
  have h : (y &&& 3).toBitVec.toNat ≤ 3 := by
    rw [Int32.toBitVec_and, BitVec.toNat_and]
    exact Nat.and_le_right
  have e : (y &&& 3).toInt = ((y &&& 3).toBitVec.toNat : Int) := by
    rw [← Int32.toInt_toBitVec, BitVec.toInt_eq_toNat_of_lt (by omega)]
  omega
theorem kb_mono {x : Int32} {n : Nat} : ∀ m, n ≤ m → kb x n ≤ kb x m
  | 0, h => by rw [show n = 0 by omega]; exact Nat.le_refl _
  | m + 1, h => by
    by_cases e : n = m + 1
    · rw [e]; exact Nat.le_refl _
    · have q := kb_mono (x := x) (n := n) m (by omega)
      show kb x n ≤ kb x m + _
      omega
theorem kb_lt {x : Int32} {z n : Nat} (h : bt x z = true) (hz : z < n) : kb x z < kb x n := by
  have q := kb_mono (x := x) (n := z + 1) n (by omega)
  have e : kb x (z + 1) = kb x z + 1 := by
    show kb x z + (if bt x z = true then 1 else 0) = _
    rw [if_pos h]
  omega
theorem kb_hi {x : Int32} {n : Nat} : ∀ m, n ≤ m → (∀ z, n ≤ z → z < m → bt x z = false) → kb x m = kb x n
  | 0, h, _ => by rw [show n = 0 by omega]
  | m + 1, h, hb => by
    by_cases e : n = m + 1
    · rw [e]
    · show kb x m + (if bt x m = true then 1 else 0) = kb x n
      rw [hb m (by omega) (by omega), if_neg (by decide), Nat.add_zero]
      exact kb_hi m (by omega) (fun z a b => hb z a (by omega))
theorem kb_at {x : Int32} : ∀ n i, i < kb x n → ∃ z, z < n ∧ bt x z = true ∧ kb x z = i
  | 0, i, h => absurd h (Nat.not_lt_zero i)
  | n + 1, i, h => by
    by_cases c : i < kb x n
    · obtain ⟨z, h1, h2⟩ := kb_at n i c
      exact ⟨z, by omega, h2⟩
    · have e : kb x (n + 1) = kb x n + (if bt x n = true then 1 else 0) := rfl
      by_cases d : bt x n = true
      · rw [if_pos d] at e
        exact ⟨n, by omega, d, by omega⟩
      · rw [if_neg d] at e
        omega
theorem kb_inj {x : Int32} {y z : Nat} (hy : bt x y = true) (hz : bt x z = true) (h : kb x y = kb x z) : y = z := by
  by_cases c : y < z
  · have := kb_lt hy c
    omega
  · by_cases d : z < y
    · have := kb_lt hz d
      omega
    · omega
theorem kb_le {x : Int32} : ∀ n, kb x n ≤ n
  | 0 => Nat.le_refl _
  | n + 1 => by
    have := kb_le (x := x) n
    show kb x n + _ ≤ n + 1
    split <;> omega
/-- hours from now on to the call of a zone -/
def dW (x : Int32) (m : Nat) (w : Int32) (z : Nat) : Int32 := if bt x z = true then (if (stp w m (kb x z)).toInt = 3 then -1 else stp w m (kb x z) * 4) else -1
/-- calls in the first n steps -/
def clI (w : Int32) (m : Nat) : Nat → Nat
  | 0 => 0
  | n + 1 => clI w m n + (if (stp w m n).toInt = 3 then 0 else 1)
theorem clI_le {w : Int32} {m : Nat} : ∀ n, clI w m n ≤ n
  | 0 => Nat.le_refl _
  | n + 1 => by
    have := clI_le (w := w) (m := m) n
    show clI w m n + _ ≤ n + 1
    split <;> omega
/-- the first n steps' calls are in time -/
def okI (A : fc_I) (w : Int32) (m n : Nat) : Prop := ∀ i, i < n → ¬ (stp w m i).toInt = 3 → (A 0 0).toInt + 4 * (stp w m i).toInt ≤ (A 0 1).toInt
theorem okI_S {A : fc_I} {w : Int32} {m n : Nat} (h : okI A w m n) (hn : ¬ (stp w m n).toInt = 3 → (A 0 0).toInt + 4 * (stp w m n).toInt ≤ (A 0 1).toInt) : okI A w m (n + 1) := fun i hi => by
  by_cases e : i = n
  · rw [e]
    exact hn
  · exact h i (by omega)
theorem dW_b {x w : Int32} {m z : Nat} : (dW x m w z).toInt = -1 ∨ 0 ≤ (dW x m w z).toInt ∧ (dW x m w z).toInt ≤ 99 := by
  unfold dW
  split
  · split
    · exact Or.inl rfl
    · have q := stp_b w m (kb x z)
      have e : (stp w m (kb x z) * 4).toInt = (stp w m (kb x z)).toInt * 4 := i_mul (by rw [kt_4]; omega) (by rw [kt_4]; omega)
      exact Or.inr (by omega)
  · exact Or.inl rfl
theorem lpm3_X {α β γ : Type} {B : (α → β → Int32 → fc_I → Option γ) → α → β → Int32 → fc_I → Option γ} (N : Nat) (hN : N < 50000) (P : Nat → α → β → fc_I → Prop) (Fin : γ → Prop) (hs : ∀ (k : α → β → Int32 → fc_I → Option γ) (x : α) (y : β) (i : Int32) (n : Nat) (J : fc_I), i.toInt = (n : Int) → n < N → P n x y J → (∃ x' y' J', P (n + 1) x' y' J' ∧ B k x y i J = k x' y' (i + 1) J') ∨ ∃ r, Fin r ∧ B k x y i J = some r) (he : ∀ (k : α → β → Int32 → fc_I → Option γ) (x : α) (y : β) (i : Int32) (J : fc_I), i.toInt = (N : Int) → P N x y J → ∃ r, Fin r ∧ B k x y i J = some r) : ∀ (m : Nat) (x : α) (y : β) (i : Int32) (n : Nat) (J : fc_I), i.toInt = (n : Int) → n ≤ N → N < n + m → P n x y J → ∃ r, Fin r ∧ lpm3 B m x y i J = some r
  | 0, _, _, _, _, _, _, h1, h2, _ => absurd h2 (by omega)
  | m + 1, x, y, i, n, J, hi, h1, h2, hp => by
    show ∃ r, Fin r ∧ B (lpm3 B m) x y i J = some r
    by_cases c : n < N
    · rcases hs (lpm3 B m) x y i n J hi c hp with ⟨x', y', J', q1, q2⟩ | q
      · rw [q2]
        exact lpm3_X N hN P Fin hs he m x' y' (i + 1) (n + 1) J' (by have := (i_p1 (N := 50000) (x := i) (by omega) (by omega) (by omega)).1; omega) (by omega) (by omega) q1
      · exact q
    · have e : n = N := by omega
      subst e
      exact he _ x y i J hi hp
theorem zi_S {n : Nat} (h : n < 50000) : zi n + 1 = zi (n + 1) := zi_of (i_pp1 (zi_int (n := n) (by omega)) h) (by omega)
set_option maxHeartbeats 2000000 in
theorem e_choose_M {I : fc_I} {v m : Nat} {w : Int32} (hv : v < 64) (hm : m = kb (zi v) 6) (hE : 0 ≤ (I 78 0).toInt ∧ (I 78 0).toInt ≤ 60) : ∃ r J, f_X11_choose I (zi v) (zi m) w = some (r, J) ∧ (∀ c, c ≠ 125 → J c = I c) ∧ (okI (aM I) w m m → r = zi (clI w m m) ∧ ∀ z, z < 6 → J 125 z = dW (zi v) m w z) ∧ (¬ okI (aM I) w m m → r = -1) := by
  obtain ⟨A, hA⟩ : ∃ A, A = aM I := ⟨_, rfl⟩
  have a00 : A 0 0 = I 78 0 := by rw [hA]; rfl
  have a01 : A 0 1 = I 78 1 := by rw [hA]; rfl
  rw [← hA]
  obtain ⟨x, hx⟩ : ∃ x, x = zi v := ⟨_, rfl⟩
  have m6 : m ≤ 6 := by rw [hm]; exact kb_le 6
  obtain ⟨r, h1, h2⟩ := lpm3_X (B := f_X11_choose_9_B x (zi m) w) 6 (by omega) (fun n c k J => c = zi (clI w m (kb x n)) ∧ k = zi (kb x n) ∧ okI A w m (kb x n) ∧ (∀ c, c ≠ 125 → J c = I c) ∧ ∀ z, z < n → J 125 z = dW x m w z) (fun q => (∀ c, c ≠ 125 → q.2 c = I c) ∧ (okI A w m m → q.1 = zi (clI w m m) ∧ ∀ z, z < 6 → q.2 125 z = dW x m w z) ∧ (¬ okI A w m m → q.1 = -1)) (fun k c kk i n J hi hn hP => by
    obtain ⟨rfl, rfl, p3, p4, p5⟩ := hP
    have ec : cn i = n := cn_eq hi
    have ei : i = zi n := zi_of hi (by omega)
    have hg : ∀ y : Option (Int32 × fc_I), fq_g 6 i y = y := fun y => fq_gp ⟨by omega, by omega⟩
    have ek : kb x (n + 1) = kb x n + (if bt x n = true then 1 else 0) := rfl
    have kn := kb_le (x := x) n
    have kc := clI_le (w := w) (m := m) (kb x n)
    have fr : ∀ (u1 u2 : Int32), ∀ c, c ≠ 125 → fc_wI (fc_wI J 125 n u1) 125 n u2 c = I c := fun u1 u2 c hc => by rw [fc_wI_lo hc, fc_wI_lo hc, p4 c hc]
    unfold f_X11_choose_9_B f_X11_choose_71
    simp only [hg, fq_l, kt_6, kt_1, kt_3, kt_m1]
    simp only [fc_wI_lo (show (78 : Nat) ≠ 125 by decide)]
    rw [if_pos (by omega), ec, p4 78 (by decide), ← a00, ← a01]
    have hb : (((x >>> (i &&& 31)) &&& 1).toInt = 1) = (bt x n = true) := by
      rw [ei]
      exact propext (decide_eq_true_iff).symm
    simp only [hb]
    by_cases b : bt x n = true
    · rw [if_pos b] at ek
      rw [if_pos b, show (w >>> (((2 : Int32) * ((zi m - 1) - zi (kb x n))) &&& 31)) &&& 3 = stp w m (kb x n) from rfl]
      obtain ⟨s1, s2⟩ := stp_b w m (kb x n)
      by_cases s : (stp w m (kb x n)).toInt = 3
      · have cl : clI w m (kb x (n + 1)) = clI w m (kb x n) := by
          rw [ek]
          show clI w m (kb x n) + _ = _
          rw [if_pos s, Nat.add_zero]
        rw [if_pos s, fc_wI_at, if_pos rfl, if_pos (show Int32.toInt (-1) = -1 from rfl), if_pos s, Int32.add_zero, zi_S (by omega)]
        refine Or.inl ⟨_, _, _, ⟨by rw [cl], by rw [ek], by rw [ek]; exact okI_S p3 (fun z => absurd s z), fr _ _, fun z hz => ?_⟩, rfl⟩
        rw [fc_wI_at]
        by_cases e : z = n
        · rw [if_pos e, e]
          unfold dW
          rw [if_pos b, if_pos s]
        · rw [if_neg e, fc_wI_at, if_neg e]
          exact p5 z (by omega)
      · have cl : clI w m (kb x (n + 1)) = clI w m (kb x n) + 1 := by
          rw [ek]
          show clI w m (kb x n) + _ = _
          rw [if_neg s]
        have e4 : (4 : Int32) * stp w m (kb x n) = stp w m (kb x n) * 4 := Int32.mul_comm _ _
        have es : (stp w m (kb x n) * 4).toInt = (stp w m (kb x n)).toInt * 4 := i_mul (by rw [kt_4]; omega) (by rw [kt_4]; omega)
        have dw : dW x m w n = stp w m (kb x n) * 4 := by
          unfold dW
          rw [if_pos b, if_neg s]
        rw [if_neg s, e4, fc_wI_at, if_pos rfl]
        generalize stp w m (kb x n) * 4 = y at *
        have ea : (A 0 0 + y).toInt = (A 0 0).toInt + y.toInt := i_add (by rw [a00]; omega) (by rw [a00]; omega)
        rw [if_neg (show ¬ y.toInt = -1 by omega)]
        by_cases l : (A 0 1).toInt < (A 0 0 + y).toInt
        · rw [if_pos l]
          refine Or.inr ⟨_, ⟨fr _ _, fun q => ?_, fun _ => rfl⟩, rfl⟩
          have lt := kb_lt (x := x) b hn
          rw [hx, ← hm, ← hx] at lt
          have := q (kb x n) lt s
          omega
        · rw [if_neg l, if_neg s, zi_S (by omega), zi_S (by omega)]
          refine Or.inl ⟨_, _, _, ⟨by rw [cl], by rw [ek], by rw [ek]; exact okI_S p3 (fun _ => by omega), fr _ _, fun z hz => ?_⟩, rfl⟩
          rw [fc_wI_at]
          by_cases e : z = n
          · rw [if_pos e, e, dw]
          · rw [if_neg e, fc_wI_at, if_neg e]
            exact p5 z (by omega)
    · have ek : kb x (n + 1) = kb x n := by rw [ek, if_neg b]; rfl
      rw [if_neg b]
      refine Or.inl ⟨_, _, _, ⟨by rw [ek], by rw [ek], by rw [ek]; exact p3, fun c hc => by rw [fc_wI_lo hc, p4 c hc], fun z hz => ?_⟩, rfl⟩
      rw [fc_wI_at]
      by_cases e : z = n
      · rw [if_pos e, e]
        unfold dW
        rw [if_neg b]
      · rw [if_neg e]
        exact p5 z (by omega)) (fun k c kk i J hi hP => by
    obtain ⟨rfl, rfl, p3, p4, p5⟩ := hP
    unfold f_X11_choose_9_B
    rw [if_neg (by rw [kt_6]; omega)]
    have e : kb x 6 = m := by rw [hx, hm]
    rw [e] at p3 ⊢
    exact ⟨_, ⟨p4, fun _ => ⟨rfl, p5⟩, fun q => absurd p3 q⟩, rfl⟩) 4000 0 0 0 0 I kt_0 (by omega) (by omega) ⟨rfl, rfl, fun i hi => absurd hi (Nat.not_lt_zero i), fun _ _ => rfl, fun z hz => absurd hz (by omega)⟩
  rw [← hx]
  exact ⟨r.1, r.2, h2, h1⟩
