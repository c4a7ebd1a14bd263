/-! ===== tokens: what stands at a place of the tape ===== -/
theorem lpm0_K {γ : Type} {B : (fc_I → Option γ) → fc_I → Option γ} (N : Nat) (P : Nat → fc_I → Prop) (G : fc_I → Option γ) (hs : ∀ (k : fc_I → Option γ) (n : Nat) (J : fc_I), n < N → P n J → ∃ J', P (n + 1) J' ∧ B k J = k J') (he : ∀ (k : fc_I → Option γ) (J : fc_I), P N J → B k J = G J) : ∀ (m n : Nat) (J : fc_I), n ≤ N → N < n + m → P n J → ∃ J', P N J' ∧ lpm0 B m J = G J'
  | 0, _, _, h1, h2, _ => absurd h2 (by omega)
  | m + 1, n, J, h1, h2, hp => by
    show ∃ J', P N J' ∧ B (lpm0 B m) J = G J'
    by_cases c : n < N
    · obtain ⟨J', q1, q2⟩ := hs (lpm0 B m) n J c hp
      rw [q2]
      exact lpm0_K N P G hs he m (n + 1) J' (by omega) (by omega) q1
    · have e : n = N := by omega
      subst e
      exact ⟨J, hp, he _ J hp⟩
/-- where a run of bytes of a sort ends -/
def rn (C : Nat → Bool) (n : Nat) : Nat → Nat → Nat
  | 0, p => p
  | m + 1, p => if p < n ∧ C p = true then rn C n m (p + 1) else p
theorem rn_b {C : Nat → Bool} {n : Nat} : ∀ m p, p ≤ n → n ≤ p + m → p ≤ rn C n m p ∧ rn C n m p ≤ n ∧ (∀ k, p ≤ k → k < rn C n m p → C k = true) ∧ (rn C n m p < n → C (rn C n m p) = false)
  | 0, p, h1, h2 => by
    refine ⟨Nat.le_refl _, h1, fun k a b => ?_, fun h => ?_⟩
    · have b : k < p := b
      omega
    · have h : p < n := h
      omega
  | m + 1, p, h1, h2 => by
    unfold rn
    by_cases c : p < n ∧ C p = true
    · rw [if_pos c]
      have c1 := c.1
      obtain ⟨a1, a2, a3, a4⟩ := rn_b (C := C) (n := n) m (p + 1) (by omega) (by omega)
      refine ⟨by omega, a2, fun k a b => ?_, a4⟩
      by_cases e : k = p
      · rw [e]
        exact c.2
      · exact a3 k (by omega) b
    · rw [if_neg c]
      refine ⟨Nat.le_refl _, h1, fun k a b => by omega, fun h => ?_⟩
      cases q : C p with
      | false => rfl
      | true => exact absurd ⟨h, q⟩ c
def isBl (T : Nat → Int32) (k : Nat) : Bool := decide ((T k).toInt = 32 ∨ (T k).toInt = 10)
def isLe (T : Nat → Int32) (k : Nat) : Bool := decide (97 ≤ (T k).toInt ∧ (T k).toInt ≤ 122)
def isDi (T : Nat → Int32) (k : Nat) : Bool := decide (48 ≤ (T k).toInt ∧ (T k).toInt ≤ 57)
abbrev isSg (x : Int32) : Prop := x.toInt = 40 ∨ x.toInt = 41 ∨ x.toInt = 42 ∨ x.toInt = 43 ∨ x.toInt = 45 ∨ x.toInt = 59 ∨ x.toInt = 60 ∨ x.toInt = 61
/-- a number's worth -/
def nvC (T : Nat → Int32) (p : Nat) : Nat → Int32
  | 0 => 0
  | j + 1 => nvC T p j * 10 + T (p + j) - 48
/-- whether the word of len bytes from p on is text k -/
def weq (T : Nat → Int32) (p len k : Nat) : Bool := decide (len = fc_len.getD k 0) && (List.range len).all (fun i => decide (T (p + i) = (fc_byt.getD k []).getD i 0))
/-- a word: 1 .. 11, the text that it is; 0: none -/
def wid (T : Nat → Int32) (p len : Nat) : Nat := if weq T p len 1 = true then 1 else if weq T p len 2 = true then 2 else if weq T p len 3 = true then 3 else if weq T p len 4 = true then 4 else if weq T p len 5 = true then 5 else if weq T p len 6 = true then 6 else if weq T p len 7 = true then 7 else if weq T p len 8 = true then 8 else if weq T p len 9 = true then 9 else if weq T p len 10 = true then 10 else if weq T p len 11 = true then 11 else 0
/-- where the token at p begins; where it ends; its sort; its worth -/
def tkB (T : Nat → Int32) (n p : Nat) : Nat := rn (isBl T) n (n - p) p
def tkE (T : Nat → Int32) (n b : Nat) : Nat := if n ≤ b then b else if isLe T b = true then rn (isLe T) n (n - b) b else if isDi T b = true then rn (isDi T) n (n - b) b else b + 1
def tkK (T : Nat → Int32) (n b : Nat) : Int32 := if n ≤ b then 11 else if isLe T b = true then (if wid T b (tkE T n b - b) = 0 then 10 else if wid T b (tkE T n b - b) < 7 then 13 else zi (wid T b (tkE T n b - b) + 7)) else if isDi T b = true then (if 4 < tkE T n b - b then 10 else 12) else if isSg (T b) then T b else 10
def tkV (T : Nat → Int32) (n b : Nat) : Int32 := if isLe T b = true then zi (wid T b (tkE T n b - b) - 1) else nvC T b (tkE T n b - b)
theorem e_isLet (x : Int32) : f_X5_isLetter x = some (if 97 ≤ x.toInt ∧ x.toInt ≤ 122 then 1 else 0) := by
  unfold f_X5_isLetter
  have k97 : (97 : Int32).toInt = 97 := rfl
  have k122 : (122 : Int32).toInt = 122 := rfl
  rw [k97, k122]
  by_cases h1 : x.toInt < 97
  · rw [if_pos h1, if_neg (by omega)]
  · rw [if_neg h1]
    by_cases h2 : 122 < x.toInt
    · rw [if_pos h2, if_neg (by omega)]
    · rw [if_neg h2, if_pos (by omega)]
theorem e_isDig (x : Int32) : f_X5_isDigit x = some (if 48 ≤ x.toInt ∧ x.toInt ≤ 57 then 1 else 0) := by
  unfold f_X5_isDigit
  have k48 : (48 : Int32).toInt = 48 := rfl
  have k57 : (57 : Int32).toInt = 57 := rfl
  rw [k48, k57]
  by_cases h1 : x.toInt < 48
  · rw [if_pos h1, if_neg (by omega)]
  · rw [if_neg h1]
    by_cases h2 : 57 < x.toInt
    · rw [if_pos h2, if_neg (by omega)]
    · rw [if_neg h2, if_pos (by omega)]
theorem e_isSgX (x : Int32) : f_X5_isSign x = some (if isSg x then 1 else 0) := by
  unfold f_X5_isSign
  have k40 : (40 : Int32).toInt = 40 := rfl
  have k43 : (43 : Int32).toInt = 43 := rfl
  have k45 : (45 : Int32).toInt = 45 := rfl
  have k59 : (59 : Int32).toInt = 59 := rfl
  have k60 : (60 : Int32).toInt = 60 := rfl
  have k61 : (61 : Int32).toInt = 61 := rfl
  rw [k40, k43, k45, k59, k60, k61]
  by_cases s : isSg x
  · rw [if_pos s]
    repeat' split
    all_goals first | rfl | (exfalso; omega)
  · rw [if_neg s]
    repeat' split
    all_goals first | rfl | (exfalso; omega)
/-- the class's reader, its place at q, and what the other cells are -/
def atX (I : fc_I) (q : Nat) : fc_I := fc_wI I 43 6 (zi q)
theorem e_spB {I : fc_I} {k p len L : Nat} (hL : fc_len.getD k 0 = L) (hk : k < 12) (hl : L = len) (hl2 : L < 100) (hp : (I 43 5).toInt = (p : Int)) (hb : p + len ≤ 160) (kk : Int32 → Option Int32) (i : Int32) (n : Nat) (hi : i.toInt = (n : Int)) (h1 : n ≤ len) : f_X5_spells_20_B k I kk i = if n < len then (if I 32 (p + n) = (fc_byt.getD k []).getD n 0 then kk (i + 1) else some 0) else some 1 := by
  have el : (Int32.ofNat (fc_len.getD k 0)).toInt = (L : Int) := by
    rw [hL]
    exact zi_int (n := L) (by omega)
  unfold f_X5_spells_20_B
  simp only [fq_l]
  rw [show f_J0_length_8abf5 k = some (Int32.ofNat (fc_len.getD k 0)) from rfl, fq_vsome, el]
  by_cases d : n < len
  · have ea : (I 43 5 + i).toInt = ((p + n : Nat) : Int) := by
      rw [i_add (by omega) (by omega)]
      omega
    have ec : cn (I 43 5 + i) = p + n := cn_eq ea
    have eh : f_J0_charAt_5068e k i = some ((fc_byt.getD k []).getD n 0) := by
      unfold f_J0_charAt_5068e
      rw [fq_gp ⟨by omega, by rw [hL]; omega⟩, cn_eq hi]
    rw [if_pos (by omega), fq_gp ⟨by omega, by omega⟩, eh, fq_vsome, ec, if_pos d]
    by_cases g : (I 32 (p + n)).toInt = ((fc_byt.getD k []).getD n 0).toInt
    · have g' : I 32 (p + n) = (fc_byt.getD k []).getD n 0 := Int32.toInt_inj.mp g
      rw [if_pos g, if_pos g']
    · rw [if_neg g, if_neg (fun z => g (by rw [z]))]
  · rw [if_neg (by omega), if_neg d]
theorem e_spells {I : fc_I} {k p len : Nat} (hk : k < 12) (hp : (I 43 5).toInt = (p : Int)) (hq : (I 43 6).toInt = ((p + len : Nat) : Int)) (hb : p + len ≤ 160) : f_X5_spells k I = some (if weq (I 32) p len k = true then 1 else 0) := by
  have hlen : ∀ k, k < 12 → fc_len.getD k 0 < 100 := by decide
  have hl := hlen k hk
  obtain ⟨L, hL⟩ : ∃ L, fc_len.getD k 0 = L := ⟨_, rfl⟩
  rw [hL] at hl
  have el : (Int32.ofNat (fc_len.getD k 0)).toInt = (L : Int) := by
    rw [hL]
    exact zi_int (n := L) (by omega)
  have es : (I 43 6 - I 43 5).toInt = (len : Int) := by
    rw [i_sub (by omega) (by omega)]
    omega
  have key : L = len → ∀ (m n : Nat) (i : Int32), i.toInt = (n : Int) → n ≤ len → len < n + m → (∀ j, j < n → I 32 (p + j) = (fc_byt.getD k []).getD j 0) → ∃ r : Int32, (r = if (List.range len).all (fun i => decide (I 32 (p + i) = (fc_byt.getD k []).getD i 0)) = true then 1 else 0) ∧ lpp1 (f_X5_spells_20_B k I) m i = some r := fun c' m => by
    induction m with
    | zero => exact fun n i _ h1 h2 _ => absurd h2 (by omega)
    | succ m ih =>
      intro n i hi h1 h2 h3
      show ∃ r : Int32, _ ∧ f_X5_spells_20_B k I (lpp1 (f_X5_spells_20_B k I) m) i = some r
      rw [e_spB hL hk c' hl hp hb _ i n hi h1]
      by_cases d : n < len
      · rw [if_pos d]
        by_cases g : I 32 (p + n) = (fc_byt.getD k []).getD n 0
        · rw [if_pos g]
          exact ih (n + 1) (i + 1) (i_pp1 hi (by omega)) (by omega) (by omega) (fun j hj => by
            by_cases e : j = n
            · rw [e]
              exact g
            · exact h3 j (by omega))
        · rw [if_neg g]
          refine ⟨0, ?_, rfl⟩
          rw [if_neg]
          intro q
          have q2 := List.all_eq_true.mp q n (List.mem_range.mpr d)
          exact g (of_decide_eq_true q2)
      · rw [if_neg d]
        refine ⟨1, ?_, rfl⟩
        rw [if_pos]
        refine List.all_eq_true.mpr (fun j hj => ?_)
        exact decide_eq_true (h3 j (by have := List.mem_range.mp hj; omega))
  unfold f_X5_spells weq
  rw [show f_J0_length_8abf5 k = some (Int32.ofNat (fc_len.getD k 0)) from rfl, fq_vsome, es, el, hL]
  by_cases c : (len : Int) = (L : Int)
  · have c' : L = len := by omega
    rw [if_pos c]
    obtain ⟨r, h1, h2⟩ := key c' 4000 0 0 kt_0 (by omega) (by omega) (fun j hj => absurd hj (by omega))
    rw [show f_X5_spells_20 k I 4000 0 = lpp1 (f_X5_spells_20_B k I) 4000 0 from rfl, h2, h1, decide_eq_true c'.symm, Bool.true_and]
  · rw [if_neg c, decide_eq_false (fun z => c (by rw [z])), Bool.false_and, if_neg (by decide)]
