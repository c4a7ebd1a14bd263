/-! ===== what is foreseen, on the abstract rows ===== -/
/-- calls of the hour -/
def scA (D : Nat → Int32) (n0 : Int32) (B : fc_I) : fc_I := fun r k => if r = 5 ∧ (k : Int) < (B 0 2).toInt ∧ (B 5 k).toInt = -1 ∧ ¬ (D k).toInt = -1 ∧ (n0 + D k).toInt = (B 0 0).toInt then B 0 0 else B r k
def rN (D : Nat → Int32) (n0 t : Int32) (A : fc_I) : Nat → fc_I
  | 0 => A
  | n + 1 => hS (isCb (scA D n0 (rN D n0 t A n))) (snA (scA D n0 (rN D n0 t A n))) t (scA D n0 (rN D n0 t A n))
theorem scA_o {D : Nat → Int32} {n0 : Int32} {B : fc_I} {r : Nat} (h : r ≠ 5) : scA D n0 B r = B r := by
  funext k
  unfold scA
  rw [if_neg (fun z => h z.1)]
theorem scA_agr {D : Nat → Int32} {n0 : Int32} {A B : fc_I} (h : Agr A B) : Agr (scA D n0 A) B := by
  intro r k hk
  rw [scA_o hk.1.1]
  exact h r k hk
theorem Agr.rfl' {A : fc_I} : Agr A A := fun _ _ _ => rfl
theorem scA_wh {D : Nat → Int32} {n0 : Int32} {A : fc_I} (h : Wh A) : Wh (scA D n0 A) := by
  have q : Agr A (scA D n0 A) := fun r k hk => by rw [scA_o hk.1.1]
  exact q.wh h
theorem rN_o {D : Nat → Int32} {n0 t : Int32} {A : fc_I} {r : Nat} (h : r ≠ 0 ∧ r ≠ 2 ∧ r ≠ 3 ∧ r ≠ 4 ∧ r ≠ 5 ∧ r ≠ 7 ∧ r ≠ 8 ∧ r ≠ 18 ∧ r ≠ 19) : ∀ n, rN D n0 t A n r = A r
  | 0 => rfl
  | n + 1 => by
    show hS _ _ t (scA D n0 (rN D n0 t A n)) r = A r
    rw [hS_o (by omega), scA_o (by omega), rN_o h n]
theorem rN_0 {D : Nat → Int32} {n0 t : Int32} {A : fc_I} {k : Nat} (h : k ≠ 0 ∧ k ≠ 11) : ∀ n, rN D n0 t A n 0 k = A 0 k
  | 0 => rfl
  | n + 1 => by
    show hS _ _ t (scA D n0 (rN D n0 t A n)) 0 k = A 0 k
    rw [hS_0 h, scA_o (by decide), rN_0 h n]
theorem rN_w {D : Nat → Int32} {n0 t : Int32} {A : fc_I} (hw : Wh A) : ∀ n : Nat, (A 0 0).toInt + (n : Int) ≤ (A 0 1).toInt → Wh (rN D n0 t A n) ∧ (rN D n0 t A n 0 0).toInt = (A 0 0).toInt + (n : Int)
  | 0, _ => ⟨hw, by show (A 0 0).toInt = (A 0 0).toInt + ((0 : Nat) : Int); omega⟩
  | n + 1, h => by
    obtain ⟨i1, i2⟩ := rN_w (D := D) (n0 := n0) (t := t) hw n (by omega)
    obtain ⟨B, hB⟩ : ∃ B, B = scA D n0 (rN D n0 t A n) := ⟨_, rfl⟩
    have wB : Wh B := by rw [hB]; exact scA_wh i1
    have b0 : B 0 = rN D n0 t A n 0 := by rw [hB, scA_o (by decide)]
    obtain ⟨q1, q2⟩ := Wh_hS (C := isCb B) (S := snA B) (t := t) wB (by rw [b0, i2, rN_0 (k := 1) (by decide)]; omega)
    show Wh (hS (isCb (scA D n0 (rN D n0 t A n))) (snA (scA D n0 (rN D n0 t A n))) t (scA D n0 (rN D n0 t A n))) ∧ (hS (isCb (scA D n0 (rN D n0 t A n))) (snA (scA D n0 (rN D n0 t A n))) t (scA D n0 (rN D n0 t A n)) 0 0).toInt = _
    rw [← hB]
    refine ⟨q1, ?_⟩
    rw [q2, b0, i2]
    omega
/-- what is called ahead -/
def cnd (D : Nat → Int32) (A : fc_I) (z : Nat) : Prop := (z : Int) < (A 0 2).toInt ∧ (A 5 z).toInt = -1 ∧ ¬ (D z).toInt = -1
set_option maxHeartbeats 1000000 in
theorem rN_hN {D : Nat → Int32} {t : Int32} {A X0 : fc_I} (hw : Wh A) (hd : ∀ z : Nat, z < 6 → (z : Int) < (A 0 2).toInt → (D z).toInt = -1 ∨ 0 ≤ (D z).toInt ∧ (D z).toInt ≤ 99) (h0 : Agr A X0) (h5 : ∀ z, z < 6 → (cnd D A z → X0 5 z = A 0 0 + D z) ∧ (¬ cnd D A z → X0 5 z = A 5 z)) : ∀ n : Nat, (A 0 0).toInt + (n : Int) ≤ (A 0 1).toInt → Agr (rN D (A 0 0) t A n) (hN t X0 n) ∧ ∀ z, z < 6 → (cnd D A z → rN D (A 0 0) t A n 5 z = if (D z).toInt < (n : Int) then A 0 0 + D z else A 5 z) ∧ (¬ cnd D A z → rN D (A 0 0) t A n 5 z = A 5 z)
  | 0, _ => ⟨h0, fun z hz => ⟨fun c => by
      have q := hd z hz c.1
      have c3 := c.2.2
      rw [if_neg (by omega)]
      rfl, fun _ => rfl⟩⟩
  | n + 1, h => by
    obtain ⟨i1, i2⟩ := rN_hN (t := t) hw hd h0 h5 n (by omega)
    obtain ⟨v1, v2⟩ := rN_w (D := D) (n0 := A 0 0) (t := t) hw n (by omega)
    have hn2 : rN D (A 0 0) t A n 0 2 = A 0 2 := rN_0 (by decide) n
    obtain ⟨Y, hY⟩ : ∃ Y, Y = rN D (A 0 0) t A n := ⟨_, rfl⟩
    obtain ⟨X, hX⟩ : ∃ X, X = hN t X0 n := ⟨_, rfl⟩
    obtain ⟨B, hB⟩ : ∃ B, B = scA D (A 0 0) Y := ⟨_, rfl⟩
    have x5 : ∀ z, X 5 z = X0 5 z := fun z => by rw [hX, hN_o (by decide)]
    rw [← hY] at i1 i2 v1 v2 hn2
    rw [← hX] at i1
    have x0 : X 0 = Y 0 := i1.row (by decide)
    have wB : Wh B := by rw [hB]; exact scA_wh v1
    have aB : Agr B X := by rw [hB]; exact scA_agr i1
    have b0 : B 0 = Y 0 := by rw [hB, scA_o (by decide)]
    obtain ⟨⟨w1, w2, w3, w4⟩, w5, _⟩ := hw.1
    -- calls: what the two sides have
    have key : ∀ z, z < 6 → (B 5 z = X 5 z ∨ ((B 5 z).toInt = -1 ∧ (Y 0 0).toInt < (X 5 z).toInt)) ∧ (cnd D A z → B 5 z = if (D z).toInt < ((n + 1 : Nat) : Int) then A 0 0 + D z else A 5 z) ∧ (¬ cnd D A z → B 5 z = A 5 z) := fun z hz => by
      obtain ⟨y1, y2⟩ := i2 z hz
      obtain ⟨g1, g2⟩ := h5 z hz
      have eB : B 5 z = if (z : Int) < (A 0 2).toInt ∧ (Y 5 z).toInt = -1 ∧ ¬ (D z).toInt = -1 ∧ (A 0 0 + D z).toInt = (Y 0 0).toInt then Y 0 0 else Y 5 z := by
        rw [hB]
        unfold scA
        rw [hn2]
        simp
      by_cases c : cnd D A z
      · obtain ⟨c1, c2, c3⟩ := c
        have q := hd z hz c1
        have ea : (A 0 0 + D z).toInt = (A 0 0).toInt + (D z).toInt := i_add (by omega) (by omega)
        have y1 := y1 ⟨c1, c2, c3⟩
        have g1 := g1 ⟨c1, c2, c3⟩
        rw [x5, g1]
        by_cases d1 : (D z).toInt < (n : Int)
        · rw [if_pos d1] at y1
          rw [if_neg (by rw [y1, ea]; omega), y1] at eB
          exact ⟨Or.inl eB, fun _ => by rw [if_pos (by omega), eB], fun q => absurd ⟨c1, c2, c3⟩ q⟩
        · rw [if_neg d1] at y1
          by_cases d2 : (D z).toInt = (n : Int)
          · have ey : Y 0 0 = A 0 0 + D z := Int32.toInt_inj.mp (by omega)
            rw [if_pos ⟨c1, by rw [y1]; exact c2, c3, by rw [ey]⟩, ey] at eB
            exact ⟨Or.inl eB, fun _ => by rw [if_pos (by omega), eB], fun q => absurd ⟨c1, c2, c3⟩ q⟩
          · rw [if_neg (by rw [ea, v2]; omega), y1] at eB
            exact ⟨Or.inr ⟨by rw [eB]; exact c2, by rw [ea, v2]; omega⟩, fun _ => by rw [if_neg (by omega), eB], fun q => absurd ⟨c1, c2, c3⟩ q⟩
      · have y2 := y2 c
        rw [if_neg (fun q => c ⟨q.1, by rw [← y2]; exact q.2.1, q.2.2.1⟩), y2] at eB
        rw [x5, g2 c]
        exact ⟨Or.inl eB, fun q => absurd q c, fun _ => eB⟩
    have hC : ∀ z, z < 6 → isCb X z = isCb B z ∧ snA X z = snA B z := fun z hz => by
      rcases (key z hz).1 with k | ⟨k1, k2⟩
      · unfold isCb isC
        rw [k, x0, b0]
        exact ⟨rfl, snA_congr (by rw [x0, b0]) k.symm⟩
      · refine ⟨?_, ?_⟩
        · unfold isCb
          have n1 : ¬ isC X z := fun q => by
            have := q.2
            rw [x0] at this
            omega
          have n2 : ¬ isC B z := fun q => q.1 k1
          rw [decide_eq_false n1, decide_eq_false n2]
        · unfold snA
          rw [if_pos k1, x0, if_pos k2]
          split <;> rfl
    refine ⟨?_, fun z hz => ?_⟩
    · show Agr (hS (isCb (scA D (A 0 0) (rN D (A 0 0) t A n))) (snA (scA D (A 0 0) (rN D (A 0 0) t A n))) t (scA D (A 0 0) (rN D (A 0 0) t A n))) (hS (isCb (hN t X0 n)) (snA (hN t X0 n)) t (hN t X0 n))
      rw [← hY, ← hX, ← hB]
      exact aB.hS wB hC
    · have e : rN D (A 0 0) t A (n + 1) 5 z = B 5 z := by
        show hS (isCb (scA D (A 0 0) (rN D (A 0 0) t A n))) (snA (scA D (A 0 0) (rN D (A 0 0) t A n))) t (scA D (A 0 0) (rN D (A 0 0) t A n)) 5 z = _
        rw [← hY, ← hB, hS_o (by decide)]
      rw [e]
      exact (key z hz).2
/-- wet in an hour, as told now -/
def wetH (A : fc_I) (t : Int32) (h z : Nat) : Prop := (A 1 z).toInt < (A 30 (61 * cn t + h)).toInt
theorem rN_wet {D : Nat → Int32} {n0 t : Int32} {A : fc_I} (hw : Wh A) {z k1 : Nat} (hz : z < 6) : ∀ j : Nat, (A 0 0).toInt + ((k1 + j : Nat) : Int) ≤ (A 0 1).toInt → (∀ k, k1 ≤ k → k < k1 + j → wetH A t (cn (A 0 0) + k) z) → rN D n0 t A (k1 + j) 2 z = rN D n0 t A k1 2 z ∧ rN D n0 t A (k1 + j) 3 z = rN D n0 t A k1 3 z ∧ rN D n0 t A (k1 + j) 4 z = rN D n0 t A k1 4 z
  | 0, _, _ => ⟨rfl, rfl, rfl⟩
  | j + 1, h1, h2 => by
    obtain ⟨i1, i2, i3⟩ := rN_wet (D := D) (n0 := n0) hw hz j (by omega) (fun k a b => h2 k a (by omega))
    obtain ⟨v1, v2⟩ := rN_w (D := D) (n0 := n0) (t := t) hw (k1 + j) (by omega)
    have q := h2 (k1 + j) (by omega) (by omega)
    obtain ⟨B, hB⟩ : ∃ B, B = scA D n0 (rN D n0 t A (k1 + j)) := ⟨_, rfl⟩
    have wB : Wh B := by rw [hB]; exact scA_wh v1
    have bo : ∀ r, r ≠ 5 → B r = rN D n0 t A (k1 + j) r := fun r hr => by rw [hB, scA_o hr]
    have e0 := cn_int (x := A 0 0) hw.1.1.1
    have ew : wetA B t z := by
      unfold wetA
      rw [bo 0 (by decide), bo 1 (by decide), bo 30 (by decide), rN_o (r := 1) (by decide), rN_o (r := 30) (by decide)]
      have e : cn (rN D n0 t A (k1 + j) 0 0) = cn (A 0 0) + (k1 + j) := by
        have := cn_int (x := rN D n0 t A (k1 + j) 0 0) (by omega)
        omega
      rw [e]
      exact q
    have k := hS_wet (C := isCb B) (S := snA B) wB hz ew
    have en : rN D n0 t A (k1 + (j + 1)) = hS (isCb B) (snA B) t B := by rw [hB]; rfl
    rw [en, k.1, k.2.1, k.2.2, bo 2 (by decide), bo 3 (by decide), bo 4 (by decide)]
    exact ⟨i1, i2, i3⟩
/-- folk of a zone that is wet in an hour -/
def wgA (A : fc_I) (t h : Int32) (z : Nat) : Int32 := if (A 1 z).toInt < (A 30 (61 * cn t + cn h)).toInt then A 2 z + A 3 z + A 4 z else 0
theorem sf_congr {f g : Nat → Int32} : ∀ (n k : Nat) (x : Int32), (∀ j, k ≤ j → j < k + n → f j = g j) → sf f n k x = sf g n k x
  | 0, _, _, _ => rfl
  | n + 1, k, x, h => by
    show sf f n (k + 1) (x + f k) = sf g n (k + 1) (x + g k)
    rw [h k (by omega) (by omega)]
    exact sf_congr n (k + 1) _ (fun j a b => h j (by omega) (by omega))
/-- how many are in water at the end -/
def fvA (D : Nat → Int32) (t : Int32) (A : fc_I) : Int32 := sf (wgA (rN D (A 0 0) t A (cn (A 0 1) - cn (A 0 0))) t (A 0 1)) (cn (A 0 2)) 0 0
/-- no zone's folk are told more than there are -/
theorem sf_b {f : Nat → Int32} : ∀ (n k : Nat) (x : Int32) (M : Int), 0 ≤ x.toInt → (∀ j, k ≤ j → j < k + n → 0 ≤ (f j).toInt ∧ (f j).toInt ≤ M) → x.toInt + M * (n : Int) < 2147483648 → 0 ≤ M → 0 ≤ (sf f n k x).toInt ∧ (sf f n k x).toInt ≤ x.toInt + M * (n : Int)
  | 0, _, x, M, h0, _, _, _ => ⟨h0, by show x.toInt ≤ x.toInt + M * ((0 : Nat) : Int); omega⟩
  | n + 1, k, x, M, h0, h, hM, hm => by
    obtain ⟨a1, a2⟩ := h k (by omega) (by omega)
    have e1 : M * ((n + 1 : Nat) : Int) = M * (n : Int) + M := by rw [Int.natCast_add, Int.mul_add]; omega
    have e2 : 0 ≤ M * (n : Int) := Int.mul_nonneg hm (by omega)
    have ea : (x + f k).toInt = x.toInt + (f k).toInt := i_add (by omega) (by omega)
    obtain ⟨q1, q2⟩ := sf_b (f := f) n (k + 1) (x + f k) M (by omega) (fun j a b => h j (by omega) (by omega)) (by omega) hm
    show 0 ≤ (sf f n (k + 1) (x + f k)).toInt ∧ (sf f n (k + 1) (x + f k)).toInt ≤ _
    exact ⟨q1, by omega⟩
