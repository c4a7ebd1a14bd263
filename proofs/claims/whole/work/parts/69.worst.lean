/-! ===== the worst of the likely tracks: both sides ===== -/
def ps (g : Nat → Int) : Nat → Int
  | 0 => 0
  | n + 1 => ps g n + g n
theorem ps_mono {g : Nat → Int} {n : Nat} : ∀ m, n ≤ m → (∀ j, j < m → 0 ≤ g j) → ps g n ≤ ps g m
  | 0, h, _ => by rw [show n = 0 by omega]; exact Int.le_refl _
  | m + 1, h, hg => by
    by_cases e : n = m + 1
    · rw [e]
      exact Int.le_refl _
    · have q := ps_mono (g := g) (n := n) m (by omega) (fun j hj => hg j (by omega))
      have r := hg m (by omega)
      show ps g n ≤ ps g m + g m
      omega
theorem sf_sum {f : Nat → Int32} {g : Nat → Int} {M : Int} (hM : M < 2147483648) : ∀ (n k : Nat) (x : Int32), 0 ≤ x.toInt → (∀ j, k ≤ j → j < k + n → 0 ≤ (f j).toInt ∧ (f j).toInt ≤ g j) → x.toInt ≤ ps g k → (∀ j, j ≤ k + n → ps g j ≤ M) → 0 ≤ (sf f n k x).toInt ∧ (sf f n k x).toInt ≤ ps g (k + n)
  | 0, _, _, h0, _, h1, _ => ⟨h0, h1⟩
  | n + 1, k, x, h0, h, h1, h5 => by
    obtain ⟨a1, a2⟩ := h k (by omega) (by omega)
    have a3 : ps g (k + 1) = ps g k + g k := rfl
    have a4 := h5 (k + 1) (by omega)
    have ea : (x + f k).toInt = x.toInt + (f k).toInt := i_add (by omega) (by omega)
    have q := sf_sum (f := f) (g := g) hM n (k + 1) (x + f k) (by omega) (fun j a b => h j (by omega) (by omega)) (by omega) (fun j a => h5 j (by omega))
    rw [show k + 1 + n = k + (n + 1) by omega] at q
    exact q
theorem fvA_b {D : Nat → Int32} {t : Int32} {A : fc_I} (hw : Wh A) : 0 ≤ (fvA D t A).toInt ∧ (fvA D t A).toInt ≤ 605988 := by
  obtain ⟨⟨w1, w2, w3, w4⟩, ⟨w5, w6⟩, _⟩ := hw.1
  have e0 := cn_int w1
  have e1 := cn_int (x := A 0 1) (by omega)
  have e2 := cn_int w5
  obtain ⟨B, hB⟩ : ∃ B, B = rN D (A 0 0) t A (cn (A 0 1) - cn (A 0 0)) := ⟨_, rfl⟩
  have wB : Wh B := by rw [hB]; exact (rN_w hw _ (by omega)).1
  obtain ⟨h2, h3, h4⟩ := Wh_z wB
  have hs := (Wh_s wB).2
  unfold fvA
  rw [← hB]
  obtain ⟨g, hg⟩ : ∃ g : Nat → Int, g = fun z => (B 2 z).toInt + (B 3 z).toInt + (B 4 z).toInt := ⟨_, rfl⟩
  have hgz : ∀ z, g z = (B 2 z).toInt + (B 3 z).toInt + (B 4 z).toInt := fun z => by rw [hg]
  have gn : ∀ z, z < 6 → 0 ≤ g z := fun z hz => by
    have := h2 z hz
    have := h3 z hz
    have := h4 z hz
    rw [hgz]
    omega
  have tot : ps g 6 ≤ 605988 := by
    show 0 + g 0 + g 1 + g 2 + g 3 + g 4 + g 5 ≤ 605988
    rw [hgz, hgz, hgz, hgz, hgz, hgz]
    unfold sA s6 at hs
    omega
  have GM : ∀ j, j ≤ 6 → ps g j ≤ 605988 := fun j hj => by
    have := ps_mono (g := g) (n := j) 6 hj gn
    omega
  have q := sf_sum (f := wgA B t (A 0 1)) (g := g) (M := 605988) (by omega) (cn (A 0 2)) 0 0 (by rw [kt_0]; omega) (fun z _ hz => by
    have z6 : z < 6 := by omega
    have b := (Wh_m wB z6).1
    have b2 := h2 z z6
    have b3 := h3 z z6
    have b4 := h4 z z6
    unfold wgA
    rw [hgz]
    split
    · have e3 : (B 2 z + B 3 z).toInt = (B 2 z).toInt + (B 3 z).toInt := i_add (by omega) (by omega)
      rw [i_add (by omega) (by omega), e3]
      omega
    · rw [kt_0]
      omega) (by rw [kt_0]; exact Int.le_refl _) (fun j hj => GM j (by omega))
  have l := GM (0 + cn (A 0 2)) (by omega)
  exact ⟨q.1, by omega⟩
/-- the greatest number of the first n tracks that are likely -/
def wst (D : Nat → Int32) (A : fc_I) : Nat → Int32
  | 0 => 0
  | n + 1 => if (A 20 n).toInt = 1 then imax (wst D A n) (fvA D (zi n) A) else wst D A n
theorem wst_b {D : Nat → Int32} {A : fc_I} (hw : Wh A) : ∀ n, 0 ≤ (wst D A n).toInt ∧ (wst D A n).toInt ≤ 605988
  | 0 => by
    show 0 ≤ (0 : Int32).toInt ∧ (0 : Int32).toInt ≤ 605988
    rw [kt_0]
    omega
  | n + 1 => by
    obtain ⟨i1, i2⟩ := wst_b (D := D) hw n
    have en : wst D A (n + 1) = if (A 20 n).toInt = 1 then imax (wst D A n) (fvA D (zi n) A) else wst D A n := rfl
    rw [en]
    split
    · obtain ⟨f1, f2⟩ := fvA_b (D := D) (t := zi n) hw
      obtain ⟨m1, m2, m3⟩ := imax_le (x := wst D A n) (y := fvA D (zi n) A)
      omega
    · exact ⟨i1, i2⟩
theorem wst_mono {D : Nat → Int32} {A : fc_I} {n : Nat} : ∀ m, n ≤ m → (wst D A n).toInt ≤ (wst D A m).toInt
  | 0, h => by rw [show n = 0 by omega]; exact Int.le_refl _
  | m + 1, h => by
    by_cases e : n = m + 1
    · rw [e]
      exact Int.le_refl _
    · have q := wst_mono (D := D) (A := A) (n := n) m (by omega)
      have r : (wst D A m).toInt ≤ (wst D A (m + 1)).toInt := by
        show _ ≤ (if (A 20 m).toInt = 1 then imax (wst D A m) (fvA D (zi m) A) else wst D A m).toInt
        split
        · exact (imax_le (x := wst D A m) (y := fvA D (zi m) A)).1
        · exact Int.le_refl _
      omega
theorem wst_congr {D D' : Nat → Int32} {A : fc_I} (h : ∀ k : Nat, (k : Int) < (A 0 2).toInt → D' k = D k) : ∀ n, wst D' A n = wst D A n
  | 0 => rfl
  | n + 1 => by
    show (if (A 20 n).toInt = 1 then imax (wst D' A n) (fvA D' (zi n) A) else wst D' A n) = (if (A 20 n).toInt = 1 then imax (wst D A n) (fvA D (zi n) A) else wst D A n)
    rw [wst_congr h n, fvA_congr h]
set_option maxHeartbeats 2000000 in
theorem e_worstX {I : fc_I} {l : Int32} {D : Nat → Int32} (hw : Wh (aX 45 I)) (hl : WfL (aX 45 I)) (hD : ∀ z : Nat, (z : Int) < (I 1 2).toInt → I 67 z = D z) (hd : ∀ z : Nat, z < 6 → (D z).toInt = -1 ∨ 0 ≤ (D z).toInt ∧ (D z).toInt ≤ 99) : ∃ r J, f_X3_worst I l = some (r, J) ∧ (∀ c, ¬ (c = 42 ∨ c = 55 ∨ c = 56 ∨ (58 ≤ c ∧ c ≤ 66)) → J c = I c) ∧ ((wst D (aX 45 I) 3).toInt < l.toInt → r = wst D (aX 45 I) 3) ∧ (¬ (wst D (aX 45 I) 3).toInt < l.toInt → ¬ r.toInt < l.toInt) := by
  obtain ⟨A, hA⟩ : ∃ A, A = aX 45 I := ⟨_, rfl⟩
  have a02 : A 0 2 = I 1 2 := by rw [hA]; rfl
  have a20 : A 20 = I 16 := by rw [hA]; rfl
  rw [← hA] at hw hl ⊢
  rw [← a02] at hD
  obtain ⟨r, h1, h2⟩ := lpm2_X (B := f_X3_worst_4_B l) 3 (by omega) (fun n x J => x = wst D A n ∧ ∀ c, ¬ (c = 42 ∨ c = 55 ∨ c = 56 ∨ (58 ≤ c ∧ c ≤ 66)) → J c = I c) (fun q => (∀ c, ¬ (c = 42 ∨ c = 55 ∨ c = 56 ∨ (58 ≤ c ∧ c ≤ 66)) → q.2 c = I c) ∧ ((wst D A 3).toInt < l.toInt → q.1 = wst D A 3) ∧ (¬ (wst D A 3).toInt < l.toInt → ¬ q.1.toInt < l.toInt)) (fun k x i n J hi hn hP => by
    obtain ⟨rfl, p2⟩ := hP
    have ei : i = zi n := zi_of hi (by omega)
    have ec : cn i = n := cn_eq hi
    have jA : aX 45 J = A := by
      rw [hA]
      exact aX_scY (fun c hc => p2 c (fun z => hc (by unfold scY; omega)))
    have j16 : J 16 = A 20 := by rw [p2 16 (by omega), a20]
    have j67 : J 67 = I 67 := p2 67 (by omega)
    have en : wst D A (n + 1) = if (A 20 n).toInt = 1 then imax (wst D A n) (fvA D (zi n) A) else wst D A n := rfl
    have mo := wst_mono (D := D) (A := A) (n := n) 3 (by omega)
    unfold f_X3_worst_4_B
    simp only [fq_l, kt_3]
    rw [if_pos (by omega)]
    by_cases c : (wst D A n).toInt < l.toInt
    · rw [if_pos c, fq_gp ⟨by omega, by omega⟩, ec, j16]
      rcases hl n (by omega) with s | s
      · rw [if_pos s]
        exact Or.inl ⟨_, _, ⟨by rw [en, if_neg (by omega)], p2⟩, rfl⟩
      · rw [if_neg (by omega)]
        obtain ⟨K, k1, k2⟩ := e_foreseen (I := J) (t := i) (by rw [jA]; exact hw) (fun z h6 hz => by
          rw [p2 1 (by omega), ← a02] at hz
          rw [j67, hD z hz]
          exact hd z h6) ⟨by omega, by omega⟩
        rw [jA, fvA_congr (D := D) (fun k hk => by rw [j67]; exact hD k hk)] at k1
        rw [k1, fq_bsome]
        exact Or.inl ⟨_, _, ⟨by rw [en, if_pos s, ei], fun c hc => by rw [k2 c hc, p2 c hc]⟩, rfl⟩
    · rw [if_neg c]
      exact Or.inr ⟨(wst D A n, J), ⟨p2, fun q => by omega, fun _ => c⟩, rfl⟩) (fun k x i J hi hP => by
    obtain ⟨rfl, p2⟩ := hP
    unfold f_X3_worst_4_B
    rw [if_neg (by rw [kt_3]; omega)]
    exact ⟨(wst D A 3, J), ⟨p2, fun _ => rfl, fun q => q⟩, rfl⟩) 4000 0 0 0 I kt_0 (by omega) (by omega) ⟨rfl, fun _ _ => rfl⟩
  exact ⟨r.1, r.2, h2, h1⟩
set_option maxHeartbeats 2000000 in
theorem e_worstM {I : fc_I} {D : Nat → Int32} (hw : Wh (aM I)) (hc5 : ∀ z, z < 6 → (I 83 z).toInt ≤ (I 78 0).toInt) (hD : ∀ z : Nat, (z : Int) < (I 78 2).toInt → I 125 z = D z) : ∃ J, f_X11_worst I = some (wst D (aM I) 3, J) ∧ (∀ c, c ≠ 78 → ¬ scM c → J c = I c) ∧ (∀ j, j ≠ 67 ∧ j ≠ 68 → J 78 j = I 78 j) ∧ J 125 = I 125 := by
  obtain ⟨A, hA⟩ : ∃ A, A = aM I := ⟨_, rfl⟩
  have a02 : A 0 2 = I 78 2 := by rw [hA]; rfl
  have a20 : A 20 = I 99 := by rw [hA]; rfl
  rw [← hA] at hw ⊢
  rw [← a02] at hD
  obtain ⟨r, h1, h2⟩ := lpm2_R (B := f_X11_worst_4_B) 3 (by omega) (fun n x J => x = wst D A n ∧ (∀ c, c ≠ 78 → ¬ scM c → J c = I c) ∧ (∀ j, j ≠ 67 ∧ j ≠ 68 → J 78 j = I 78 j) ∧ J 125 = I 125) (fun q => q.1 = wst D A 3 ∧ (∀ c, c ≠ 78 → ¬ scM c → q.2 c = I c) ∧ (∀ j, j ≠ 67 ∧ j ≠ 68 → q.2 78 j = I 78 j) ∧ q.2 125 = I 125) (fun k x i n J hi hn hP => by
    obtain ⟨rfl, p2, p3, p4⟩ := hP
    have ei : i = zi n := zi_of hi (by omega)
    have ec : cn i = n := cn_eq hi
    have jA : aM J = A := by
      rw [hA]
      exact mS_ne2 p3 p2
    have j99 : J 99 = A 20 := by rw [p2 99 (by decide) (by unfold scM; omega), a20]
    have j83 : J 83 = I 83 := p2 83 (by decide) (by unfold scM; omega)
    have en : wst D A (n + 1) = if (A 20 n).toInt = 1 then imax (wst D A n) (fvA D (zi n) A) else wst D A n := rfl
    unfold f_X11_worst_4_B
    simp only [fq_l, kt_3, kt_1]
    rw [if_pos (by omega), fq_gp ⟨by omega, by omega⟩, ec, j99]
    by_cases s : (A 20 n).toInt = 1
    · rw [if_pos s]
      obtain ⟨K, k1, k2, k3, k4⟩ := e_played (I := J) (t := i) (by rw [jA]; exact hw) (fun z hz => by rw [j83, p3 0 (by decide)]; exact hc5 z hz) ⟨by omega, by omega⟩
      rw [jA, fvA_congr (D := D) (fun k hk => by rw [p4]; exact hD k hk)] at k1
      rw [k1, fq_bsome]
      exact ⟨_, _, ⟨by rw [en, if_pos s, ei], fun c h1 h2 => by rw [k2 c h1 h2, p2 c h1 h2], fun j hj => by rw [k3 j hj, p3 j hj], by rw [k4, p4]⟩, rfl⟩
    · rw [if_neg s]
      exact ⟨_, _, ⟨by rw [en, if_neg s], p2, p3, p4⟩, rfl⟩) (fun k x i J hi hP => by
    obtain ⟨rfl, p2, p3, p4⟩ := hP
    unfold f_X11_worst_4_B
    rw [if_neg (by rw [kt_3]; omega)]
    exact ⟨(wst D A 3, J), ⟨rfl, p2, p3, p4⟩, rfl⟩) 4000 0 0 0 I kt_0 (by omega) (by omega) ⟨rfl, fun _ _ _ => rfl, fun _ _ => rfl, rfl⟩
  obtain ⟨q1, q2⟩ := h1
  refine ⟨r.2, ?_, q2⟩
  rw [← q1]
  exact h2
