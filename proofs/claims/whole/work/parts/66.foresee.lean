/-! ===== the op foresee ===== -/
theorem lpm2_X {α γ : Type} {B : (α → Int32 → fc_I → Option γ) → α → Int32 → fc_I → Option γ} (N : Nat) (hN : N < 50000) (P : Nat → α → fc_I → Prop) (Fin : γ → Prop) (hs : ∀ (k : α → Int32 → fc_I → Option γ) (x : α) (i : Int32) (n : Nat) (J : fc_I), i.toInt = (n : Int) → n < N → P n x J → (∃ x' J', P (n + 1) x' J' ∧ B k x i J = k x' (i + 1) J') ∨ ∃ r, Fin r ∧ B k x i J = some r) (he : ∀ (k : α → Int32 → fc_I → Option γ) (x : α) (i : Int32) (J : fc_I), i.toInt = (N : Int) → P N x J → ∃ r, Fin r ∧ B k x i J = some r) : ∀ (m : Nat) (x : α) (i : Int32) (n : Nat) (J : fc_I), i.toInt = (n : Int) → n ≤ N → N < n + m → P n x J → ∃ r, Fin r ∧ lpm2 B m x i J = some r
  | 0, _, _, _, _, _, h1, h2, _ => absurd h2 (by omega)
  | m + 1, x, i, n, J, hi, h1, h2, hp => by
    show ∃ r, Fin r ∧ B (lpm2 B m) x i J = some r
    by_cases c : n < N
    · rcases hs (lpm2 B m) x i n J hi c hp with ⟨x', J', q1, q2⟩ | q
      · rw [q2]
        exact lpm2_X N hN P Fin hs he m x' (i + 1) (n + 1) J' (by have := (i_p1 (N := 50000) (x := i) (by omega) (by omega) (by omega)).1; omega) (by omega) (by omega) q1
      · exact q
    · have e : n = N := by omega
      subst e
      exact he _ x i J hi hp
theorem lpm3_R {α β γ : Type} {B : (α → β → Int32 → fc_I → Option γ) → α → β → Int32 → fc_I → Option γ} (N : Nat) (hN : N < 50000) (P : Nat → α → β → fc_I → Prop) (Fin : γ → Prop) (hs : ∀ (k : α → β → Int32 → fc_I → Option γ) (x : α) (y : β) (i : Int32) (n : Nat) (J : fc_I), i.toInt = (n : Int) → n < N → P n x y J → ∃ x' y' J', P (n + 1) x' y' J' ∧ B k x y i J = k x' y' (i + 1) J') (he : ∀ (k : α → β → Int32 → fc_I → Option γ) (x : α) (y : β) (i : Int32) (J : fc_I), i.toInt = (N : Int) → P N x y J → ∃ r, Fin r ∧ B k x y i J = some r) : ∀ (m : Nat) (x : α) (y : β) (i : Int32) (n : Nat) (J : fc_I), i.toInt = (n : Int) → n ≤ N → N < n + m → P n x y J → ∃ r, Fin r ∧ lpm3 B m x y i J = some r
  | 0, _, _, _, _, _, _, h1, h2, _ => absurd h2 (by omega)
  | m + 1, x, y, i, n, J, hi, h1, h2, hp => by
    show ∃ r, Fin r ∧ B (lpm3 B m) x y i J = some r
    by_cases c : n < N
    · obtain ⟨x', y', J', q1, q2⟩ := hs (lpm3 B m) x y i n J hi c hp
      rw [q2]
      exact lpm3_R N hN P Fin hs he m x' y' (i + 1) (n + 1) J' (by have := (i_p1 (N := 50000) (x := i) (by omega) (by omega) (by omega)).1; omega) (by omega) (by omega) q1
    · have e : n = N := by omega
      subst e
      exact he _ x y i J hi hp
theorem cmp_e {x y : Int64} : ((lg_cmp x y).toInt = 0) = (x = y) := by
  unfold lg_cmp
  by_cases h1 : x > y
  · rw [if_pos h1]
    have h1 := Int64.lt_iff_toInt_lt.mp h1
    exact propext ⟨fun q => absurd q (by decide), fun q => by rw [q] at h1; omega⟩
  · rw [if_neg h1]
    by_cases h2 : x = y
    · rw [if_pos h2]
      exact propext ⟨fun _ => h2, fun _ => by decide⟩
    · rw [if_neg h2]
      exact propext ⟨fun q => absurd q (by decide), fun q => absurd q h2⟩
/-- digits to the base 100 -/
def qs (x : Int64) : Nat → Int64
  | 0 => x
  | n + 1 => qs x n / 100
def dgs (x : Int64) (n : Nat) : Int32 := Int64.toInt32 (qs x n - qs x n / 100 * 100)
def tDs (x : Int64) (n : Nat) : Int32 := if (dgs x n).toInt = 99 then -1 else dgs x n
theorem l_div {x : Int64} (h : 0 ≤ x.toInt) : (x / 100).toInt = x.toInt / 100 ∧ 0 ≤ (Int64.toInt32 (x - x / 100 * 100)).toInt ∧ (Int64.toInt32 (x - x / 100 * 100)).toInt ≤ 99 := by
  have k100 : (100 : Int64).toInt = 100 := rfl
  have e1 : (x / 100).toInt = x.toInt / 100 := by
    rw [Int64.toInt_div_of_ne_right _ _ (by decide), k100, Int.tdiv_eq_ediv_of_nonneg h]
  have hl := Int64.toInt_lt x
  have e2 : (x / 100 * 100).toInt = x.toInt / 100 * 100 := by
    rw [Int64.toInt_mul, e1, k100, Int.bmod_eq_of_le (by omega) (by omega)]
  have e3 : (x - x / 100 * 100).toInt = x.toInt - x.toInt / 100 * 100 := by
    rw [Int64.toInt_sub, e2, Int.bmod_eq_of_le (by omega) (by omega)]
  have e4 : (Int64.toInt32 (x - x / 100 * 100)).toInt = x.toInt - x.toInt / 100 * 100 := by
    rw [Int64.toInt_toInt32, e3, Int.bmod_eq_of_le (by omega) (by omega)]
  rw [e4]
  exact ⟨e1, by omega, by omega⟩
theorem qs_b {x : Int64} (h : 0 ≤ x.toInt) : ∀ n, 0 ≤ (qs x n).toInt
  | 0 => h
  | n + 1 => by
    show 0 ≤ (qs x n / 100).toInt
    rw [(l_div (qs_b h n)).1]
    have := qs_b h n
    omega
theorem tDs_b {x : Int64} (h : 0 ≤ x.toInt) (n : Nat) : (tDs x n).toInt = -1 ∨ 0 ≤ (tDs x n).toInt ∧ (tDs x n).toInt ≤ 99 := by
  have q := (l_div (qs_b h n)).2
  unfold tDs
  split
  · exact Or.inl rfl
  · exact Or.inr q
theorem fvA_congr {D D' : Nat → Int32} {t : Int32} {A : fc_I} (h : ∀ k : Nat, (k : Int) < (A 0 2).toInt → D' k = D k) : fvA D' t A = fvA D t A := by
  have key : ∀ n, rN D' (A 0 0) t A n = rN D (A 0 0) t A n := fun n => by
    induction n with
    | zero => rfl
    | succ n ih =>
      have e : scA D' (A 0 0) (rN D (A 0 0) t A n) = scA D (A 0 0) (rN D (A 0 0) t A n) := by
        have e2 : rN D (A 0 0) t A n 0 2 = A 0 2 := rN_0 (by decide) n
        funext r k
        unfold scA
        rw [e2]
        by_cases c : (k : Int) < (A 0 2).toInt
        · rw [h k c]
        · rw [if_neg (fun z => c z.2.1), if_neg (fun z => c z.2.1)]
      show hS (isCb (scA D' (A 0 0) (rN D' (A 0 0) t A n))) (snA (scA D' (A 0 0) (rN D' (A 0 0) t A n))) t (scA D' (A 0 0) (rN D' (A 0 0) t A n)) = hS (isCb (scA D (A 0 0) (rN D (A 0 0) t A n))) (snA (scA D (A 0 0) (rN D (A 0 0) t A n))) t (scA D (A 0 0) (rN D (A 0 0) t A n))
      rw [ih, e]
  unfold fvA
  rw [key]
/-- whether the digits of a zone may be -/
def okd (A : fc_I) (x : Int64) (k : Nat) : Prop := ¬ ((A 5 k).toInt = -1 ∧ ¬ (dgs x k).toInt = 99 ∧ (A 0 1).toInt < (A 0 0 + dgs x k).toInt)
def okA (A : fc_I) (x : Int64) : Prop := (∀ k, k < cn (A 0 2) → okd A x k) ∧ qs x (cn (A 0 2)) = 0
set_option maxHeartbeats 4000000 in
theorem e_forX {I : fc_I} {t : Int32} {x : Int64} (hw : Wh (aX 45 I)) (hx : 0 ≤ x.toInt) (ht : 0 ≤ t.toInt ∧ t.toInt ≤ 2) : ∃ r J, f_X10_foresee_23 t 4000 x 0 I = some (r, J) ∧ (∀ c, ¬ (c = 42 ∨ c = 55 ∨ c = 56 ∨ (58 ≤ c ∧ c ≤ 67)) → J c = I c) ∧ (okA (aX 45 I) x → r = Int32.toInt64 (fvA (tDs x) t (aX 45 I))) ∧ (¬ okA (aX 45 I) x → r = -4611686018427387904) := by
  obtain ⟨A, hA⟩ : ∃ A, A = aX 45 I := ⟨_, rfl⟩
  have a00 : A 0 0 = I 45 9 := by rw [hA]; rfl
  have a01 : A 0 1 = I 15 11 := by rw [hA]; rfl
  have a02 : A 0 2 = I 1 2 := by rw [hA]; rfl
  have a5 : A 5 = I 49 := by rw [hA]; rfl
  rw [← hA] at hw ⊢
  obtain ⟨⟨w1, w2, w3, w4⟩, ⟨w5, w6⟩, _⟩ := hw.1
  have ez := cn_int w5
  obtain ⟨r, h1, h2⟩ := lpm2_X (B := f_X10_foresee_23_B t) (cn (A 0 2)) (by omega) (fun n y J => y = qs x n ∧ (∀ k, k < n → okd A x k) ∧ (∀ c, c ≠ 67 → J c = I c) ∧ ∀ k, k < n → J 67 k = tDs x k) (fun q => (∀ c, ¬ (c = 42 ∨ c = 55 ∨ c = 56 ∨ (58 ≤ c ∧ c ≤ 67)) → q.2 c = I c) ∧ (okA A x → q.1 = Int32.toInt64 (fvA (tDs x) t A)) ∧ (¬ okA A x → q.1 = -4611686018427387904)) (fun k y i n J hi hn hP => by
    obtain ⟨rfl, p2, p3, p4⟩ := hP
    have ec : cn i = n := cn_eq hi
    have hg : ∀ x : Option (Int64 × fc_I), fq_g 6 i x = x := fun x => fq_gp ⟨by omega, by omega⟩
    have nxt : ∀ v, v = tDs x n → okd A x n → (∃ x' J', (x' = qs x (n + 1) ∧ (∀ k, k < n + 1 → okd A x k) ∧ (∀ c, c ≠ 67 → J' c = I c) ∧ ∀ k, k < n + 1 → J' 67 k = tDs x k) ∧ k (qs x n / 100) (i + 1) (fc_wI J 67 n v) = k x' (i + 1) J') := fun v hv ho => by
      refine ⟨_, _, ⟨rfl, fun q hq => ?_, fun c hc => by rw [fc_wI_lo hc, p3 c hc], fun q hq => ?_⟩, rfl⟩
      · by_cases e : q = n
        · rw [e]
          exact ho
        · exact p2 q (by omega)
      · rw [fc_wI_at]
        by_cases e : q = n
        · rw [if_pos e, hv, e]
        · rw [if_neg e]
          exact p4 q (by omega)
    unfold f_X10_foresee_23_B f_X10_foresee_64
    simp only [hg, fq_l, kt_99, kt_m1]
    rw [p3 1 (by decide), p3 49 (by decide), p3 15 (by decide), p3 45 (by decide), ← a02, ← a5, ← a01, ← a00, if_pos (by omega), ec]
    rw [show Int64.toInt32 (qs x n - qs x n / 100 * 100) = dgs x n from rfl]
    by_cases c1 : (dgs x n).toInt = 99
    · have ev : -1 = tDs x n := by unfold tDs; rw [if_pos c1]
      have ok : okd A x n := fun z => z.2.1 c1
      rw [if_pos c1]
      by_cases c2 : (A 5 n).toInt = -1
      · rw [if_pos c2, if_neg (by decide), if_neg (by decide)]
        exact Or.inl (nxt _ ev ok)
      · rw [if_neg c2, if_neg (by decide)]
        exact Or.inl (nxt _ ev ok)
    · have ev : dgs x n = tDs x n := by unfold tDs; rw [if_neg c1]
      rw [if_neg c1]
      by_cases c2 : (A 5 n).toInt = -1
      · rw [if_pos c2, if_pos (show Int32.toInt 0 = 0 from rfl)]
        by_cases c3 : (A 0 1).toInt < (A 0 0 + dgs x n).toInt
        · rw [if_pos c3]
          refine Or.inr ⟨_, ⟨fun c hc => p3 c (by omega), fun q => absurd ⟨c2, c1, c3⟩ (q.1 n (by omega)), fun _ => rfl⟩, rfl⟩
        · rw [if_neg c3, if_pos (show Int32.toInt 0 = 0 from rfl)]
          exact Or.inl (nxt _ ev (fun z => c3 z.2.2))
      · rw [if_neg c2, if_pos (show Int32.toInt 0 = 0 from rfl)]
        exact Or.inl (nxt _ ev (fun z => c2 z.1))) (fun k y i J hi hP => by
    obtain ⟨rfl, p2, p3, p4⟩ := hP
    unfold f_X10_foresee_23_B
    rw [p3 1 (by decide), ← a02, if_neg (by omega)]
    have e0 : ((lg_cmp (qs x (cn (A 0 2))) (0 : Int64)).toInt = 0) = (qs x (cn (A 0 2)) = 0) := cmp_e
    by_cases c : qs x (cn (A 0 2)) = 0
    · rw [if_pos (by rw [e0]; exact c)]
      have jA : aX 45 J = A := by
        rw [hA]
        exact aX_scY (fun c hc => p3 c (fun z => hc (by unfold scY; omega)))
      obtain ⟨K, k1, k2⟩ := e_foreseen (I := J) (t := t) (by rw [jA]; exact hw) (fun z h6 hz => by
        rw [p3 1 (by decide), ← a02] at hz
        rw [p4 z (by omega)]
        exact tDs_b hx z) ht
      rw [jA, fvA_congr (D := tDs x) (fun k hk => p4 k (by omega))] at k1
      rw [k1, fq_bsome]
      exact ⟨_, ⟨fun c hc => by show K c = I c; rw [k2 c (by omega), p3 c (by omega)], fun _ => rfl, fun q => absurd ⟨p2, c⟩ q⟩, rfl⟩
    · rw [if_neg (by rw [e0]; exact c)]
      exact ⟨_, ⟨fun c hc => p3 c (by omega), fun q => absurd q.2 c, fun _ => rfl⟩, rfl⟩) 4000 x 0 0 I kt_0 (by omega) (by omega) ⟨rfl, fun k hk => absurd hk (by omega), fun _ _ => rfl, fun k hk => absurd hk (by omega)⟩
  exact ⟨r.1, r.2, h2, h1⟩
set_option maxHeartbeats 4000000 in
theorem e_takeCalls {I : fc_I} {x : Int64} (hz : 0 ≤ (I 78 2).toInt ∧ (I 78 2).toInt ≤ 6) : ∃ r J, f_X11_takeCalls I x = some (r, J) ∧ (∀ c, c ≠ 125 → J c = I c) ∧ (∀ k, k < cn (I 78 2) → J 125 k = tDs x k) ∧ ((0 ≤ x.toInt ∧ okA (aM I) x) → r = 1) ∧ (¬ (0 ≤ x.toInt ∧ okA (aM I) x) → r = 0) := by
  obtain ⟨A, hA⟩ : ∃ A, A = aM I := ⟨_, rfl⟩
  have a00 : A 0 0 = I 78 0 := by rw [hA]; rfl
  have a01 : A 0 1 = I 78 1 := by rw [hA]; rfl
  have a02 : A 0 2 = I 78 2 := by rw [hA]; rfl
  have a5 : A 5 = I 83 := by rw [hA]; rfl
  have ez := cn_int hz.1
  rw [← hA]
  have loop : ∀ g : Int32, (g = 1 ∧ 0 ≤ x.toInt ∨ g = 0 ∧ ¬ 0 ≤ x.toInt) → ∃ q : Int32 × fc_I, ((∀ c, c ≠ 125 → q.2 c = I c) ∧ (∀ k, k < cn (I 78 2) → q.2 125 k = tDs x k) ∧ ((0 ≤ x.toInt ∧ okA A x) → q.1 = 1) ∧ (¬ (0 ≤ x.toInt ∧ okA A x) → q.1 = 0)) ∧ f_X11_takeCalls_18 4000 x g 0 I = some q := fun g hg0 =>
    lpm3_R (B := f_X11_takeCalls_18_B) (cn (I 78 2)) (by omega) (fun n y f J => y = qs x n ∧ (f = 1 ∧ (0 ≤ x.toInt ∧ ∀ k, k < n → okd A x k) ∨ f = 0 ∧ ¬ (0 ≤ x.toInt ∧ ∀ k, k < n → okd A x k)) ∧ (∀ c, c ≠ 125 → J c = I c) ∧ ∀ k, k < n → J 125 k = tDs x k) _ (fun k y f i n J hi hn hP => by
      obtain ⟨rfl, p2, p3, p4⟩ := hP
      have ec : cn i = n := cn_eq hi
      have hg : ∀ x : Option (Int32 × fc_I), fq_g 6 i x = x := fun x => fq_gp ⟨by omega, by omega⟩
      have nxt : ∀ v (f' : Int32), v = tDs x n → (f' = 1 ∧ (0 ≤ x.toInt ∧ ∀ k, k < n + 1 → okd A x k) ∨ f' = 0 ∧ ¬ (0 ≤ x.toInt ∧ ∀ k, k < n + 1 → okd A x k)) → ∃ x' y' J', (x' = qs x (n + 1) ∧ (y' = 1 ∧ (0 ≤ x.toInt ∧ ∀ k, k < n + 1 → okd A x k) ∨ y' = 0 ∧ ¬ (0 ≤ x.toInt ∧ ∀ k, k < n + 1 → okd A x k)) ∧ (∀ c, c ≠ 125 → J' c = I c) ∧ ∀ k, k < n + 1 → J' 125 k = tDs x k) ∧ k (qs x n / 100) f' (i + 1) (fc_wI J 125 n v) = k x' y' (i + 1) J' := fun v f' hv hf => by
        refine ⟨_, _, _, ⟨rfl, hf, fun c hc => by rw [fc_wI_lo hc, p3 c hc], fun q hq => ?_⟩, rfl⟩
        rw [fc_wI_at]
        by_cases e : q = n
        · rw [if_pos e, hv, e]
        · rw [if_neg e]
          exact p4 q (by omega)
      have ext : okd A x n → ∀ f' : Int32, (f' = 1 ∧ (0 ≤ x.toInt ∧ ∀ k, k < n → okd A x k) ∨ f' = 0 ∧ ¬ (0 ≤ x.toInt ∧ ∀ k, k < n → okd A x k)) → (f' = 1 ∧ (0 ≤ x.toInt ∧ ∀ k, k < n + 1 → okd A x k) ∨ f' = 0 ∧ ¬ (0 ≤ x.toInt ∧ ∀ k, k < n + 1 → okd A x k)) := fun ho f' hf => by
        rcases hf with ⟨f1, f2, f3⟩ | ⟨f1, f2⟩
        · refine Or.inl ⟨f1, f2, fun q hq => ?_⟩
          by_cases e : q = n
          · rw [e]
            exact ho
          · exact f3 q (by omega)
        · exact Or.inr ⟨f1, fun z => f2 ⟨z.1, fun q hq => z.2 q (by omega)⟩⟩
      have bad : ¬ okd A x n → ¬ (0 ≤ x.toInt ∧ ∀ k, k < n + 1 → okd A x k) := fun ho z => ho (z.2 n (by omega))
      unfold f_X11_takeCalls_18_B
      simp only [hg, fq_l, kt_99, kt_m1]
      simp only [fc_wI_lo (show (83 : Nat) ≠ 125 by decide), fc_wI_lo (show (78 : Nat) ≠ 125 by decide)]
      rw [p3 78 (by decide), p3 83 (by decide), ← a02, ← a5, ← a01, ← a00, if_pos (by rw [a02]; omega), ec]
      rw [show Int64.toInt32 (qs x n - qs x n / 100 * 100) = dgs x n from rfl]
      by_cases c1 : (dgs x n).toInt = 99
      · have ev : -1 = tDs x n := by unfold tDs; rw [if_pos c1]
        have ok : okd A x n := fun z => z.2.1 c1
        rw [if_pos c1]
        rcases p2 with ⟨f1, f2⟩ | ⟨f1, f2⟩
        · rw [f1, if_neg (by decide), if_pos c1]
          have e := nxt _ 1 ev (ext ok 1 (Or.inl ⟨rfl, f2⟩))
          split
          · exact e
          · exact e
        · rw [f1, if_pos (by rfl)]
          exact nxt _ 0 ev (ext ok 0 (Or.inr ⟨rfl, f2⟩))
      · have ev : dgs x n = tDs x n := by unfold tDs; rw [if_neg c1]
        rw [if_neg c1]
        rcases p2 with ⟨f1, f2⟩ | ⟨f1, f2⟩
        · rw [f1, if_neg (by decide), if_neg c1]
          by_cases c2 : (A 5 n).toInt = -1
          · rw [if_pos c2]
            by_cases c3 : (A 0 1).toInt < (A 0 0 + dgs x n).toInt
            · rw [if_pos c3]
              exact nxt _ 0 ev (Or.inr ⟨rfl, bad (fun z => z ⟨c2, c1, c3⟩)⟩)
            · rw [if_neg c3]
              exact nxt _ 1 ev (ext (fun z => c3 z.2.2) 1 (Or.inl ⟨rfl, f2⟩))
          · rw [if_neg c2]
            exact nxt _ 1 ev (ext (fun z => c2 z.1) 1 (Or.inl ⟨rfl, f2⟩))
        · rw [f1, if_pos (by rfl)]
          refine nxt _ 0 ev (Or.inr ⟨rfl, fun z => f2 ⟨z.1, fun q hq => z.2 q (by omega)⟩⟩)) (fun k y f i J hi hP => by
      obtain ⟨rfl, p2, p3, p4⟩ := hP
      have e0 : ((lg_cmp (qs x (cn (I 78 2))) (0 : Int64)).toInt = 0) = (qs x (cn (I 78 2)) = 0) := cmp_e
      unfold f_X11_takeCalls_18_B
      rw [p3 78 (by decide), if_neg (by omega)]
      unfold okA
      rw [a02]
      rcases p2 with ⟨f1, f2, f3⟩ | ⟨f1, f2⟩
      · rw [f1, if_neg (by decide)]
        by_cases c : qs x (cn (I 78 2)) = 0
        · rw [if_pos (by rw [e0]; exact c)]
          exact ⟨_, ⟨p3, p4, fun _ => rfl, fun q => absurd ⟨f2, f3, c⟩ q⟩, rfl⟩
        · rw [if_neg (by rw [e0]; exact c)]
          exact ⟨_, ⟨p3, p4, fun q => absurd q.2.2 c, fun _ => rfl⟩, rfl⟩
      · rw [f1, if_pos (by rfl)]
        exact ⟨_, ⟨p3, p4, fun q => absurd ⟨q.1, q.2.1⟩ f2, fun _ => rfl⟩, rfl⟩) 4000 x g 0 0 I kt_0 (by omega) (by omega) ⟨rfl, by
        rcases hg0 with ⟨g1, g2⟩ | ⟨g1, g2⟩
        · exact Or.inl ⟨g1, g2, fun k hk => absurd hk (by omega)⟩
        · exact Or.inr ⟨g1, fun z => g2 z.1⟩, fun _ _ => rfl, fun k hk => absurd hk (by omega)⟩
  unfold f_X11_takeCalls
  simp only [cmp_0, kl_0]
  by_cases c : x.toInt < 0
  · rw [if_pos c]
    obtain ⟨q, q1, q2⟩ := loop 0 (Or.inr ⟨rfl, by omega⟩)
    exact ⟨q.1, q.2, q2, q1⟩
  · rw [if_neg c]
    obtain ⟨q, q1, q2⟩ := loop 1 (Or.inl ⟨rfl, by omega⟩)
    exact ⟨q.1, q.2, q2, q1⟩
set_option maxHeartbeats 4000000 in
set_option maxRecDepth 100000 in
theorem r_foresee {I : fc_I} {x1 : Int32} {x2 : Int64} (hR : Rel I) : RR (f_X10_foresee I x1 x2) (fun I => f_X11_foresee I x1 x2) := by
  have he := hR.1
  have hw0 : (0 ≤ (I 45 9).toInt ∧ (I 45 9).toInt ≤ (I 15 11).toInt ∧ 1 ≤ (I 15 11).toInt ∧ (I 15 11).toInt ≤ 60) ∧ (0 ≤ (I 1 2).toInt ∧ (I 1 2).toInt ≤ 6) ∧ (0 ≤ (I 1 3).toInt ∧ (I 1 3).toInt ≤ 3) ∧ (0 ≤ (I 4 5).toInt ∧ (I 4 5).toInt ≤ 14) ∧ (0 ≤ (I 10 4).toInt ∧ (I 10 4).toInt ≤ 4) ∧ (0 ≤ (I 15 10).toInt ∧ (I 15 10).toInt ≤ 2) ∧ (0 ≤ (I 15 9).toInt ∧ (I 15 9).toInt ≤ 40) ∧ (0 ≤ (I 31 6).toInt ∧ (I 31 6).toInt ≤ 160) ∧ (1 ≤ (I 31 7).toInt ∧ (I 31 7).toInt ≤ 6) ∧ (0 ≤ (I 31 8).toInt ∧ (I 31 8).toInt < (I 31 7).toInt) := hR.2.1.1
  obtain ⟨⟨w1, w2, w3, w4⟩, ⟨w5, w6⟩, ⟨w7, w8⟩, ⟨w9, w10⟩, ⟨w11, w12⟩, ⟨w13, w14⟩, ⟨w15, w16⟩, ⟨w17, w18⟩, ⟨w19, w20⟩, ⟨w21, w22⟩⟩ := hw0
  by_cases c1 : x1.toInt < 0 ∨ 2 < x1.toInt
  · refine ⟨-4611686018427387904, I, I, ?_, ?_, hR⟩
    · unfold f_X10_foresee
      rw [e_isNoTrack, fq_vsome, if_pos c1, if_neg (by decide)]
    · show f_X11_foresee I x1 x2 = _
      unfold f_X11_foresee
      rw [e_isTrack, fq_vsome, if_neg (show ¬ (0 ≤ x1.toInt ∧ x1.toInt ≤ 2) by omega), if_pos (by rfl)]
  · have ht : 0 ≤ x1.toInt ∧ x1.toInt ≤ 2 := by omega
    have hwh := Wh_of hR.2.1
    have hX : f_X10_foresee I x1 x2 = if x2.toInt < 0 then some (-4611686018427387904, I) else f_X10_foresee_23 x1 4000 x2 0 I := by
      unfold f_X10_foresee
      rw [e_isNoTrack, fq_vsome, if_neg c1, if_pos (by rfl)]
      simp only [cmp_0, kl_0]
    have hM : ∀ J, f_X11_foresee J x1 x2 = fq_b (f_X11_takeCalls J x2) fun r9 I9 => if r9.toInt = 0 then some (-4611686018427387904, I9) else fq_b (f_X11_played I9 x1) fun r17 I17 => some (Int32.toInt64 r17, I17) := fun J => by
      unfold f_X11_foresee
      rw [e_isTrack, fq_vsome, if_pos ht, if_neg (by decide)]
    -- the class's side: its answer, and a memory that shows the same
    have kX : ∃ r J, f_X10_foresee I x1 x2 = some (r, J) ∧ (∀ c, ¬ (c = 42 ∨ c = 55 ∨ c = 56 ∨ (58 ≤ c ∧ c ≤ 67)) → J c = I c) ∧ ((0 ≤ x2.toInt ∧ okA (aX 45 I) x2) → r = Int32.toInt64 (fvA (tDs x2) x1 (aX 45 I))) ∧ (¬ (0 ≤ x2.toInt ∧ okA (aX 45 I) x2) → r = -4611686018427387904) := by
      by_cases c2 : x2.toInt < 0
      · rw [if_pos c2] at hX
        exact ⟨_, I, hX, fun _ _ => rfl, fun q => absurd q.1 (by omega), fun _ => rfl⟩
      · rw [if_neg c2] at hX
        obtain ⟨r, J, q1, q2, q3, q4⟩ := e_forX (I := I) (t := x1) (x := x2) hwh (by omega) ht
        exact ⟨r, J, by rw [hX]; exact q1, q2, fun q => q3 q.2, fun q => q4 (fun z => q ⟨by omega, z⟩)⟩
    obtain ⟨r, J, x1', j1, j2, j3⟩ := kX
    have jX : aX 45 J = aX 45 I := aX_scY (fun c hc => j1 c (fun z => hc (by unfold scY; omega)))
    have jM : aM J = aM I := aM_frame (fun c hc => j1 c (by omega))
    have j78 : J 78 = I 78 := j1 78 (by omega)
    obtain ⟨g, K, k1, k2, k3, k4, k5⟩ := e_takeCalls (I := J) (x := x2) (by rw [j78, q0_2 he]; exact ⟨w5, w6⟩)
    rw [jM, ← he] at k4 k5
    have kM : aM K = aM J := aM_scr (fun c hc => k2 c (fun z => hc (by unfold scM; omega)))
    have kXX : aX 45 K = aX 45 J := aX_frame (Or.inl rfl) (fun c hc => k2 c (by omega))
    have fin : ∀ L : fc_I, (∀ c, c ≠ 78 → ¬ scM c → L c = K c) → (∀ j, j ≠ 67 ∧ j ≠ 68 → L 78 j = K 78 j) → Rel L := fun L l1 l2 => by
      refine Rel_scr hR ?_ ?_ ?_ ?_ ?_ ?_ ?_
      · rw [← jX, ← kXX]
        exact aX_frame (Or.inl rfl) (fun c hc => l1 c (by omega) (by unfold scM; omega))
      · rw [← jM, ← kM]
        exact mS_ne2 l2 l1
      · rw [l1 111 (by decide) (by unfold scM; omega), k2 111 (by decide), j1 111 (by omega)]
      · rw [l1 112 (by decide) (by unfold scM; omega), k2 112 (by decide), j1 112 (by omega)]
      · rw [l2 9 (by decide), k2 78 (by decide), j78]
      · rw [l1 86 (by decide) (by unfold scM; omega), k2 86 (by decide), j1 86 (by omega)]
      · rw [l1 87 (by decide) (by unfold scM; omega), k2 87 (by decide), j1 87 (by omega)]
    by_cases c : 0 ≤ x2.toInt ∧ okA (aX 45 I) x2
    · have k78 : K 78 = I 78 := by rw [k2 78 (by decide), j78]
      obtain ⟨L, l1, l2, l3, l4⟩ := e_played (I := K) (t := x1) (by rw [kM, jM, ← he]; exact hwh) (fun z hz => by
        rw [k78, k2 83 (by decide), j1 83 (by omega), qr_83 he, q0_0 he]
        exact (hR.2.1.2.2.2.2.2.1 z hz).2.2.1.2) ht
      rw [kM, jM, ← he, fvA_congr (D := tDs x2) (fun k hk => by
        have hk' : (k : Int) < (I 1 2).toInt := hk
        refine k3 k ?_
        rw [j78, q0_2 he]
        have := cn_int w5
        omega)] at l1
      refine ⟨r, J, L, x1', ?_, fin L l2 l3⟩
      show f_X11_foresee J x1 x2 = _
      rw [hM, k1, fq_bsome, k4 c, if_neg (by decide), l1, fq_bsome, j2 c]
    · refine ⟨r, J, K, x1', ?_, fin K (fun _ _ _ => rfl) (fun _ _ => rfl)⟩
      show f_X11_foresee J x1 x2 = _
      rw [hM, k1, fq_bsome, k5 c, if_pos (by rfl), j3 c]
