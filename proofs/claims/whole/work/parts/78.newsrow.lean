/-! ===== the op newsRow ===== -/
def hitN (A : fc_I) (t f o w d : Int32) : Prop := okN A t f o w d ∧ (A 0 7).toInt < 40
noncomputable def nsA (A : fc_I) (t f o w d : Int32) : fc_I := @ite fc_I (hitN A t f o w d) (Classical.propDecidable _) (nwA A t f o w d) A
noncomputable def nsc (A : fc_I) (t f o w d : Int32) : Nat := @ite Nat (hitN A t f o w d) (Classical.propDecidable _) 1 0
noncomputable def NRA (A : fc_I) (t : Int32) (b : Nat) : Nat → fc_I
  | 0 => A
  | n + 1 => nsA (NRA A t b n) t (A 34 (b + 4 * n)) (A 34 (b + 4 * n + 1)) (A 34 (b + 4 * n + 2)) (A 34 (b + 4 * n + 3))
noncomputable def NRc (A : fc_I) (t : Int32) (b : Nat) : Nat → Nat
  | 0 => 0
  | n + 1 => NRc A t b n + nsc (NRA A t b n) t (A 34 (b + 4 * n)) (A 34 (b + 4 * n + 1)) (A 34 (b + 4 * n + 2)) (A 34 (b + 4 * n + 3))
theorem nsA_y {A : fc_I} {t f o w d : Int32} (h : hitN A t f o w d) : nsA A t f o w d = nwA A t f o w d ∧ nsc A t f o w d = 1 := by
  unfold nsA nsc
  exact ⟨if_pos h, if_pos h⟩
theorem nsA_n {A : fc_I} {t f o w d : Int32} (h : ¬ hitN A t f o w d) : nsA A t f o w d = A ∧ nsc A t f o w d = 0 := by
  unfold nsA nsc
  exact ⟨if_neg h, if_neg h⟩
theorem NR_w {A : fc_I} {t : Int32} {b : Nat} (hw : Wf A) : ∀ n, Wf (NRA A t b n) ∧ NRA A t b n 0 0 = A 0 0 ∧ NRc A t b n ≤ n
  | 0 => ⟨hw, rfl, Nat.le_refl _⟩
  | n + 1 => by
    obtain ⟨i1, i2, i3⟩ := NR_w (t := t) (b := b) hw n
    show Wf (nsA (NRA A t b n) t _ _ _ _) ∧ nsA (NRA A t b n) t _ _ _ _ 0 0 = A 0 0 ∧ NRc A t b n + nsc (NRA A t b n) t _ _ _ _ ≤ n + 1
    rcases Classical.em (hitN (NRA A t b n) t (A 34 (b + 4 * n)) (A 34 (b + 4 * n + 1)) (A 34 (b + 4 * n + 2)) (A 34 (b + 4 * n + 3))) with h | h
    · rw [(nsA_y h).1, (nsA_y h).2]
      exact ⟨Wf_nw i1 h.2, by rw [nwA_0 (by decide), i2], by omega⟩
    · rw [(nsA_n h).1, (nsA_n h).2]
      exact ⟨i1, i2, by omega⟩
/-- news k of a sheet lie within it -/
def insN (x : Int32) (z : Int) (k : Nat) : Prop := 0 ≤ x.toInt + 4 * (k : Int) ∧ x.toInt + 4 * (k : Int) + 4 ≤ z
def finN (A : fc_I) (t x : Int32) (b N : Nat) (z : Int) (r : Int32) (B : fc_I) : Prop := ∃ n, n ≤ N ∧ (∀ k, k < n → insN x z k) ∧ (n = N ∧ r = zi (NRc A t b N) ∨ n < N ∧ ¬ insN x z n ∧ r = -12) ∧ B = NRA A t b n
theorem finN_one {A : fc_I} {t x : Int32} {b N : Nat} {z : Int} {r r' : Int32} {B B' : fc_I} (h : finN A t x b N z r B) (h' : finN A t x b N z r' B') : r = r' ∧ B = B' := by
  obtain ⟨n, a1, a2, a3, a4⟩ := h
  obtain ⟨m, b1, b2, b3, b4⟩ := h'
  have e : n = m := by
    by_cases q : n < m
    · rcases a3 with a3 | a3
      · omega
      · exact absurd (b2 n q) a3.2.1
    · by_cases q2 : m < n
      · rcases b3 with b3 | b3
        · omega
        · exact absurd (a2 m q2) b3.2.1
      · omega
  subst e
  refine ⟨?_, by rw [a4, b4]⟩
  rcases a3 with a3 | a3
  · rcases b3 with b3 | b3
    · rw [a3.2, b3.2]
    · omega
  · rcases b3 with b3 | b3
    · omega
    · rw [a3.2.2, b3.2.2]
theorem at_4 {x : Int32} {z : Int} {n : Nat} (hz : z ≤ 40) (hn : n ≤ 10) (h : ∀ k, k < n → insN x z k) : (x + zi n * 4).toInt = x.toInt + 4 * (n : Int) := by
  have e : (zi n * 4).toInt = (n : Int) * 4 := by
    rw [i_mul (by rw [zi_int (by omega), kt_4]; omega) (by rw [zi_int (by omega), kt_4]; omega), zi_int (by omega), kt_4]
  have h1 := Int32.le_toInt x
  have h2 := Int32.toInt_lt x
  by_cases c : n = 0
  · rw [i_add (by omega) (by omega)]
    omega
  · have q := h (n - 1) (by omega)
    have q0 := h 0 (by omega)
    unfold insN at q q0
    rw [i_add (by omega) (by omega)]
    omega
set_option maxHeartbeats 4000000 in
theorem e_nrX {I : fc_I} {t s x nn : Int32} {N : Nat} (hw : Wf (aX 45 I)) (hs : 0 ≤ s.toInt ∧ s.toInt ≤ 3) (hN : nn.toInt = (N : Int)) (hN2 : N ≤ 10) (hg : ¬ I 76 (cn s) = -1) (hz : 0 ≤ (I 77 (cn s)).toInt ∧ (I 77 (cn s)).toInt ≤ 40) : ∃ r J, f_X10_newsRow_75 t s x nn 4000 0 0 I = some (r, J) ∧ finN (aX 45 I) t x (40 * cn s + cn x) N (I 77 (cn s)).toInt r (aX 45 J) ∧ ∀ c, ¬ (c = 15 ∨ (18 ≤ c ∧ c ≤ 20) ∨ (22 ≤ c ∧ c ≤ 30)) → J c = I c := by
  obtain ⟨A, hA⟩ : ∃ A, A = aX 45 I := ⟨_, rfl⟩
  rw [← hA] at hw ⊢
  have es := cn_int hs.1
  have hit : ∀ q, q < 40 → A 34 (40 * cn s + q) = I (72 + cn s) q := fun q hq => by
    rw [hA, ax_34]
    unfold aIt
    rw [show (40 * cn s + q) / 40 = cn s by omega, show (40 * cn s + q) % 40 = q by omega, if_pos ⟨by omega, hg⟩]
  obtain ⟨r, h1, h2⟩ := lpm2_X (B := f_X10_newsRow_75_B t s x nn) N (by omega) (fun n c J => c = zi (NRc A t (40 * cn s + cn x) n) ∧ (∀ k, k < n → insN x (I 77 (cn s)).toInt k) ∧ aX 45 J = NRA A t (40 * cn s + cn x) n ∧ ∀ c, ¬ (c = 15 ∨ (18 ≤ c ∧ c ≤ 20) ∨ (22 ≤ c ∧ c ≤ 30)) → J c = I c) (fun q => finN A t x (40 * cn s + cn x) N (I 77 (cn s)).toInt q.1 (aX 45 q.2) ∧ ∀ c, ¬ (c = 15 ∨ (18 ≤ c ∧ c ≤ 20) ∨ (22 ≤ c ∧ c ≤ 30)) → q.2 c = I c) (fun k c i n J hi hn hP => by
    obtain ⟨rfl, p2, p3, p4⟩ := hP
    have ei : i = zi n := zi_of hi (by omega)
    have ea := at_4 hz.2 (by omega) p2
    obtain ⟨v1, v2, v3⟩ := NR_w (t := t) (b := 40 * cn s + cn x) hw n
    unfold f_X10_newsRow_75_B
    simp only [fq_l]
    rw [if_pos (by omega), ei]
    generalize x + zi n * 4 = y at *
    have j77 : J 77 = I 77 := p4 77 (by omega)
    rw [e_holds hs (by rw [j77]; exact hz) (by rw [kt_4]; omega), fq_vsome, j77, kt_4]
    by_cases c : 0 ≤ y.toInt ∧ y.toInt + 4 ≤ (I 77 (cn s)).toInt
    · have ins : insN x (I 77 (cn s)).toInt n := by unfold insN; omega
      have x0 : 0 ≤ x.toInt := by
        by_cases q : n = 0
        · rw [q] at ins
          unfold insN at ins
          omega
        · have q0 := p2 0 (by omega)
          unfold insN at q0
          omega
      have ex := cn_int x0
      have ey := cn_int c.1
      have ey2 : cn y = cn x + 4 * n := by omega
      have ad : ∀ m : Nat, m < 4 → ∀ z : Int32, z.toInt = (m : Int) → (y + z).toInt = ((cn y + m : Nat) : Int) ∧ cn (y + z) = cn y + m := fun m hm z hz => by
        have e : (y + z).toInt = ((cn y + m : Nat) : Int) := by
          rw [i_add (by omega) (by omega)]
          omega
        exact ⟨e, cn_eq e⟩
      obtain ⟨u1, u1'⟩ := ad 1 (by omega) 1 kt_1
      obtain ⟨u2, u2'⟩ := ad 2 (by omega) 2 kt_2
      obtain ⟨u3, u3'⟩ := ad 3 (by omega) 3 kt_3
      rw [if_pos c, if_neg (by decide)]
      generalize y + 1 = y1 at *
      generalize y + 2 = y2 at *
      generalize y + 3 = y3 at *
      rw [fq_gp ⟨by omega, by omega⟩, fq_gp ⟨by omega, by omega⟩, fq_gp ⟨by omega, by omega⟩, fq_gp ⟨by omega, by omega⟩, fq_gp ⟨by omega, by omega⟩, u1', u2', u3', p4 (72 + cn s) (by omega), ey2]
      rw [← hit _ (by omega), ← hit _ (by omega), ← hit _ (by omega), ← hit _ (by omega)]
      rw [show 40 * cn s + (cn x + 4 * n) = 40 * cn s + cn x + 4 * n by omega, show 40 * cn s + (cn x + 4 * n + 1) = 40 * cn s + cn x + 4 * n + 1 by omega, show 40 * cn s + (cn x + 4 * n + 2) = 40 * cn s + cn x + 4 * n + 2 by omega, show 40 * cn s + (cn x + 4 * n + 3) = 40 * cn s + cn x + 4 * n + 3 by omega]
      obtain ⟨b, hb⟩ : ∃ b, b = 40 * cn s + cn x := ⟨_, rfl⟩
      rw [← hb] at p3 v1 v2 v3 ⊢
      have w0 := v1.1
      have j0 : J 45 9 = NRA A t b n 0 0 := by rw [← p3]; rfl
      have j7 : J 15 9 = NRA A t b n 0 7 := by rw [← p3]; rfl
      obtain ⟨r, K, a1, a2, a3, a4, a5, a6⟩ := e_hear (I := J) (t := t) (f := A 34 (b + 4 * n)) (o := A 34 (b + 4 * n + 1)) (w := A 34 (b + 4 * n + 2)) (d := A 34 (b + 4 * n + 3)) (by rw [j0]; have := w0.1; omega) (by rw [j7]; exact w0.2.2.2.2.2.2.1)
      rw [p3, j7] at a5 a6
      rw [p3] at a4
      rw [a1, fq_bsome]
      have eA : NRA A t b (n + 1) = nsA (NRA A t b n) t (A 34 (b + 4 * n)) (A 34 (b + 4 * n + 1)) (A 34 (b + 4 * n + 2)) (A 34 (b + 4 * n + 3)) := rfl
      have ec : NRc A t b (n + 1) = NRc A t b n + nsc (NRA A t b n) t (A 34 (b + 4 * n)) (A 34 (b + 4 * n + 1)) (A 34 (b + 4 * n + 2)) (A 34 (b + 4 * n + 3)) := rfl
      have ext : ∀ k, k < n + 1 → insN x (I 77 (cn s)).toInt k := fun k hk => by
        by_cases e : k = n
        · rw [e]
          exact ins
        · exact p2 k (by omega)
      have fr : ∀ c, ¬ (c = 15 ∨ (18 ≤ c ∧ c ≤ 20) ∨ (22 ≤ c ∧ c ≤ 30)) → K c = I c := fun c hc => by rw [a2 c hc, p4 c hc]
      refine Or.inl ?_
      by_cases o : okN (NRA A t b n) t (A 34 (b + 4 * n)) (A 34 (b + 4 * n + 1)) (A 34 (b + 4 * n + 2)) (A 34 (b + 4 * n + 3))
      · by_cases g : (NRA A t b n 0 7).toInt < 40
        · obtain ⟨b1, b2⟩ := a6 o g
          have h : hitN (NRA A t b n) t (A 34 (b + 4 * n)) (A 34 (b + 4 * n + 1)) (A 34 (b + 4 * n + 2)) (A 34 (b + 4 * n + 3)) := ⟨o, g⟩
          rw [b1, if_neg (by have := w0.2.2.2.2.2.2.1; omega), zi_S (by omega)]
          exact ⟨_, K, ⟨by rw [ec, (nsA_y h).2], ext, by rw [eA, (nsA_y h).1, b2], fr⟩, rfl⟩
        · obtain ⟨b1, b2⟩ := a5 o g
          have h : ¬ hitN (NRA A t b n) t (A 34 (b + 4 * n)) (A 34 (b + 4 * n + 1)) (A 34 (b + 4 * n + 2)) (A 34 (b + 4 * n + 3)) := fun z => g z.2
          rw [b1, if_pos (by decide)]
          exact ⟨_, K, ⟨by rw [ec, (nsA_n h).2]; rfl, ext, by rw [eA, (nsA_n h).1, b2, p3], fr⟩, rfl⟩
      · obtain ⟨b1, b2⟩ := a4 o
        have h : ¬ hitN (NRA A t b n) t (A 34 (b + 4 * n)) (A 34 (b + 4 * n + 1)) (A 34 (b + 4 * n + 2)) (A 34 (b + 4 * n + 3)) := fun z => o z.1
        rw [b1, if_pos (by decide)]
        exact ⟨_, K, ⟨by rw [ec, (nsA_n h).2]; rfl, ext, by rw [eA, (nsA_n h).1, b2, p3], fr⟩, rfl⟩
    · rw [if_neg c, if_pos (by rfl)]
      exact Or.inr ⟨(-12, J), ⟨⟨n, by omega, p2, Or.inr ⟨hn, fun z => c (by unfold insN at z; omega), rfl⟩, p3⟩, p4⟩, rfl⟩) (fun k c i J hi hP => by
    obtain ⟨rfl, p2, p3, p4⟩ := hP
    unfold f_X10_newsRow_75_B
    rw [if_neg (by omega)]
    exact ⟨(zi (NRc A t (40 * cn s + cn x) N), J), ⟨⟨N, Nat.le_refl _, p2, Or.inl ⟨rfl, rfl⟩, p3⟩, p4⟩, rfl⟩) 4000 0 0 0 I kt_0 (by omega) (by omega) ⟨rfl, fun k hk => absurd hk (by omega), hA.symm, fun _ _ => rfl⟩
  exact ⟨r.1, r.2, h2, h1⟩
set_option maxHeartbeats 4000000 in
theorem e_nrM {I : fc_I} {t s x nn : Int32} {N : Nat} (hw : Wf (aM I)) (hs : 0 ≤ s.toInt ∧ s.toInt ≤ 3) (hN : nn.toInt = (N : Int)) (hN2 : N ≤ 10) (hg : ¬ I 127 (cn s) = -1) (hz : 0 ≤ (I 128 (cn s)).toInt ∧ (I 128 (cn s)).toInt ≤ 40) : ∃ r J, f_X11_newsRow_82 t s x nn 4000 0 0 I = some (r, J) ∧ finN (aM I) t x (40 * cn s + cn x) N (I 128 (cn s)).toInt r (aM J) ∧ (∀ c, ¬ (c = 78 ∨ (100 ≤ c ∧ c ≤ 107)) → J c = I c) ∧ ∀ j, j ≠ 29 → J 78 j = I 78 j := by
  obtain ⟨A, hA⟩ : ∃ A, A = aM I := ⟨_, rfl⟩
  rw [← hA] at hw ⊢
  have es := cn_int hs.1
  have hit : ∀ q, q < 40 → A 34 (40 * cn s + q) = I 129 (40 * cn s + q) := fun q hq => by
    rw [hA, am_34]
    unfold mIt
    rw [show (40 * cn s + q) / 40 = cn s by omega, if_pos ⟨by omega, hg⟩]
  have hl := Int32.toInt_lt x
  have hl2 := Int32.le_toInt x
  obtain ⟨r, h1, h2⟩ := lpm2_X (B := f_X11_newsRow_82_B t s x nn) N (by omega) (fun n c J => c = zi (NRc A t (40 * cn s + cn x) n) ∧ (∀ k, k < n → insN x (I 128 (cn s)).toInt k) ∧ aM J = NRA A t (40 * cn s + cn x) n ∧ (∀ c, ¬ (c = 78 ∨ (100 ≤ c ∧ c ≤ 107)) → J c = I c) ∧ ∀ j, j ≠ 29 → J 78 j = I 78 j) (fun q => finN A t x (40 * cn s + cn x) N (I 128 (cn s)).toInt q.1 (aM q.2) ∧ (∀ c, ¬ (c = 78 ∨ (100 ≤ c ∧ c ≤ 107)) → q.2 c = I c) ∧ ∀ j, j ≠ 29 → q.2 78 j = I 78 j) (fun k c i n J hi hn hP => by
    obtain ⟨rfl, p2, p3, p4, p5⟩ := hP
    have ei : i = zi n := zi_of hi (by omega)
    obtain ⟨v1, v2, v3⟩ := NR_w (t := t) (b := 40 * cn s + cn x) hw n
    have j128 : J 128 = I 128 := p4 128 (by omega)
    have l4 : (4 : Int64).toInt = 4 := rfl
    have l3 : (3 : Int64).toInt = 3 := rfl
    have ey0 : (Int32.toInt64 x + (4 : Int64) * Int32.toInt64 i).toInt = x.toInt + 4 * (n : Int) := by
      have e : ((4 : Int64) * Int32.toInt64 i).toInt = 4 * (n : Int) := by
        rw [Int64.toInt_mul, l4, Int32.toInt_toInt64, hi, Int.bmod_eq_of_le (by omega) (by omega)]
      rw [Int64.toInt_add, Int32.toInt_toInt64, e, Int.bmod_eq_of_le (by omega) (by omega)]
    have ey3 : (Int32.toInt64 x + (4 : Int64) * Int32.toInt64 i + 3).toInt = x.toInt + 4 * (n : Int) + 3 := by
      rw [Int64.toInt_add, ey0, l3, Int.bmod_eq_of_le (by omega) (by omega)]
    have eyi : 0 ≤ x.toInt + 4 * (n : Int) → x.toInt + 4 * (n : Int) < 100 → (Int64.toInt32 (Int32.toInt64 x + (4 : Int64) * Int32.toInt64 i)).toInt = x.toInt + 4 * (n : Int) := fun a b => by
      rw [Int64.toInt_toInt32, ey0, Int.bmod_eq_of_le (by omega) (by omega)]
    unfold f_X11_newsRow_82_B
    simp only [fq_l, cmp_0, kl_0]
    rw [if_pos (by omega), ey0, ey3, j128, Int32.toInt_toInt64]
    generalize Int64.toInt32 (Int32.toInt64 x + (4 : Int64) * Int32.toInt64 i) = y at *
    have refuse : ¬ insN x (I 128 (cn s)).toInt n → ∃ r : Int32 × fc_I, (finN A t x (40 * cn s + cn x) N (I 128 (cn s)).toInt r.1 (aM r.2) ∧ (∀ c, ¬ (c = 78 ∨ (100 ≤ c ∧ c ≤ 107)) → r.2 c = I c) ∧ ∀ j, j ≠ 29 → r.2 78 j = I 78 j) ∧ some (-12, J) = some r := fun h => ⟨(-12, J), ⟨⟨n, by omega, p2, Or.inr ⟨hn, h, rfl⟩, p3⟩, p4, p5⟩, rfl⟩
    by_cases c0 : x.toInt + 4 * (n : Int) < 0
    · rw [if_pos c0]
      exact Or.inr (refuse (fun z => by unfold insN at z; omega))
    · rw [if_neg c0, fq_gp ⟨by omega, by omega⟩]
      by_cases c : x.toInt + 4 * (n : Int) + 3 < (I 128 (cn s)).toInt
      · have ins : insN x (I 128 (cn s)).toInt n := by unfold insN; omega
        have x0 : 0 ≤ x.toInt := by
          by_cases q : n = 0
          · rw [q] at ins
            unfold insN at ins
            omega
          · have q0 := p2 0 (by omega)
            unfold insN at q0
            omega
        have ex := cn_int x0
        have eyt := eyi (by omega) (by omega)
        have ey := cn_int (x := y) (by omega)
        have ey2 : cn y = cn x + 4 * n := by omega
        obtain ⟨l1, l2⟩ := i_lin (a := 40) (x := s) (y := y) (A := 40) rfl es.symm ey.symm (by omega)
        rw [if_pos c]
        generalize (40 : Int32) * s + y = u at *
        have ad : ∀ m : Nat, m < 4 → ∀ z : Int32, z.toInt = (m : Int) → (u + z).toInt = ((cn u + m : Nat) : Int) ∧ cn (u + z) = cn u + m := fun m hm z hz => by
          have e : (u + z).toInt = ((cn u + m : Nat) : Int) := by
            rw [i_add (by omega) (by omega)]
            omega
          exact ⟨e, cn_eq e⟩
        obtain ⟨u1, u1'⟩ := ad 1 (by omega) 1 kt_1
        obtain ⟨u2, u2'⟩ := ad 2 (by omega) 2 kt_2
        obtain ⟨u3, u3'⟩ := ad 3 (by omega) 3 kt_3
        generalize u + 1 = y1 at *
        generalize u + 2 = y2 at *
        generalize u + 3 = y3 at *
        rw [fq_gp ⟨by omega, by omega⟩, fq_gp ⟨by omega, by omega⟩, fq_gp ⟨by omega, by omega⟩, fq_gp ⟨by omega, by omega⟩, u1', u2', u3', p4 129 (by omega), l2, ey2]
        rw [show 40 * cn s + (cn x + 4 * n) + 1 = 40 * cn s + (cn x + 4 * n + 1) by omega, show 40 * cn s + (cn x + 4 * n) + 2 = 40 * cn s + (cn x + 4 * n + 2) by omega, show 40 * cn s + (cn x + 4 * n) + 3 = 40 * cn s + (cn x + 4 * n + 3) by omega]
        rw [← hit _ (by omega), ← hit _ (by omega), ← hit _ (by omega), ← hit _ (by omega)]
        rw [show 40 * cn s + (cn x + 4 * n) = 40 * cn s + cn x + 4 * n by omega, show 40 * cn s + (cn x + 4 * n + 1) = 40 * cn s + cn x + 4 * n + 1 by omega, show 40 * cn s + (cn x + 4 * n + 2) = 40 * cn s + cn x + 4 * n + 2 by omega, show 40 * cn s + (cn x + 4 * n + 3) = 40 * cn s + cn x + 4 * n + 3 by omega]
        obtain ⟨b, hb⟩ : ∃ b, b = 40 * cn s + cn x := ⟨_, rfl⟩
        rw [← hb] at p3 v1 v2 v3 ⊢
        have w0 := v1.1
        have j0 : J 78 0 = NRA A t b n 0 0 := by rw [← p3]; rfl
        have j7 : J 78 29 = NRA A t b n 0 7 := by rw [← p3]; rfl
        obtain ⟨r, K, a1, a2, a3, a4, a5, a6⟩ := e_newsM (I := J) (t := t) (f := A 34 (b + 4 * n)) (o := A 34 (b + 4 * n + 1)) (w := A 34 (b + 4 * n + 2)) (d := A 34 (b + 4 * n + 3)) (by rw [j0]; have := w0.1; omega) (by rw [j7]; exact w0.2.2.2.2.2.2.1)
        rw [p3, j7] at a5 a6
        rw [p3] at a4
        rw [a1, fq_bsome]
        have eA : NRA A t b (n + 1) = nsA (NRA A t b n) t (A 34 (b + 4 * n)) (A 34 (b + 4 * n + 1)) (A 34 (b + 4 * n + 2)) (A 34 (b + 4 * n + 3)) := rfl
        have ec : NRc A t b (n + 1) = NRc A t b n + nsc (NRA A t b n) t (A 34 (b + 4 * n)) (A 34 (b + 4 * n + 1)) (A 34 (b + 4 * n + 2)) (A 34 (b + 4 * n + 3)) := rfl
        have ext : ∀ k, k < n + 1 → insN x (I 128 (cn s)).toInt k := fun k hk => by
          by_cases e : k = n
          · rw [e]
            exact ins
          · exact p2 k (by omega)
        have fr : ∀ c, ¬ (c = 78 ∨ (100 ≤ c ∧ c ≤ 107)) → K c = I c := fun c hc => by rw [a2 c hc, p4 c hc]
        have fj : ∀ j, j ≠ 29 → K 78 j = I 78 j := fun j hj => by rw [a3 j hj, p5 j hj]
        refine Or.inl ?_
        by_cases o : okN (NRA A t b n) t (A 34 (b + 4 * n)) (A 34 (b + 4 * n + 1)) (A 34 (b + 4 * n + 2)) (A 34 (b + 4 * n + 3))
        · by_cases g : (NRA A t b n 0 7).toInt < 40
          · obtain ⟨b1, b2⟩ := a6 o g
            have h : hitN (NRA A t b n) t (A 34 (b + 4 * n)) (A 34 (b + 4 * n + 1)) (A 34 (b + 4 * n + 2)) (A 34 (b + 4 * n + 3)) := ⟨o, g⟩
            rw [b1, if_neg (by have := w0.2.2.2.2.2.2.1; omega), zi_S (by omega)]
            exact ⟨_, K, ⟨by rw [ec, (nsA_y h).2], ext, by rw [eA, (nsA_y h).1, b2], fr, fj⟩, rfl⟩
          · obtain ⟨b1, b2⟩ := a5 o g
            have h : ¬ hitN (NRA A t b n) t (A 34 (b + 4 * n)) (A 34 (b + 4 * n + 1)) (A 34 (b + 4 * n + 2)) (A 34 (b + 4 * n + 3)) := fun z => g z.2
            rw [b1, if_pos (by decide), Int32.add_zero]
            exact ⟨_, K, ⟨by rw [ec, (nsA_n h).2]; rfl, ext, by rw [eA, (nsA_n h).1, b2, p3], fr, fj⟩, rfl⟩
        · obtain ⟨b1, b2⟩ := a4 o
          have h : ¬ hitN (NRA A t b n) t (A 34 (b + 4 * n)) (A 34 (b + 4 * n + 1)) (A 34 (b + 4 * n + 2)) (A 34 (b + 4 * n + 3)) := fun z => o z.1
          rw [b1, if_pos (by decide), Int32.add_zero]
          exact ⟨_, K, ⟨by rw [ec, (nsA_n h).2]; rfl, ext, by rw [eA, (nsA_n h).1, b2, p3], fr, fj⟩, rfl⟩
      · rw [if_neg c]
        exact Or.inr (refuse (fun z => by unfold insN at z; omega))) (fun k c i J hi hP => by
    obtain ⟨rfl, p2, p3, p4, p5⟩ := hP
    unfold f_X11_newsRow_82_B
    rw [if_neg (by omega)]
    exact ⟨(zi (NRc A t (40 * cn s + cn x) N), J), ⟨⟨N, Nat.le_refl _, p2, Or.inl ⟨rfl, rfl⟩, p3⟩, p4, p5⟩, rfl⟩) 4000 0 0 0 I kt_0 (by omega) (by omega) ⟨rfl, fun k hk => absurd hk (by omega), hA.symm, fun _ _ => rfl, fun _ _ => rfl⟩
  exact ⟨r.1, r.2, h2, h1⟩
set_option maxHeartbeats 4000000 in
set_option maxRecDepth 100000 in
theorem r_newsRow {I : fc_I} {x1 x2 x3 x4 x5 : Int32} (hR : Rel I) : RR (f_X10_newsRow I x1 x2 x3 x4 x5) (fun I => f_X11_newsRow I x1 x2 x3 x4 x5) := by
  have he := hR.1
  have hw0 : (0 ≤ (I 45 9).toInt ∧ (I 45 9).toInt ≤ (I 15 11).toInt ∧ 1 ≤ (I 15 11).toInt ∧ (I 15 11).toInt ≤ 60) ∧ (0 ≤ (I 1 2).toInt ∧ (I 1 2).toInt ≤ 6) ∧ (0 ≤ (I 1 3).toInt ∧ (I 1 3).toInt ≤ 3) ∧ (0 ≤ (I 4 5).toInt ∧ (I 4 5).toInt ≤ 14) ∧ (0 ≤ (I 10 4).toInt ∧ (I 10 4).toInt ≤ 4) ∧ (0 ≤ (I 15 10).toInt ∧ (I 15 10).toInt ≤ 2) ∧ (0 ≤ (I 15 9).toInt ∧ (I 15 9).toInt ≤ 40) ∧ (0 ≤ (I 31 6).toInt ∧ (I 31 6).toInt ≤ 160) ∧ (1 ≤ (I 31 7).toInt ∧ (I 31 7).toInt ≤ 6) ∧ (0 ≤ (I 31 8).toInt ∧ (I 31 8).toInt < (I 31 7).toInt) := hR.2.1.1
  obtain ⟨⟨w1, w2, w3, w4⟩, ⟨w5, w6⟩, ⟨w7, w8⟩, ⟨w9, w10⟩, ⟨w11, w12⟩, ⟨w13, w14⟩, ⟨w15, w16⟩, ⟨w17, w18⟩, ⟨w19, w20⟩, ⟨w21, w22⟩⟩ := hw0
  have km1 : (-1 : Int32).toInt = -1 := rfl
  have kl10 : (10 : Int64).toInt = 10 := rfl
  have hX0 : f_X10_newsRow I x1 x2 x3 x4 x5 = if ¬ (x1.toInt < 0 ∨ 2 < x1.toInt) then (if ¬ (x2.toInt < 0 ∨ 3 < x2.toInt) then (if ¬ (x3.toInt < 0 ∨ 2 < x3.toInt) then (if ¬ (x5.toInt < 0 ∨ 10 < x5.toInt) then fq_g 4 x2 (if (I 76 (cn x2)).toInt = -1 then some (-11, I) else fq_g 4 x2 (if (I 76 (cn x2)).toInt = x3.toInt then f_X10_newsRow_75 x1 x2 x4 x5 4000 0 0 I else some (-13, I))) else some (-2, I)) else some (-2, I)) else some (-2, I)) else some (-2, I) := by
    unfold f_X10_newsRow
    simp only [e_isNoTrack, e_isNoSheet, e_isOutside, fq_vsome, b2i, kt_0, kt_2, kt_10, km1]
  have hM0 : ∀ J, f_X11_newsRow J x1 x2 x3 x4 x5 = if ¬ (0 ≤ x1.toInt ∧ x1.toInt ≤ 2) then some (-2, J) else if ¬ (0 ≤ x2.toInt ∧ x2.toInt ≤ 3) then some (-2, J) else if ¬ (0 ≤ x3.toInt ∧ x3.toInt ≤ 2) then some (-2, J) else if ¬ (0 ≤ x5.toInt ∧ x5.toInt ≤ 10) then some (-2, J) else fq_g 4 x2 (if (J 127 (cn x2)).toInt < 0 then fq_g 4 x2 (if (J 127 (cn x2)).toInt < 0 then some (-11, J) else f_X11_newsRow_82 x1 x2 x4 x5 4000 0 0 J) else fq_g 4 x2 (if (J 127 (cn x2)).toInt = x3.toInt then fq_g 4 x2 (if (J 127 (cn x2)).toInt < 0 then some (-11, J) else f_X11_newsRow_82 x1 x2 x4 x5 4000 0 0 J) else some (-13, J))) := fun J => by
    unfold f_X11_newsRow
    simp only [e_isTrack, e_isSheet, e_isIn, fq_vsome, b2i, Int32.toInt_toInt64, kl_0, kl_2, kl10]
  by_cases c1 : x1.toInt < 0 ∨ 2 < x1.toInt
  · rw [if_neg (not_not_intro c1)] at hX0
    exact ⟨_, _, _, hX0, by show f_X11_newsRow I x1 x2 x3 x4 x5 = _; rw [hM0, if_pos (by omega)], hR⟩
  rw [if_pos c1] at hX0
  by_cases c2 : x2.toInt < 0 ∨ 3 < x2.toInt
  · rw [if_neg (not_not_intro c2)] at hX0
    exact ⟨_, _, _, hX0, by show f_X11_newsRow I x1 x2 x3 x4 x5 = _; rw [hM0, if_neg (by omega), if_pos (by omega)], hR⟩
  rw [if_pos c2] at hX0
  by_cases c3 : x3.toInt < 0 ∨ 2 < x3.toInt
  · rw [if_neg (not_not_intro c3)] at hX0
    exact ⟨_, _, _, hX0, by show f_X11_newsRow I x1 x2 x3 x4 x5 = _; rw [hM0, if_neg (by omega), if_neg (by omega), if_pos (by omega)], hR⟩
  rw [if_pos c3] at hX0
  by_cases c5 : x5.toInt < 0 ∨ 10 < x5.toInt
  · rw [if_neg (not_not_intro c5)] at hX0
    exact ⟨_, _, _, hX0, by show f_X11_newsRow I x1 x2 x3 x4 x5 = _; rw [hM0, if_neg (by omega), if_neg (by omega), if_neg (by omega), if_pos (by omega)], hR⟩
  have hg : ∀ y : Option (Int32 × fc_I), fq_g 4 x2 y = y := fun y => fq_gp ⟨by omega, by omega⟩
  rw [if_pos c5, hg, hg] at hX0
  have hM : ∀ J, f_X11_newsRow J x1 x2 x3 x4 x5 = if (J 127 (cn x2)).toInt < 0 then some (-11, J) else if (J 127 (cn x2)).toInt = x3.toInt then f_X11_newsRow_82 x1 x2 x4 x5 4000 0 0 J else some (-13, J) := fun J => by
    rw [hM0, if_neg (by omega), if_neg (by omega), if_neg (by omega), if_neg (by omega), hg, hg, hg]
    by_cases q : (J 127 (cn x2)).toInt < 0
    · simp only [if_pos q]
    · simp only [if_neg q]
  obtain ⟨a1, a2⟩ := ws_at hR.2.1.2.2.2.1 x2 (by omega) (by omega)
  by_cases d : (I 76 (cn x2)).toInt = -1
  · rw [if_pos d] at hX0
    exact ⟨_, _, _, hX0, by show f_X11_newsRow I x1 x2 x3 x4 x5 = _; rw [hM, qr_127 he, if_pos (by omega)], hR⟩
  rw [if_neg d] at hX0
  obtain ⟨z1, z2⟩ := a2 d
  by_cases g : (I 76 (cn x2)).toInt = x3.toInt
  · rw [if_pos g] at hX0
    have e5 := cn_int (x := x5) (by omega)
    have n1 : ¬ I 76 (cn x2) = -1 := fun z => d (by rw [z]; rfl)
    obtain ⟨r, J, b1, b2, b3⟩ := e_nrX (I := I) (t := x1) (s := x2) (x := x4) (nn := x5) (N := cn x5) hR.2.1 (by omega) e5.symm (by omega) n1 ⟨z1, z2⟩
    have jM : aM J = aM I := aM_frame (fun c hc => b3 c (by omega))
    have j127 : J 127 = I 127 := b3 127 (by omega)
    have j128 : J 128 (cn x2) = I 77 (cn x2) := by rw [b3 128 (by omega)]; exact qz_at he x2 d
    obtain ⟨r', K, k1, k2, k3, k4⟩ := e_nrM (I := J) (t := x1) (s := x2) (x := x4) (nn := x5) (N := cn x5) (by rw [jM, ← he]; exact hR.2.1) (by omega) e5.symm (by omega) (by rw [j127, qr_127 he]; exact n1) (by rw [j128]; exact ⟨z1, z2⟩)
    rw [jM, ← he, j128] at k2
    obtain ⟨u1, u2⟩ := finN_one b2 k2
    have kX : aX 45 K = aX 45 J := aX_frame (Or.inl rfl) (fun c hc => k3 c (by omega))
    have wJ : Wf (aX 45 J) := by
      obtain ⟨n, _, _, _, q⟩ := b2
      rw [q]
      exact (NR_w hR.2.1 n).1
    refine ⟨r, J, K, by rw [hX0]; exact b1, ?_, ?_, ?_, ?_, ?_⟩
    · show f_X11_newsRow J x1 x2 x3 x4 x5 = _
      rw [hM, j127, qr_127 he, if_neg (by omega), if_pos g, k1, u1]
    · rw [kX, u2]
    · rw [kX]
      exact wJ
    · unfold mC
      rw [k3 111 (by omega), k3 112 (by omega), b3 111 (by omega), b3 112 (by omega)]
      exact hR.2.2.1
    · unfold mK
      rw [k4 9 (by decide), k3 86 (by omega), k3 87 (by omega), b3 78 (by omega), b3 86 (by omega), b3 87 (by omega)]
      exact hR.2.2.2
  · rw [if_neg g] at hX0
    exact ⟨_, _, _, hX0, by show f_X11_newsRow I x1 x2 x3 x4 x5 = _; rw [hM, qr_127 he, if_neg (by omega), if_neg g], hR⟩
