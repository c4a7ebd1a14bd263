/-! ===== a way, the class; whether it may be asked ===== -/
theorem lpm1_X {γ : Type} {B : (Int32 → fc_I → Option γ) → Int32 → fc_I → Option γ} (N : Nat) (hN : N < 50000) (P : Nat → fc_I → Prop) (Fin : γ → Prop) (hs : ∀ (k : Int32 → fc_I → Option γ) (i : Int32) (n : Nat) (J : fc_I), i.toInt = (n : Int) → n < N → P n J → (∃ J', P (n + 1) J' ∧ B k i J = k (i + 1) J') ∨ ∃ r, Fin r ∧ B k i J = some r) (he : ∀ (k : Int32 → fc_I → Option γ) (i : Int32) (J : fc_I), i.toInt = (N : Int) → P N J → ∃ r, Fin r ∧ B k i J = some r) : ∀ (m : Nat) (i : Int32) (n : Nat) (J : fc_I), i.toInt = (n : Int) → n ≤ N → N < n + m → P n J → ∃ r, Fin r ∧ lpm1 B m i J = some r
  | 0, _, _, _, _, h1, h2, _ => absurd h2 (by omega)
  | m + 1, i, n, J, hi, h1, h2, hp => by
    show ∃ r, Fin r ∧ B (lpm1 B m) i J = some r
    by_cases c : n < N
    · rcases hs (lpm1 B m) i n J hi c hp with ⟨J', q1, q2⟩ | q
      · rw [q2]
        exact lpm1_X N hN P Fin hs he m (i + 1) (n + 1) J' (by have := (i_p1 (N := 50000) (x := i) (by omega) (by omega) (by omega)).1; omega) (by omega) (by omega) q1
      · exact q
    · have e : n = N := by omega
      subst e
      exact he _ i J hi hp
theorem lpp3_R {α β γ : Type} {B : (α → β → Int32 → Option γ) → α → β → Int32 → Option γ} (N : Nat) (hN : N < 50000) (P : Nat → α → β → Prop) (Fin : γ → Prop) (hs : ∀ (k : α → β → Int32 → Option γ) (x : α) (y : β) (i : Int32) (n : Nat), i.toInt = (n : Int) → n < N → P n x y → ∃ x' y', P (n + 1) x' y' ∧ B k x y i = k x' y' (i + 1)) (he : ∀ (k : α → β → Int32 → Option γ) (x : α) (y : β) (i : Int32), i.toInt = (N : Int) → P N x y → ∃ r, Fin r ∧ B k x y i = some r) : ∀ (m : Nat) (x : α) (y : β) (i : Int32) (n : Nat), i.toInt = (n : Int) → n ≤ N → N < n + m → P n x y → ∃ r, Fin r ∧ lpp3 B m x y i = some r
  | 0, _, _, _, _, _, h1, h2, _ => absurd h2 (by omega)
  | m + 1, x, y, i, n, hi, h1, h2, hp => by
    show ∃ r, Fin r ∧ B (lpp3 B m) x y i = some r
    by_cases c : n < N
    · obtain ⟨x', y', q1, q2⟩ := hs (lpp3 B m) x y i n hi c hp
      rw [q2]
      exact lpp3_R N hN P Fin hs he m x' y' (i + 1) (n + 1) (by have := (i_p1 (N := 50000) (x := i) (by omega) (by omega) (by omega)).1; omega) (by omega) (by omega) q1
    · have e : n = N := by omega
      subst e
      exact he _ x y i hi hp
set_option maxHeartbeats 2000000 in
theorem e_plan_X {I : fc_I} {v m : Nat} {w : Int32} (hm : m = kb (zi v) 6) (hm4 : m ≤ 4) (hE : 0 ≤ (I 45 9).toInt ∧ (I 45 9).toInt ≤ 60) (hs : ∀ z, z < 6 → bt (zi v) z = true → I 69 (kb (zi v) z) = zi z) : ∃ r J, f_X3_plan I w (zi m) = some (r, J) ∧ (∀ c, c ≠ 67 → J c = I c) ∧ (okI (aX 45 I) w m m → r = zi (clI w m m) ∧ ∀ z, z < 6 → J 67 z = dW (zi v) m w z) ∧ (¬ okI (aX 45 I) w m m → r = -1) := by
  obtain ⟨A, hA⟩ : ∃ A, A = aX 45 I := ⟨_, rfl⟩
  have a00 : A 0 0 = I 45 9 := by rw [hA]; rfl
  have a01 : A 0 1 = I 15 11 := by rw [hA]; rfl
  rw [← hA]
  obtain ⟨x, hx⟩ : ∃ x, x = zi v := ⟨_, rfl⟩
  rw [← hx] at hm hs ⊢
  have em := zi_int (n := m) (by omega)
  obtain ⟨r, h1, h2⟩ := lpm2_X (B := f_X3_plan_13_B w (zi m)) m (by omega) (fun n c J => c = zi (clI w m n) ∧ okI A w m n ∧ (∀ c, c ≠ 67 → J c = I c) ∧ ∀ z, z < 6 → J 67 z = if bt x z = true ∧ kb x z < n then dW x m w z else -1) (fun q => (∀ c, c ≠ 67 → q.2 c = I c) ∧ (okI A w m m → q.1 = zi (clI w m m) ∧ ∀ z, z < 6 → q.2 67 z = dW x m w z) ∧ (¬ okI A w m m → q.1 = -1)) (fun k c i n J hi hn hP => by
    obtain ⟨rfl, p3, p4, p5⟩ := hP
    have ec : cn i = n := cn_eq hi
    have ei : i = zi n := zi_of hi (by omega)
    obtain ⟨z0, z1, z2, z3⟩ := kb_at (x := x) 6 n (by omega)
    have s0 := hs z0 z1 z2
    rw [z3] at s0
    have kc := clI_le (w := w) (m := m) n
    have dz : dW x m w z0 = if (stp w m n).toInt = 3 then -1 else stp w m n * 4 := by
      unfold dW
      rw [if_pos z2, z3]
    obtain ⟨t1, t2⟩ := stp_b w m n
    unfold f_X3_plan_13_B
    simp only [fq_l, kt_3]
    rw [if_pos (by omega), ec, ei, show (w >>> (((2 : Int32) * ((zi m - 1) - zi n)) &&& 31)) &&& 3 = stp w m n from rfl, ← ei, p4 15 (by decide), p4 45 (by decide), p4 69 (by decide), ← a00, ← a01]
    by_cases s : (stp w m n).toInt = 3
    · have cl : clI w m (n + 1) = clI w m n := by
        show clI w m n + _ = _
        rw [if_pos s, Nat.add_zero]
      rw [if_neg (by omega)]
      refine Or.inl ⟨_, _, ⟨by rw [cl], okI_S p3 (fun z => absurd s z), p4, fun z hz => ?_⟩, rfl⟩
      rw [p5 z hz]
      by_cases e : z = z0
      · rw [e, if_neg (fun q => by omega), if_pos ⟨z2, by omega⟩, dz, if_pos s]
      · by_cases b : bt x z = true ∧ kb x z < n
        · rw [if_pos b, if_pos ⟨b.1, by omega⟩]
        · rw [if_neg b, if_neg (fun q => by
            by_cases g : kb x z = n
            · exact e (kb_inj q.1 z2 (by omega))
            · exact b ⟨q.1, by omega⟩)]
    · have cl : clI w m (n + 1) = clI w m n + 1 := by
        show clI w m n + _ = _
        rw [if_neg s]
      have es : (stp w m n * 4).toInt = (stp w m n).toInt * 4 := i_mul (by rw [kt_4]; omega) (by rw [kt_4]; omega)
      rw [if_neg s] at dz
      rw [if_pos (by omega)]
      generalize stp w m n * 4 = y at *
      have ea : (A 0 0 + y).toInt = (A 0 0).toInt + y.toInt := i_add (by rw [a00]; omega) (by rw [a00]; omega)
      by_cases l : (A 0 1).toInt < (A 0 0 + y).toInt
      · rw [if_pos l]
        refine Or.inr ⟨_, ⟨p4, fun q => ?_, fun _ => rfl⟩, rfl⟩
        have := q n hn s
        omega
      · rw [if_neg l, fq_gp ⟨by omega, by omega⟩, s0, fq_gp ⟨by rw [zi_int (by omega)]; omega, by rw [zi_int (by omega)]; omega⟩, zi_cn (by omega), zi_S (by omega)]
        refine Or.inl ⟨_, _, ⟨by rw [cl], okI_S p3 (fun _ => by omega), fun c hc => by rw [fc_wI_lo hc, p4 c hc], fun z hz => ?_⟩, rfl⟩
        rw [fc_wI_at]
        by_cases e : z = z0
        · rw [if_pos e, e, if_pos ⟨z2, by omega⟩, dz]
        · rw [if_neg e, p5 z hz]
          by_cases b : bt x z = true ∧ kb x z < n
          · rw [if_pos b, if_pos ⟨b.1, by omega⟩]
          · rw [if_neg b, if_neg (fun q => by
              by_cases g : kb x z = n
              · exact e (kb_inj q.1 z2 (by omega))
              · exact b ⟨q.1, by omega⟩)]) (fun k c i J hi hP => by
    obtain ⟨rfl, p3, p4, p5⟩ := hP
    unfold f_X3_plan_13_B
    rw [if_neg (by omega)]
    refine ⟨_, ⟨p4, fun _ => ⟨rfl, fun z hz => ?_⟩, fun q => absurd p3 q⟩, rfl⟩
    show J 67 z = _
    rw [p5 z hz]
    by_cases b : bt x z = true
    · rw [if_pos ⟨b, by rw [hm]; exact kb_lt b hz⟩]
    · rw [if_neg (fun q => b q.1)]
      unfold dW
      rw [if_neg b]) 4000 0 0 0 (fc_fI I 67 6 (-1)) kt_0 (by omega) (by omega) ⟨rfl, fun i hi => absurd hi (Nat.not_lt_zero i), fun c hc => by
    funext q
    unfold fc_fI
    rw [if_neg (fun z => hc z.1)], fun z hz => by
    unfold fc_fI
    rw [if_pos ⟨rfl, hz⟩, if_neg (fun q => by omega)]⟩
  refine ⟨r.1, r.2, ?_, h1⟩
  unfold f_X3_plan
  rw [e_fill (by omega), fq_usome]
  exact h2
theorem e_countB {v : Nat} (hv : v < 64) : f_X11_countBits (zi v) = some (zi (kb (zi v) 6)) := by
  obtain ⟨r, h1, h2⟩ := lpp2_R (B := f_X11_countBits_4_B (zi v)) 6 (by omega) (fun n c => c = zi (kb (zi v) n)) (fun r => r = zi (kb (zi v) 6)) (fun k c i n hi hn hP => by
    subst hP
    have ei : i = zi n := zi_of hi (by omega)
    have kn := kb_le (x := zi v) n
    have ek : kb (zi v) (n + 1) = kb (zi v) n + (if bt (zi v) n = true then 1 else 0) := rfl
    unfold f_X11_countBits_4_B
    simp only [fq_l, kt_6]
    rw [if_pos (by omega), ei, bt_01 v hv n hn]
    refine ⟨_, ?_, rfl⟩
    by_cases b : bt (zi v) n = true
    · rw [if_pos b] at ek
      rw [if_pos b, zi_S (by omega), ek]
    · rw [if_neg b] at ek
      rw [if_neg b, Int32.add_zero, ek]
      rfl) (fun k c i hi hP => by
    subst hP
    unfold f_X11_countBits_4_B
    rw [if_neg (by rw [kt_6]; omega)]
    exact ⟨_, rfl, rfl⟩) 4000 0 0 0 kt_0 (by omega) (by omega) rfl
  subst h1
  exact h2
/-- zones asked for have no call -/
def frZ (A : fc_I) (x : Int32) (n : Nat) : Prop := ∀ z, z < n → bt x z = true → (A 5 z).toInt = -1
theorem e_mayAsk {I : fc_I} {v : Nat} (hz : 0 ≤ (I 78 2).toInt ∧ (I 78 2).toInt ≤ 6) (hv : v < 2 ^ cn (I 78 2)) : ∃ r, f_X11_mayAsk I (zi v) = some r ∧ ((frZ (aM I) (zi v) (cn (I 78 2)) ∧ kb (zi v) 6 ≤ 4) → r = 1) ∧ (¬ (frZ (aM I) (zi v) (cn (I 78 2)) ∧ kb (zi v) 6 ≤ 4) → r = 0) := by
  have ez := cn_int hz.1
  have v64 : v < 64 := Nat.lt_of_lt_of_le hv (show 2 ^ cn (I 78 2) ≤ 2 ^ 6 from Nat.pow_le_pow_right (by omega) (by omega))
  have e64 := zi_int (n := v) (by omega)
  have ek : kb (zi v) 6 = kb (zi v) (cn (I 78 2)) := kb_hi 6 (by omega) (fun z h1 h2 => bt_hi (cn (I 78 2)) (by omega) v hv z h2 h1)
  have rg := shl_1 (cn (I 78 2)) (by omega)
  have ez2 : zi (cn (I 78 2)) = I 78 2 := (zi_of ez.symm (by omega)).symm
  rw [ez2] at rg
  have hin : f_X11_isIn (Int32.toInt64 (zi v)) 0 (Int32.toInt64 (((1 : Int32) <<< ((I 78 2) &&& 31)) - 1)) = some 1 := by
    rw [e_isIn, Int32.toInt_toInt64, Int32.toInt_toInt64, rg, kl_0, e64, if_pos ⟨by omega, by omega⟩]
  rw [ek]
  unfold f_X11_mayAsk
  rw [hin, fq_vsome, if_neg (by decide)]
  obtain ⟨r, h1, h2⟩ := lpp3_R (B := f_X11_mayAsk_27_B I (zi v)) (cn (I 78 2)) (by omega) (fun n c g => c = zi (kb (zi v) n) ∧ (g = 1 ∧ frZ (aM I) (zi v) n ∨ g = 0 ∧ ¬ frZ (aM I) (zi v) n)) (fun r => ((frZ (aM I) (zi v) (cn (I 78 2)) ∧ kb (zi v) (cn (I 78 2)) ≤ 4) → r = 1) ∧ (¬ (frZ (aM I) (zi v) (cn (I 78 2)) ∧ kb (zi v) (cn (I 78 2)) ≤ 4) → r = 0)) (fun k c g i n hi hn hP => by
    obtain ⟨rfl, p2⟩ := hP
    have ei : i = zi n := zi_of hi (by omega)
    have ec : cn i = n := cn_eq hi
    have kn := kb_le (x := zi v) n
    have ek : kb (zi v) (n + 1) = kb (zi v) n + (if bt (zi v) n = true then 1 else 0) := rfl
    have hg : ∀ y : Option Int32, fq_g 6 i y = y := fun y => fq_gp ⟨by omega, by omega⟩
    have hb : (((zi v >>> (i &&& 31)) &&& 1).toInt = 1) = (bt (zi v) n = true) := by
      rw [ei]
      exact propext (decide_eq_true_iff).symm
    have a5 : aM I 5 n = I 83 n := rfl
    have ext : (bt (zi v) n = true → (I 83 n).toInt = -1) → ∀ g' : Int32, (g' = 1 ∧ frZ (aM I) (zi v) n ∨ g' = 0 ∧ ¬ frZ (aM I) (zi v) n) → (g' = 1 ∧ frZ (aM I) (zi v) (n + 1) ∨ g' = 0 ∧ ¬ frZ (aM I) (zi v) (n + 1)) := fun h g' hg' => by
      rcases hg' with ⟨f1, f2⟩ | ⟨f1, f2⟩
      · refine Or.inl ⟨f1, fun z hz hb => ?_⟩
        by_cases e : z = n
        · rw [e] at hb ⊢
          exact h hb
        · exact f2 z (by omega) hb
      · exact Or.inr ⟨f1, fun q => f2 (fun z hz hb => q z (by omega) hb)⟩
    unfold f_X11_mayAsk_27_B
    simp only [hg, fq_l, kt_1, kt_m1, hb]
    rw [if_pos (by omega), ec]
    by_cases b : bt (zi v) n = true
    · rw [if_pos b] at ek
      rw [if_pos b, zi_S (by omega)]
      rcases p2 with ⟨f1, f2⟩ | ⟨f1, f2⟩
      · rw [f1, if_neg (by decide)]
        by_cases c : (I 83 n).toInt = -1
        · rw [if_pos c]
          exact ⟨_, _, ⟨by rw [ek], ext (fun _ => c) 1 (Or.inl ⟨rfl, f2⟩)⟩, rfl⟩
        · rw [if_neg c]
          exact ⟨_, _, ⟨by rw [ek], Or.inr ⟨rfl, fun q => c (q n (by omega) b)⟩⟩, rfl⟩
      · rw [f1, if_pos (by rfl)]
        exact ⟨_, _, ⟨by rw [ek], Or.inr ⟨rfl, fun q => f2 (fun z hz hb => q z (by omega) hb)⟩⟩, rfl⟩
    · have ek : kb (zi v) (n + 1) = kb (zi v) n := by rw [ek, if_neg b]; rfl
      rw [if_neg b, Int32.add_zero]
      rcases p2 with ⟨f1, f2⟩ | ⟨f1, f2⟩
      · rw [f1, if_neg (by decide)]
        exact ⟨_, _, ⟨by rw [ek], ext (fun z => absurd z b) 1 (Or.inl ⟨rfl, f2⟩)⟩, rfl⟩
      · rw [f1, if_pos (by rfl)]
        exact ⟨_, _, ⟨by rw [ek], ext (fun z => absurd z b) 0 (Or.inr ⟨rfl, f2⟩)⟩, rfl⟩) (fun k c g i hi hP => by
    obtain ⟨rfl, p2⟩ := hP
    have kn := kb_le (x := zi v) (cn (I 78 2))
    unfold f_X11_mayAsk_27_B
    rw [if_neg (by omega), zi_int (by omega), kt_4]
    rcases p2 with ⟨f1, f2⟩ | ⟨f1, f2⟩
    · rw [f1, if_neg (by decide)]
      by_cases c : (4 : Int) < (kb (zi v) (cn (I 78 2)) : Int)
      · rw [if_pos c]
        exact ⟨_, ⟨fun q => by omega, fun _ => rfl⟩, rfl⟩
      · rw [if_neg c]
        exact ⟨_, ⟨fun _ => rfl, fun q => absurd ⟨f2, by omega⟩ q⟩, rfl⟩
    · rw [f1, if_pos (by rfl)]
      exact ⟨_, ⟨fun q => absurd q.1 f2, fun _ => rfl⟩, rfl⟩) 4000 0 1 0 0 kt_0 (by omega) (by omega) ⟨rfl, Or.inl ⟨rfl, fun z hz => absurd hz (by omega)⟩⟩
  exact ⟨r, h2, h1⟩
