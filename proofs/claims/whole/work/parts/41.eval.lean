/-! ===== loops that count; a cell put anew; rows of codes and what they come to ===== -/
theorem lpm1_R {γ : Type} {B : (Int32 → fc_I → Option γ) → Int32 → fc_I → Option γ} (N : Nat) (hN : N < 50000) (P : Nat → fc_I → Prop) (Fin : γ → Prop) (hs : ∀ (k : Int32 → fc_I → Option γ) (i : Int32) (n : Nat) (J : fc_I), i.toInt = (n : Int) → n < N → P n J → ∃ J', P (n + 1) J' ∧ B k i J = k (i + 1) J') (he : ∀ (k : Int32 → fc_I → Option γ) (i : Int32) (J : fc_I), i.toInt = (N : Int) → P N J → ∃ r, Fin r ∧ B k i J = some r) : ∀ (m : Nat) (i : Int32) (n : Nat) (J : fc_I), i.toInt = (n : Int) → n ≤ N → N < n + m → P n J → ∃ r, Fin r ∧ lpm1 B m i J = some r
  | 0, _, _, _, _, h1, h2, _ => absurd h2 (by omega)
  | m + 1, i, n, J, hi, h1, h2, hp => by
    show ∃ r, Fin r ∧ B (lpm1 B m) i J = some r
    by_cases c : n < N
    · obtain ⟨J', q1, q2⟩ := hs (lpm1 B m) i n J hi c hp
      rw [q2]
      exact lpm1_R N hN P Fin hs he m (i + 1) (n + 1) J' (by have := (i_p1 (N := 50000) (x := i) (by omega) (by omega) (by omega)).1; omega) (by omega) (by omega) q1
    · have e : n = N := by omega
      subst e
      exact he _ i J hi hp
theorem lpm2_R {α γ : Type} {B : (α → Int32 → fc_I → Option γ) → α → Int32 → fc_I → Option γ} (N : Nat) (hN : N < 50000) (P : Nat → α → fc_I → Prop) (Fin : γ → Prop) (hs : ∀ (k : α → Int32 → fc_I → Option γ) (x : α) (i : Int32) (n : Nat) (J : fc_I), i.toInt = (n : Int) → n < N → P n x J → ∃ x' J', P (n + 1) x' J' ∧ B k x i J = k x' (i + 1) J') (he : ∀ (k : α → Int32 → fc_I → Option γ) (x : α) (i : Int32) (J : fc_I), i.toInt = (N : Int) → P N x J → ∃ r, Fin r ∧ B k x i J = some r) : ∀ (m : Nat) (x : α) (i : Int32) (n : Nat) (J : fc_I), i.toInt = (n : Int) → n ≤ N → N < n + m → P n x J → ∃ r, Fin r ∧ lpm2 B m x i J = some r
  | 0, _, _, _, _, _, h1, h2, _ => absurd h2 (by omega)
  | m + 1, x, i, n, J, hi, h1, h2, hp => by
    show ∃ r, Fin r ∧ B (lpm2 B m) x i J = some r
    by_cases c : n < N
    · obtain ⟨x', J', q1, q2⟩ := hs (lpm2 B m) x i n J hi c hp
      rw [q2]
      exact lpm2_R N hN P Fin hs he m x' (i + 1) (n + 1) J' (by have := (i_p1 (N := 50000) (x := i) (by omega) (by omega) (by omega)).1; omega) (by omega) (by omega) q1
    · have e : n = N := by omega
      subst e
      exact he _ x i J hi hp
def stc (I : fc_I) (c : Nat) (g : Nat → Int32) : fc_I := fun c' k => if c' = c then g k else I c' k
theorem stc_at {I : fc_I} {c : Nat} {g : Nat → Int32} : stc I c g c = g := by
  funext k
  simp [stc]
theorem stc_ne {I : fc_I} {c c' : Nat} {g : Nat → Int32} (h : c' ≠ c) : stc I c g c' = I c' := by
  funext k
  simp [stc, h]
theorem stc_w {I : fc_I} {c j : Nat} {v : Int32} {g : Nat → Int32} : fc_wI (stc I c g) c j v = stc I c (upd g j v) := by
  funext a b
  unfold fc_wI stc upd
  by_cases h : a = c
  · by_cases h2 : b = j <;> simp [h, h2]
  · simp [h]
theorem stc_self {I : fc_I} {c : Nat} : stc I c (I c) = I := by
  funext a b
  unfold stc
  by_cases h : a = c
  · rw [if_pos h, h]
  · rw [if_neg h]
/-- what joins two numbers -/
def evo (c a b : Int32) : Int32 := if c.toInt = 6 then a + b else if c.toInt = 7 then a - b else if c.toInt = 8 then a * b else if c.toInt = 9 then (if a.toInt < b.toInt then 1 else 0) else if c.toInt = 10 then (if a.toInt = b.toInt then 1 else 0) else if c.toInt = 11 then (if a.toInt = 0 then 0 else if b.toInt = 0 then 0 else 1) else (if a.toInt = 0 then (if b.toInt = 0 then 0 else 1) else 1)
def ev1 (fa : Nat → Int32) (c : Int32) (d : Nat) (s : Nat → Int32) : Nat → Int32 :=
  if c.toInt < 0 then upd s d (-1 - c) else if c.toInt < 6 then upd s d (fa (cn c)) else if c.toInt = 13 then upd s (d - 1) (if (s (d - 1)).toInt = 0 then 1 else 0) else if c.toInt = 14 then upd s (d - 1) (-(s (d - 1))) else upd s (d - 2) (evo c (s (d - 2)) (s (d - 1)))
def ed1 (c : Int32) (d : Nat) : Nat := if c.toInt < 6 then d + 1 else if c.toInt = 13 ∨ c.toInt = 14 then d else d - 1
def evd (f : Nat → Int32) : Nat → Nat
  | 0 => 0
  | k + 1 => ed1 (f k) (evd f k)
def evs (fa f s : Nat → Int32) : Nat → Nat → Int32
  | 0 => s
  | k + 1 => ev1 fa (f k) (evd f k) (evs fa f s k)
def evv (fa f : Nat → Int32) (n : Nat) : Int32 := evs fa f (fun _ => 0) n 0
theorem cdp_step {f : Nat → Int32} {n e : Nat} (h : cdp f (n + 1) = some e) : ∃ d, cdp f n = some d ∧ cpk (f n) d = some e := by
  unfold cdp at h
  exact Option.bind_eq_some_iff.mp h
theorem cdp_le {f : Nat → Int32} : ∀ (n k e : Nat), k ≤ n → cdp f n = some e → ∃ d, cdp f k = some d
  | 0, k, e, h, q => ⟨e, by rw [show k = 0 by omega]; exact q⟩
  | n + 1, k, e, h, q => by
    by_cases c : k = n + 1
    · exact ⟨e, by rw [c]; exact q⟩
    · obtain ⟨d, q1, _⟩ := cdp_step q
      exact cdp_le n k d (by omega) q1
theorem cpk_ed {c : Int32} {d e : Nat} (h : cpk c d = some e) : ed1 c d = e ∧ e ≤ d + 1 ∧ (¬ c.toInt < 6 → 1 ≤ d) ∧ (¬ c.toInt < 6 → ¬ c.toInt = 13 → ¬ c.toInt = 14 → 2 ≤ d) := by
  unfold cpk at h
  unfold ed1
  by_cases c1 : c.toInt < 6
  · rw [if_pos c1] at h ⊢
    cases h
    exact ⟨rfl, by omega, fun z => absurd c1 z, fun z => absurd c1 z⟩
  · rw [if_neg c1] at h ⊢
    by_cases c2 : c.toInt = 13 ∨ c.toInt = 14
    · rw [if_pos c2] at h ⊢
      by_cases c3 : 1 ≤ d
      · rw [if_pos c3] at h
        cases h
        exact ⟨rfl, by omega, fun _ => c3, fun _ z1 z2 => by omega⟩
      · rw [if_neg c3] at h
        cases h
    · rw [if_neg c2] at h ⊢
      by_cases c3 : 2 ≤ d
      · rw [if_pos c3] at h
        cases h
        exact ⟨rfl, by omega, fun _ => by omega, fun _ _ _ => c3⟩
      · rw [if_neg c3] at h
        cases h
theorem cdp_evd {f : Nat → Int32} : ∀ (n d : Nat), cdp f n = some d → evd f n = d ∧ d ≤ n
  | 0, d, h => by
    unfold cdp at h
    cases h
    exact ⟨rfl, Nat.le_refl _⟩
  | n + 1, d, h => by
    obtain ⟨d0, q1, q2⟩ := cdp_step h
    obtain ⟨a1, a2⟩ := cdp_evd n d0 q1
    obtain ⟨b1, b2, _⟩ := cpk_ed q2
    refine ⟨?_, by omega⟩
    show ed1 (f n) (evd f n) = d
    rw [a1, b1]
theorem evs_ind {fa f s s' : Nat → Int32} : ∀ (n d : Nat), cdp f n = some d → ∀ k, k < d → evs fa f s n k = evs fa f s' n k
  | 0, d, h, k, hk => by
    unfold cdp at h
    cases h
    omega
  | n + 1, d, h, k, hk => by
    obtain ⟨d0, q1, q2⟩ := cdp_step h
    obtain ⟨a1, a2⟩ := cdp_evd n d0 q1
    have ih := evs_ind (fa := fa) (s := s) (s' := s') n d0 q1
    obtain ⟨b1, b2, b3, b4⟩ := cpk_ed q2
    show ev1 fa (f n) (evd f n) (evs fa f s n) k = ev1 fa (f n) (evd f n) (evs fa f s' n) k
    rw [a1]
    unfold ed1 at b1
    unfold ev1
    by_cases c1 : (f n).toInt < 0
    · rw [if_pos c1, if_pos c1]
      unfold upd
      by_cases e : k = d0
      · rw [if_pos e, if_pos e]
      · rw [if_neg e, if_neg e]
        exact ih k (by omega)
    · rw [if_neg c1, if_neg c1]
      by_cases c2 : (f n).toInt < 6
      · rw [if_pos c2, if_pos c2]
        unfold upd
        by_cases e : k = d0
        · rw [if_pos e, if_pos e]
        · rw [if_neg e, if_neg e]
          exact ih k (by omega)
      · rw [if_neg c2, if_neg c2]
        have d1 := b3 c2
        rw [if_neg c2] at b1
        by_cases c3 : (f n).toInt = 13
        · rw [if_pos c3, if_pos c3, ih (d0 - 1) (by omega)]
          rw [if_pos (Or.inl c3)] at b1
          unfold upd
          by_cases e : k = d0 - 1
          · rw [if_pos e, if_pos e]
          · rw [if_neg e, if_neg e]
            exact ih k (by omega)
        · rw [if_neg c3, if_neg c3]
          by_cases c4 : (f n).toInt = 14
          · rw [if_pos c4, if_pos c4, ih (d0 - 1) (by omega)]
            rw [if_pos (Or.inr c4)] at b1
            unfold upd
            by_cases e : k = d0 - 1
            · rw [if_pos e, if_pos e]
            · rw [if_neg e, if_neg e]
              exact ih k (by omega)
          · have d2 := b4 c2 c3 c4
            rw [if_neg (by omega)] at b1
            rw [if_neg c4, if_neg c4, ih (d0 - 1) (by omega), ih (d0 - 2) (by omega)]
            unfold upd
            by_cases e : k = d0 - 2
            · rw [if_pos e, if_pos e]
            · rw [if_neg e, if_neg e]
              exact ih k (by omega)
theorem ev1_fa {fa fb s : Nat → Int32} {c : Int32} {d : Nat} (h : ∀ k, k < 6 → fa k = fb k) : ev1 fa c d s = ev1 fb c d s := by
  unfold ev1
  by_cases c1 : c.toInt < 0
  · rw [if_pos c1, if_pos c1]
  · rw [if_neg c1, if_neg c1]
    by_cases c2 : c.toInt < 6
    · rw [if_pos c2, if_pos c2, h (cn c) (by have := cn_int (x := c) (by omega); omega)]
    · rw [if_neg c2, if_neg c2]
theorem evs_fa {fa fb f s : Nat → Int32} (h : ∀ k, k < 6 → fa k = fb k) : ∀ n, evs fa f s n = evs fb f s n
  | 0 => rfl
  | n + 1 => by
    show ev1 fa (f n) (evd f n) (evs fa f s n) = ev1 fb (f n) (evd f n) (evs fb f s n)
    rw [evs_fa h n, ev1_fa h]
theorem evv_fa {fa fb f : Nat → Int32} (h : ∀ k, k < 6 → fa k = fb k) (n : Nat) : evv fa f n = evv fb f n := by
  unfold evv
  rw [evs_fa h]
theorem cdp_f {f g : Nat → Int32} : ∀ (n : Nat), (∀ k, k < n → f k = g k) → cdp f n = cdp g n ∧ evd f n = evd g n
  | 0, _ => ⟨rfl, rfl⟩
  | n + 1, h => by
    obtain ⟨i1, i2⟩ := cdp_f n (fun k hk => h k (by omega))
    refine ⟨?_, ?_⟩
    · show (cdp f n).bind (cpk (f n)) = (cdp g n).bind (cpk (g n))
      rw [i1, h n (by omega)]
    · show ed1 (f n) (evd f n) = ed1 (g n) (evd g n)
      rw [i2, h n (by omega)]
theorem evs_f {fa f g s : Nat → Int32} : ∀ (n : Nat), (∀ k, k < n → f k = g k) → evs fa f s n = evs fa g s n
  | 0, _ => rfl
  | n + 1, h => by
    show ev1 fa (f n) (evd f n) (evs fa f s n) = ev1 fa (g n) (evd g n) (evs fa g s n)
    rw [evs_f n (fun k hk => h k (by omega)), (cdp_f n (fun k hk => h k (by omega))).2, h n (by omega)]
theorem evv_f {fa f g : Nat → Int32} {n : Nat} (h : ∀ k, k < n → f k = g k) : evv fa f n = evv fa g n := by
  unfold evv
  rw [evs_f n h]
theorem e_done (c a b : Int32) : f_X11_done c a b = some (evo c a b) := by
  unfold f_X11_done evo
  repeat' split
  all_goals first | rfl | omega
/-- the class's codes as the reference has them -/
theorem i_n1c (c : Int32) (h : -2147483647 ≤ c.toInt) : (-1 - c).toInt = -1 - c.toInt := by
  have h2 := Int32.toInt_lt c
  exact i_sub (by rw [kt_m1]; omega) (by rw [kt_m1]; omega)
theorem i_mm (c : Int32) : -1 - (-1 - c) = c := by
  rw [Int32.sub_eq_add_neg, Int32.neg_sub, Int32.sub_eq_add_neg, Int32.add_comm, Int32.add_assoc, show - (-1 : Int32) + -1 = 0 by decide, Int32.add_zero]
theorem trc_n {c : Int32} (h : -6 ≤ c.toInt) : trc c = -1 - c := by
  unfold trc
  exact if_pos (Int32.le_iff_toInt_le.mpr (by rw [show (-6 : Int32).toInt = -6 from rfl]; exact h))
theorem trc_o {c : Int32} (h : c.toInt < -6) : trc c = if c = -16 then 12 else if c = -17 then 11 else if c = -18 then 13 else if c = -9 then 14 else if c = -60 then 9 else if c = -61 then 10 else if c = -43 then 6 else if c = -45 then 7 else 8 := by
  unfold trc
  exact if_neg (fun z => by have := Int32.le_iff_toInt_le.mp z; have e : (-6 : Int32).toInt = -6 := rfl; omega)
theorem e_joined {c : Int32} (a b : Int32) (h : c.toInt < -6) (h1 : ¬ c = -18) (h2 : ¬ c = -9) : f_X0_joined c a b = some (evo (trc c) a b) ∧ 6 ≤ (trc c).toInt ∧ ¬ (trc c).toInt = 13 ∧ ¬ (trc c).toInt = 14 := by
  by_cases e1 : c = -61
  · rw [e1, show trc (-61) = 10 by decide]
    refine ⟨?_, by decide, by decide, by decide⟩
    unfold f_X0_joined evo
    rw [if_pos (show Int32.toInt (-61) = -61 by decide), if_neg (show ¬ Int32.toInt 10 = 6 by decide), if_neg (show ¬ Int32.toInt 10 = 7 by decide), if_neg (show ¬ Int32.toInt 10 = 8 by decide), if_neg (show ¬ Int32.toInt 10 = 9 by decide), if_pos (show Int32.toInt 10 = 10 by decide)]
    split <;> rfl
  by_cases e2 : c = -60
  · rw [e2, show trc (-60) = 9 by decide]
    refine ⟨?_, by decide, by decide, by decide⟩
    unfold f_X0_joined evo
    rw [if_neg (show ¬ Int32.toInt (-60) = -61 by decide), if_pos (show Int32.toInt (-60) = -60 by decide), if_neg (show ¬ Int32.toInt 9 = 6 by decide), if_neg (show ¬ Int32.toInt 9 = 7 by decide), if_neg (show ¬ Int32.toInt 9 = 8 by decide), if_pos (show Int32.toInt 9 = 9 by decide)]
    split <;> rfl
  by_cases e3 : c = -45
  · rw [e3, show trc (-45) = 7 by decide]
    refine ⟨?_, by decide, by decide, by decide⟩
    unfold f_X0_joined evo
    rw [if_neg (show ¬ Int32.toInt (-45) = -61 by decide), if_neg (show ¬ Int32.toInt (-45) = -60 by decide), if_pos (show Int32.toInt (-45) = -45 by decide), if_neg (show ¬ Int32.toInt 7 = 6 by decide), if_pos (show Int32.toInt 7 = 7 by decide)]
  by_cases e4 : c = -43
  · rw [e4, show trc (-43) = 6 by decide]
    refine ⟨?_, by decide, by decide, by decide⟩
    unfold f_X0_joined evo
    rw [if_neg (show ¬ Int32.toInt (-43) = -61 by decide), if_neg (show ¬ Int32.toInt (-43) = -60 by decide), if_neg (show ¬ Int32.toInt (-43) = -45 by decide), if_pos (show Int32.toInt (-43) = -43 by decide), if_pos (show Int32.toInt 6 = 6 by decide)]
  by_cases e5 : c = -17
  · rw [e5, show trc (-17) = 11 by decide]
    refine ⟨?_, by decide, by decide, by decide⟩
    unfold f_X0_joined evo
    rw [if_neg (show ¬ Int32.toInt (-17) = -61 by decide), if_neg (show ¬ Int32.toInt (-17) = -60 by decide), if_neg (show ¬ Int32.toInt (-17) = -45 by decide), if_neg (show ¬ Int32.toInt (-17) = -43 by decide), if_pos (show Int32.toInt (-17) = -17 by decide), if_neg (show ¬ Int32.toInt 11 = 6 by decide), if_neg (show ¬ Int32.toInt 11 = 7 by decide), if_neg (show ¬ Int32.toInt 11 = 8 by decide), if_neg (show ¬ Int32.toInt 11 = 9 by decide), if_neg (show ¬ Int32.toInt 11 = 10 by decide), if_pos (show Int32.toInt 11 = 11 by decide)]
    (repeat' split) <;> rfl
  by_cases e6 : c = -16
  · rw [e6, show trc (-16) = 12 by decide]
    refine ⟨?_, by decide, by decide, by decide⟩
    unfold f_X0_joined evo
    rw [if_neg (show ¬ Int32.toInt (-16) = -61 by decide), if_neg (show ¬ Int32.toInt (-16) = -60 by decide), if_neg (show ¬ Int32.toInt (-16) = -45 by decide), if_neg (show ¬ Int32.toInt (-16) = -43 by decide), if_neg (show ¬ Int32.toInt (-16) = -17 by decide), if_pos (show Int32.toInt (-16) = -16 by decide), if_neg (show ¬ Int32.toInt 12 = 6 by decide), if_neg (show ¬ Int32.toInt 12 = 7 by decide), if_neg (show ¬ Int32.toInt 12 = 8 by decide), if_neg (show ¬ Int32.toInt 12 = 9 by decide), if_neg (show ¬ Int32.toInt 12 = 10 by decide), if_neg (show ¬ Int32.toInt 12 = 11 by decide)]
    (repeat' split) <;> rfl
  have et : trc c = 8 := by rw [trc_o h, if_neg e6, if_neg e5, if_neg h1, if_neg h2, if_neg e2, if_neg e1, if_neg e4, if_neg e3]
  rw [et]
  refine ⟨?_, by decide, by decide, by decide⟩
  have ne : ∀ (n : Int) (y : Int32), y.toInt = n → ¬ c = y → ¬ c.toInt = n := fun n y q1 q2 z => q2 (Int32.toInt_inj.mp (z.trans q1.symm))
  unfold f_X0_joined evo
  rw [if_neg (ne (-61) (-61) (by decide) e1), if_neg (ne (-60) (-60) (by decide) e2), if_neg (ne (-45) (-45) (by decide) e3), if_neg (ne (-43) (-43) (by decide) e4), if_neg (ne (-17) (-17) (by decide) e5), if_neg (ne (-16) (-16) (by decide) e6), if_neg (show ¬ Int32.toInt 8 = 6 by decide), if_neg (show ¬ Int32.toInt 8 = 7 by decide), if_pos (show Int32.toInt 8 = 8 by decide)]
