/-! ===== what is foreseen: the class; the hour from which on nothing counts ===== -/
theorem lpp2_R {γ : Type} {B : (Int32 → Int32 → Option γ) → Int32 → Int32 → Option γ} (N : Nat) (hN : N < 50000) (P : Nat → Int32 → Prop) (Fin : γ → Prop) (hs : ∀ (k : Int32 → Int32 → Option γ) (x i : Int32) (n : Nat), i.toInt = (n : Int) → n < N → P n x → ∃ x', P (n + 1) x' ∧ B k x i = k x' (i + 1)) (he : ∀ (k : Int32 → Int32 → Option γ) (x i : Int32), i.toInt = (N : Int) → P N x → ∃ r, Fin r ∧ B k x i = some r) : ∀ (m : Nat) (x i : Int32) (n : Nat), i.toInt = (n : Int) → n ≤ N → N < n + m → P n x → ∃ r, Fin r ∧ lpp2 B m x i = some r
  | 0, _, _, _, _, h1, h2, _ => absurd h2 (by omega)
  | m + 1, x, i, n, hi, h1, h2, hp => by
    show ∃ r, Fin r ∧ B (lpp2 B m) x i = some r
    by_cases c : n < N
    · obtain ⟨x', q1, q2⟩ := hs (lpp2 B m) x i n hi c hp
      rw [q2]
      exact lpp2_R N hN P Fin hs he m x' (i + 1) (n + 1) (by have := (i_p1 (N := 50000) (x := i) (by omega) (by omega) (by omega)).1; omega) (by omega) (by omega) q1
    · have e : n = N := by omega
      subst e
      exact he _ x i hi hp
theorem e_wetXH {f : Nat} {I : fc_I} {x t h : Int32} (hx : 0 ≤ x.toInt ∧ x.toInt < 6) (ht : 0 ≤ t.toInt ∧ t.toInt ≤ 2) (hh : 0 ≤ h.toInt ∧ h.toInt ≤ 60) : (wetH (aX f I) t (cn h) (cn x) → f_X4_isWet I x t h = some 1) ∧ (¬ wetH (aX f I) t (cn h) (cn x) → f_X4_isWet I x t h = some 0) := by
  have e1 : aX f I 1 (cn x) = I 2 (cn x) := rfl
  have e2 := (wi_X (f := f) (I := I) ht hh).2
  rw [e_wetX, fq_gp ⟨ht.1, by omega⟩, fq_gp ⟨hh.1, by omega⟩, fq_gp ⟨hx.1, by omega⟩]
  unfold wetH
  rw [e1, e2]
  exact ⟨fun c => by rw [if_pos c], fun c => by rw [if_neg c]⟩
/-- wet from an hour on till the end -/
def wetF (A : fc_I) (t : Int32) (h e z : Nat) : Prop := ∀ k, h ≤ k → k ≤ e → wetH A t k z
theorem e_sett1 {I : fc_I} {t x z E : Int32} {k10 : Int32 → Int32 → Option Int32} (hz : 0 ≤ z.toInt ∧ z.toInt < 6) (ht : 0 ≤ t.toInt ∧ t.toInt ≤ 2) (hx : 0 ≤ x.toInt) (hE : E.toInt ≤ 60) : ∀ (m : Nat) (y : Int32), x.toInt ≤ y.toInt → y.toInt ≤ E.toInt → (y.toInt - x.toInt).toNat < m → wetF (aX 45 I) t (cn y) (cn E) (cn z) → ∃ y', (x.toInt ≤ y'.toInt ∧ y'.toInt ≤ E.toInt ∧ wetF (aX 45 I) t (cn y') (cn E) (cn z)) ∧ lpp1 (f_X3_settled_49_B I t x z k10) m y = k10 y' (z + 1)
  | 0, _, _, _, h, _ => absurd h (by omega)
  | m + 1, y, h1, h2, h3, h4 => by
    obtain ⟨m1, m2, m3⟩ := imax_le (x := x) (y := y)
    have em : imax x y = y := Int32.toInt_inj.mp (by omega)
    show ∃ y', _ ∧ f_X3_settled_49_B I t x z k10 (lpp1 (f_X3_settled_49_B I t x z k10) m) y = k10 y' (z + 1)
    unfold f_X3_settled_49_B
    simp only [fq_l]
    rw [em]
    by_cases c : x.toInt < y.toInt
    · have ey := cn_int (x := y) (by omega)
      have eE := cn_int (x := E) (by omega)
      obtain ⟨y1, y2⟩ := i_m1' (x := y) (d := cn y) ey.symm (by omega)
      obtain ⟨y3, y4⟩ := i_pm1 (x := y) (d := cn y) ey.symm (by omega)
      rw [if_pos c]
      generalize y - 1 = u at *
      generalize y + (-1) = v at *
      obtain ⟨q1, q2⟩ := e_wetXH (f := 45) (I := I) (x := z) (t := t) (h := u) hz ht ⟨by omega, by omega⟩
      by_cases d : wetH (aX 45 I) t (cn u) (cn z)
      · rw [q1 d, fq_vsome, if_neg (by decide)]
        refine e_sett1 hz ht hx hE m v (by omega) (by omega) (by omega) (fun k a b => ?_)
        by_cases e : k = cn u
        · rw [e]
          exact d
        · exact h4 k (by omega) b
      · rw [q2 d, fq_vsome, if_pos (by rfl)]
        exact ⟨y, ⟨h1, h2, h4⟩, rfl⟩
    · rw [if_neg c]
      exact ⟨y, ⟨h1, h2, h4⟩, rfl⟩
theorem e_settled {I : fc_I} {t : Int32} (hw : Wh (aX 45 I)) (ht : 0 ≤ t.toInt ∧ t.toInt ≤ 2) : ∃ u, ((I 45 9).toInt ≤ u.toInt ∧ u.toInt ≤ (I 15 11).toInt ∧ ∀ z, z < cn (I 1 2) → wetH (aX 45 I) t (cn (I 15 11)) z → wetF (aX 45 I) t (cn u) (cn (I 15 11)) z) ∧ f_X3_settled I t = some u := by
  obtain ⟨⟨w1, w2, w3, w4⟩, ⟨w5, w6⟩, _⟩ := hw.1
  rw [show aX 45 I 0 0 = I 45 9 from rfl] at w1 w2
  rw [show aX 45 I 0 1 = I 15 11 from rfl] at w2 w3 w4
  rw [show aX 45 I 0 2 = I 1 2 from rfl] at w5 w6
  have ez := cn_int w5
  have eE := cn_int (x := I 15 11) (by omega)
  refine lpp2_R (B := f_X3_settled_10_B I t) (cn (I 1 2)) (by omega) (fun n x => (I 45 9).toInt ≤ x.toInt ∧ x.toInt ≤ (I 15 11).toInt ∧ ∀ z, z < n → wetH (aX 45 I) t (cn (I 15 11)) z → wetF (aX 45 I) t (cn x) (cn (I 15 11)) z) _ (fun k x i n hi hn hP => ?_) (fun k x i hi hP => ?_) 4000 (I 45 9) 0 0 kt_0 (by omega) (by omega) ⟨Int.le_refl _, w2, fun z hz => absurd hz (by omega)⟩
  · obtain ⟨p1, p2, p3⟩ := hP
    have ec : cn i = n := cn_eq hi
    have ex := cn_int (x := x) (by omega)
    unfold f_X3_settled_10_B
    simp only [fq_l]
    rw [if_pos (by omega)]
    obtain ⟨q1, q2⟩ := e_wetXH (f := 45) (I := I) (x := i) (t := t) (h := I 15 11) ⟨by omega, by omega⟩ ht ⟨by omega, by omega⟩
    rw [ec] at q1 q2
    by_cases d : wetH (aX 45 I) t (cn (I 15 11)) n
    · rw [q1 d, fq_vsome, if_neg (by decide)]
      obtain ⟨y', ⟨a1, a2, a3⟩, a4⟩ := e_sett1 (I := I) (t := t) (x := x) (z := i) (E := I 15 11) (k10 := k) ⟨by omega, by omega⟩ ht (by omega) w4 4000 (I 15 11) p2 (Int.le_refl _) (by omega) (fun q h1 h2 => by
        rw [ec, show q = cn (I 15 11) by omega]
        exact d)
      refine ⟨y', ⟨by omega, a2, fun z hz hwet => ?_⟩, a4⟩
      rw [ec] at a3
      by_cases e : z = n
      · rw [e]
        exact a3
      · have ey := cn_int (x := y') (by omega)
        exact fun q h1 h2 => p3 z (by omega) hwet q (by omega) h2
    · rw [q2 d, fq_vsome, if_pos (by rfl)]
      refine ⟨x, ⟨p1, p2, fun z hz hwet => ?_⟩, rfl⟩
      by_cases e : z = n
      · rw [e] at hwet
        exact absurd hwet d
      · exact p3 z (by omega) hwet
  · unfold f_X3_settled_10_B
    rw [if_neg (by omega)]
    exact ⟨x, hP, rfl⟩
theorem wg_A {f : Nat} {I : fc_I} {t h : Int32} (ht : 0 ≤ t.toInt ∧ t.toInt ≤ 2) (hh : 0 ≤ h.toInt ∧ h.toInt ≤ 60) : wg f I t h = wgA (aX f I) t h := by
  funext z
  unfold wg wgA
  rw [(wi_X (f := f) (I := I) ht hh).2]
  rfl
/-- a copy of the folk -/
theorem e_become {I : fc_I} : ∃ J, f_X2_become I = some J ∧ (∀ c, ¬ (58 ≤ c ∧ c ≤ 66) → J c = I c) ∧ (∀ i k, i < 4 → k < 6 → J (59 + i) k = I (46 + i) k) ∧ (∀ i k, i < 2 → k < 3 → J (63 + i) k = I (50 + i) k) ∧ (∀ i k, i < 2 → k < 4 → J (65 + i) k = I (52 + i) k) ∧ J 58 8 = I 45 8 ∧ J 58 9 = I 45 9 := by
  have k0 : cn (0 : Int32) = 0 := rfl
  have k6 : cn (6 : Int32) = 6 := rfl
  have k3 : cn (3 : Int32) = 3 := rfl
  have k4 : cn (4 : Int32) = 4 := rfl
  have g6 : ∀ x : Option fc_I, fq_c 6 6 0 0 6 x = x := fun x => fq_cp ⟨by decide, by decide, by decide, by decide, by decide⟩
  have g3 : ∀ x : Option fc_I, fq_c 3 3 0 0 3 x = x := fun x => fq_cp ⟨by decide, by decide, by decide, by decide, by decide⟩
  have g4 : ∀ x : Option fc_I, fq_c 4 4 0 0 4 x = x := fun x => fq_cp ⟨by decide, by decide, by decide, by decide, by decide⟩
  have cpo : ∀ (X : fc_I) (a b n c : Nat), c ≠ b → fc_cpI X a b 0 0 n c = X c := fun X a b n c h => by
    funext k
    unfold fc_cpI
    rw [if_neg h]
  have cpi : ∀ (X : fc_I) (a b n k : Nat), k < n → fc_cpI X a b 0 0 n b k = X a k := fun X a b n k h => by
    unfold fc_cpI va_cpy
    rw [if_pos rfl, if_pos ⟨by omega, by omega⟩, show 0 + (k - 0) = k by omega]
  unfold f_X2_become
  simp only [fq_l, g6, g3, g4, k0, k6, k3, k4]
  refine ⟨_, rfl, fun c hc => ?_, fun i k hi hk => ?_, fun i k hi hk => ?_, fun i k hi hk => ?_, ?_, ?_⟩
  · rw [fc_wI_lo (by omega), fc_wI_lo (by omega), cpo _ _ _ _ _ (by omega), cpo _ _ _ _ _ (by omega), cpo _ _ _ _ _ (by omega), cpo _ _ _ _ _ (by omega), cpo _ _ _ _ _ (by omega), cpo _ _ _ _ _ (by omega), cpo _ _ _ _ _ (by omega), cpo _ _ _ _ _ (by omega)]
  · rw [fc_wI_lo (by omega), fc_wI_lo (by omega), cpo _ _ _ _ _ (by omega), cpo _ _ _ _ _ (by omega), cpo _ _ _ _ _ (by omega), cpo _ _ _ _ _ (by omega)]
    rcases (show i = 0 ∨ i = 1 ∨ i = 2 ∨ i = 3 by omega) with rfl | rfl | rfl | rfl
    · rw [cpo _ _ _ _ _ (by decide), cpo _ _ _ _ _ (by decide), cpo _ _ _ _ _ (by decide), cpi _ _ _ _ _ hk]
    · rw [cpo _ _ _ _ _ (by decide), cpo _ _ _ _ _ (by decide), cpi _ _ _ _ _ hk, cpo _ _ _ _ _ (by decide)]
    · rw [cpo _ _ _ _ _ (by decide), cpi _ _ _ _ _ hk, cpo _ _ _ _ _ (by decide), cpo _ _ _ _ _ (by decide)]
    · rw [cpi _ _ _ _ _ hk, cpo _ _ _ _ _ (by decide), cpo _ _ _ _ _ (by decide), cpo _ _ _ _ _ (by decide)]
  · rw [fc_wI_lo (by omega), fc_wI_lo (by omega), cpo _ _ _ _ _ (by omega), cpo _ _ _ _ _ (by omega)]
    rcases (show i = 0 ∨ i = 1 by omega) with rfl | rfl
    · rw [cpo _ _ _ _ _ (by decide), cpi _ _ _ _ _ hk, cpo _ _ _ _ _ (by decide), cpo _ _ _ _ _ (by decide), cpo _ _ _ _ _ (by decide), cpo _ _ _ _ _ (by decide)]
    · rw [cpi _ _ _ _ _ hk, cpo _ _ _ _ _ (by decide), cpo _ _ _ _ _ (by decide), cpo _ _ _ _ _ (by decide), cpo _ _ _ _ _ (by decide), cpo _ _ _ _ _ (by decide)]
  · rw [fc_wI_lo (by omega), fc_wI_lo (by omega)]
    rcases (show i = 0 ∨ i = 1 by omega) with rfl | rfl
    · rw [cpo _ _ _ _ _ (by decide), cpi _ _ _ _ _ hk, cpo _ _ _ _ _ (by decide), cpo _ _ _ _ _ (by decide), cpo _ _ _ _ _ (by decide), cpo _ _ _ _ _ (by decide), cpo _ _ _ _ _ (by decide), cpo _ _ _ _ _ (by decide)]
    · rw [cpi _ _ _ _ _ hk, cpo _ _ _ _ _ (by decide), cpo _ _ _ _ _ (by decide), cpo _ _ _ _ _ (by decide), cpo _ _ _ _ _ (by decide), cpo _ _ _ _ _ (by decide), cpo _ _ _ _ _ (by decide), cpo _ _ _ _ _ (by decide)]
  · rw [fc_wI_at, if_neg (by decide), fc_wI_at, if_pos rfl]
    simp only [cpo _ _ _ _ 45 (show (45 : Nat) ≠ 59 by decide), cpo _ _ _ _ 45 (show (45 : Nat) ≠ 60 by decide), cpo _ _ _ _ 45 (show (45 : Nat) ≠ 61 by decide), cpo _ _ _ _ 45 (show (45 : Nat) ≠ 62 by decide), cpo _ _ _ _ 45 (show (45 : Nat) ≠ 63 by decide), cpo _ _ _ _ 45 (show (45 : Nat) ≠ 64 by decide), cpo _ _ _ _ 45 (show (45 : Nat) ≠ 65 by decide), cpo _ _ _ _ 45 (show (45 : Nat) ≠ 66 by decide)]
  · rw [fc_wI_at, if_pos rfl, fc_wI_lo (by decide)]
    simp only [cpo _ _ _ _ 45 (show (45 : Nat) ≠ 59 by decide), cpo _ _ _ _ 45 (show (45 : Nat) ≠ 60 by decide), cpo _ _ _ _ 45 (show (45 : Nat) ≠ 61 by decide), cpo _ _ _ _ 45 (show (45 : Nat) ≠ 62 by decide), cpo _ _ _ _ 45 (show (45 : Nat) ≠ 63 by decide), cpo _ _ _ _ 45 (show (45 : Nat) ≠ 64 by decide), cpo _ _ _ _ 45 (show (45 : Nat) ≠ 65 by decide), cpo _ _ _ _ 45 (show (45 : Nat) ≠ 66 by decide)]
