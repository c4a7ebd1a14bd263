/-! ===== the search, the class ===== -/
theorem lpm2_KX {α γ : Type} {B : (α → Int32 → fc_I → Option γ) → α → Int32 → fc_I → Option γ} (N : Nat) (hN : N < 50000) (P : Nat → α → fc_I → Prop) (Q : α → fc_I → Prop) (G : α → fc_I → Option γ) (hs : ∀ (k : α → Int32 → fc_I → Option γ) (x : α) (i : Int32) (n : Nat) (J : fc_I), i.toInt = (n : Int) → n < N → P n x J → (∃ x' J', P (n + 1) x' J' ∧ B k x i J = k x' (i + 1) J') ∨ (Q x J ∧ B k x i J = G x J)) (he : ∀ (k : α → Int32 → fc_I → Option γ) (x : α) (i : Int32) (J : fc_I), i.toInt = (N : Int) → P N x J → Q x J ∧ B k x i J = G x J) : ∀ (m : Nat) (x : α) (i : Int32) (n : Nat) (J : fc_I), i.toInt = (n : Int) → n ≤ N → N < n + m → P n x J → ∃ x' J', Q x' J' ∧ lpm2 B m x i J = G x' J'
  | 0, _, _, _, _, _, h1, h2, _ => absurd h2 (by omega)
  | m + 1, x, i, n, J, hi, h1, h2, hp => by
    show ∃ x' J', Q x' J' ∧ B (lpm2 B m) x i J = G x' J'
    by_cases c : n < N
    · rcases hs (lpm2 B m) x i n J hi c hp with ⟨x', J', q1, q2⟩ | q
      · rw [q2]
        exact lpm2_KX N hN P Q G hs he m x' (i + 1) (n + 1) J' (by have := (i_p1 (N := 50000) (x := i) (by omega) (by omega) (by omega)).1; omega) (by omega) (by omega) q1
      · exact ⟨x, J, q⟩
    · have e : n = N := by omega
      subst e
      exact ⟨x, J, he _ x i J hi hp⟩
/-- the number that a way comes to -/
def Wv (A : fc_I) (x : Int32) (m w : Nat) : Int32 := wst (dW x m (zi w)) A 3
def okw (A : fc_I) (m w : Nat) : Prop := okI A (zi w) m m
def clw (m w : Nat) : Nat := clI (zi w) m m
/-- liked no less -/
def le3 (A : fc_I) (x : Int32) (m b w : Nat) : Prop := (Wv A x m b).toInt < (Wv A x m w).toInt ∨ (Wv A x m b).toInt = (Wv A x m w).toInt ∧ (clw m b < clw m w ∨ clw m b = clw m w ∧ b ≤ w)
/-- already gone through -/
def prc (m c w w' : Nat) : Prop := clw m w' < c ∨ clw m w' = c ∧ w' < w
def invS (I : fc_I) (x : Int32) (m c w : Nat) (l : Int32) (J : fc_I) : Prop := (∀ c, ¬ (c = 42 ∨ c = 55 ∨ c = 56 ∨ (58 ≤ c ∧ c ≤ 68)) → J c = I c) ∧ (∀ k, 6 ≤ k → J 68 k = I 68 k) ∧ (l = 1000000 ∧ (∀ w', w' < 4 ^ m → okw (aX 45 I) m w' → ¬ prc m c w w') ∨ ∃ b, b < 4 ^ m ∧ okw (aX 45 I) m b ∧ prc m c w b ∧ l = Wv (aX 45 I) x m b ∧ (∀ z, z < 6 → J 68 z = dW x m (zi b) z) ∧ ∀ w', w' < 4 ^ m → okw (aX 45 I) m w' → prc m c w w' → le3 (aX 45 I) x m b w')
theorem aX_68 {I J : fc_I} (h : ∀ c, ¬ (scY c ∨ c = 68) → J c = I c) : ∀ r, r ≠ 27 → aX 45 J r = aX 45 I r := fun r hr => by
  have e : aX 45 (fc_wI J 68 0 0) = aX 45 (fc_wI J 68 0 0) := rfl
  obtain ⟨K, hK⟩ : ∃ K : fc_I, K = stc J 68 (I 68) := ⟨_, rfl⟩
  have k1 : aX 45 K = aX 45 I := aX_scY (fun c hc => by
    rw [hK]
    by_cases q : c = 68
    · rw [q, stc_at]
    · rw [stc_ne q]
      exact h c (fun z => by rcases z with z | z; exact hc z; exact q z))
  have k2 : ∀ g : Nat → Int32, aX 45 (stc J 68 g) r = aX 45 J r := fun g => by
    have ew : aWa (stc J 68 g) = aWa J := by
      funext k; unfold aWa; by_cases hk : k < 183
      · rw [if_pos hk, if_pos hk, stc_ne (by omega)]
      · rw [if_neg hk, if_neg hk]
    have ev : aWi (stc J 68 g) = aWi J := by
      funext k; unfold aWi; by_cases hk : k < 183
      · rw [if_pos hk, if_pos hk, stc_ne (by omega)]
      · rw [if_neg hk, if_neg hk]
    have ei : aIt (stc J 68 g) = aIt J := by
      funext k; unfold aIt; rw [stc_ne (show 76 ≠ 68 by decide)]; by_cases hk : k < 160
      · rw [stc_ne (show 72 + k / 40 ≠ 68 by omega)]
      · simp [hk]
    have eL : aLen (stc J 68 g) = aLen J := by funext q; unfold aLen; rw [stc_ne (show 40 ≠ 68 by decide), stc_ne (show 41 ≠ 68 by decide)]
    have eB : aBeg (stc J 68 g) = aBeg J := by funext q; unfold aBeg; rw [stc_ne (show 40 ≠ 68 by decide)]
    have eC : aCo (stc J 68 g) = aCo J := by
      funext k; unfold aCo; rw [stc_ne (show 31 ≠ 68 by decide), eL, eB]; by_cases hk : k < 1920
      · rw [stc_ne (show 34 + k / 320 ≠ 68 by omega)]
      · simp [hk]
    have es : ∀ c, c ≠ 68 → stc J 68 g c = J c := fun c hc => stc_ne hc
    have key : aR 45 (stc J 68 g) = (aR 45 J).set 27 g := by
      unfold aR
      rw [ew, ev, ei, eC]
      unfold aS aTp aSz aCm
      rw [eL]
      simp only [Nat.reduceAdd, es 1 (by decide), es 2 (by decide), es 3 (by decide), es 4 (by decide), es 5 (by decide), es 6 (by decide), es 7 (by decide), es 8 (by decide), es 9 (by decide), es 10 (by decide), es 11 (by decide), es 12 (by decide), es 13 (by decide), es 14 (by decide), es 15 (by decide), es 16 (by decide), es 25 (by decide), es 26 (by decide), es 27 (by decide), es 28 (by decide), es 29 (by decide), es 30 (by decide), es 31 (by decide), es 32 (by decide), es 45 (by decide), es 46 (by decide), es 47 (by decide), es 48 (by decide), es 49 (by decide), es 50 (by decide), es 51 (by decide), es 52 (by decide), es 53 (by decide), es 76 (by decide), es 77 (by decide), stc_at]
      rfl
    unfold aX
    rw [key, List.getD_eq_getElem?_getD, List.getElem?_set_ne (fun z => hr z.symm), ← List.getD_eq_getElem?_getD]
  rw [← k1, hK, k2]
theorem agr_68 {I J : fc_I} (h : ∀ c, ¬ (scY c ∨ c = 68) → J c = I c) : Agr (aX 45 I) (aX 45 J) := fun r k hk => by rw [aX_68 h r hk.1.2]
set_option maxHeartbeats 4000000 in
theorem e_srch60 {I J0 : fc_I} {v m c : Nat} {l0 : Int32} {k51 : Int32 → Int32 → fc_I → Option (Int64 × fc_I)} (hw : Wh (aX 45 I)) (hl : WfL (aX 45 I)) (hm : m = kb (zi v) 6) (hm4 : m ≤ 4) (hc : c ≤ 5) (hs : ∀ z, z < 6 → bt (zi v) z = true → I 69 (kb (zi v) z) = zi z) (h0 : invS I (zi v) m c 0 l0 J0) (h69 : J0 69 = I 69) : ∃ l' J', (invS I (zi v) m (c + 1) 0 l' J' ∧ J' 69 = I 69) ∧ f_X3_search_60 (zi m) (zi c) k51 4000 l0 0 J0 = k51 l' (zi (c + 1)) J' := by
  obtain ⟨A, hA⟩ : ∃ A, A = aX 45 I := ⟨_, rfl⟩
  have a00 : A 0 0 = I 45 9 := by rw [hA]; rfl
  have a02 : A 0 2 = I 1 2 := by rw [hA]; rfl
  obtain ⟨x, hx⟩ : ∃ x, x = zi v := ⟨_, rfl⟩
  obtain ⟨M, hM⟩ : ∃ M, M = 4 ^ m := ⟨_, rfl⟩
  have M256 : M ≤ 256 := by
    rw [hM]
    exact Nat.le_trans (Nat.pow_le_pow_right (by omega) hm4) (by decide)
  have sh := shl_4 m (by omega)
  rw [← hM] at sh
  have hle : ∀ w, (Wv A x m w).toInt ≤ 605988 ∧ 0 ≤ (Wv A x m w).toInt := fun w => by
    have q := wst_b (D := dW x m (zi w)) (A := A) (by rw [hA]; exact hw) 3
    exact ⟨q.2, q.1⟩
  rw [← hx] at hm hs h0 ⊢
  have kM : (1000000 : Int32).toInt = 1000000 := rfl
  have em := zi_int (n := m) (by omega)
  have ecc := zi_int (n := c) (by omega)
  obtain ⟨l', J', q1, q2⟩ := lpm2_KX (B := f_X3_search_60_B (zi m) (zi c) k51) M (by omega) (fun w l J => invS I x m c w l J ∧ J 69 = I 69) (fun l J => invS I x m (c + 1) 0 l J ∧ J 69 = I 69) (fun l J => k51 l (zi (c + 1)) J) (fun k l i w J hi hw' hP => by
    obtain ⟨⟨p1, p2, p3⟩, p4⟩ := hP
    rw [← hA, ← hM] at p3
    have ei : i = zi w := zi_of hi (by omega)
    unfold f_X3_search_60_B
    simp only [fq_l]
    rw [sh, if_pos (by omega), zi_S (by omega)]
    by_cases l0 : 0 < l.toInt
    · refine Or.inl ?_
      rw [if_pos l0, ei]
      have jA : Agr A (aX 45 J) := by
        rw [hA]
        exact agr_68 (fun c hc => p1 c (fun z => hc (by unfold scY; omega)))
      have j5 : aX 45 J 5 = A 5 := by rw [hA, aX_68 (fun c hc => p1 c (fun z => hc (by unfold scY; omega))) 5 (by decide)]
      have j0 : aX 45 J 0 = A 0 := by rw [hA, aX_68 (fun c hc => p1 c (fun z => hc (by unfold scY; omega))) 0 (by decide)]
      have j20 : aX 45 J 20 = A 20 := by rw [hA, aX_68 (fun c hc => p1 c (fun z => hc (by unfold scY; omega))) 20 (by decide)]
      have jw : Wh (aX 45 J) := jA.wh (by rw [hA]; exact hw)
      obtain ⟨r, K, k1, k2, k3, k4⟩ := e_plan_X (I := J) (v := v) (m := m) (w := zi w) (by rw [← hx]; exact hm) hm4 (by
        have e : J 45 9 = A 0 0 := by rw [← j0]; rfl
        rw [e, hA]
        have := hw.1.1
        omega) (fun z hz hb => by rw [p4, ← hx]; exact hs z hz (by rw [hx]; exact hb))
      have ko : okI (aX 45 J) (zi w) m m = okw A m w := by
        unfold okw okI
        rw [j0]
      rw [ko, ← hx] at k3
      rw [ko] at k4
      rw [k1, fq_bsome]
      have cle := clI_le (w := zi w) (m := m) m
      have kfr : ∀ c, ¬ (c = 42 ∨ c = 55 ∨ c = 56 ∨ (58 ≤ c ∧ c ≤ 68)) → K c = I c := fun c hc => by rw [k2 c (by omega), p1 c hc]
      -- a way that isn't taken now
      have skip : ∀ K' : fc_I, (∀ c, ¬ (c = 42 ∨ c = 55 ∨ c = 56 ∨ (58 ≤ c ∧ c ≤ 67)) → K' c = K c) → (okw A m w → clw m w = c → (∃ b, b < M ∧ okw A m b ∧ prc m c w b ∧ l = Wv A x m b ∧ l.toInt ≤ (Wv A x m w).toInt)) → ∃ x' J', ((invS I x m c (w + 1) x' J') ∧ J' 69 = I 69) ∧ k l (zi w + 1) K' = k x' (zi w + 1) J' := fun K' hK' hsk => by
        refine ⟨l, K', ⟨⟨fun c hc => by rw [hK' c (by omega), kfr c hc], fun q hq => by rw [hK' 68 (by omega), k2 68 (by decide), p2 q hq], ?_⟩, by rw [hK' 69 (by omega), k2 69 (by decide), p4]⟩, rfl⟩
        rw [← hA, ← hM]
        have pe : ∀ w', w' ≠ w → (prc m c (w + 1) w' ↔ prc m c w w') := fun w' hne => by
          unfold prc
          omega
        rcases p3 with ⟨u1, u2⟩ | ⟨b, u1, u2, u3, u4, u5, u6⟩
        · refine Or.inl ⟨u1, fun w' h1 h2 h3 => ?_⟩
          by_cases e : w' = w
          · rw [e] at h2 h3
            have h3' : clw m w = c ∨ clw m w < c := by unfold prc at h3; omega
            rcases h3' with h3' | h3'
            · obtain ⟨b, b1, b2, b3, _⟩ := hsk h2 h3'
              exact u2 b b1 b2 b3
            · exact u2 w (by rw [← e]; exact h1) h2 (Or.inl h3')
          · exact u2 w' h1 h2 ((pe w' e).mp h3)
        · refine Or.inr ⟨b, u1, u2, ?_, u4, fun z hz => by rw [hK' 68 (by omega), k2 68 (by decide)]; exact u5 z hz, fun w' h1 h2 h3 => ?_⟩
          · unfold prc at u3 ⊢
            omega
          · by_cases e : w' = w
            · rw [e] at h2 h3 ⊢
              have h3' : clw m w = c ∨ clw m w < c := by unfold prc at h3; omega
              rcases h3' with h3' | h3'
              · obtain ⟨b', b1, b2, b3, b4, b5⟩ := hsk h2 h3'
                unfold le3
                rw [← u4]
                unfold prc at u3
                omega
              · exact u6 w (by rw [← e]; exact h1) h2 (Or.inl h3')
            · exact u6 w' h1 h2 ((pe w' e).mp h3)
      by_cases o : okw A m w
      · obtain ⟨o1, o2⟩ := k3 o
        have er : r.toInt = (clw m w : Int) := by
          rw [o1]
          exact zi_int (by omega)
        by_cases e : clw m w = c
        · rw [if_pos (by omega)]
          have kA : Agr (aX 45 J) (aX 45 K) ∧ aX 45 K = aX 45 J := by
            have q : aX 45 K = aX 45 J := aX_scY (fun c hc => k2 c (fun z => hc (by unfold scY; omega)))
            rw [q]
            exact ⟨fun _ _ _ => rfl, rfl⟩
          obtain ⟨r2, L, l1, l2, l3, l4⟩ := e_worstX (I := K) (l := l) (D := dW x m (zi w)) (by rw [kA.2]; exact jw) (by
            rw [kA.2]
            unfold WfL
            rw [j20, hA]
            exact hl) (fun z hz => by
            have e1 : K 1 = I 1 := kfr 1 (by omega)
            rw [e1, ← a02] at hz
            have := hw.1.2.1
            rw [hA] at hz
            exact o2 z (by omega)) (fun z _ => dW_b)
          have ew : wst (dW x m (zi w)) (aX 45 K) 3 = Wv A x m w := by
            rw [kA.2]
            exact wst_agr jA (by rw [hA]; exact hw) (fun z _ => by rw [j5]) 3
          rw [ew] at l3 l4
          rw [l1, fq_bsome]
          by_cases g : (Wv A x m w).toInt < l.toInt
          · have er2 := l3 g
            rw [er2, if_pos g]
            have g6 : ∀ y : Option (Int64 × fc_I), fq_c 6 6 0 0 6 y = y := fun y => fq_cp ⟨by decide, by decide, by decide, by decide, by decide⟩
            rw [g6]
            have c68 : ∀ z, z < 6 → fc_cpI L 67 68 (cn (0 : Int32)) (cn (0 : Int32)) (cn (6 : Int32)) 68 z = dW x m (zi w) z := fun z hz => by
              unfold fc_cpI va_cpy
              rw [if_pos rfl, show cn (0 : Int32) = 0 from rfl, show cn (6 : Int32) = 6 from rfl, if_pos ⟨by omega, by omega⟩, show 0 + (z - 0) = z by omega, l2 67 (by omega)]
              exact o2 z hz
            refine ⟨_, _, ⟨⟨fun c hc => ?_, fun q hq => ?_, ?_⟩, ?_⟩, rfl⟩
            · unfold fc_cpI
              rw [show (fun k => if c = 68 then va_cpy (L 67) (L 68) (cn (0 : Int32)) (cn (0 : Int32)) (cn (6 : Int32)) k else L c k) = L c from funext fun k => if_neg (by omega)]
              rw [l2 c (by omega), kfr c hc]
            · unfold fc_cpI va_cpy
              rw [if_pos rfl, show cn (0 : Int32) = 0 from rfl, show cn (6 : Int32) = 6 from rfl, if_neg (by omega), l2 68 (by omega), k2 68 (by decide), p2 q hq]
            · rw [← hA, ← hM]
              refine Or.inr ⟨w, hw', o, Or.inr ⟨e, by omega⟩, rfl, c68, fun w' h1 h2 h3 => ?_⟩
              by_cases ee : w' = w
              · rw [ee]
                exact Or.inr ⟨rfl, Or.inr ⟨rfl, Nat.le_refl _⟩⟩
              · have h3' : prc m c w w' := by unfold prc at h3 ⊢; omega
                rcases p3 with ⟨u1, u2⟩ | ⟨b, u1, u2, u3, u4, u5, u6⟩
                · exact absurd h3' (u2 w' h1 h2)
                · have q := u6 w' h1 h2 h3'
                  unfold le3 at q ⊢
                  rw [← u4] at q
                  omega
            · unfold fc_cpI
              rw [show (fun k => if (69 : Nat) = 68 then va_cpy (L 67) (L 68) (cn (0 : Int32)) (cn (0 : Int32)) (cn (6 : Int32)) k else L 69 k) = L 69 from funext fun k => if_neg (by decide)]
              rw [l2 69 (by omega), k2 69 (by decide), p4]
          · rw [if_neg (l4 g)]
            refine skip L (fun c hc => l2 c (by omega)) (fun _ _ => ?_)
            rcases p3 with ⟨u1, u2⟩ | ⟨b, u1, u2, u3, u4, u5, u6⟩
            · rw [u1, kM] at g
              have := hle w
              omega
            · exact ⟨b, u1, u2, u3, u4, by omega⟩
        · rw [if_neg (by omega)]
          exact skip K (fun _ _ => rfl) (fun _ h => absurd h e)
      · rw [k4 o, if_neg (by rw [show Int32.toInt (-1) = -1 from rfl]; omega)]
        exact skip K (fun _ _ => rfl) (fun h _ => absurd h o)
    · rw [if_neg l0]
      refine Or.inr ⟨⟨⟨p1, p2, ?_⟩, p4⟩, rfl⟩
      rw [← hA, ← hM]
      rcases p3 with ⟨u1, u2⟩ | ⟨b, u1, u2, u3, u4, u5, u6⟩
      · rw [u1, kM] at l0
        omega
      · refine Or.inr ⟨b, u1, u2, ?_, u4, u5, fun w' h1 h2 h3 => ?_⟩
        · unfold prc at u3 ⊢
          omega
        · by_cases q : prc m c w w'
          · exact u6 w' h1 h2 q
          · have := hle w'
            unfold le3
            rw [← u4]
            unfold prc at u3 q
            omega) (fun k l i J hi hP => by
    obtain ⟨⟨p1, p2, p3⟩, p4⟩ := hP
    rw [← hA, ← hM] at p3
    have pe : ∀ w', w' < M → (prc m (c + 1) 0 w' ↔ prc m c M w') := fun w' h => by
      unfold prc
      omega
    refine ⟨⟨⟨p1, p2, ?_⟩, p4⟩, ?_⟩
    · rw [← hA, ← hM]
      rcases p3 with ⟨u1, u2⟩ | ⟨b, u1, u2, u3, u4, u5, u6⟩
      · exact Or.inl ⟨u1, fun w' h1 h2 h3 => u2 w' h1 h2 ((pe w' h1).mp h3)⟩
      · exact Or.inr ⟨b, u1, u2, (pe b u1).mpr u3, u4, u5, fun w' h1 h2 h3 => u6 w' h1 h2 ((pe w' h1).mp h3)⟩
    · unfold f_X3_search_60_B
      simp only [fq_l]
      rw [sh, if_neg (by omega), zi_S (by omega)]) 4000 l0 0 0 J0 kt_0 (by omega) (by omega) ⟨h0, h69⟩
  exact ⟨l', J', q1, q2⟩
