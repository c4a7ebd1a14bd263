/-! ===== the search whole: the class; the reference's best ===== -/
/-- a way that is liked no less than any other -/
def bst (A : fc_I) (x : Int32) (m b : Nat) : Prop := b < 4 ^ m ∧ okw A m b ∧ ∀ w, w < 4 ^ m → okw A m w → le3 A x m b w
theorem bst_one {A : fc_I} {x : Int32} {m b b' : Nat} (h : bst A x m b) (h' : bst A x m b') : b = b' := by
  have q := h.2.2 b' h'.1 h'.2.1
  have r := h'.2.2 b h.1 h.2.1
  unfold le3 at q r
  omega
theorem ok_all {A : fc_I} {m : Nat} (hm : m ≤ 4) : 4 ^ m - 1 < 4 ^ m ∧ okw A m (4 ^ m - 1) ∧ clw m (4 ^ m - 1) ≤ m := by
  have h : 0 < 4 ^ m := Nat.pow_pos (by omega)
  refine ⟨by omega, fun i hi hn => ?_, clI_le m⟩
  exact absurd (by rw [stp_all m (by omega) i hi]; rfl) hn
set_option maxHeartbeats 4000000 in
theorem e_search {I : fc_I} {v m : Nat} (hw : Wh (aX 45 I)) (hl : WfL (aX 45 I)) (hm : m = kb (zi v) 6) (hm4 : m ≤ 4) (hv : v < 2 ^ cn (I 1 2)) : ∃ b J, bst (aX 45 I) (zi v) m b ∧ f_X3_search I (zi v) = some (Int32.toInt64 (Wv (aX 45 I) (zi v) m b), J) ∧ (∀ c, ¬ (c = 42 ∨ c = 55 ∨ c = 56 ∨ (58 ≤ c ∧ c ≤ 69)) → J c = I c) ∧ (∀ z, z < 6 → J 68 z = dW (zi v) m (zi b) z) ∧ ∀ k, 6 ≤ k → J 68 k = I 68 k := by
  have a02 : aX 45 I 0 2 = I 1 2 := rfl
  have z2 := hw.1.2.1
  rw [a02] at z2
  have ez := cn_int z2.1
  obtain ⟨x, hx⟩ : ∃ x, x = zi v := ⟨_, rfl⟩
  have ek : kb x 6 = kb x (cn (I 1 2)) := by
    rw [hx]
    exact kb_hi 6 (by omega) (fun z h1 h2 => bt_hi (cn (I 1 2)) (by omega) v hv z h2 h1)
  have hb6 : ∀ z, z < 6 → bt x z = true → z < cn (I 1 2) := fun z hz hb => by
    by_cases q : z < cn (I 1 2)
    · exact q
    · rw [hx, bt_hi (cn (I 1 2)) (by omega) v hv z hz (by omega)] at hb
      exact absurd hb (by decide)
  rw [← hx] at hm ⊢
  have kM : (1000000 : Int32).toInt = 1000000 := rfl
  -- behind the zones that are asked for
  have tail : ∀ K : fc_I, (∀ c, c ≠ 69 → K c = I c) → (∀ z, z < 6 → bt x z = true → K 69 (kb x z) = zi z) → ∃ q : Int64 × fc_I, (∃ b, bst (aX 45 I) x m b ∧ q.1 = Int32.toInt64 (Wv (aX 45 I) x m b) ∧ (∀ z, z < 6 → q.2 68 z = dW x m (zi b) z)) ∧ (∀ c, ¬ (c = 42 ∨ c = 55 ∨ c = 56 ∨ (58 ≤ c ∧ c ≤ 69)) → q.2 c = I c) ∧ (∀ k, 6 ≤ k → q.2 68 k = I 68 k) ∧ f_X3_search_51 (zi m) 4000 1000000 0 K = some q := fun K hK hK69 => by
    have kA : aX 45 K = aX 45 I := aX_scY (fun c hc => hK c (fun z => hc (by unfold scY; omega)))
    obtain ⟨r, h1, h2⟩ := lpm2_R (B := f_X3_search_51_B (zi m)) (m + 1) (by omega) (fun n l J => invS K x m n 0 l J ∧ J 69 = K 69) (fun q => (∃ b, bst (aX 45 I) x m b ∧ q.1 = Int32.toInt64 (Wv (aX 45 I) x m b) ∧ (∀ z, z < 6 → q.2 68 z = dW x m (zi b) z)) ∧ (∀ c, ¬ (c = 42 ∨ c = 55 ∨ c = 56 ∨ (58 ≤ c ∧ c ≤ 69)) → q.2 c = I c) ∧ ∀ k, 6 ≤ k → q.2 68 k = I 68 k) (fun k l i n J hi hn hP => by
      obtain ⟨p1, p2⟩ := hP
      have ei : i = zi n := zi_of hi (by omega)
      unfold f_X3_search_51_B
      rw [if_neg (by rw [zi_int (by omega)]; omega), ei]
      obtain ⟨l', J', q1, q2⟩ := e_srch60 (I := K) (J0 := J) (v := v) (m := m) (c := n) (l0 := l) (k51 := k) (by rw [kA]; exact hw) (by rw [kA]; exact hl) (by rw [← hx]; exact hm) hm4 (by omega) (by rw [← hx]; exact hK69) (by rw [← hx]; exact p1) p2
      rw [← hx] at q1
      exact ⟨l', J', q1, by rw [q2, zi_S (by omega)]⟩) (fun k l i J hi hP => by
      obtain ⟨⟨p1, p2, p3⟩, p4⟩ := hP
      rw [kA] at p3
      unfold f_X3_search_51_B
      rw [if_pos (by rw [zi_int (by omega)]; omega)]
      obtain ⟨a1, a2, a3⟩ := ok_all (A := aX 45 I) hm4
      have pr : ∀ w, w < 4 ^ m → prc m (m + 1) 0 w := fun w _ => Or.inl (by
        have := clI_le (w := zi w) (m := m) m
        unfold clw
        omega)
      rcases p3 with ⟨u1, u2⟩ | ⟨b, u1, u2, u3, u4, u5, u6⟩
      · exact absurd (pr _ a1) (u2 _ a1 a2)
      · refine ⟨(Int32.toInt64 l, J), ⟨⟨b, ⟨u1, u2, fun w h1 h2 => u6 w h1 h2 (pr w h1)⟩, by rw [u4], u5⟩, fun c hc => ?_, fun q hq => ?_⟩, rfl⟩
        · show J c = I c
          rw [p1 c (by omega), hK c (by omega)]
        · show J 68 q = I 68 q
          rw [p2 q hq, hK 68 (by decide)]) 4000 1000000 0 0 K kt_0 (by omega) (by omega) ⟨⟨fun _ _ => rfl, fun _ _ => rfl, Or.inl ⟨rfl, fun w' _ _ h3 => by unfold prc at h3; omega⟩⟩, rfl⟩
    exact ⟨r, h1.1, h1.2.1, h1.2.2, h2⟩
  obtain ⟨r, h1, h2⟩ := lpm2_R (B := f_X3_search_4_B x) (cn (I 1 2)) (by omega) (fun n c J => c = zi (kb x n) ∧ (∀ c, c ≠ 69 → J c = I c) ∧ ∀ z, z < n → bt x z = true → J 69 (kb x z) = zi z) (fun q => (∃ b, bst (aX 45 I) x m b ∧ q.1 = Int32.toInt64 (Wv (aX 45 I) x m b) ∧ (∀ z, z < 6 → q.2 68 z = dW x m (zi b) z)) ∧ (∀ c, ¬ (c = 42 ∨ c = 55 ∨ c = 56 ∨ (58 ≤ c ∧ c ≤ 69)) → q.2 c = I c) ∧ ∀ k, 6 ≤ k → q.2 68 k = I 68 k) (fun k c i n J hi hn hP => by
    obtain ⟨rfl, p2, p3⟩ := hP
    have ei : i = zi n := zi_of hi (by omega)
    have kn := kb_le (x := x) n
    have ekn : kb x (n + 1) = kb x n + (if bt x n = true then 1 else 0) := rfl
    have hb : (((x >>> (i &&& 31)) &&& 1).toInt = 1) = (bt x n = true) := by
      rw [ei]
      exact propext (decide_eq_true_iff).symm
    unfold f_X3_search_4_B
    simp only [fq_l, kt_1, kt_4, hb]
    rw [p2 1 (by decide), if_pos (by omega)]
    by_cases b : bt x n = true
    · have lt := kb_lt (x := x) b hn
      rw [← ek, ← hm] at lt
      have e1 := zi_int (n := kb x n) (by omega)
      rw [if_pos b] at ekn
      rw [if_pos b, if_pos (by omega), fq_gp ⟨by omega, by omega⟩, zi_cn (by omega), zi_S (by omega)]
      refine ⟨_, _, ⟨by rw [ekn], fun c hc => by rw [fc_wI_lo hc, p2 c hc], fun z hz hbz => ?_⟩, rfl⟩
      rw [fc_wI_at]
      by_cases e : z = n
      · rw [e, if_pos rfl, ei]
      · rw [if_neg (fun q => e (kb_inj hbz b q))]
        exact p3 z (by omega) hbz
    · have ekn : kb x (n + 1) = kb x n := by rw [ekn, if_neg b]; rfl
      rw [if_neg b]
      refine ⟨_, _, ⟨by rw [ekn], p2, fun z hz hbz => ?_⟩, rfl⟩
      by_cases e : z = n
      · rw [e] at hbz
        exact absurd hbz b
      · exact p3 z (by omega) hbz) (fun k c i J hi hP => by
    obtain ⟨rfl, p2, p3⟩ := hP
    unfold f_X3_search_4_B
    rw [p2 1 (by decide), if_neg (by omega), ← ek, ← hm]
    obtain ⟨q, q1, q2, q3, q4⟩ := tail J p2 (fun z hz hb => p3 z (hb6 z hz hb) hb)
    exact ⟨q, ⟨q1, q2, q3⟩, q4⟩) 4000 0 0 0 I kt_0 (by omega) (by omega) ⟨rfl, fun _ _ => rfl, fun z hz => absurd hz (by omega)⟩
  obtain ⟨⟨b, b1, b2, b3⟩, r2, r3⟩ := h1
  refine ⟨b, r.2, b1, ?_, r2, b3, r3⟩
  rw [← b2]
  exact h2
theorem lpm4_R {α β δ γ : Type} {B : (α → β → δ → Int32 → fc_I → Option γ) → α → β → δ → Int32 → fc_I → Option γ} (N : Nat) (hN : N < 50000) (P : Nat → α → β → δ → fc_I → Prop) (Fin : γ → Prop) (hs : ∀ (k : α → β → δ → Int32 → fc_I → Option γ) (x : α) (y : β) (u : δ) (i : Int32) (n : Nat) (J : fc_I), i.toInt = (n : Int) → n < N → P n x y u J → ∃ x' y' u' J', P (n + 1) x' y' u' J' ∧ B k x y u i J = k x' y' u' (i + 1) J') (he : ∀ (k : α → β → δ → Int32 → fc_I → Option γ) (x : α) (y : β) (u : δ) (i : Int32) (J : fc_I), i.toInt = (N : Int) → P N x y u J → ∃ r, Fin r ∧ B k x y u i J = some r) : ∀ (m : Nat) (x : α) (y : β) (u : δ) (i : Int32) (n : Nat) (J : fc_I), i.toInt = (n : Int) → n ≤ N → N < n + m → P n x y u J → ∃ r, Fin r ∧ lpm4 B m x y u i J = some r
  | 0, _, _, _, _, _, _, _, h1, h2, _ => absurd h2 (by omega)
  | m + 1, x, y, u, i, n, J, hi, h1, h2, hp => by
    show ∃ r, Fin r ∧ B (lpm4 B m) x y u i J = some r
    by_cases c : n < N
    · obtain ⟨x', y', u', J', q1, q2⟩ := hs (lpm4 B m) x y u i n J hi c hp
      rw [q2]
      exact lpm4_R N hN P Fin hs he m x' y' u' (i + 1) (n + 1) J' (by have := (i_p1 (N := 50000) (x := i) (by omega) (by omega) (by omega)).1; omega) (by omega) (by omega) q1
    · have e : n = N := by omega
      subst e
      exact he _ x y u i J hi hp
theorem e_117 {I : fc_I} {y : Int32} {D : Nat → Int32} (hD : ∀ z, z < 6 → I 125 z = D z) : ∃ J, f_X11_best_117 y 4000 0 I = some (Int32.toInt64 y, J) ∧ (∀ c, c ≠ 126 → J c = I c) ∧ (∀ z, z < 6 → J 126 z = D z) ∧ ∀ k, 6 ≤ k → J 126 k = I 126 k := by
  obtain ⟨r, h1, h2⟩ := lpm1_R (B := f_X11_best_117_B y) 6 (by omega) (fun n J => (∀ c, c ≠ 126 → J c = I c) ∧ (∀ z, z < n → J 126 z = D z) ∧ ∀ k, n ≤ k → J 126 k = I 126 k) (fun q => q.1 = Int32.toInt64 y ∧ (∀ c, c ≠ 126 → q.2 c = I c) ∧ (∀ z, z < 6 → q.2 126 z = D z) ∧ ∀ k, 6 ≤ k → q.2 126 k = I 126 k) (fun k i n J hi hn hP => by
    obtain ⟨p1, p2, p3⟩ := hP
    have ec : cn i = n := cn_eq hi
    unfold f_X11_best_117_B
    simp only [fq_l, kt_6]
    rw [if_pos (by omega), fq_gp ⟨by omega, by omega⟩, fq_gp ⟨by omega, by omega⟩, ec, p1 125 (by decide), hD n hn]
    refine ⟨_, ⟨fun c hc => by rw [fc_wI_lo hc, p1 c hc], fun z hz => ?_, fun q hq => ?_⟩, rfl⟩
    · rw [fc_wI_at]
      by_cases e : z = n
      · rw [if_pos e, e]
      · rw [if_neg e]
        exact p2 z (by omega)
    · rw [fc_wI_at, if_neg (by omega)]
      exact p3 q (by omega)) (fun k i J hi hP => by
    obtain ⟨p1, p2, p3⟩ := hP
    unfold f_X11_best_117_B
    rw [if_neg (by rw [kt_6]; omega)]
    exact ⟨(Int32.toInt64 y, J), ⟨rfl, p1, p2, p3⟩, rfl⟩) 4000 0 0 I kt_0 (by omega) (by omega) ⟨fun _ _ => rfl, fun z hz => absurd hz (by omega), fun _ _ => rfl⟩
  refine ⟨r.2, ?_, h1.2⟩
  rw [← h1.1]
  exact h2
set_option maxHeartbeats 4000000 in
theorem e_best28 {I : fc_I} {v m : Nat} (hw : Wh (aM I)) (hc5 : ∀ z, z < 6 → (I 83 z).toInt ≤ (I 78 0).toInt) (hv : v < 64) (hm : m = kb (zi v) 6) (hm4 : m ≤ 4) : ∃ b J, bst (aM I) (zi v) m b ∧ f_X11_best_28 (zi v) (zi m) 4000 (-1) (-1) 0 0 I = some (Int32.toInt64 (Wv (aM I) (zi v) m b), J) ∧ (∀ c, c ≠ 78 → c ≠ 126 → ¬ scM c → J c = I c) ∧ (∀ j, j ≠ 67 ∧ j ≠ 68 → J 78 j = I 78 j) ∧ (∀ z, z < 6 → J 126 z = dW (zi v) m (zi b) z) ∧ ∀ k, 6 ≤ k → J 126 k = I 126 k := by
  obtain ⟨A, hA⟩ : ∃ A, A = aM I := ⟨_, rfl⟩
  have a00 : A 0 0 = I 78 0 := by rw [hA]; rfl
  have a02 : A 0 2 = I 78 2 := by rw [hA]; rfl
  rw [← hA] at hw ⊢
  obtain ⟨⟨w1, w2, w3, w4⟩, ⟨w5, w6⟩, _⟩ := hw.1
  obtain ⟨M, hM⟩ : ∃ M, M = 4 ^ m := ⟨_, rfl⟩
  have M256 : M ≤ 256 := by
    rw [hM]
    exact Nat.le_trans (Nat.pow_le_pow_right (by omega) hm4) (by decide)
  have sh := shl_4 m (by omega)
  rw [← hM] at sh
  have hle : ∀ w, (Wv A (zi v) m w).toInt ≤ 605988 ∧ 0 ≤ (Wv A (zi v) m w).toInt := fun w => by
    have q := wst_b (D := dW (zi v) m (zi w)) (A := A) hw 3
    exact ⟨q.2, q.1⟩
  have km1 : (-1 : Int32).toInt = -1 := rfl
  obtain ⟨r, h1, h2⟩ := lpm4_R (B := f_X11_best_28_B (zi v) (zi m)) M (by omega) (fun n lw lc bw J => ((lw = -1 ∧ ∀ w', w' < n → ¬ okw A m w') ∨ ∃ b, b < n ∧ okw A m b ∧ lw = Wv A (zi v) m b ∧ lc = zi (clw m b) ∧ bw = zi b ∧ ∀ w', w' < n → okw A m w' → le3 A (zi v) m b w') ∧ (∀ c, c ≠ 78 → ¬ scM c → J c = I c) ∧ ∀ j, j ≠ 67 ∧ j ≠ 68 → J 78 j = I 78 j) (fun q => (∃ b, bst A (zi v) m b ∧ q.1 = Int32.toInt64 (Wv A (zi v) m b) ∧ (∀ z, z < 6 → q.2 126 z = dW (zi v) m (zi b) z)) ∧ (∀ c, c ≠ 78 → c ≠ 126 → ¬ scM c → q.2 c = I c) ∧ (∀ j, j ≠ 67 ∧ j ≠ 68 → q.2 78 j = I 78 j) ∧ ∀ k, 6 ≤ k → q.2 126 k = I 126 k) (fun k lw lc bw i w J hi hw' hP => by
    obtain ⟨p1, p2, p3⟩ := hP
    have ei : i = zi w := zi_of hi (by omega)
    have jA : aM J = A := by rw [hA]; exact mS_ne2 p3 p2
    have j0 : J 78 0 = A 0 0 := by rw [p3 0 (by decide), a00]
    obtain ⟨r, K, k1, k2, k3, k4⟩ := e_choose_M (I := J) (v := v) (m := m) (w := zi w) hv hm (by rw [j0]; omega)
    rw [jA] at k3 k4
    have ko : okI A (zi w) m m = okw A m w := rfl
    rw [ko] at k3 k4
    have cle := clI_le (w := zi w) (m := m) m
    have kfr : ∀ c, c ≠ 78 → ¬ scM c → K c = I c := fun c h1 h2 => by rw [k2 c (fun z => h2 (by unfold scM; omega)), p2 c h1 h2]
    have kfj : ∀ j, j ≠ 67 ∧ j ≠ 68 → K 78 j = I 78 j := fun j hj => by rw [k2 78 (by decide), p3 j hj]
    unfold f_X11_best_28_B
    simp only [fq_l]
    rw [sh, if_pos (by omega), ei, k1, fq_bsome, km1]
    by_cases o : okw A m w
    · obtain ⟨o1, o2⟩ := k3 o
      have er : r.toInt = (clw m w : Int) := by
        rw [o1]
        exact zi_int (by omega)
      have kA : aM K = A := by rw [hA]; exact mS_ne2 kfj kfr
      rw [if_neg (by omega)]
      obtain ⟨L, l1, l2, l3, l4⟩ := e_worstM (I := K) (D := dW (zi v) m (zi w)) (by rw [kA]; exact hw) (fun z hz => by
        rw [kfr 83 (by decide) (by unfold scM; omega), kfj 0 (by decide)]
        exact hc5 z hz) (fun z hz => by
        rw [kfj 2 (by decide), ← a02] at hz
        exact o2 z (by omega))
      rw [kA] at l1
      have ew : wst (dW (zi v) m (zi w)) A 3 = Wv A (zi v) m w := rfl
      rw [ew] at l1
      rw [l1, fq_bsome]
      have lfr : ∀ c, c ≠ 78 → ¬ scM c → L c = I c := fun c h1 h2 => by rw [l2 c h1 h2, kfr c h1 h2]
      have lfj : ∀ j, j ≠ 67 ∧ j ≠ 68 → L 78 j = I 78 j := fun j hj => by rw [l3 j hj, kfj j hj]
      have hlw := hle w
      have take : (∀ w', w' < w → okw A m w' → le3 A (zi v) m w w') → ((Wv A (zi v) m w = -1 ∧ ∀ w', w' < w + 1 → ¬ okw A m w') ∨ ∃ b, b < w + 1 ∧ okw A m b ∧ Wv A (zi v) m w = Wv A (zi v) m b ∧ r = zi (clw m b) ∧ zi w = zi b ∧ ∀ w', w' < w + 1 → okw A m w' → le3 A (zi v) m b w') := fun h => Or.inr ⟨w, by omega, o, rfl, o1, rfl, fun w' h1 h2 => by
        by_cases e : w' = w
        · rw [e]
          exact Or.inr ⟨rfl, Or.inr ⟨rfl, Nat.le_refl _⟩⟩
        · exact h w' (by omega) h2⟩
      rcases p1 with ⟨u1, u2⟩ | ⟨b, u1, u2, u4, u5, u6, u7⟩
      · rw [u1, if_pos km1]
        exact ⟨_, _, _, _, ⟨take (fun w' h1 h2 => absurd h2 (u2 w' h1)), lfr, lfj⟩, rfl⟩
      · have hlb := hle b
        have clb := clI_le (w := zi b) (m := m) m
        have elc : lc.toInt = (clw m b : Int) := by
          rw [u5]
          exact zi_int (by unfold clw; omega)
        rw [u4, if_neg (by omega)]
        have stay : le3 A (zi v) m b w → ((Wv A (zi v) m b = -1 ∧ ∀ w', w' < w + 1 → ¬ okw A m w') ∨ ∃ b', b' < w + 1 ∧ okw A m b' ∧ Wv A (zi v) m b = Wv A (zi v) m b' ∧ lc = zi (clw m b') ∧ bw = zi b' ∧ ∀ w', w' < w + 1 → okw A m w' → le3 A (zi v) m b' w') := fun h => Or.inr ⟨b, by omega, u2, rfl, u5, u6, fun w' h1 h2 => by
          by_cases e : w' = w
          · rw [e]
            exact h
          · exact u7 w' (by omega) h2⟩
        by_cases g1 : (Wv A (zi v) m w).toInt < (Wv A (zi v) m b).toInt
        · rw [if_pos g1]
          refine ⟨_, _, _, _, ⟨take (fun w' h1 h2 => ?_), lfr, lfj⟩, rfl⟩
          have q := u7 w' h1 h2
          unfold le3 at q ⊢
          omega
        · rw [if_neg g1]
          by_cases g2 : (Wv A (zi v) m w).toInt = (Wv A (zi v) m b).toInt
          · rw [if_pos g2]
            by_cases g3 : r.toInt < lc.toInt
            · rw [if_pos g3]
              refine ⟨_, _, _, _, ⟨take (fun w' h1 h2 => ?_), lfr, lfj⟩, rfl⟩
              have q := u7 w' h1 h2
              unfold le3 at q ⊢
              omega
            · rw [if_neg g3]
              refine ⟨_, _, _, _, ⟨stay ?_, lfr, lfj⟩, rfl⟩
              unfold le3
              omega
          · rw [if_neg g2]
            refine ⟨_, _, _, _, ⟨stay ?_, lfr, lfj⟩, rfl⟩
            unfold le3
            omega
    · rw [k4 o, if_pos km1]
      refine ⟨_, _, _, _, ⟨?_, kfr, kfj⟩, rfl⟩
      rcases p1 with ⟨u1, u2⟩ | ⟨b, u1, u2, u4, u5, u6, u7⟩
      · refine Or.inl ⟨u1, fun w' h1 h2 => ?_⟩
        by_cases e : w' = w
        · rw [e] at h2
          exact o h2
        · exact u2 w' (by omega) h2
      · refine Or.inr ⟨b, by omega, u2, u4, u5, u6, fun w' h1 h2 => ?_⟩
        by_cases e : w' = w
        · rw [e] at h2
          exact absurd h2 o
        · exact u7 w' (by omega) h2) (fun k lw lc bw i J hi hP => by
    obtain ⟨p1, p2, p3⟩ := hP
    have jA : aM J = A := by rw [hA]; exact mS_ne2 p3 p2
    have j0 : J 78 0 = A 0 0 := by rw [p3 0 (by decide), a00]
    obtain ⟨a1, a2, a3⟩ := ok_all (A := A) hm4
    rw [← hM] at a1 a2
    unfold f_X11_best_28_B
    rw [sh, if_neg (by omega)]
    rcases p1 with ⟨u1, u2⟩ | ⟨b, u1, u2, u4, u5, u6, u7⟩
    · exact absurd a2 (u2 _ a1)
    · obtain ⟨r, K, k1, k2, k3, k4⟩ := e_choose_M (I := J) (v := v) (m := m) (w := zi b) hv hm (by rw [j0]; omega)
      rw [jA] at k3
      obtain ⟨o1, o2⟩ := k3 u2
      obtain ⟨L, l1, l2, l3, l4⟩ := e_117 (I := K) (y := lw) o2
      rw [u6, k1, fq_bsome, l1]
      refine ⟨_, ⟨⟨b, ⟨by rw [← hM]; exact u1, u2, fun w' h1 h2 => u7 w' (by rw [hM]; exact h1) h2⟩, by rw [u4], l3⟩, fun c h1 h2 h3 => ?_, fun j hj => ?_, fun q hq => ?_⟩, rfl⟩
      · show L c = I c
        rw [l2 c h2, k2 c (fun z => h3 (by unfold scM; omega)), p2 c h1 h3]
      · show L 78 j = I 78 j
        rw [l2 78 (by decide), k2 78 (by decide), p3 j hj]
      · show L 126 q = I 126 q
        rw [l4 q hq, k2 126 (by decide), p2 126 (by decide) (by unfold scM; omega)]) 4000 (-1) (-1) 0 0 0 I kt_0 (by omega) (by omega) ⟨Or.inl ⟨rfl, fun w' h => absurd h (by omega)⟩, fun _ _ _ => rfl, fun _ _ => rfl⟩
  obtain ⟨⟨b, b1, b2, b3⟩, r2, r3, r4⟩ := h1
  refine ⟨b, r.2, b1, ?_, r2, r3, b3, r4⟩
  rw [← b2]
  exact h2
