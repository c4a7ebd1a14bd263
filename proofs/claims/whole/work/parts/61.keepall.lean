/-! ===== loops once more; rows kept and brought back ===== -/
theorem lpm0_R {γ : Type} {B : (fc_I → Option γ) → fc_I → Option γ} (N : Nat) (P : Nat → fc_I → Prop) (Fin : γ → Prop) (hs : ∀ (k : fc_I → Option γ) (n : Nat) (J : fc_I), n < N → P n J → ∃ J', P (n + 1) J' ∧ B k J = k J') (he : ∀ (k : fc_I → Option γ) (J : fc_I), P N J → ∃ r, Fin r ∧ B k J = some r) : ∀ (m n : Nat) (J : fc_I), n ≤ N → N < n + m → P n J → ∃ r, Fin r ∧ lpm0 B m J = some r
  | 0, _, _, h1, h2, _ => absurd h2 (by omega)
  | m + 1, n, J, h1, h2, hp => by
    show ∃ r, Fin r ∧ B (lpm0 B m) J = some r
    by_cases c : n < N
    · obtain ⟨J', q1, q2⟩ := hs (lpm0 B m) n J c hp
      rw [q2]
      exact lpm0_R N P Fin hs he m (n + 1) J' (by omega) (by omega) q1
    · have e : n = N := by omega
      subst e
      exact he _ J hp
theorem lpm1_K {γ : Type} {B : (Int32 → fc_I → Option γ) → Int32 → fc_I → Option γ} (N : Nat) (hN : N < 50000) (P : Nat → fc_I → Prop) (G : fc_I → Option γ) (hs : ∀ (k : Int32 → fc_I → Option γ) (i : Int32) (n : Nat) (J : fc_I), i.toInt = (n : Int) → n < N → P n J → ∃ J', P (n + 1) J' ∧ B k i J = k (i + 1) J') (he : ∀ (k : Int32 → fc_I → Option γ) (i : Int32) (J : fc_I), i.toInt = (N : Int) → P N J → B k i J = G J) : ∀ (m : Nat) (i : Int32) (n : Nat) (J : fc_I), i.toInt = (n : Int) → n ≤ N → N < n + m → P n J → ∃ J', P N J' ∧ lpm1 B m i J = G J'
  | 0, _, _, _, _, h1, h2, _ => absurd h2 (by omega)
  | m + 1, i, n, J, hi, h1, h2, hp => by
    show ∃ J', P N J' ∧ B (lpm1 B m) i J = G J'
    by_cases c : n < N
    · obtain ⟨J', q1, q2⟩ := hs (lpm1 B m) i n J hi c hp
      rw [q2]
      exact lpm1_K N hN P G hs he m (i + 1) (n + 1) J' (by have := (i_p1 (N := 50000) (x := i) (by omega) (by omega) (by omega)).1; omega) (by omega) (by omega) q1
    · have e : n = N := by omega
      subst e
      exact ⟨J, hp, he _ i J hi hp⟩
/-- w rows from the s-th on come to those from the d-th on, n places of each -/
def cpB (d s w n : Nat) (I : fc_I) : fc_I := fun c k => if d ≤ c ∧ c < d + w ∧ k < n then I (s + (c - d)) k else I c k
theorem cpB_0 {d s w : Nat} {I : fc_I} : cpB d s w 0 I = I := by
  funext c k
  unfold cpB
  rw [if_neg (by omega)]
theorem cpB_o {d s w n c : Nat} {I : fc_I} (h : c < d ∨ d + w ≤ c) : cpB d s w n I c = I c := by
  funext k
  unfold cpB
  rw [if_neg (by omega)]
theorem cpB_4 {d s n : Nat} {I : fc_I} : cpB d s 4 (n + 1) I = fc_wI (fc_wI (fc_wI (fc_wI (cpB d s 4 n I) d n (I s n)) (d + 1) n (I (s + 1) n)) (d + 2) n (I (s + 2) n)) (d + 3) n (I (s + 3) n) := by
  funext c k
  simp only [cpB, fc_wI]
  by_cases hk : k = n
  · subst hk
    by_cases h3 : c = d + 3
    · subst h3
      rw [if_pos ⟨by omega, by omega, by omega⟩, if_pos ⟨rfl, rfl⟩, show s + (d + 3 - d) = s + 3 by omega]
    · rw [if_neg (show ¬ (c = d + 3 ∧ k = k) from fun z => h3 z.1)]
      by_cases h2 : c = d + 2
      · subst h2
        rw [if_pos ⟨by omega, by omega, by omega⟩, if_pos ⟨rfl, rfl⟩, show s + (d + 2 - d) = s + 2 by omega]
      · rw [if_neg (show ¬ (c = d + 2 ∧ k = k) from fun z => h2 z.1)]
        by_cases h1 : c = d + 1
        · subst h1
          rw [if_pos ⟨by omega, by omega, by omega⟩, if_pos ⟨rfl, rfl⟩, show s + (d + 1 - d) = s + 1 by omega]
        · rw [if_neg (show ¬ (c = d + 1 ∧ k = k) from fun z => h1 z.1)]
          by_cases h0 : c = d
          · subst h0
            rw [if_pos ⟨by omega, by omega, by omega⟩, if_pos ⟨rfl, rfl⟩, show s + (c - c) = s by omega]
          · rw [if_neg (show ¬ (c = d ∧ k = k) from fun z => h0 z.1), if_neg (by omega), if_neg (by omega)]
  · rw [if_neg (show ¬ (c = d + 3 ∧ k = n) from fun z => hk z.2), if_neg (show ¬ (c = d + 2 ∧ k = n) from fun z => hk z.2), if_neg (show ¬ (c = d + 1 ∧ k = n) from fun z => hk z.2), if_neg (show ¬ (c = d ∧ k = n) from fun z => hk z.2)]
    by_cases hl : k < n
    · by_cases hc : d ≤ c ∧ c < d + 4
      · rw [if_pos ⟨hc.1, hc.2, by omega⟩, if_pos ⟨hc.1, hc.2, hl⟩]
      · rw [if_neg (by omega), if_neg (by omega)]
    · rw [if_neg (by omega), if_neg (by omega)]
theorem cpB_2 {d s n : Nat} {I : fc_I} : cpB d s 2 (n + 1) I = fc_wI (fc_wI (cpB d s 2 n I) d n (I s n)) (d + 1) n (I (s + 1) n) := by
  funext c k
  simp only [cpB, fc_wI]
  by_cases hk : k = n
  · subst hk
    by_cases h1 : c = d + 1
    · subst h1
      rw [if_pos ⟨by omega, by omega, by omega⟩, if_pos ⟨rfl, rfl⟩, show s + (d + 1 - d) = s + 1 by omega]
    · rw [if_neg (show ¬ (c = d + 1 ∧ k = k) from fun z => h1 z.1)]
      by_cases h0 : c = d
      · subst h0
        rw [if_pos ⟨by omega, by omega, by omega⟩, if_pos ⟨rfl, rfl⟩, show s + (c - c) = s by omega]
      · rw [if_neg (show ¬ (c = d ∧ k = k) from fun z => h0 z.1), if_neg (by omega), if_neg (by omega)]
  · rw [if_neg (show ¬ (c = d + 1 ∧ k = n) from fun z => hk z.2), if_neg (show ¬ (c = d ∧ k = n) from fun z => hk z.2)]
    by_cases hl : k < n
    · by_cases hc : d ≤ c ∧ c < d + 2
      · rw [if_pos ⟨hc.1, hc.2, by omega⟩, if_pos ⟨hc.1, hc.2, hl⟩]
      · rw [if_neg (by omega), if_neg (by omega)]
    · rw [if_neg (by omega), if_neg (by omega)]
/-- all kept -/
def kpM (I : fc_I) : fc_I := fc_wI (fc_wI (cpB 123 97 2 4 (cpB 121 86 2 3 (cpB 117 80 4 6 I))) 78 67 (I 78 26)) 78 68 (I 78 0)
/-- all brought back -/
def bbM (I : fc_I) : fc_I := fc_wI (fc_wI (cpB 97 123 2 4 (cpB 86 121 2 3 (cpB 80 117 4 6 I))) 78 26 (I 78 67)) 78 0 (I 78 68)
set_option maxHeartbeats 2000000 in
theorem e_keepAll {I : fc_I} : f_X11_keepAll I = some (kpM I) := by
  have s3 : ∀ J : fc_I, ∃ r, r = fc_wI (fc_wI (cpB 123 97 2 4 J) 78 67 (J 78 26)) 78 68 (J 78 0) ∧ f_X11_keepAll_101 4000 0 J = some r := fun J =>
    lpm1_R (B := f_X11_keepAll_101_B) 4 (by omega) (fun n K => K = cpB 123 97 2 n J) (fun r => r = fc_wI (fc_wI (cpB 123 97 2 4 J) 78 67 (J 78 26)) 78 68 (J 78 0)) (fun k i n K hi hn hP => by
      subst hP
      refine ⟨_, rfl, ?_⟩
      have hg : ∀ x : Option fc_I, fq_g 4 i x = x := fun x => fq_gp ⟨by omega, by omega⟩
      unfold f_X11_keepAll_101_B
      simp only [hg, fq_l, kt_4]
      rw [if_pos (by omega), cn_eq hi, cpB_2]
      rw [fc_wI_lo (show (98 : Nat) ≠ 123 by decide), cpB_o (show (97 : Nat) < 123 ∨ _ by omega), cpB_o (show (98 : Nat) < 123 ∨ _ by omega)]) (fun k i K hi hP => by
      subst hP
      refine ⟨_, rfl, ?_⟩
      unfold f_X11_keepAll_101_B
      simp only [fq_l, kt_4]
      rw [if_neg (by omega), cpB_o (show (78 : Nat) < 123 ∨ _ by omega), fc_wI_at, if_neg (by decide), cpB_o (show (78 : Nat) < 123 ∨ _ by omega)]) 4000 0 0 J kt_0 (by omega) (by omega) cpB_0.symm
  have s2 : ∀ J : fc_I, ∃ r, r = fc_wI (fc_wI (cpB 123 97 2 4 (cpB 121 86 2 3 J)) 78 67 (J 78 26)) 78 68 (J 78 0) ∧ f_X11_keepAll_64 4000 0 J = some r := fun J =>
    lpm1_R (B := f_X11_keepAll_64_B) 3 (by omega) (fun n K => K = cpB 121 86 2 n J) (fun r => r = fc_wI (fc_wI (cpB 123 97 2 4 (cpB 121 86 2 3 J)) 78 67 (J 78 26)) 78 68 (J 78 0)) (fun k i n K hi hn hP => by
      subst hP
      refine ⟨_, rfl, ?_⟩
      have hg : ∀ x : Option fc_I, fq_g 3 i x = x := fun x => fq_gp ⟨by omega, by omega⟩
      unfold f_X11_keepAll_64_B
      simp only [hg, fq_l, kt_3]
      rw [if_pos (by omega), cn_eq hi, cpB_2]
      rw [fc_wI_lo (show (87 : Nat) ≠ 121 by decide), cpB_o (show (86 : Nat) < 121 ∨ _ by omega), cpB_o (show (87 : Nat) < 121 ∨ _ by omega)]) (fun k i K hi hP => by
      subst hP
      obtain ⟨r, q1, q2⟩ := s3 (cpB 121 86 2 3 J)
      refine ⟨r, ?_, ?_⟩
      · rw [q1, cpB_o (show (78 : Nat) < 121 ∨ _ by omega)]
      · unfold f_X11_keepAll_64_B
        simp only [kt_3]
        rw [if_neg (by omega), q2]) 4000 0 0 J kt_0 (by omega) (by omega) cpB_0.symm
  obtain ⟨r, q1, q2⟩ := lpm1_R (B := f_X11_keepAll_2_B) 6 (by omega) (fun n K => K = cpB 117 80 4 n I) (fun r => r = kpM I) (fun k i n K hi hn hP => by
      subst hP
      refine ⟨_, rfl, ?_⟩
      have hg : ∀ x : Option fc_I, fq_g 6 i x = x := fun x => fq_gp ⟨by omega, by omega⟩
      unfold f_X11_keepAll_2_B
      simp only [hg, fq_l, kt_6]
      rw [if_pos (by omega), cn_eq hi, cpB_4]
      rw [fc_wI_lo (show (83 : Nat) ≠ 119 by decide), fc_wI_lo (show (83 : Nat) ≠ 118 by decide), fc_wI_lo (show (83 : Nat) ≠ 117 by decide), fc_wI_lo (show (82 : Nat) ≠ 118 by decide), fc_wI_lo (show (82 : Nat) ≠ 117 by decide), fc_wI_lo (show (81 : Nat) ≠ 117 by decide), cpB_o (show (80 : Nat) < 117 ∨ _ by omega), cpB_o (show (81 : Nat) < 117 ∨ _ by omega), cpB_o (show (82 : Nat) < 117 ∨ _ by omega), cpB_o (show (83 : Nat) < 117 ∨ _ by omega)]) (fun k i K hi hP => by
      subst hP
      obtain ⟨r, q1, q2⟩ := s2 (cpB 117 80 4 6 I)
      refine ⟨r, ?_, ?_⟩
      · rw [q1, cpB_o (show (78 : Nat) < 117 ∨ _ by omega)]
        rfl
      · unfold f_X11_keepAll_2_B
        simp only [kt_6]
        rw [if_neg (by omega), q2]) 4000 0 0 I kt_0 (by omega) (by omega) cpB_0.symm
  subst q1
  exact q2
set_option maxHeartbeats 2000000 in
theorem e_bringBack {I : fc_I} : f_X11_bringBack I = some (bbM I) := by
  have s3 : ∀ J : fc_I, ∃ r, r = fc_wI (fc_wI (cpB 97 123 2 4 J) 78 26 (J 78 67)) 78 0 (J 78 68) ∧ f_X11_bringBack_101 4000 0 J = some r := fun J =>
    lpm1_R (B := f_X11_bringBack_101_B) 4 (by omega) (fun n K => K = cpB 97 123 2 n J) (fun r => r = fc_wI (fc_wI (cpB 97 123 2 4 J) 78 26 (J 78 67)) 78 0 (J 78 68)) (fun k i n K hi hn hP => by
      subst hP
      refine ⟨_, rfl, ?_⟩
      have hg : ∀ x : Option fc_I, fq_g 4 i x = x := fun x => fq_gp ⟨by omega, by omega⟩
      unfold f_X11_bringBack_101_B
      simp only [hg, fq_l, kt_4]
      rw [if_pos (by omega), cn_eq hi, cpB_2]
      rw [fc_wI_lo (show (124 : Nat) ≠ 97 by decide), cpB_o (show _ ∨ (97 + 2 : Nat) ≤ 123 by omega), cpB_o (show _ ∨ (97 + 2 : Nat) ≤ 124 by omega)]) (fun k i K hi hP => by
      subst hP
      refine ⟨_, rfl, ?_⟩
      unfold f_X11_bringBack_101_B
      simp only [fq_l, kt_4]
      rw [if_neg (by omega), cpB_o (show (78 : Nat) < 97 ∨ _ by omega), fc_wI_at, if_neg (by decide), cpB_o (show (78 : Nat) < 97 ∨ _ by omega)]) 4000 0 0 J kt_0 (by omega) (by omega) cpB_0.symm
  have s2 : ∀ J : fc_I, ∃ r, r = fc_wI (fc_wI (cpB 97 123 2 4 (cpB 86 121 2 3 J)) 78 26 (J 78 67)) 78 0 (J 78 68) ∧ f_X11_bringBack_64 4000 0 J = some r := fun J =>
    lpm1_R (B := f_X11_bringBack_64_B) 3 (by omega) (fun n K => K = cpB 86 121 2 n J) (fun r => r = fc_wI (fc_wI (cpB 97 123 2 4 (cpB 86 121 2 3 J)) 78 26 (J 78 67)) 78 0 (J 78 68)) (fun k i n K hi hn hP => by
      subst hP
      refine ⟨_, rfl, ?_⟩
      have hg : ∀ x : Option fc_I, fq_g 3 i x = x := fun x => fq_gp ⟨by omega, by omega⟩
      unfold f_X11_bringBack_64_B
      simp only [hg, fq_l, kt_3]
      rw [if_pos (by omega), cn_eq hi, cpB_2]
      rw [fc_wI_lo (show (122 : Nat) ≠ 86 by decide), cpB_o (show _ ∨ (86 + 2 : Nat) ≤ 121 by omega), cpB_o (show _ ∨ (86 + 2 : Nat) ≤ 122 by omega)]) (fun k i K hi hP => by
      subst hP
      obtain ⟨r, q1, q2⟩ := s3 (cpB 86 121 2 3 J)
      refine ⟨r, ?_, ?_⟩
      · rw [q1, cpB_o (show (78 : Nat) < 86 ∨ _ by omega)]
      · unfold f_X11_bringBack_64_B
        simp only [kt_3]
        rw [if_neg (by omega), q2]) 4000 0 0 J kt_0 (by omega) (by omega) cpB_0.symm
  obtain ⟨r, q1, q2⟩ := lpm1_R (B := f_X11_bringBack_2_B) 6 (by omega) (fun n K => K = cpB 80 117 4 n I) (fun r => r = bbM I) (fun k i n K hi hn hP => by
      subst hP
      refine ⟨_, rfl, ?_⟩
      have hg : ∀ x : Option fc_I, fq_g 6 i x = x := fun x => fq_gp ⟨by omega, by omega⟩
      unfold f_X11_bringBack_2_B
      simp only [hg, fq_l, kt_6]
      rw [if_pos (by omega), cn_eq hi, cpB_4]
      rw [fc_wI_lo (show (120 : Nat) ≠ 82 by decide), fc_wI_lo (show (120 : Nat) ≠ 81 by decide), fc_wI_lo (show (120 : Nat) ≠ 80 by decide), fc_wI_lo (show (119 : Nat) ≠ 81 by decide), fc_wI_lo (show (119 : Nat) ≠ 80 by decide), fc_wI_lo (show (118 : Nat) ≠ 80 by decide), cpB_o (show _ ∨ (80 + 4 : Nat) ≤ 117 by omega), cpB_o (show _ ∨ (80 + 4 : Nat) ≤ 118 by omega), cpB_o (show _ ∨ (80 + 4 : Nat) ≤ 119 by omega), cpB_o (show _ ∨ (80 + 4 : Nat) ≤ 120 by omega)]) (fun k i K hi hP => by
      subst hP
      obtain ⟨r, q1, q2⟩ := s2 (cpB 80 117 4 6 I)
      refine ⟨r, ?_, ?_⟩
      · rw [q1, cpB_o (show (78 : Nat) < 80 ∨ _ by omega)]
        rfl
      · unfold f_X11_bringBack_2_B
        simp only [kt_6]
        rw [if_neg (by omega), q2]) 4000 0 0 I kt_0 (by omega) (by omega) cpB_0.symm
  subst q1
  exact q2
