def fB (b : Int64) (i : Int32) : Int32 := (vp_nar .byte (Int8.toInt32 (Int32.toInt8 (Int64.toInt32 (b >>> (Int32.toInt64 ((8 : Int32) * i) &&& 63))))))
def fX (b : Int64) : Nat → Int32 → fc_I → fc_I
  | 0, _, I => I
  | n + 1, i, I => fX b n (i + 1) (fc_wI (fc_wI I 31 6 (I 31 6 + 1)) 32 (cn (I 31 6)) (fB b i))
def fM (b : Int64) : Nat → Int32 → fc_I → fc_I
  | 0, _, I => I
  | n + 1, i, I => fM b n (i + 1) (fc_wI (fc_wI I 108 (cn (I 78 39)) (fB b i)) 78 39 (I 78 39 + 1))
def fA (b : Int64) : Nat → Int32 → fc_I → fc_I
  | 0, _, A => A
  | n + 1, i, A => fA b n (i + 1) (fc_wI (fc_wI A 0 8 (A 0 8 + 1)) 32 (cn (A 0 8)) (fB b i))
theorem fX_spec {b : Int64} : ∀ (n : Nat) (i : Int32) (I : fc_I), 0 ≤ (I 31 6).toInt → (I 31 6).toInt + n ≤ 160 → aX 45 (fX b n i I) = fA b n i (aX 45 I) ∧ (∀ c, 78 ≤ c → fX b n i I c = I c) ∧ ((fX b n i I) 31 6).toInt = (I 31 6).toInt + n
  | 0, i, I, _, _ => ⟨rfl, fun _ _ => rfl, by show (I 31 6).toInt = (I 31 6).toInt + ((0 : Nat) : Int); omega⟩
  | n + 1, i, I, h0, h1 => by
    obtain ⟨e1, e2⟩ := i_p1 (N := 160) h0 (by omega) (by omega)
    obtain ⟨J, hJ⟩ : ∃ J, J = fc_wI (fc_wI I 31 6 (I 31 6 + 1)) 32 (cn (I 31 6)) (fB b i) := ⟨_, rfl⟩
    have h6 : J 31 6 = I 31 6 + 1 := by subst hJ; simp [fc_wI]
    obtain ⟨a1, a2, a3⟩ := fX_spec (b := b) n (i + 1) J (by rw [h6]; omega) (by rw [h6]; omega)
    refine ⟨?_, fun c hc => ?_, ?_⟩
    · show aX 45 (fX b n (i + 1) _) = _
      rw [← hJ, a1, hJ, aw_tape ⟨h0, by omega⟩]
      rfl
    · show fX b n (i + 1) _ c = _
      rw [← hJ, a2 c hc, hJ, fc_wI_lo (by omega), fc_wI_lo (by omega)]
    · show ((fX b n (i + 1) _) 31 6).toInt = _
      rw [← hJ, a3, h6]
      omega
theorem fM_spec {b : Int64} : ∀ (n : Nat) (i : Int32) (I : fc_I), 0 ≤ (I 78 39).toInt → (I 78 39).toInt + n ≤ 160 → aM (fM b n i I) = fA b n i (aM I) ∧ (∀ c, c ≠ 108 → c ≠ 78 → fM b n i I c = I c) ∧ (∀ j, j ≠ 39 → fM b n i I 78 j = I 78 j) ∧ ((fM b n i I) 78 39).toInt = (I 78 39).toInt + n
  | 0, i, I, _, _ => ⟨rfl, fun _ _ _ => rfl, fun _ _ => rfl, by show (I 78 39).toInt = (I 78 39).toInt + ((0 : Nat) : Int); omega⟩
  | n + 1, i, I, h0, h1 => by
    obtain ⟨e1, e2⟩ := i_p1 (N := 160) h0 (by omega) (by omega)
    obtain ⟨J, hJ⟩ : ∃ J, J = fc_wI (fc_wI I 108 (cn (I 78 39)) (fB b i)) 78 39 (I 78 39 + 1) := ⟨_, rfl⟩
    have h6 : J 78 39 = I 78 39 + 1 := by subst hJ; simp [fc_wI]
    obtain ⟨a1, a2, a3, a4⟩ := fM_spec (b := b) n (i + 1) J (by rw [h6]; omega) (by rw [h6]; omega)
    refine ⟨?_, fun c hc hd => ?_, fun j hj => ?_, ?_⟩
    · show aM (fM b n (i + 1) _) = _
      rw [← hJ, a1, hJ, mw_tape ⟨h0, by omega⟩]
      rfl
    · show fM b n (i + 1) _ c = _
      rw [← hJ, a2 c hc hd, hJ, fc_wI_lo hd, fc_wI_lo hc]
    · show fM b n (i + 1) _ 78 j = _
      rw [← hJ, a3 j hj, hJ, fc_wI_at, if_neg hj, fc_wI_lo (by decide)]
    · show ((fM b n (i + 1) _) 78 39).toInt = _
      rw [← hJ, a4, h6]
      omega
