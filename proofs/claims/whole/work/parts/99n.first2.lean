/-! ===== the first text is learnt ===== -/
theorem n_0 : NX 0 0 4 (4, 0) := by unfold NX; decide +kernel
theorem n_1 : NX 4 5 7 (1, 20) := by unfold NX; decide +kernel
theorem n_2 : NX 7 8 9 (3, 43) := by unfold NX; decide +kernel
theorem n_3 : NX 9 10 15 (2, 0) := by unfold NX; decide +kernel
theorem n_4 : NX 15 16 17 (3, 42) := by unfold NX; decide +kernel
theorem n_5 : NX 17 18 20 (1, 10) := by unfold NX; decide +kernel
theorem n_6 : NX 20 21 22 (3, 59) := by unfold NX; decide +kernel
theorem n_7 : NX 22 23 27 (4, 1) := by unfold NX; decide +kernel
theorem n_8 : NX 27 28 30 (1, 60) := by unfold NX; decide +kernel
theorem n_9 : NX 30 31 32 (3, 60) := by unfold NX; decide +kernel
theorem n_10 : NX 32 33 37 (2, 2) := by unfold NX; decide +kernel
theorem n_11 : NX 37 38 39 (3, 59) := by unfold NX; decide +kernel
theorem n_12 : NX 39 39 39 (0, 0) := by unfold NX; decide +kernel
def FK1 : List Int32 := [-43, -42, 10, -1, 20]
def FK2 : List Int32 := [-60, -3, 60]
theorem LV_heed : LVs 34 40 0 5 7 (1, 20) [] 21 22 (3, 59) FK1 := by
  have a5 : LVs 34 35 5 5 7 (1, 20) [] 8 9 (3, 43) [20] := LV_leaf (by decide) (by decide) (Or.inl rfl) rfl n_2 (by decide)
  have a4 : LVs 34 36 4 5 7 (1, 20) [] 8 9 (3, 43) [20] := LV_down (by decide) (fun z => absurd z (by decide)) a5 (by decide)
  have b5 : LVs 34 35 5 10 15 (2, 0) [20] 16 17 (3, 42) [-1, 20] := LV_leaf (by decide) (by decide) (Or.inr rfl) (by decide) n_4 (by decide)
  have c5 : LVs 34 35 5 18 20 (1, 10) [-1, 20] 21 22 (3, 59) [10, -1, 20] := LV_leaf (by decide) (by decide) (Or.inl rfl) rfl n_6 (by decide)
  have b4 : LVs 34 36 4 10 15 (2, 0) [20] 21 22 (3, 59) [-42, 10, -1, 20] := LV_join (by decide) (by decide) (by decide) (fun z => absurd z (by decide)) b5 (by decide) (by decide) n_5 c5 (by decide) (by decide)
  have a3 : LVs 34 37 3 5 7 (1, 20) [] 21 22 (3, 59) FK1 := LV_join (by decide) (by decide) (by decide) (fun z => absurd z (by decide)) a4 (by decide) (by decide) n_3 b4 (by decide) (by decide)
  have a2 : LVs 34 38 2 5 7 (1, 20) [] 21 22 (3, 59) FK1 := LV_down (by decide) (by decide) a3 (by decide)
  have a1 : LVs 34 39 1 5 7 (1, 20) [] 21 22 (3, 59) FK1 := LV_down (by decide) (by decide) a2 (by decide)
  exact LV_down (by decide) (by decide) a1 (by decide)
theorem LV_stop : LVs 34 40 0 28 30 (1, 60) FK1 38 39 (3, 59) (FK2 ++ FK1) := by
  have d5 : LVs 34 35 5 28 30 (1, 60) FK1 31 32 (3, 60) (60 :: FK1) := LV_leaf (by decide) (by decide) (Or.inl rfl) rfl n_9 (by decide)
  have d4 : LVs 34 36 4 28 30 (1, 60) FK1 31 32 (3, 60) (60 :: FK1) := LV_down (by decide) (fun z => absurd z (by decide)) d5 (by decide)
  have d3 : LVs 34 37 3 28 30 (1, 60) FK1 31 32 (3, 60) (60 :: FK1) := LV_down (by decide) (fun z => absurd z (by decide)) d4 (by decide)
  have e5 : LVs 34 35 5 33 37 (2, 2) (60 :: FK1) 38 39 (3, 59) (-3 :: 60 :: FK1) := LV_leaf (by decide) (by decide) (Or.inr rfl) (by decide) n_11 (by decide)
  have e4 : LVs 34 36 4 33 37 (2, 2) (60 :: FK1) 38 39 (3, 59) (-3 :: 60 :: FK1) := LV_down (by decide) (fun z => absurd z (by decide)) e5 (by decide)
  have e3 : LVs 34 37 3 33 37 (2, 2) (60 :: FK1) 38 39 (3, 59) (-3 :: 60 :: FK1) := LV_down (by decide) (fun z => absurd z (by decide)) e4 (by decide)
  have d2 : LVs 34 38 2 28 30 (1, 60) FK1 38 39 (3, 59) (FK2 ++ FK1) := LV_join (by decide) (by decide) (by decide) (by decide) d3 (by decide) (by decide) n_10 e3 (by decide) (by decide)
  have d1 : LVs 34 39 1 28 30 (1, 60) FK1 38 39 (3, 59) (FK2 ++ FK1) := LV_down (by decide) (by decide) d2 (by decide)
  exact LV_down (by decide) (by decide) d1 (by decide)
theorem SX_start {v b' E' : Nat} {t' : Tk} {I : fc_I} (hv : v ≠ 43) (x1' : (I 43 4).toInt = ((39 : Nat) : Int)) (x3 : I 43 6 = zi 0) (x6 : (I 43 9).toInt = -1) (x7 : I 43 2 = 0) (hT : ∀ k, k < 39 → I 32 k = T0 k) (hn : NX 0 b' E' t') : ∃ I1, f_X5_nextToken I = some I1 ∧ SX v I1 b' E' t' [] ∧ FX v I I1 := by
  obtain ⟨w, p1, p2⟩ := X_next x1' (by omega) (Nat.zero_le _) x3
  obtain ⟨e1, e2, e3⟩ := nT_eq hT (Nat.zero_le _)
  obtain ⟨g1, g2, g3⟩ := nB_b (T := I 32) (Nat.zero_le 39)
  have ok' : Tok (nT T0 39 0) := tk_ok
  rw [e1, e2, e3] at p1
  rw [e3] at p2
  rw [e2] at g3
  obtain ⟨n1, n2, n3⟩ := hn
  rw [n1, n2, n3] at p1
  rw [n3] at p2 ok'
  rw [n2] at g3
  exact ⟨_, p1, ⟨⟨x1', rfl, rfl, rfl, p2, x6, x7, trivial⟩, hT, g3, ok', by decide⟩, FX_tk⟩
theorem SX_exp {v b E b' E' : Nat} {t t' : Tk} {K : List Int32} {I : fc_I} {x : Int32} (hv : v ≠ 43) (h : SX v I b E t K) (hx : Tx t = x) (hn : NX E b' E' t') : ∃ I1, f_X5_expect I x = some I1 ∧ SX v I1 b' E' t' K ∧ FX v I I1 := by
  obtain ⟨I1, p1, p2, p3⟩ := SX_next hv h hn
  refine ⟨I1, ?_, p2, p3⟩
  unfold f_X5_expect
  rw [h.1.2.2.2.1, hx, if_pos rfl, fq_uid, p1]
theorem SX_w3 {v b E : Nat} {t : Tk} {K : List Int32} {I : fc_I} {x : Int32} (hv : v ≠ 43) (h : SX v I b E t K) : SX v (fc_wI I 43 3 x) b E t K := by
  obtain ⟨⟨x1', x2, x3, x4, x5, x6, x7⟩, hT, hE, ok, hl⟩ := h
  exact ⟨⟨x1', x2, x3, x4, x5, x6, x7.1, cdv_c (J := I) K (fun s hs => by rw [fc_wI_ne hv]) x7.2⟩, hT, hE, ok, hl⟩
theorem first_read {I : fc_I} (hT : ∀ k, k < 39 → I 32 k = T0 k) : ∃ I', f_X5_read 34 I (zi 39) = some (-1, I') ∧ FXr 34 I I' ∧ cdv I' 34 (FK2 ++ FK1) ∧ I' 43 3 = zi 5 ∧ I' 43 2 = zi 8 := by
  have hv : (34 : Nat) ≠ 43 := by decide
  have eX : f_X5_read 34 I (zi 39) = fq_u (f_X5_nextToken (fc_wI (fc_wI (fc_wI (fc_wI I 43 4 (zi 39)) 43 2 0) 43 6 0) 43 9 (-1))) fun I26 => X_T1 34 I26 := rfl
  have fx0 : FXr 34 I (fc_wI (fc_wI (fc_wI (fc_wI I 43 4 (zi 39)) 43 2 0) 43 6 0) 43 9 (-1)) := FXr_t FXr_w (FXr_t FXr_w (FXr_t FXr_w FXr_w))
  have z39 : (zi 39).toInt = ((39 : Nat) : Int) := zi_int (by omega)
  have e4 : fc_wI (fc_wI (fc_wI (fc_wI I 43 4 (zi 39)) 43 2 0) 43 6 0) 43 9 (-1) 43 4 = zi 39 := rfl
  have e6 : fc_wI (fc_wI (fc_wI (fc_wI I 43 4 (zi 39)) 43 2 0) 43 6 0) 43 9 (-1) 43 6 = zi 0 := rfl
  have e9 : fc_wI (fc_wI (fc_wI (fc_wI I 43 4 (zi 39)) 43 2 0) 43 6 0) 43 9 (-1) 43 9 = -1 := rfl
  have e2 : fc_wI (fc_wI (fc_wI (fc_wI I 43 4 (zi 39)) 43 2 0) 43 6 0) 43 9 (-1) 43 2 = 0 := rfl
  have eT : ∀ k, k < 39 → fc_wI (fc_wI (fc_wI (fc_wI I 43 4 (zi 39)) 43 2 0) 43 6 0) 43 9 (-1) 32 k = T0 k := fun k hk => hT k hk
  rw [eX]
  generalize fc_wI (fc_wI (fc_wI (fc_wI I 43 4 (zi 39)) 43 2 0) 43 6 0) 43 9 (-1) = Ia at fx0 e4 e6 e9 e2 eT
  obtain ⟨I1, p1, p2, p3⟩ := SX_start hv (by rw [e4, z39]) e6 (by rw [e9, kt_m1]) e2 eT n_0
  obtain ⟨I2, q1, q2, q3⟩ := SX_exp (x := 14) hv p2 (by decide) n_1
  obtain ⟨I3, r1, r2, r3⟩ := LV_heed I2 q2
  have r1' : f_X5_readLevel 34 40 0 0 I2 = some I3 := r1
  obtain ⟨I4, s1, s2, s3⟩ := SX_exp (x := 59) hv r2 (by decide) n_7
  have s2' := SX_w3 (x := I4 43 2) hv s2
  obtain ⟨I5, t1, t2, t3⟩ := SX_exp (x := 15) hv s2' (by decide) n_8
  obtain ⟨I6, u1, u2, u3⟩ := LV_stop I5 t2
  have u1' : f_X5_readLevel 34 40 0 0 I5 = some I6 := u1
  obtain ⟨I7, v1, v2, v3⟩ := SX_exp (x := 59) hv u2 (by decide) n_12
  have w3 : I7 43 3 = I4 43 2 := (v3 43 3 (by decide) (Or.inr (by decide))).trans ((u3 43 3 (by decide) (Or.inr (by decide))).trans ((t3 43 3 (by decide) (Or.inr (by decide))).trans rfl))
  have w9 : I7 43 9 = -1 := Int32.toInt_inj.mp (v2.1.2.2.2.2.2.1.trans kt_m1.symm)
  refine ⟨I7, ?_, ?_, v2.1.2.2.2.2.2.2.2, ?_, v2.1.2.2.2.2.2.2.1⟩
  · rw [p1, fq_usome]
    unfold X_T1
    rw [q1, fq_usome, r1', fq_usome, s1, fq_usome]
    unfold X_T2
    simp only [fq_l]
    rw [t1, fq_usome, u1', fq_usome, v1, fq_usome]
    unfold X_T3
    have e11 : I7 43 7 = 11 := v2.1.2.2.2.1
    rw [e11, if_pos rfl, w9]
  · exact FXr_t fx0 (FXr_t (FXr_FX p3) (FXr_t (FXr_FX q3) (FXr_t (FXr_FX r3) (FXr_t (FXr_FX s3) (FXr_t FXr_w (FXr_t (FXr_FX t3) (FXr_t (FXr_FX u3) (FXr_FX v3))))))))
  · rw [w3]
    exact s2.1.2.2.2.2.2.2.1
theorem first_learn {I : fc_I} (h6 : I 31 6 = zi 39) (h7 : I 31 7 = 0) (hT : ∀ k, k < 39 → I 32 k = T0 k) : ∃ J, f_X0_learn I = some (0, J) ∧ (∀ c s, c ≠ 34 → c ≠ 43 → c ≠ 31 → c ≠ 40 → c ≠ 41 → J c s = I c s) ∧ (∀ s, s ≠ 6 → s ≠ 7 → J 31 s = I 31 s) ∧ J 31 6 = 0 ∧ J 31 7 = 1 ∧ J 40 0 = zi 5 ∧ J 41 0 = zi 8 ∧ cdv J 34 (FK2 ++ FK1) := by
  obtain ⟨I', p1, p2, p3, p4, p5⟩ := first_read hT
  have i31 : ∀ s, I' 31 s = I 31 s := fun s => p2 31 s (by decide) (by decide)
  have c0 : cn (0 : Int32) = 0 := rfl
  have k1 : fc_wI I' 31 6 0 31 7 = 0 := (i31 7).trans h7
  have k2 : ∀ y, fc_wI (fc_wI I' 31 6 0) 40 0 y 31 7 = 0 := fun y => k1
  have k3 : ∀ y z, fc_wI (fc_wI (fc_wI I' 31 6 0) 40 0 y) 41 0 z 31 7 = 0 := fun y z => k1
  have k4 : fc_wI I' 31 6 0 43 3 = I' 43 3 := rfl
  have k5 : ∀ y, fc_wI (fc_wI I' 31 6 0) 40 0 y 43 2 = I' 43 2 := fun _ => rfl
  have g6 : ∀ {γ : Type} (k : Option γ), fq_g 6 (0 : Int32) k = k := fun k => fq_gp ⟨by decide, by decide⟩
  have z1 : (0 : Int32) + 1 = 1 := rfl
  refine ⟨fc_wI (fc_wI (fc_wI (fc_wI I' 31 6 0) 40 0 (I' 43 3)) 41 0 (I' 43 2)) 31 7 1, ?_, fun c s a1 a2 a3 a4 a5 => ?_, fun s a1 a2 => ?_, rfl, rfl, ?_, ?_, ?_⟩
  · unfold f_X0_learn
    rw [h7, h6, kt_0, kt_6, if_pos (by decide), g6, c0, p1, fq_bsome, kt_m1]
    simp only [fq_l, k1, k2, k3, k4, k5, g6, c0, z1]
    exact if_pos trivial
  · rw [fc_wI_ne a3, fc_wI_ne a5, fc_wI_ne a4, fc_wI_ne a3]
    exact p2 c s a1 a2
  · rw [fc_wI_at, if_neg a2, fc_wI_ne (by decide), fc_wI_ne (by decide), fc_wI_at, if_neg a1]
    exact i31 s
  · exact p4
  · exact p5
  · exact cdv_c (J := I') _ (fun _ _ => rfl) p3
