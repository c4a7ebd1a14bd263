/-! ===== a text is read ===== -/
def X_T3 (I70 : fc_I) : Option (Int32 × fc_I) := if (I70 43 7).toInt = (11 : Int32).toInt then some ((I70 43 9), I70) else fq_u (f_X5_fail I70) fun I83 => some ((I83 43 9), I83)
def X_T2 (w : Nat) (I44 : fc_I) : Option (Int32 × fc_I) := fq_l (fc_wI I44 43 3 (I44 43 2)) fun I52 => fq_u (f_X5_expect I52 15) fun I58 => fq_u (f_X5_readLevel w 40 0 0 I58) fun I64 => fq_u (f_X5_expect I64 59) fun I70 => X_T3 I70
def X_T1 (w : Nat) (I26 : fc_I) : Option (Int32 × fc_I) := fq_u (f_X5_expect I26 14) fun I32 => fq_u (f_X5_readLevel w 40 0 0 I32) fun I38 => fq_u (f_X5_expect I38 59) fun I44 => X_T2 w I44
theorem X_T3F {I : fc_I} (h : XF I) : X_T3 I = some (I 43 9, I) := by
  unfold X_T3
  rw [h.1, kt_10, kt_11, if_neg (by decide), X_failF h, fq_usome]
theorem X_T2F {w : Nat} {I : fc_I} (h : XF I) : X_T2 w I = some (I 43 9, fc_wI I 43 3 (I 43 2)) := by
  have h' : XF (fc_wI I 43 3 (I 43 2)) := h
  have e : f_X5_readLevel w 40 0 0 (fc_wI I 43 3 (I 43 2)) = some (fc_wI I 43 3 (I 43 2)) := X_lvF h' 5 40 0 0 rfl (Nat.le_refl _) (by decide)
  unfold X_T2
  simp only [fq_l]
  rw [X_expF h' (by decide), fq_usome, e, fq_usome, X_expF h' (by decide), fq_usome, X_T3F h']
  rfl
theorem X_T1F {w : Nat} {I : fc_I} (h : XF I) : X_T1 w I = some (I 43 9, fc_wI I 43 3 (I 43 2)) := by
  have e : f_X5_readLevel w 40 0 0 I = some I := X_lvF h 5 40 0 0 rfl (Nat.le_refl _) (by decide)
  unfold X_T1
  rw [X_expF h (by decide), fq_usome, e, fq_usome, X_expF h (by decide), fq_usome, X_T2F h]
/-- what the class's reading of a text leaves as it is -/
def FXr (v : Nat) (I I' : fc_I) : Prop := ∀ c s, c ≠ v → c ≠ 43 → I' c s = I c s
theorem FXr_FX {v : Nat} {I I' : fc_I} (h : FX v I I') : FXr v I I' := fun c s h1 h2 => h c s h1 (Or.inl h2)
theorem FXr_t {v : Nat} {I I' I'' : fc_I} (a : FXr v I I') (b : FXr v I' I'') : FXr v I I'' := fun c s h1 h2 => (b c s h1 h2).trans (a c s h1 h2)
theorem FXr_w {v s : Nat} {I : fc_I} {x : Int32} : FXr v I (fc_wI I 43 s x) := fun c k _ h2 => by rw [fc_wI_ne h2]
def RdD (n v x : Nat) (I' J' : fc_I) : Prop := ∃ K1 K2 : List Int32, cdv I' v (K2 ++ K1) ∧ I' 43 3 = zi K1.length ∧ I' 43 2 = zi (K1.length + K2.length) ∧ J' 110 (2 * x) = zi K1.length ∧ J' 110 (2 * x + 1) = zi K2.length ∧ cds J' (320 * x) (K1.map trc) ∧ cds J' (320 * x + 160) (K2.map trc) ∧ cdl (K1.map trc) = some 1 ∧ cdl (K2.map trc) = some 1 ∧ K1.length + K2.length ≤ n
theorem S_read {n v x : Nat} {I J : fc_I} (n160 : n ≤ 160) (hv : v ≠ 43) (hv2 : v ≠ 32) (hx : x < 6) (hC : mC J) (h39 : (J 78 39).toInt = (n : Int)) (hT : TT n I J) : ∃ r I' J', f_X5_read v I (zi n) = some (r, I') ∧ f_X11_readAll J (zi x) = some (r, J') ∧ FXr v I I' ∧ FY x J J' ∧ (r.toInt ≠ -1 ∨ r = -1 ∧ RdD n v x I' J') := by
  have zn := zi_int (n := n) (by omega)
  have zx := zi_int (n := x) (by omega)
  -- the class begins
  have eX : f_X5_read v I (zi n) = fq_u (f_X5_nextToken (fc_wI (fc_wI (fc_wI (fc_wI I 43 4 (zi n)) 43 2 0) 43 6 0) 43 9 (-1))) fun I26 => X_T1 v I26 := rfl
  have fx0 : FXr v I (fc_wI (fc_wI (fc_wI (fc_wI I 43 4 (zi n)) 43 2 0) 43 6 0) 43 9 (-1)) := FXr_t FXr_w (FXr_t FXr_w (FXr_t FXr_w FXr_w))
  have hT0 : TT n (fc_wI (fc_wI (fc_wI (fc_wI I 43 4 (zi n)) 43 2 0) 43 6 0) 43 9 (-1)) (fc_wI J 78 44 0) := fun s hs => hT s hs
  have fy0 : FY x J (fc_wI J 78 44 0) := ⟨fun c s h1 h2 h3 h4 h5 => by
    by_cases c8 : c = 78
    · subst c8
      rw [fc_wI_at, if_neg (by omega)]
    · rw [fc_wI_ne c8], fun _ _ => rfl⟩
  obtain ⟨I1, J1, b1, E1, t1, p1, p2, p3, p4, p5, p6, p7, p8, p9, p10, p11⟩ := S_nextT (x := x) (K := []) n160 hv (Nat.zero_le n) hT0 zn rfl rfl ⟨rfl, trivial⟩ hC h39 rfl
  have eX1 : f_X5_read v I (zi n) = X_T1 v I1 := by
    rw [eX, p1, fq_usome]
  have eM : f_X11_readAll J (zi x) = f_X11_readAll_7_B (zi x) (lpm1 (f_X11_readAll_7_B (zi x)) 3999) 0 (fc_wI J 78 44 0) := rfl
  have st : ∀ (y : Nat) (kk : Int32 → fc_I → Option (Int32 × fc_I)) (Ja Jb : fc_I) (t : Tk), y ≤ 1 → f_X11_next Ja = some Jb → SM Jb t → f_X11_readAll_7_B (zi x) kk (zi y) Ja = if t = (4, zi y) then (fq_u (f_X11_next Jb) fun I30 => fq_b (f_X11_readE I30 (zi (2 * x + y))) fun r39 I39 => if r39.toInt = 0 then some (I39 78 47, I39) else kk (zi (y + 1)) I39) else some (Jb 78 47, Jb) := fun y kk Ja Jb t hy ha hb => by
    have zy := zi_int (n := y) (by omega)
    have e2 : (2 : Int32) * zi x + zi y = zi (2 * x + y) := by
      refine zi_of ?_ (by omega)
      have m : ((2 : Int32) * zi x).toInt = 2 * (x : Int) := by
        rw [i_mul (by rw [kt_2]; omega) (by rw [kt_2]; omega), kt_2, zx]
      rw [i_add (by omega) (by omega), m, zy]
      omega
    unfold f_X11_readAll_7_B
    rw [kt_2, zy, if_pos (by omega), ha, fq_usome, M_isKey hb, stpP, e2, zi_S (by omega)]
  have e0 : (0 : Int32) = zi 0 := rfl
  have eM1 := st 0 (lpm1 (f_X11_readAll_7_B (zi x)) 3999) (fc_wI J 78 44 0) J1 t1 (by omega) p2 p4.2.2.2.2
  rw [← e0] at eM1
  rw [eM, eM1, eX1]
  have ok1 : Tok t1 := p4.2.2.2.2.2.2
  obtain ⟨_, _, _, _, _, i14, _⟩ := Tx_is ok1
  have b1n : b1 ≤ n := Nat.le_trans p5.1 p5.2.1
  have nm : ∀ q : Nat, q < 100000 → (zi q).toInt ≠ -1 := fun q hq => by
    rw [zi_int hq]
    omega
  by_cases c1 : t1 = (4, 0)
  · rw [if_pos c1]
    have ex14 : f_X5_expect I1 14 = f_X5_nextToken I1 := by
      unfold f_X5_expect
      rw [p3.2.2.2.1, kt_14, if_pos (i14.mpr c1), fq_uid]
    obtain ⟨I2, J2, b2, E2, t2, q1, q2, q3, q4, q5, q6, q7, q8, q9, q10, q11⟩ := S_nextT (x := x) n160 hv p5.2.1 p9 p3.1 p3.2.2.1 p3.2.2.2.2.2.1 p3.2.2.2.2.2.2 p4.1 p4.2.1 p4.2.2.2.1
    have b1E := p5.2.2 (by rw [c1]; decide)
    obtain ⟨I3, I4, r1, r2, r3, r4⟩ := S_seg (x := x) (y := 0) n160 hv hv2 hx (by omega) q3 q4 q5 q9 (Nat.zero_le _)
    have eX2 : X_T1 v I1 = X_T2 v I4 := by
      unfold X_T1
      rw [ex14, q1, fq_usome, r1, fq_usome, r2, fq_usome]
    rw [q2, fq_usome, eX2]
    have fx4 : FXr v I I4 := FXr_t fx0 (FXr_t (FXr_FX p7) (FXr_t (FXr_FX q7) (FXr_FX r3)))
    have fy2 : FY x J J2 := FY_t fy0 (FY_t p8 q8)
    rcases r4 with ⟨y1, R, y2, y3, y4⟩ | ⟨b3, E3, t3, K1, J3, J4, s1, s2, s3, s4, s5, s6, s7, s8, s9, s10, s11, s12, s13⟩
    · have y2' : f_X11_readE J2 (zi (2 * x + 0)) = some (0, R) := y2
      refine ⟨I4 43 9, fc_wI I4 43 3 (I4 43 2), R, X_T2F y1, ?_, FXr_t fx4 FXr_w, FY_t fy2 y4, Or.inl y1.2⟩
      rw [y2', fq_bsome, kt_0, if_pos rfl, y3]
    · have s1' : f_X11_readE J2 (zi (2 * x + 0)) = some (1, J3) := s1
      rw [s1', fq_bsome, kt_1, if_neg (by decide)]
      have eM2 := st 1 (lpm1 (f_X11_readAll_7_B (zi x)) 3998) J3 J4 t3 (by omega) s2 s5.2.2.2.2
      have eM2' : lpm1 (f_X11_readAll_7_B (zi x)) 3999 (zi (0 + 1)) J3 = f_X11_readAll_7_B (zi x) (lpm1 (f_X11_readAll_7_B (zi x)) 3998) (zi 1) J3 := rfl
      rw [eM2', eM2]
      have b3n : b3 ≤ n := Nat.le_trans s6.1 s6.2.1
      have ok3 : Tok t3 := s5.2.2.2.2.2.2
      obtain ⟨_, _, _, _, _, _, i15, _⟩ := Tx_is ok3
      simp only [List.length_nil, List.append_nil] at s4 s11
      -- where the second sum begins
      have hX5 : SyX n v (fc_wI I4 43 3 (I4 43 2)) b3 E3 t3 K1 := ⟨s4.1, s4.2.1, s4.2.2.1, s4.2.2.2.1, s4.2.2.2.2.1, s4.2.2.2.2.2.1, ⟨s4.2.2.2.2.2.2.1, cdv_c (J := I4) K1 (fun s hs => by rw [fc_wI_ne hv]) s4.2.2.2.2.2.2.2⟩⟩
      have hT5 : TT n (fc_wI I4 43 3 (I4 43 2)) J4 := fun s hs => s7 s hs
      have fx5 : FXr v I (fc_wI I4 43 3 (I4 43 2)) := FXr_t fx4 FXr_w
      have fy4 : FY x J J4 := FY_t fy2 s3
      have e3 : fc_wI I4 43 3 (I4 43 2) 43 3 = zi K1.length := s4.2.2.2.2.2.2.1
      have eT2 : X_T2 v I4 = fq_u (f_X5_expect (fc_wI I4 43 3 (I4 43 2)) 15) fun I58 => fq_u (f_X5_readLevel v 40 0 0 I58) fun I64 => fq_u (f_X5_expect I64 59) fun I70 => X_T3 I70 := rfl
      rw [eT2]
      generalize fc_wI I4 43 3 (I4 43 2) = I5 at hX5 hT5 fx5 e3
      by_cases c3 : t3 = (4, 1)
      · rw [if_pos (show t3 = (4, zi 1) from c3)]
        have ex15 : f_X5_expect I5 15 = f_X5_nextToken I5 := by
          unfold f_X5_expect
          rw [hX5.2.2.2.1, kt_15, if_pos (i15.mpr c3), fq_uid]
        obtain ⟨I6, J6, b6, E6, t6, u1, u2, u3, u4, u5, u6, u7, u8, u9, u10, u11⟩ := S_nextT (x := x) n160 hv s6.2.1 hT5 hX5.1 hX5.2.2.1 hX5.2.2.2.2.2.1 hX5.2.2.2.2.2.2 s5.1 s5.2.1 s5.2.2.2.1
        have b3E := s6.2.2 (by rw [c3]; decide)
        obtain ⟨I7, I8, w1, w2, w3, w4⟩ := S_seg (x := x) (y := 1) n160 hv hv2 hx (by omega) u3 u4 u5 u9 (by omega)
        rw [ex15, u1, fq_usome, w1, fq_usome, w2, fq_usome, u2, fq_usome]
        have fx8 : FXr v I I8 := FXr_t fx5 (FXr_t (FXr_FX u7) (FXr_FX w3))
        have fy6 : FY x J J6 := FY_t fy4 u8
        rcases w4 with ⟨y1, R, y2, y3, y4⟩ | ⟨b9, E9, t9, K2, J9, J10, a1, a2, a3, a4, a5, a6, a7, a8, a9, a10, a11, a12, a13⟩
        · refine ⟨I8 43 9, I8, R, X_T3F y1, ?_, fx8, FY_t fy6 y4, Or.inl y1.2⟩
          rw [y2, fq_bsome, kt_0, if_pos rfl, y3]
        · have fy10 : FY x J J10 := FY_t fy6 a3
          have ok9 : Tok t9 := a5.2.2.2.2.2.2
          obtain ⟨_, _, _, _, _, _, _, i11, _⟩ := Tx_is ok9
          have b9n : b9 ≤ n := Nat.le_trans a6.1 a6.2.1
          have eM3 : lpm1 (f_X11_readAll_7_B (zi x)) 3998 (zi (1 + 1)) J9 = if (J10 78 45).toInt = 0 then some (-1, J10) else some (J10 78 47, J10) := by
            show f_X11_readAll_7_B (zi x) (lpm1 (f_X11_readAll_7_B (zi x)) 3997) 2 J9 = _
            unfold f_X11_readAll_7_B
            rw [if_neg (by decide), a2, fq_usome]
          rw [a1, fq_bsome, kt_1, if_neg (by decide), eM3, SM_45 a5.2.2.2.2]
          by_cases c9 : t9.1 = 0
          · rw [if_pos (by omega)]
            refine ⟨-1, I8, J10, ?_, rfl, fx8, fy10, Or.inr ⟨rfl, K1, K2, a4.2.2.2.2.2.2.2, ?_, ?_, ?_, a8, ?_, ?_, s10, a10, by omega⟩⟩
            · unfold X_T3
              rw [a4.2.2.2.1, kt_11, if_pos (i11.mpr c9)]
              have e9 : I8 43 9 = -1 := Int32.toInt_inj.mp (a4.2.2.2.2.2.1.trans kt_m1.symm)
              rw [e9]
            · have f3 : I8 43 3 = I5 43 3 := (w3 43 3 (fun z => hv z.symm) (Or.inr (by decide))).trans (u7 43 3 (fun z => hv z.symm) (Or.inr (by decide)))
              rw [f3, e3]
            · rw [a4.2.2.2.2.2.2.1, List.length_append, Nat.add_comm]
            · rw [a12 (2 * x) (by omega), u11]
              exact s8
            · have e160 : 160 * (2 * x + 0) = 320 * x := by omega
              rw [e160] at s9
              refine cds_c (J := J4) (K1.map trc) (fun s hs => ?_) s9
              rw [List.length_map] at hs
              rw [a13 s (by omega), u10]
            · have e160 : 160 * (2 * x + 1) = 320 * x + 160 := by omega
              rw [e160] at a9
              exact a9
          · rw [if_neg (by omega)]
            obtain ⟨I9, z1, z2, z3, z4, z5⟩ := X_f1 (by omega) a4
            refine ⟨zi b9, I9, J10, ?_, ?_, FXr_t fx8 (FXr_FX z5), fy10, Or.inl (nm _ (by omega))⟩
            · unfold X_T3
              rw [a4.2.2.2.1, kt_11, if_neg (fun z => c9 (i11.mp z)), z1, fq_usome, z3]
            · rw [a5.2.2.1]
      · rw [if_neg (show ¬ t3 = (4, zi 1) from c3)]
        have ex15 : f_X5_expect I5 15 = f_X5_fail I5 := by
          unfold f_X5_expect
          rw [hX5.2.2.2.1, kt_15, if_neg (fun z => c3 (i15.mp z)), fq_uid]
        obtain ⟨I9, z1, z2, z3, z4, z5⟩ := X_f1 (by omega) hX5
        have lv9 : f_X5_readLevel v 40 0 0 I9 = some I9 := X_lvF z2 5 40 0 0 rfl (Nat.le_refl _) (by decide)
        refine ⟨zi b3, I9, J4, ?_, ?_, FXr_t fx5 (FXr_FX z5), fy4, Or.inl (nm _ (by omega))⟩
        · rw [ex15, z1, fq_usome, lv9, fq_usome, X_expF z2 (by decide), fq_usome, X_T3F z2, z3]
        · rw [s5.2.2.1]
  · rw [if_neg c1]
    have ex14 : f_X5_expect I1 14 = f_X5_fail I1 := by
      unfold f_X5_expect
      rw [p3.2.2.2.1, kt_14, if_neg (fun z => c1 (i14.mp z)), fq_uid]
    obtain ⟨I9, z1, z2, z3, z4, z5⟩ := X_f1 (by omega) p3
    have lv9 : f_X5_readLevel v 40 0 0 I9 = some I9 := X_lvF z2 5 40 0 0 rfl (Nat.le_refl _) (by decide)
    refine ⟨zi b1, fc_wI I9 43 3 (I9 43 2), J1, ?_, ?_, FXr_t fx0 (FXr_t (FXr_FX p7) (FXr_t (FXr_FX z5) FXr_w)), FY_t fy0 p8, Or.inl (nm _ (by omega))⟩
    · unfold X_T1
      rw [ex14, z1, fq_usome, lv9, fq_usome, X_expF z2 (by decide), fq_usome, X_T2F z2, z3]
    · rw [p4.2.2.1]
