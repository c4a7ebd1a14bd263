/-! ===== one of the two sums of a text ===== -/
def SyT (n : Nat) (J : fc_I) (b E : Nat) (t : Tk) : Prop := mC J ∧ (J 78 39).toInt = (n : Int) ∧ J 78 47 = zi b ∧ J 78 44 = zi E ∧ SM J t
/-- what the reading of text x leaves as it is -/
def FY (x : Nat) (J J' : fc_I) : Prop := (∀ c s, c ≠ 109 → c ≠ 113 → c ≠ 114 → (c ≠ 110 ∨ s ≠ 2 * x ∧ s ≠ 2 * x + 1) → (c ≠ 78 ∨ s ≠ 44 ∧ s ≠ 45 ∧ s ≠ 46 ∧ s ≠ 47 ∧ s ≠ 51 ∧ s ≠ 52 ∧ s ≠ 53 ∧ s ≠ 55 ∧ s ≠ 56) → J' c s = J c s) ∧ ∀ s, (s < 320 * x ∨ 320 * x + 320 ≤ s) → J' 109 s = J 109 s
theorem FY_r {x : Nat} {J : fc_I} : FY x J J := ⟨fun _ _ _ _ _ _ _ => rfl, fun _ _ => rfl⟩
theorem FY_t {x : Nat} {J J' J'' : fc_I} (a : FY x J J') (b : FY x J' J'') : FY x J J'' := ⟨fun c s h1 h2 h3 h4 h5 => (b.1 c s h1 h2 h3 h4 h5).trans (a.1 c s h1 h2 h3 h4 h5), fun s h => (b.2 s h).trans (a.2 s h)⟩
theorem FY_FM {x y d : Nat} {J J' : fc_I} (hy : y ≤ 1) (a : FM (2 * x + y) d J J') : FY x J J' := ⟨fun c s h1 h2 h3 _ h5 => a.1 c s h1 h2 (Or.inl h3) (h5.elim Or.inl (fun z => Or.inr (by omega))), fun s h => a.2 s (by omega)⟩
theorem S_nextT {n v x p : Nat} {K : List Int32} {I J : fc_I} (n160 : n ≤ 160) (hv : v ≠ 43) (hp : p ≤ n) (hT : TT n I J) (x1' : (I 43 4).toInt = (n : Int)) (x3 : I 43 6 = zi p) (x6 : (I 43 9).toInt = -1) (x7 : XS I v K) (a1 : mC J) (a2 : (J 78 39).toInt = (n : Int)) (a4 : J 78 44 = zi p) : ∃ I1 J1 b' E' t', f_X5_nextToken I = some I1 ∧ f_X11_next J = some J1 ∧ SyX n v I1 b' E' t' K ∧ SyT n J1 b' E' t' ∧ SyB n b' E' t' ∧ p ≤ b' ∧ FX v I I1 ∧ FY x J J1 ∧ TT n I1 J1 ∧ J1 109 = J 109 ∧ J1 110 = J 110 := by
  obtain ⟨w, p1, p2⟩ := X_next x1' n160 hp x3
  obtain ⟨y, q1, q2⟩ := M_next a1 a2 n160 hp a4
  obtain ⟨e1, e2, e3⟩ := nT_eq hT hp
  obtain ⟨g1, g2, g3⟩ := nB_b (T := I 32) hp
  rw [e1, e2, e3] at p1
  rw [e3] at p2
  rw [e1, e2] at g2
  rw [e1] at g1
  rw [e2] at g3
  have g4 := nE_lt (T := J 108) hp
  have ok : Tok (nT (J 108) n p) := tk_ok
  generalize nB (J 108) n p = b' at *
  generalize nE (J 108) n p = E' at *
  generalize nT (J 108) n p = t' at *
  refine ⟨_, _, b', E', t', p1, q1, ⟨x1', rfl, rfl, rfl, p2, x6, ?_⟩, ⟨a1, a2, rfl, rfl, ⟨rfl, q2, ok⟩⟩, ⟨g2, g3, g4⟩, g1, FX_tk, FY_FM (y := 0) (d := 0) (by omega) FM_rI, hT, rfl, rfl⟩
  refine ⟨x7.1, cdv_c (J := I) K (fun s hs => ?_) x7.2⟩
  unfold tkI
  rw [if_neg hv]
/-- the reference at the end of a sum -/
theorem R_end {x s : Int32} {kk : Int32 → Int32 → fc_I → Option (Int32 × fc_I)} {J : fc_I} (h : SM J (3, 59)) (c : (J 78 53).toInt = 0) : f_X11_readE_40_B x kk 0 s J = fq_u (f_X11_doAll J 1) fun I150 => fq_g 12 x (fq_l (fc_wI I150 110 (cn x) (I150 78 56)) fun I162 => some (1, I162)) := by
  unfold f_X11_readE_40_B f_X11_readE_96
  rw [kt_0, if_pos rfl, if_pos rfl, M_isSign h, stpP, if_pos rfl, if_pos c]
def rdI (J : fc_I) (z : Int32) : fc_I := fc_wI (fc_wI (fc_wI (fc_wI (fc_wI (fc_wI J 78 55 z) 78 56 0) 78 51 0) 78 52 0) 78 53 0) 114 0 0
theorem rd_78 {J : fc_I} {z : Int32} : ∀ s, s ≠ 51 → s ≠ 52 → s ≠ 53 → s ≠ 55 → s ≠ 56 → rdI J z 78 s = J 78 s := by
  intro s h1 h2 h3 h4 h5
  unfold rdI
  rw [fc_wI_ne (by decide), fc_wI_at, if_neg h3, fc_wI_at, if_neg h2, fc_wI_at, if_neg h1, fc_wI_at, if_neg h5, fc_wI_at, if_neg h4]
theorem rd_ne {J : fc_I} {z : Int32} {c : Nat} (h1 : c ≠ 78) (h2 : c ≠ 114) : rdI J z c = J c := by
  unfold rdI
  rw [fc_wI_ne h2, fc_wI_ne h1, fc_wI_ne h1, fc_wI_ne h1, fc_wI_ne h1, fc_wI_ne h1]
theorem FY_rd {x : Nat} {J : fc_I} {z : Int32} : FY x J (rdI J z) := by
  refine ⟨fun c s h1 h2 h3 h4 h5 => ?_, fun s _ => by rw [rd_ne (by decide) (by decide)]⟩
  by_cases c8 : c = 78
  · subst c8
    exact rd_78 s (by omega) (by omega) (by omega) (by omega) (by omega)
  · rw [rd_ne c8 h3]
theorem SyM_rd {n x1 b E : Nat} {t : Tk} {J : fc_I} {z : Int32} (hz : z.toInt = ((160 * x1 : Nat) : Int)) (h : SyT n J b E t) : SyM n x1 (rdI J z) b E t [] [] 0 0 := by
  obtain ⟨a1, a2, a3, a4, a5⟩ := h
  refine ⟨mC_of (fun c s hc => by rw [rd_ne (by omega) (by omega)]) a1, ?_, ?_, ?_, ⟨?_, ?_, a5.2.2⟩, ⟨rfl, trivial, rfl, trivial, hz, rfl⟩, rfl, Or.inl rfl⟩
  · rw [rd_78 39 (by decide) (by decide) (by decide) (by decide) (by decide)]; exact a2
  · rw [rd_78 47 (by decide) (by decide) (by decide) (by decide) (by decide)]; exact a3
  · rw [rd_78 44 (by decide) (by decide) (by decide) (by decide) (by decide)]; exact a4
  · rw [rd_78 45 (by decide) (by decide) (by decide) (by decide) (by decide)]; exact a5.1
  · rw [rd_78 46 (by decide) (by decide) (by decide) (by decide) (by decide)]; exact a5.2.1
theorem e_readE {J : fc_I} {x1 : Nat} (h : x1 < 12) : f_X11_readE J (zi x1) = lpm2 (f_X11_readE_40_B (zi x1)) 4000 1 1 (rdI J ((160 : Int32) * zi x1)) := by
  unfold f_X11_readE
  simp only [fq_l]
  rw [fq_gp ⟨by decide, by decide⟩]
  rfl
/-- a sum, of class and reference -/
theorem S_seg {n v x y b E : Nat} {t : Tk} {K0 : List Int32} {I J : fc_I} (n160 : n ≤ 160) (hv : v ≠ 43) (hv2 : v ≠ 32) (hx : x < 6) (hy : y ≤ 1) (hX : SyX n v I b E t K0) (hJ : SyT n J b E t) (hB : SyB n b E t) (hT : TT n I J) (hl : K0.length ≤ b) : ∃ I2 I', f_X5_readLevel v 40 0 0 I = some I2 ∧ f_X5_expect I2 59 = some I' ∧ FX v I I' ∧ ((XF I' ∧ ∃ R, f_X11_readE J (zi (2 * x + y)) = some (0, R) ∧ R 78 47 = I' 43 9 ∧ FY x J R) ∨ ∃ b' E' t' K J1 J2, f_X11_readE J (zi (2 * x + y)) = some (1, J1) ∧ f_X11_next J1 = some J2 ∧ FY x J J2 ∧ SyX n v I' b' E' t' (K ++ K0) ∧ SyT n J2 b' E' t' ∧ SyB n b' E' t' ∧ TT n I' J2 ∧ J2 110 (2 * x + y) = zi K.length ∧ cds J2 (160 * (2 * x + y)) (K.map trc) ∧ cdl (K.map trc) = some 1 ∧ K.length + K0.length ≤ b' ∧ (∀ s, s ≠ 2 * x + y → J2 110 s = J 110 s) ∧ (∀ s, (s < 160 * (2 * x + y) ∨ 160 * (2 * x + y) + 160 ≤ s) → J2 109 s = J 109 s)) := by
  have h1 : 2 * x + y < 12 := by omega
  have zx := zi_int (n := 2 * x + y) (by omega)
  have hz : ((160 : Int32) * zi (2 * x + y)).toInt = ((160 * (2 * x + y) : Nat) : Int) := by
    rw [i_mul (by rw [kt_160]; omega) (by rw [kt_160]; omega), kt_160]
    omega
  have hM := SyM_rd hz hJ
  have fy0 : FY x J (rdI J ((160 : Int32) * zi (2 * x + y))) := FY_rd
  have f109 : ∀ s, rdI J ((160 : Int32) * zi (2 * x + y)) 109 s = J 109 s := fun s => by rw [rd_ne (by decide) (by decide)]
  have f110 : ∀ s, rdI J ((160 : Int32) * zi (2 * x + y)) 110 s = J 110 s := fun s => by rw [rd_ne (by decide) (by decide)]
  have hT0 : TT n I (rdI J ((160 : Int32) * zi (2 * x + y))) := fun s hs => by
    rw [rd_ne (by decide) (by decide)]
    exact hT s hs
  have c0 : rdI J ((160 : Int32) * zi (2 * x + y)) 114 0 = 0 := rfl
  rw [e_readE h1]
  generalize rdI J ((160 : Int32) * zi (2 * x + y)) = J0 at hM fy0 f109 f110 hT0 c0
  have En := hB.2.1
  have En' := hB.1
  obtain ⟨I2, q1, q2, q3⟩ := S_sim (K0 := K0) n160 h1 hv hv2 40 0 0 b E 0 0 0 4000 t [] [] [] 1 I J0 (by omega) (by omega) (by omega) hX hM hB hT0 rfl (by simp only [List.length_nil]; omega) (fun _ => rfl) trivial (Nat.le_refl _) (fun _ => ⟨c0, by decide⟩) (fun z => absurd z (by decide)) (by omega) rfl
  have q1' : f_X5_readLevel v 40 0 0 I = some I2 := q1
  rcases q3 with ⟨y1, y2, R, y3, y4, y5⟩ | ⟨b2, E2, t2, P, C', K', J3, m2, s2, ⟨g1, g2, g3, g4⟩, ⟨g5, g6, g7, g8⟩, ⟨g9, g10, g11⟩, g12, g13, g14⟩
  · exact ⟨I2, I2, q1', X_expF y1 (by decide), q2, Or.inl ⟨y1, R, y3, y4, FY_t fy0 (FY_FM hy y5)⟩⟩
  · have hs2 := g6.2.2.2.2.1
    have ok2 : Tok t2 := hs2.2.2
    obtain ⟨_, _, _, _, i59, _⟩ := Tx_is ok2
    have En2 := g7.2.1
    have En1 := g7.1
    have jv2 := jv_b t2
    have lK : K'.length = P.length + C'.length := by
      have := congrArg List.length g9
      rw [List.length_map, List.length_append, List.length_reverse] at this
      exact this
    simp only [List.length_nil] at g11
    obtain ⟨m3, rfl⟩ : ∃ m3, m2 = m3 + 1 := ⟨m2 - 1, by omega⟩
    have e53 : (J3 78 53).toInt = ((0 : Nat) : Int) := g6.2.2.2.2.2.2.1
    by_cases c : t2 = (3, 59)
    · subst c
      have e59 : f_X5_expect I2 59 = f_X5_nextToken I2 := by
        unfold f_X5_expect
        rw [g5.2.2.2.1, kt_59, if_pos (i59.mpr rfl), fq_uid]
      have ob := opn_b P
      have k1 : (1 : Int32).toInt = ((1 : Nat) : Int) := rfl
      have lP : (P ++ []).length = P.length := by rw [List.append_nil]
      have lC : (mn 0 ++ C').length = C'.length := rfl
      obtain ⟨J4, u1, u2, u3⟩ := e_doAllL k1 h1 _ _ _ J3 4000 (by omega) (by omega) (by omega) g6.2.2.2.2.2.1
      rw [dA_P (x := 1) (W := []) trivial P _ _ (fun h hh => ⟨(g10 h hh).1, (g10 h hh).2⟩)] at u2
      simp only at u2
      have u1' : f_X11_doAll J3 1 = some J4 := u1
      have eL : (P.reverse ++ (mn 0 ++ C')).length = K'.length := by
        rw [List.length_append, List.length_reverse]
        show P.length + C'.length = _
        omega
      have e56 : J4 78 56 = zi K'.length := zi_of (by rw [u2.2.2.1, eL]) (by omega)
      have hM4 := SyM_FB g6 (FB_FR (d := 0) u3) u2 (by rw [u3.1 114 0 (by decide) (Or.inl (by decide))]; exact g6.2.2.2.2.2.2.2)
      have f4 : FM (2 * x + y) 0 J3 J4 := FM_FB (FB_FR u3)
      obtain ⟨d1, d2, d3, d4, d5, d6, d7, d8⟩ := hM4
      have hM5 : SyM n (2 * x + y) (fc_wI J4 110 (2 * x + y) (zi K'.length)) b2 E2 (3, 59) [] (P.reverse ++ (mn 0 ++ C')) _ 0 := ⟨d1, d2, d3, d4, d5, ⟨d6.1, trivial, d6.2.2.1, cds_c (J := J4) _ (fun _ _ => rfl) d6.2.2.2.1, d6.2.2.2.2⟩, d7, d8⟩
      have fy5 : FY x J4 (fc_wI J4 110 (2 * x + y) (zi K'.length)) := ⟨fun c s h1 h2 h3 h4 h5 => by
        by_cases c0 : c = 110
        · subst c0
          rw [fc_wI_at, if_neg (by omega)]
        · rw [fc_wI_ne c0], fun _ _ => rfl⟩
      have hT4 : TT n I2 J4 := TT_FM f4 g8
      have hT5 : TT n I2 (fc_wI J4 110 (2 * x + y) (zi K'.length)) := fun s hs => hT4 s hs
      obtain ⟨I6, J6, b6, E6, t6, p1, p2, p3, p4, p5, p6, p7, p8, p9, p10⟩ := S_next n160 hv En2 hT5 g5 hM5
      have bE2 := g7.2.2 (by decide)
      refine ⟨I2, I6, q1', e59.trans p1, FX_t q2 p7, Or.inr ⟨b6, E6, t6, K', _, J6, ?_, p2, FY_t fy0 (FY_t (FY_FM hy g4) (FY_t (FY_FM hy f4) (FY_t fy5 (FY_FM hy (p8 0))))), p3, ⟨p4.1, p4.2.1, p4.2.2.1, p4.2.2.2.1, p4.2.2.2.2.1⟩, p5, p10, ?_, ?_, ?_, by omega, fun s hs => ?_, fun s hs => ?_⟩⟩
      · rw [g1]
        show f_X11_readE_40_B (zi (2 * x + y)) (lpm2 (f_X11_readE_40_B (zi (2 * x + y))) m3) 0 s2 J3 = _
        rw [R_end hs2 (by omega), u1', fq_usome, fq_gp ⟨by omega, by omega⟩, zi_cn (by omega), e56]
      · rw [(p8 0).1 110 (2 * x + y) (by decide) (by decide) (Or.inl (by decide)) (Or.inl (by decide)), fc_wI_at, if_pos rfl]
      · rw [g9]
        exact p4.2.2.2.2.2.1.2.2.2.1
      · rw [g9]
        exact g14
      · rw [(p8 0).1 110 s (by decide) (by decide) (Or.inl (by decide)) (Or.inl (by decide)), fc_wI_at, if_neg hs, f4.1 110 s (by decide) (by decide) (Or.inl (by decide)) (Or.inl (by decide)), g4.1 110 s (by decide) (by decide) (Or.inl (by decide)) (Or.inl (by decide)), f110]
      · rw [(p8 0).2 s hs, fc_wI_ne (by decide), f4.2 s hs, g4.2 s hs, f109]
    · have e59 : f_X5_expect I2 59 = f_X5_fail I2 := by
        unfold f_X5_expect
        rw [g5.2.2.2.1, kt_59, if_neg (fun z => c (i59.mp z)), fq_uid]
      have bt := R_none g6 (by omega) (by
        rcases g12 with g12 | g12
        · left
          omega
        · exact Or.inr ⟨g12.2.1, g12.2.2⟩)
      have cl := M_closesN hs2 (Or.inr (by omega))
      obtain ⟨I3, y1, y2, y3, y4, y5⟩ := X_f1 (by omega) g5
      refine ⟨I2, I3, q1', e59.trans y1, FX_t q2 y5, Or.inl ⟨y2, J3, ?_, g6.2.2.1.trans y3.symm, FY_t fy0 (FY_FM hy g4)⟩⟩
      rw [g1]
      show f_X11_readE_40_B (zi (2 * x + y)) (lpm2 (f_X11_readE_40_B (zi (2 * x + y))) m3) 0 s2 J3 = _
      rw [R_sign hs2 (Or.inl c), bt, fq_bsome, kt_0, if_pos rfl, cl, fq_bsome, kt_0, if_pos rfl]
