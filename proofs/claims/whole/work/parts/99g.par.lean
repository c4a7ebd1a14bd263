/-! ===== a bracket ===== -/
/-- no sign between two worths here -/
theorem R_none {n x1 b E d : Nat} {t : Tk} {W C : List Int32} {o : Int} {J : fc_I} (hM : SyM n x1 J b E t W C o d) (d8 : d < 8) (hj : jv t = -1 ∨ jv t = 2 ∧ J 114 d = 1) : f_X11_between_97 (bS t) J = some (0, J) := by
  have ok : Tok t := hM.2.2.2.2.1.2.2
  rcases hj with hj | hj
  · rw [jv_m ok hj]
    exact M_btw97n
  · have q := jv_at ok (L := 2) (by decide) hj.1
    rw [M_btw97 q.2.1 hM.2.2.2.2.2.2.1 d8, if_pos ⟨q.1, by rw [hj.2]; decide⟩]
theorem FM_par {x1 d : Nat} {J : fc_I} {W : List Int32} : FM x1 (d + 1) J (parI J W d) := by
  refine ⟨fun c s h1 h2 h3 h4 => ?_, fun s _ => rfl⟩
  unfold parI
  have q : fc_wI (pushI (fc_wI J 78 52 (J 78 52 + 1)) W 15) 78 53 (zi (d + 1)) c s = J c s := by
    unfold pushI
    by_cases c8 : c = 78
    · subst c8
      rw [fc_wI_at, if_neg (by omega), fc_wI_at, if_neg (by omega), fc_wI_ne (by decide), fc_wI_at, if_neg (by omega)]
    · rw [fc_wI_ne c8, fc_wI_ne c8, fc_wI_ne h2, fc_wI_ne c8]
  by_cases c4 : c = 114
  · subst c4
    rw [fc_wI_at, if_neg (by omega)]
    exact q
  · rw [fc_wI_ne c4]
    exact q
theorem par_tok {J : fc_I} {W : List Int32} {d : Nat} : ∀ s, s ≠ 51 → s ≠ 52 → s ≠ 53 → parI J W d 78 s = J 78 s := by
  intro s h1 h2 h3
  unfold parI pushI
  rw [fc_wI_ne (by decide), fc_wI_at, if_neg h3, fc_wI_at, if_neg h1, fc_wI_ne (by decide), fc_wI_at, if_neg h2]
theorem SyM_par {n x1 b E d : Nat} {t : Tk} {W C : List Int32} {o : Int} {J : fc_I} (d7 : d < 7) (hM : SyM n x1 J b E t W C o d) (r : RS (parI J W d) x1 (15 :: W) C (o + 1)) : SyM n x1 (parI J W d) b E t (15 :: W) C (o + 1) (d + 1) ∧ parI J W d 114 (d + 1) = 0 ∧ parI J W d 114 d = J 114 d := by
  obtain ⟨a1, a2, a3, a4, a5, a6, a7, a8⟩ := hM
  have f := FM_par (x1 := x1) (J := J) (W := W) (d := d)
  have c0 : parI J W d 114 (d + 1) = 0 := by
    unfold parI
    rw [fc_wI_at, if_pos rfl]
  refine ⟨⟨mC_of (fun c s hc => f.1 c s (by omega) (by omega) (Or.inl (by omega)) (Or.inl (by omega))) a1, ?_, ?_, ?_, ⟨?_, ?_, a5.2.2⟩, r, ?_, Or.inl c0⟩, c0, ?_⟩
  · rw [par_tok 39 (by decide) (by decide) (by decide)]; exact a2
  · rw [par_tok 47 (by decide) (by decide) (by decide)]; exact a3
  · rw [par_tok 44 (by decide) (by decide) (by decide)]; exact a4
  · rw [par_tok 45 (by decide) (by decide) (by decide)]; exact a5.1
  · rw [par_tok 46 (by decide) (by decide) (by decide)]; exact a5.2.1
  · have e : parI J W d 78 53 = zi (d + 1) := by
      unfold parI
      rw [fc_wI_ne (by decide), fc_wI_at, if_pos rfl]
    rw [e, zi_int (by omega)]
  · exact f.1 114 d (by decide) (by decide) (Or.inr (by omega)) (Or.inl (by decide))
theorem FM_cls {x1 d : Nat} {J : fc_I} : FM x1 d J (clsI J) := by
  refine ⟨fun c s h1 h2 h3 h4 => ?_, fun s _ => rfl⟩
  unfold clsI
  by_cases c8 : c = 78
  · subst c8
    rw [fc_wI_at, if_neg (by omega), fc_wI_at, if_neg (by omega), fc_wI_at, if_neg (by omega)]
  · rw [fc_wI_ne c8, fc_wI_ne c8, fc_wI_ne c8]
theorem cls_tok {J : fc_I} : ∀ s, s ≠ 51 → s ≠ 52 → s ≠ 53 → clsI J 78 s = J 78 s := by
  intro s h1 h2 h3
  unfold clsI
  rw [fc_wI_at, if_neg h2, fc_wI_at, if_neg h3, fc_wI_at, if_neg h1]
/-- a bracket closes -/
theorem SyM_cls {n x1 b E d : Nat} {t : Tk} {W C W' C' : List Int32} {o o' : Int} {J J1 J' : fc_I} (hM : SyM n x1 J b E t W C o (d + 1)) (f1 : FR x1 J J1) (f2 : FR x1 (clsI J1) J') (r : RS J' x1 W' C' o') (h53 : (J' 78 53).toInt = (d : Int)) (g : J 114 d = 0 ∨ J 114 d = 1) : SyM n x1 J' b E t W' C' o' d ∧ J' 114 d = J 114 d ∧ FM x1 d J J' := by
  obtain ⟨a1, a2, a3, a4, a5, a6, a7, a8⟩ := hM
  have fm : FM x1 d J J' := FM_t (FM_FB (FB_FR f1)) (FM_t FM_cls (FM_FB (FB_FR f2)))
  have q : ∀ s, s ≠ 51 → s ≠ 52 → s ≠ 53 → s ≠ 56 → J' 78 s = J 78 s := fun s h1 h2 h3 h4 => by
    rw [f2.1 78 s (by decide) (Or.inr ⟨h1, h2, h4⟩), cls_tok s h1 h2 h3, f1.1 78 s (by decide) (Or.inr ⟨h1, h2, h4⟩)]
  have c114 : J' 114 d = J 114 d := by
    rw [f2.1 114 d (by decide) (Or.inl (by decide))]
    show J1 114 d = J 114 d
    exact f1.1 114 d (by decide) (Or.inl (by decide))
  refine ⟨⟨mC_of (fun c s hc => fm.1 c s (by omega) (by omega) (Or.inl (by omega)) (Or.inl (by omega))) a1, ?_, ?_, ?_, ⟨?_, ?_, a5.2.2⟩, r, h53, by rw [c114]; exact g⟩, c114, fm⟩
  · rw [q 39 (by decide) (by decide) (by decide) (by decide)]; exact a2
  · rw [q 47 (by decide) (by decide) (by decide) (by decide)]; exact a3
  · rw [q 44 (by decide) (by decide) (by decide) (by decide)]; exact a4
  · rw [q 45 (by decide) (by decide) (by decide) (by decide)]; exact a5.1
  · rw [q 46 (by decide) (by decide) (by decide) (by decide)]; exact a5.2.1
theorem TT_FM {n x1 d : Nat} {I J J' : fc_I} (f : FM x1 d J J') (h : TT n I J) : TT n I J' := fun s hs => (h s hs).trans (f.1 108 s (by decide) (by decide) (Or.inl (by decide)) (Or.inl (by decide))).symm
/-- a bracket: it opens, what stands in it, it closes -/
theorem S_par {n v x1 b E d k f m q0 o : Nat} {W0 C K K0 : List Int32} {s : Int32} {I J : fc_I} (ih : SIMs n v x1 K0 f) (n160 : n ≤ 160) (h1 : x1 < 12) (hX : SyX n v I b E (3, 40) (K ++ K0)) (hv : v ≠ 43) (hM : SyM n x1 J b E (3, 40) (mn k ++ W0) C (o : Int) d) (hB : SyB n b E (3, 40)) (hT : TT n I J) (hK : K.map trc = C) (hl : K0.length + W0.length + k + C.length ≤ b) (hW : stops 7 W0) (ho : o < 5) (hf : (5 - o) * 6 ≤ f) (hd : d ≤ o) (hm : n + 1 ≤ m + b) (hq : cdl C = some q0) : ∃ I', f_X5_readOpened v (lpm2 (f_X5_readLevel_B v) f) I 5 (zi o) = some I' ∧ SR n v x1 K0 5 (b + 1) d W0 k o q0 I J I' (lpm2 (f_X11_readE_40_B (zi x1)) m 1 s J) := by
  obtain ⟨m1, rfl⟩ : ∃ m1, m = m1 + 1 := ⟨m - 1, by have := hB.1; have := hB.2.1; omega⟩
  have bE := hB.2.2 (by decide)
  have En := hB.2.1
  have hs := hM.2.2.2.2.1
  have hr := hM.2.2.2.2.2.1
  have h7 : I 43 7 = 40 := hX.2.2.2.1
  obtain ⟨a1, a2⟩ := M_aheadP hr hs (by rw [len_mn]; omega) (by omega) hM.2.2.2.2.2.2.1 (by omega)
  obtain ⟨hM1, c0, cd⟩ := SyM_par (by omega) hM a2
  have fp := FM_par (x1 := x1) (J := J) (W := mn k ++ W0) (d := d)
  generalize hJ1 : parI J (mn k ++ W0) d = J1 at a1 a2 hM1 c0 cd fp
  obtain ⟨I1, J2, b', E', t', r1, r2, r3, r4, r5, r6, r7, r8, r9, r10⟩ := S_next n160 hv En (TT_FM fp hT) hX hM1
  have o1 : ((o + 1 : Nat) : Int) = (o : Int) + 1 := by omega
  rw [← o1] at r4
  obtain ⟨I2, q1, q2, q3⟩ := ih 0 (o + 1) b' E' (d + 1) 0 q0 m1 t' (15 :: (mn k ++ W0)) C K 1 I1 J2 (by omega) (by omega) (by omega) r3 r4 r5 r10 hK (by rw [List.length_cons, len_mn]; omega) (fun _ => rfl) (Or.inl rfl) (by omega) (fun _ => ⟨by rw [r9]; exact c0, by decide⟩) (fun z => absurd z (by decide)) (by omega) hq
  have er : lpm2 (f_X11_readE_40_B (zi x1)) (m1 + 1) 1 s J = lpm2 (f_X11_readE_40_B (zi x1)) m1 1 1 J2 := by
    show f_X11_readE_40_B (zi x1) (lpm2 (f_X11_readE_40_B (zi x1)) m1) 1 s J = _
    rw [R_other hs (by decide) (by decide), M_ahead hs, if_pos (Or.inl rfl), a1, fq_bsome, kt_1, if_neg (by decide), if_neg (by decide), r2, fq_usome]
  have z0 : (0 : Int32) = zi 0 := rfl
  have ex : f_X5_readOpened v (lpm2 (f_X5_readLevel_B v) f) I 5 (zi o) = f_X5_expect I2 41 := by
    rw [X_opP h7, r1, fq_usome, zi_S (by omega), z0, q1, fq_usome]
  have fm : FM x1 (d + 1) J J2 := FM_t fp (r8 (d + 1))
  rw [er, ex]
  rcases q3 with q3 | ⟨b2, E2, t2, P, C', K', J3, m2, s2, ⟨g1, g2, g3, g4⟩, ⟨g5, g6, g7, g8⟩, ⟨g9, g10, g11⟩, g12, g13, g14⟩
  · obtain ⟨y1, y2, R, y3, y4, y5⟩ := q3
    exact ⟨I2, X_expF y1 (by decide), FX_t r7 q2, Or.inl ⟨y1, y2, R, y3, y4, FM_le (by omega) (FM_t fm y5)⟩⟩
  · rw [List.length_cons, len_mn] at g11
    have lK : K'.length = P.length + C'.length := by
      have := congrArg List.length g9
      rw [List.length_map, List.length_append, List.length_reverse] at this
      exact this
    have En2 := g7.2.1
    have En1 := g7.1
    have hs2 := g6.2.2.2.2.1
    have ok2 : Tok t2 := hs2.2.2
    obtain ⟨_, _, _, i41, _⟩ := Tx_is ok2
    have fm3 : FM x1 (d + 1) J J3 := FM_t fm g4
    have jv2 := jv_b t2
    have bt := R_none g6 (by omega) (by
      rcases g12 with g12 | g12
      · left
        omega
      · exact Or.inr ⟨g12.2.1, g12.2.2⟩)
    obtain ⟨m3, rfl⟩ : ∃ m3, m2 = m3 + 1 := ⟨m2 - 1, by omega⟩
    have e53 := g6.2.2.2.2.2.2.1
    have er2 : lpm2 (f_X11_readE_40_B (zi x1)) (m3 + 1) 0 s2 J3 = fq_b (f_X11_closes J3) fun r2 I2 => if r2.toInt = 0 then some (0, I2) else fq_u (f_X11_next I2) fun I209 => lpm2 (f_X11_readE_40_B (zi x1)) m3 0 s2 I209 := by
      show f_X11_readE_40_B (zi x1) (lpm2 (f_X11_readE_40_B (zi x1)) m3) 0 s2 J3 = _
      rw [R_sign hs2 (Or.inr (by omega)), bt, fq_bsome, kt_0, if_pos rfl]
    rw [g1, er2]
    by_cases c : t2 = (3, 41)
    · subst c
      have e41 : f_X5_expect I2 41 = f_X5_nextToken I2 := by
        unfold f_X5_expect
        rw [g5.2.2.2.1, kt_41, if_pos (i41.mpr rfl), fq_uid]
      have ob := opn_b P
      have dAe : dA 1 (P ++ 15 :: (mn k ++ W0)) (mn 0 ++ C') (((o + 1 : Nat) : Int) - ((0 : Nat) : Int) + opn P) = (15 :: (mn k ++ W0), P.reverse ++ C', (o : Int) + 1) := by
        rw [dA_P (x := 1) (W := 15 :: (mn k ++ W0)) (Or.inl rfl) P _ _ (fun h hh => ⟨(g10 h hh).1, (g10 h hh).2⟩)]
        have e : ((o + 1 : Nat) : Int) - ((0 : Nat) : Int) + opn P - opn P = (o : Int) + 1 := by omega
        rw [e]
        rfl
      have lW : (P ++ 15 :: (mn k ++ W0)).length = P.length + (k + W0.length + 1) := by
        rw [List.length_append, List.length_cons, len_mn]
      have lC : (mn 0 ++ C').length = C'.length := rfl
      obtain ⟨J4, J5, u1, u2, u3, u4, u5⟩ := M_closes (w := mn k ++ W0) h1 g6.2.2.2.2.2.1 hs2 (by omega) (by omega) e53 (by omega) (by rw [dAe]) (by rw [dAe, len_mn]; simp only; omega)
      rw [dAe] at u4
      simp only at u4
      have e1 : (o : Int) + 1 - 1 = (o : Int) := by omega
      rw [e1, dA_mn hW] at u4
      simp only at u4
      have cd3 : J3 114 d = J 114 d := fm3.1 114 d (by decide) (by decide) (Or.inr (by omega)) (Or.inl (by decide))
      obtain ⟨w1, w2, w3⟩ := SyM_cls g6 u2 u3 u4 u5 (by rw [cd3]; exact hM.2.2.2.2.2.2.2)
      obtain ⟨I6, J6, b6, E6, t6, p1, p2, p3, p4, p5, p6, p7, p8, p9, p10⟩ := S_next n160 hv En2 (TT_FM w3 g8) g5 w1
      have bE2 := g7.2.2 (by decide)
      refine ⟨I6, e41.trans p1, FX_t r7 (FX_t q2 p7), Or.inr ⟨b6, E6, t6, [], P.reverse ++ C', K', J6, m3, s2, ⟨?_, by omega, by omega, FM_t (FM_le (by omega) fm3) (FM_t w3 (p8 d))⟩, ⟨p3, ?_, p5, p10⟩, ⟨g9, fun h hh => absurd hh List.not_mem_nil, ?_⟩, Or.inl ?_, fun _ => ?_, g14⟩⟩
      · rw [u1, fq_bsome, kt_1, if_neg (by decide), p2, fq_usome]
      · have e : (o : Int) - (k : Int) + opn [] = (o : Int) - (k : Int) := Int.add_zero _
        rw [e]
        exact p4
      · rw [List.length_append, List.length_reverse]
        simp only [List.length_nil]
        omega
      · have := (jv_b t6).2
        show jv t6 < 5
        omega
      · rw [p9, w2, cd3]
    · have e41 : f_X5_expect I2 41 = f_X5_fail I2 := by
        unfold f_X5_expect
        rw [g5.2.2.2.1, kt_41, if_neg (fun z => c (i41.mp z)), fq_uid]
      rw [e41]
      have cl := M_closesN hs2 (Or.inl c)
      obtain ⟨I3, y1, y2⟩ := S_flt (L := 5) (B := b + 1) (d := d) (W0 := W0) (k := k) (o := o) (q0 := q0) (K0 := K0) (by omega) (by rw [List.length_append]; omega) g5 (r := (fq_b (f_X11_closes J3) fun r2 I2 => if r2.toInt = 0 then some (0, I2) else fq_u (f_X11_next I2) fun I209 => lpm2 (f_X11_readE_40_B (zi x1)) m3 0 s2 I209)) (R := J3) (by rw [cl, fq_bsome, kt_0, if_pos rfl]) g6.2.2.1 (FM_le (Nat.le_succ d) (FM_r (x1 := x1)))
      exact ⟨I3, y1, SR_pre (FX_t r7 q2) (FM_le (by omega) fm3) (Nat.le_refl _) (fun _ => fm3.1 114 d (by decide) (by decide) (Or.inr (by omega)) (Or.inl (by decide))) y2⟩
