/-! ===== the joins of a level; a level ===== -/
theorem X_109G {v g : Nat} {I : fc_I} {kr : Int32 → Int32 → fc_I → Option fc_I} {L o x4 x5 : Int32} (h : XF I) (hL : 0 ≤ L.toInt) : lpm1 (f_X5_readLevel_109_B v kr L o x4) (g + 1) x5 I = some I := by
  have q : lpm1 (f_X5_readLevel_109_B v kr L o x4) (g + 1) x5 I = f_X5_readLevel_109_B v kr L o x4 (lpm1 (f_X5_readLevel_109_B v kr L o x4) g) x5 I := rfl
  have jl : f_X5_joinLevel 10 = some (-1) := by
    unfold f_X5_joinLevel
    rfl
  rw [q]
  unfold f_X5_readLevel_109_B
  by_cases c : x5.toInt < x4.toInt
  · rw [if_pos c, h.1, jl, fq_vsome, kt_m1, if_neg (by omega)]
  · rw [if_neg c]
theorem S_loop {n v x1 L o d f q0 : Nat} {K0 W0 : List Int32} (ih : SIMs n v x1 K0 f) (n160 : n ≤ 160) (h1 : x1 < 12) (hv : v ≠ 43) (hv2 : v ≠ 32) (hL : L < 5) (ho : o ≤ 5) (hf : (5 - o) * 6 + (5 - (L + 1)) < f) (hW : stops (lim L) W0) (hd : d ≤ o) : ∀ (g b E x5 m : Nat) (t : Tk) (Q C K : List Int32) (s : Int32) (I J : fc_I), SyX n v I b E t (K ++ K0) → SyM n x1 J b E t (Q ++ W0) C ((o : Int) + opn Q) d → SyB n b E t → TT n I J → K.map trc = Q.reverse ++ C → (∀ h ∈ Q, ¬ h = 15 ∧ lim L ≤ rk h) → K0.length + Q.length + W0.length + C.length ≤ b → (jv t ≤ (L : Int) ∨ L ≤ 2 ∧ jv t = 2 ∧ J 114 d = 1) → (L = 2 → x5 = 0 ∧ J 114 d = 0 ∨ x5 = 1 ∧ J 114 d = 1) → x5 + 1 ≤ b → n + 1 ≤ g + b → n + 1 ≤ m + b → cdl (Q.reverse ++ C) = some (q0 + 1) → ∃ I', lpm1 (f_X5_readLevel_109_B v (lpm2 (f_X5_readLevel_B v) f) (zi L) (zi o) (if L = 2 then 1 else 160)) g (zi x5) I = some I' ∧ SR n v x1 K0 L b d W0 0 o q0 I J I' (lpm2 (f_X11_readE_40_B (zi x1)) m 0 s J)
  | 0, b, E, x5, m, t, Q, C, K, s, I, J, hX, hM, hB, hT, hK, hQ, hl, hj, h2, h5, hg, hm, hq => by
    have := hB.1
    have := hB.2.1
    omega
  | g + 1, b, E, x5, m, t, Q, C, K, s, I, J, hX, hM, hB, hT, hK, hQ, hl, hj, h2, h5, hg, hm, hq => by
    have bE' := hB.1
    have En := hB.2.1
    obtain ⟨m1, rfl⟩ : ∃ m1, m = m1 + 1 := ⟨m - 1, by omega⟩
    have ok : Tok t := hM.2.2.2.2.1.2.2
    have hs := hM.2.2.2.2.1
    have hr := hM.2.2.2.2.2.1
    have zL := zi_int (n := L) (by omega)
    have z5 := zi_int (n := x5) (by omega)
    have lm := lim_S L hL
    have ob := opn_b Q
    have x4c : ((x5 : Int) < (if L = 2 then (1 : Int32) else 160).toInt) ↔ (L = 2 → x5 = 0) := by
      by_cases c : L = 2
      · rw [if_pos c, kt_1]
        constructor
        · intro h _
          omega
        · intro h
          have := h c
          omega
      · rw [if_neg c, kt_160]
        constructor
        · intro _ z
          exact absurd z c
        · intro _
          omega
    obtain ⟨jr, j1, j2⟩ := e_join ok
    have stay : (¬ (L = 2 → x5 = 0) ∨ ¬ jv t = (L : Int)) → SR n v x1 K0 L b d W0 0 o q0 I J I (lpm2 (f_X11_readE_40_B (zi x1)) (m1 + 1) 0 s J) := fun hc => by
      refine ⟨FX_r, Or.inr ⟨b, E, t, Q, C, K, J, m1 + 1, s, ⟨rfl, hm, Nat.le_refl _, FM_r⟩, ⟨hX, ?_, hB, hT⟩, ⟨hK, fun h hh => ⟨(hQ h hh).1, by have := (hQ h hh).2; omega⟩, by omega⟩, ?_, fun _ => rfl, hq⟩⟩
      · have e : (o : Int) - ((0 : Nat) : Int) + opn Q = (o : Int) + opn Q := by omega
        rw [e]
        exact hM
      · rcases hj with hj | hj
        · rcases hc with hc | hc
          · have L2 : L = 2 := Classical.byContradiction fun z => hc (fun y => absurd y z)
            rcases h2 L2 with z | z
            · exact absurd (fun _ => z.1) hc
            · by_cases y : jv t = 2
              · exact Or.inr ⟨by omega, y, z.2⟩
              · left
                omega
          · left
            omega
        · exact Or.inr hj
    show ∃ I', f_X5_readLevel_109_B v (lpm2 (f_X5_readLevel_B v) f) (zi L) (zi o) (if L = 2 then 1 else 160) (lpm1 (f_X5_readLevel_109_B v (lpm2 (f_X5_readLevel_B v) f) (zi L) (zi o) (if L = 2 then 1 else 160)) g) (zi x5) I = some I' ∧ _
    by_cases cA : L = 2 → x5 = 0
    · by_cases cB : jv t = (L : Int)
      · obtain ⟨b1, b2, b3, b4, b5, b6, b7, b8, b9, b10⟩ := jv_at ok hL cB
        have bE := hB.2.2 b4
        have fl0 : L = 2 → J 114 d = 0 := fun z => by
          rcases h2 z with y | y
          · exact y.2
          · have := cA z
            omega
        -- the reference
        have lQ : (Q ++ W0).length = Q.length + W0.length := List.length_append
        obtain ⟨J1, p1, p2, p3, p4⟩ := M_btw125 (x := bS t) h1 hr (by omega) (by omega) hM.2.2.2.2.2.2.1 (by omega) hM.2.2.2.2.2.2.2
        rw [b1, dA_P hW Q C _ hQ] at p2
        simp only at p2
        have eo : (o : Int) + opn Q - opn Q = (o : Int) := by omega
        rw [eo] at p2
        have c114 : J1 114 d = 0 ∨ J1 114 d = 1 := by
          rw [p3]
          split
          · exact Or.inr rfl
          · split
            · exact hM.2.2.2.2.2.2.2
            · exact Or.inl rfl
        have hM1 := SyM_FB hM p4 p2 c114
        have hs1 := hM1.2.2.2.2.1
        obtain ⟨I1, J2, b', E', t', r1, r2, r3, r4, r5, r6, r7, r8, r9, r10⟩ := S_next n160 hv En (TT_FB p4 hT) hX hM1
        have er : lpm2 (f_X11_readE_40_B (zi x1)) (m1 + 1) 0 s J = lpm2 (f_X11_readE_40_B (zi x1)) m1 1 (if L ≤ 1 then 1 else 0) J2 := by
          show f_X11_readE_40_B (zi x1) (lpm2 (f_X11_readE_40_B (zi x1)) m1) 0 s J = _
          have nf : ¬ (rk (bS t) = 4 ∧ ¬ (J 114 d).toInt = 0) := fun z => by
            have L2 : L = 2 := by
              have y := z.1
              rw [b1] at y
              have : ∀ L < 5, lim L = 4 → L = 2 := by decide
              exact this L hL y
            exact z.2 (by rw [fl0 L2]; rfl)
          rw [R_sign hs (Or.inl b10), M_btw97 b2 hM.2.2.2.2.2.2.1 (by omega), if_neg nf, p1, fq_bsome, kt_1, if_neg (by decide), M_isKey hs1, M_isKey hs1, stpP, stpP, r2]
          simp only [fq_usome]
          by_cases c1 : L ≤ 1
          · rw [if_pos c1]
            rcases b9.mp c1 with z | z
            · rw [if_pos z]
            · rw [if_neg (by rw [z]; decide), if_pos z]
          · rw [if_neg c1, if_neg (fun z => c1 (b9.mpr (Or.inl z))), if_neg (fun z => c1 (b9.mpr (Or.inr z)))]
        obtain ⟨I2, q1, q2, q3⟩ := ih (L + 1) o b' E' d 0 (q0 + 1) m1 t' (bS t :: W0) (Q.reverse ++ C) K (if L ≤ 1 then 1 else 0) I1 J2 (by omega) ho hf r3 r4 r5 r10 hK (by simp only [List.length_cons, List.length_append, List.length_reverse]; omega) (fun _ => rfl) (Or.inr (by omega)) hd (fun z => by
          have L1 : L ≤ 1 := by omega
          refine ⟨?_, by rw [if_pos L1]; decide⟩
          rw [r9, p3, b1]
          have : ∀ L ≤ 1, lim L ≠ 4 ∧ ¬ 4 < lim L := by decide
          rw [if_neg (this L L1).1, if_neg (this L L1).2]) (fun z => Or.inl (by rw [if_neg (show ¬ L ≤ 1 by omega)]; rfl)) (by omega) hq
        have fm : FM x1 d J J2 := FM_t (FM_FB p4) (r8 d)
        have exx : ∀ I3, f_X5_put v I2 (-(Tx t)) = some I3 → f_X5_readLevel_109_B v (lpm2 (f_X5_readLevel_B v) f) (zi L) (zi o) (if L = 2 then 1 else 160) (lpm1 (f_X5_readLevel_109_B v (lpm2 (f_X5_readLevel_B v) f) (zi L) (zi o) (if L = 2 then 1 else 160)) g) (zi x5) I = lpm1 (f_X5_readLevel_109_B v (lpm2 (f_X5_readLevel_B v) f) (zi L) (zi o) (if L = 2 then 1 else 160)) g (zi (x5 + 1)) I3 := fun I3 h => by
          generalize lpm1 (f_X5_readLevel_109_B v (lpm2 (f_X5_readLevel_B v) f) (zi L) (zi o) (if L = 2 then 1 else 160)) g = kk
          unfold f_X5_readLevel_109_B
          rw [z5, if_pos (x4c.mpr cA), hX.2.2.2.1, j1, fq_vsome, zL, j2, if_pos cB.symm]
          simp only [fq_l]
          rw [r1, fq_usome, zi_S (by omega), q1, fq_usome, h, fq_usome, zi_S (by omega)]
        rw [er]
        rcases q3 with q3 | ⟨bb, E2, t2, P, C', K', J3, m2, s2, ⟨g1, g2, g3, g4⟩, ⟨g5, g6, g7, g8⟩, ⟨g9, g10, g11⟩, g12, g13, g14⟩
        · obtain ⟨I3, z1, ⟨y1, y2, R, y3, y4, y5⟩, z3⟩ := SRf_put (x := -(Tx t)) hv q3
          obtain ⟨g0, rfl⟩ : ∃ g0, g = g0 + 1 := ⟨g - 1, by omega⟩
          refine ⟨I3, ?_, FX_t r7 (FX_t q2 z3), Or.inl ⟨y1, y2, R, y3, y4, FM_t fm y5⟩⟩
          rw [exx I3 z1]
          exact X_109G y1 (by omega)
        · simp only [List.length_cons] at g11
          have lK : K'.length = P.length + C'.length := by
            have := congrArg List.length g9
            rw [List.length_map, List.length_append, List.length_reverse] at this
            exact this
          have En2 := g7.2.1
          have En1 := g7.1
          have pu := X_put (x := -(Tx t)) g5.2.2.2.2.2.2 (by rw [List.length_append]; omega)
          have eR : (P ++ [bS t]).reverse ++ C' = bS t :: (P.reverse ++ C') := by
            rw [List.reverse_append]
            rfl
          have o1 : opn [bS t] = 0 := by
            show (if bS t = 13 ∨ bS t = 14 then 1 else 0) + 0 = (0 : Int)
            rw [if_neg (fun z => z.elim b6 b7)]
            rfl
          have g6' : SyM n x1 J3 bb E2 t2 ((P ++ [bS t]) ++ W0) C' ((o : Int) + opn (P ++ [bS t])) d := by
            rw [opn_a, o1, List.append_assoc]
            have e : (o : Int) + (opn P + 0) = (o : Int) - ((0 : Nat) : Int) + opn P := by omega
            rw [e]
            exact g6
          obtain ⟨I4, u1, u2⟩ := S_loop ih n160 h1 hv hv2 hL ho hf hW hd g bb E2 (x5 + 1) m2 t2 (P ++ [bS t]) C' (-(Tx t) :: K') s2 (putI I2 v (K' ++ K0) (-(Tx t))) J3 (SyX_put hv g5) g6' g7 (TT_put hv2 g8) (by
              show trc (-(Tx t)) :: K'.map trc = _
              rw [g9, b3, eR]) (fun h hh => by
              rcases List.mem_append.mp hh with hh | hh
              · have := g10 h hh
                exact ⟨this.1, by omega⟩
              · rw [List.mem_singleton.mp hh, b1]
                exact ⟨b8, Nat.le_refl _⟩) (by rw [List.length_append]; simp only [List.length_cons, List.length_nil]; omega) (by
              rcases g12 with g12 | g12
              · left
                omega
              · exact Or.inr ⟨by omega, g12.2⟩) (fun z => Or.inr ⟨by have := cA z; omega, by
                rw [g13 (by omega), r9, p3, b1, z]
                rfl⟩) (by omega) (by omega) g2 (by
              rw [eR]
              show (cdl (P.reverse ++ C')).bind (cpk (bS t)) = some (q0 + 1)
              rw [g14]
              show cpk (bS t) (q0 + 1 + 1) = some (q0 + 1)
              unfold cpk
              rw [if_neg (by omega), if_neg (fun z => by
                rcases z with z | z
                · exact b6 (Int32.toInt_inj.mp (z.trans kt_13.symm))
                · exact b7 (Int32.toInt_inj.mp (z.trans kt_14.symm))), if_pos (by omega)]
              rfl)
          refine ⟨I4, ?_, ?_⟩
          · rw [exx _ pu]
            exact u1
          · rw [g1]
            exact SR_pre (FX_t r7 (FX_t q2 FX_put)) (FM_t fm g4) (by omega) (fun z => by
              rw [g13 (by omega), r9, p3, b1]
              have : ∀ L < 5, 3 ≤ L → lim L ≠ 4 ∧ 4 < lim L := by decide
              rw [if_neg (this L hL z).1, if_pos (this L hL z).2]) u2
      · refine ⟨I, ?_, stay (Or.inr cB)⟩
        unfold f_X5_readLevel_109_B
        rw [z5, if_pos (x4c.mpr cA), hX.2.2.2.1, j1, fq_vsome, zL, j2, if_neg (fun z => cB z.symm)]
    · refine ⟨I, ?_, stay (Or.inl cA)⟩
      unfold f_X5_readLevel_109_B
      rw [z5, if_neg (fun z => cA (x4c.mp z))]
/-- a level, of class and reference -/
theorem S_sim {n v x1 : Nat} {K0 : List Int32} (n160 : n ≤ 160) (h1 : x1 < 12) (hv : v ≠ 43) (hv2 : v ≠ 32) : ∀ f, SIMs n v x1 K0 f
  | 0 => fun L o b E d k q0 m t W0 C K s I J _ _ h => absurd h (Nat.not_lt_zero _)
  | f + 1 => fun L o b E d k q0 m t W0 C K s I J hL ho hf hX hM hB hT hK hl hk hW hd h2 hs0 hm hq => by
    have ih : SIMs n v x1 K0 f := S_sim n160 h1 hv hv2 f
    have bE' := hB.1
    have En := hB.2.1
    have ok : Tok t := hM.2.2.2.2.1.2.2
    have hs := hM.2.2.2.2.1
    have zo := zi_int (n := o) (by omega)
    have lK : (K ++ K0).length < 100000 := by
      have : K.length = C.length := by rw [← hK, List.length_map]
      rw [List.length_append]
      omega
    have flt : ∀ (m1 : Nat), m = m1 + 1 → f_X11_readE_40_B (zi x1) (lpm2 (f_X11_readE_40_B (zi x1)) m1) 1 s J = some (0, J) → ∃ I', f_X5_fail I = some I' ∧ SR n v x1 K0 L (b + 1) d W0 k o q0 I J I' (lpm2 (f_X11_readE_40_B (zi x1)) m 1 s J) := fun m1 e h => by
      rw [e]
      exact S_flt (by omega) lK hX h hM.2.2.1 FM_r
    have a5 : ∀ m1, ¬ o < 5 → t.1 ≠ 1 → t.1 ≠ 2 → (t = (3, 40) ∨ t = (3, 45) ∨ ¬ s.toInt = 0 ∧ t = (4, 4)) → f_X11_readE_40_B (zi x1) (lpm2 (f_X11_readE_40_B (zi x1)) m1) 1 s J = some (0, J) := fun m1 c c1 c2 ct => by
      have h52 : (J 78 52).toInt = 5 := by
        have := hM.2.2.2.2.2.1.2.2.2.2.2
        omega
      rw [R_other hs c1 c2, M_ahead hs, if_pos ct, M_ahead5 h52, fq_bsome, kt_0, if_pos rfl]
    obtain ⟨m1, hm1⟩ : ∃ m1, m = m1 + 1 := ⟨m - 1, by omega⟩
    show ∃ I', f_X5_readLevel_B v (lpm2 (f_X5_readLevel_B v) f) (zi L) (zi o) I = some I' ∧ _
    by_cases c5 : L = 5
    · subst c5
      have e5 : (5 : Int32) = zi 5 := rfl
      have hW7 : stops 7 W0 := hW
      rw [← e5, X_lv5 hX.2.2.2.1 ok]
      by_cases cm : t = (3, 45)
      · rw [if_pos (Or.inl cm)]
        by_cases co : o < 5
        · rw [if_pos (by omega)]
          subst cm
          exact S_min ih n160 hv hv2 hX hM hB hT hK (by omega) hW7 co (by omega) hd hm hq
        · rw [if_neg (by omega)]
          exact flt m1 hm1 (a5 m1 co (by rw [cm]; decide) (by rw [cm]; decide) (Or.inr (Or.inl cm)))
      · by_cases cp : t = (3, 40)
        · rw [if_pos (Or.inr cp)]
          by_cases co : o < 5
          · rw [if_pos (by omega)]
            subst cp
            exact S_par ih n160 h1 hX hv hM hB hT hK (by omega) hW7 co (by omega) hd hm hq
          · rw [if_neg (by omega)]
            exact flt m1 hm1 (a5 m1 co (by rw [cp]; decide) (by rw [cp]; decide) (Or.inl cp))
        · rw [if_neg (fun z => z.elim cm cp)]
          by_cases cl : t.1 = 1 ∨ t.1 = 2
          · exact S_leaf n160 hv hv2 h1 hX hM hB hT hK (by omega) hW7 ho hm hq cl
          · have c1 : t.1 ≠ 1 := fun z => cl (Or.inl z)
            have c2 : t.1 ≠ 2 := fun z => cl (Or.inr z)
            rw [X_leafF hX.2.2.2.1 ok c1 c2]
            refine flt m1 hm1 ?_
            rw [R_other hs c1 c2, M_ahead hs, if_neg (fun z => by
              rcases z with z | z | z
              · exact cp z
              · exact cm z
              · rcases hs0 (by decide) with y | y
                · exact z.1 y
                · exact y z.2), fq_bsome, kt_0, if_pos rfl]
    · have hL5 : L < 5 := by omega
      have k0 := hk hL5
      subst k0
      have lm := lim_S L hL5
      by_cases cn : L = 2 ∧ t = (4, 4)
      · obtain ⟨cL, ct⟩ := cn
        subst cL
        subst ct
        have hh := h2 (by decide)
        rw [X_lv2 (show I 43 7 = 18 from hX.2.2.2.1)]
        by_cases co : o < 5
        · rw [if_pos (by omega)]
          exact S_not ih n160 hv hv2 hX hM hB hT hK (by omega) co (by omega) hd hh hm hq
        · rw [if_neg (by omega)]
          exact flt m1 hm1 (a5 m1 co (by decide) (by decide) (Or.inr (Or.inr ⟨hh.2, rfl⟩)))
      · rw [X_lvN hX.2.2.2.1 ok hL5 (fun a z => cn ⟨a, z⟩)]
        obtain ⟨I2, q1, q2, q3⟩ := ih (L + 1) o b E d 0 q0 m t W0 C K s I J (by omega) ho (by omega) hX hM hB hT hK hl (fun _ => rfl) (stops_le (by omega) W0 hW) hd (fun z => h2 (by omega)) (fun z => by
          by_cases c2 : L = 2
          · exact Or.inr (fun y => cn ⟨c2, y⟩)
          · exact hs0 (by omega)) hm hq
        rw [q1, fq_usome]
        rcases q3 with q3 | ⟨bb, E2, t2, P, C', K', J3, m2, s2, ⟨g1, g2, g3, g4⟩, ⟨g5, g6, g7, g8⟩, ⟨g9, g10, g11⟩, g12, g13, g14⟩
        · refine ⟨I2, ?_, q2, Or.inl q3⟩
          exact X_109G (g := 3999) q3.1 (by rw [zi_int (by omega)]; omega)
        · have En2 := g7.2.1
          have En1 := g7.1
          have eo : (o : Int) - ((0 : Nat) : Int) + opn P = (o : Int) + opn P := by omega
          rw [eo] at g6
          obtain ⟨I4, u1, u2⟩ := S_loop ih n160 h1 hv hv2 hL5 ho (by omega) hW hd 4000 bb E2 0 m2 t2 P C' K' s2 I2 J3 g5 g6 g7 g8 g9 (fun h hh => ⟨(g10 h hh).1, by have := (g10 h hh).2; omega⟩) (by omega) (by
            rcases g12 with g12 | g12
            · left
              omega
            · exact Or.inr ⟨by omega, g12.2⟩) (fun z => Or.inl ⟨rfl, by rw [g13 (by omega)]; exact (h2 (by omega)).1⟩) (by omega) (by omega) g2 g14
          refine ⟨I4, u1, ?_⟩
          rw [g1]
          exact SR_pre q2 g4 (by omega) (fun z => g13 (by omega)) u2
