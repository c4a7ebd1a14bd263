/-! ===== what opens: not, minus, a bracket ===== -/
def SIMs (n v x1 : Nat) (K0 : List Int32) (f : Nat) : Prop := ∀ (L o b E d k q0 m : Nat) (t : Tk) (W0 C K : List Int32) (s : Int32) (I J : fc_I), L ≤ 5 → o ≤ 5 → (5 - o) * 6 + (5 - L) < f → SyX n v I b E t (K ++ K0) → SyM n x1 J b E t (mn k ++ W0) C (o : Int) d → SyB n b E t → TT n I J → K.map trc = C → K0.length + W0.length + k + C.length ≤ b → (L < 5 → k = 0) → stops (lim L) W0 → d ≤ o → (L ≤ 2 → J 114 d = 0 ∧ ¬ s.toInt = 0) → (2 < L → s.toInt = 0 ∨ t ≠ (4, 4)) → n + 1 ≤ m + b → cdl C = some q0 → ∃ I', lpm2 (f_X5_readLevel_B v) f (zi L) (zi o) I = some I' ∧ SR n v x1 K0 L (b + 1) d W0 k o q0 I J I' (lpm2 (f_X11_readE_40_B (zi x1)) m 1 s J)
/-- behind a fault the class puts in vain -/
theorem SRf_put {v x1 d : Nat} {J I' : fc_I} {r : Option (Int32 × fc_I)} {x : Int32} (hv : v ≠ 43) (h : SRf v x1 d J I' r) : ∃ I'', f_X5_put v I' x = some I'' ∧ SRf v x1 d J I'' r ∧ FX v I' I'' := by
  obtain ⟨a1, a2, R, a3, a4, a5⟩ := h
  obtain ⟨I'', p1, p2, p3⟩ := X_putF (x := x) hv a2
  refine ⟨I'', p1, ⟨⟨?_, ?_⟩, p3, R, a3, ?_, a5⟩, fun c s h1 h2 => p2 c s h1 (h2.elim Or.inl (fun z => Or.inr z.1))⟩
  · rw [p2 43 7 (fun z => hv z.symm) (Or.inr (by decide))]
    exact a1.1
  · rw [p2 43 9 (fun z => hv z.symm) (Or.inr (by decide))]
    exact a1.2
  · rw [p2 43 9 (fun z => hv z.symm) (Or.inr (by decide))]
    exact a4
theorem FB_push {x1 d : Nat} {J : fc_I} {W : List Int32} {x y : Int32} : FB x1 d J (pushI (fc_wI J 78 52 y) W x) := by
  refine ⟨fun c s h1 h2 h3 h4 => ?_, fun s _ => rfl⟩
  unfold pushI
  by_cases c8 : c = 78
  · subst c8
    rw [fc_wI_at, if_neg (by omega), fc_wI_ne (by decide), fc_wI_at, if_neg (by omega)]
  · rw [fc_wI_ne c8, fc_wI_ne h2, fc_wI_ne c8]
theorem fb_114 {d : Nat} {J J1 : fc_I} {W : List Int32} {x y : Int32} (h : pushI (fc_wI J 78 52 y) W x = J1) : J1 114 d = J 114 d := by
  rw [← h]
  rfl
theorem len_mn {k : Nat} {W : List Int32} : (mn k ++ W).length = k + W.length := by
  rw [List.length_append]
  unfold mn
  rw [List.length_replicate]
/-- a not -/
theorem S_not {n v x1 b E d f m q0 o : Nat} {W0 C K K0 : List Int32} {s : Int32} {I J : fc_I} (ih : SIMs n v x1 K0 f) (n160 : n ≤ 160) (hv : v ≠ 43) (hv2 : v ≠ 32) (hX : SyX n v I b E (4, 4) (K ++ K0)) (hM : SyM n x1 J b E (4, 4) W0 C (o : Int) d) (hB : SyB n b E (4, 4)) (hT : TT n I J) (hK : K.map trc = C) (hl : K0.length + W0.length + C.length ≤ b) (ho : o < 5) (hf : (5 - o) * 6 + 3 ≤ f) (hd : d ≤ o) (h2 : J 114 d = 0 ∧ ¬ s.toInt = 0) (hm : n + 1 ≤ m + b) (hq : cdl C = some q0) : ∃ I', f_X5_readOpened v (lpm2 (f_X5_readLevel_B v) f) I (zi 2) (zi o) = some I' ∧ SR n v x1 K0 2 (b + 1) d W0 0 o q0 I J I' (lpm2 (f_X11_readE_40_B (zi x1)) m 1 s J) := by
  obtain ⟨m1, rfl⟩ : ∃ m1, m = m1 + 1 := ⟨m - 1, by have := hB.1; have := hB.2.1; omega⟩
  have bE := hB.2.2 (by decide)
  have En := hB.2.1
  have hs := hM.2.2.2.2.1
  have hr := hM.2.2.2.2.2.1
  have h7 : I 43 7 = 18 := hX.2.2.2.1
  obtain ⟨a1, a2⟩ := M_aheadS (s := 13) hr hs (by omega) (by omega) (Or.inl ⟨rfl, rfl⟩)
  generalize hJ1 : pushI (fc_wI J 78 52 (J 78 52 + 1)) W0 13 = J1 at a1 a2
  have fb : FB x1 d J J1 := by
    rw [← hJ1]
    exact FB_push
  have c114 : J1 114 d = 0 := (fb_114 hJ1).trans h2.1
  have hM1 := SyM_FB hM fb a2 (Or.inl c114)
  obtain ⟨I1, J2, b', E', t', r1, r2, r3, r4, r5, r6, r7, r8, r9, r10⟩ := S_next n160 hv En (TT_FB fb hT) hX hM1
  have o1 : ((o + 1 : Nat) : Int) = (o : Int) + 1 := by omega
  rw [← o1] at r4
  obtain ⟨I2, q1, q2, q3⟩ := ih 2 (o + 1) b' E' d 0 q0 m1 t' (13 :: W0) C K 1 I1 J2 (by omega) (by omega) (by omega) r3 r4 r5 r10 hK (by simp only [List.length_cons]; omega) (fun _ => rfl) (Or.inr (by decide)) (by omega) (fun _ => ⟨by rw [r9]; exact c114, by decide⟩) (fun z => absurd z (by decide)) (by omega) hq
  have er : lpm2 (f_X11_readE_40_B (zi x1)) (m1 + 1) 1 s J = lpm2 (f_X11_readE_40_B (zi x1)) m1 1 1 J2 := by
    show f_X11_readE_40_B (zi x1) (lpm2 (f_X11_readE_40_B (zi x1)) m1) 1 s J = _
    rw [R_other hs (by decide) (by decide), M_ahead hs, if_pos (Or.inr (Or.inr ⟨h2.2, rfl⟩)), a1, fq_bsome, kt_1, if_neg (by decide), if_neg (by decide), r2, fq_usome]
  have ex : ∀ I', f_X5_put v I2 (-18) = some I' → f_X5_readOpened v (lpm2 (f_X5_readLevel_B v) f) I (zi 2) (zi o) = some I' := fun I' h => by
    rw [X_opN h7, r1, fq_usome, zi_S (by omega), q1, fq_usome, h]
  have fm : FM x1 d J J2 := FM_t (FM_FB fb) (r8 d)
  rw [er]
  rcases q3 with q3 | ⟨b2, E2, t2, P, C', K', J3, m2, s2, ⟨g1, g2, g3, g4⟩, ⟨g5, g6, g7, g8⟩, ⟨g9, g10, g11⟩, g12, g13, g14⟩
  · obtain ⟨I3, z1, z2, z3⟩ := SRf_put (x := -18) hv q3
    refine ⟨I3, ex I3 z1, FX_t r7 (FX_t q2 z3), Or.inl ?_⟩
    obtain ⟨y1, y2, R, y3, y4, y5⟩ := z2
    exact ⟨y1, y2, R, y3, y4, FM_t fm y5⟩
  · simp only [List.length_cons] at g11
    have lK : K'.length = P.length + C'.length := by
      have := congrArg List.length g9
      rw [List.length_map, List.length_append, List.length_reverse] at this
      exact this
    have En2 := g7.2.1
    have En1 := g7.1
    refine ⟨_, ex _ (X_put g5.2.2.2.2.2.2 (by rw [List.length_append]; omega)), FX_t r7 (FX_t q2 FX_put), Or.inr ⟨b2, E2, t2, P ++ [13], C', -18 :: K', J3, m2, s2, ⟨g1, g2, by omega, FM_t fm g4⟩, ⟨SyX_put hv g5, ?_, g7, TT_put hv2 g8⟩, ⟨?_, ?_, ?_⟩, ?_, fun z => absurd z (by decide), ?_⟩⟩
    · rw [opn_a, List.append_assoc]
      have e : (o : Int) - ((0 : Nat) : Int) + (opn P + opn [13]) = ((o + 1 : Nat) : Int) - ((0 : Nat) : Int) + opn P := by
        have : opn [13] = 1 := rfl
        omega
      rw [e]
      exact g6
    · show trc (-18) :: K'.map trc = (P ++ [13]).reverse ++ C'
      rw [g9, List.reverse_append]
      rfl
    · intro h hh
      rcases List.mem_append.mp hh with hh | hh
      · exact g10 h hh
      · rw [List.mem_singleton.mp hh]
        decide
    · rw [List.length_append]
      simp only [List.length_cons, List.length_nil]
      omega
    · exact g12
    · have e : (P ++ [13]).reverse ++ C' = 13 :: (P.reverse ++ C') := by
        rw [List.reverse_append]
        rfl
      rw [e]
      show (cdl (P.reverse ++ C')).bind (cpk 13) = some (q0 + 1)
      rw [g14]
      show cpk 13 (q0 + 1) = some (q0 + 1)
      unfold cpk
      rw [kt_13, if_neg (by decide), if_pos (Or.inl rfl), if_pos (by omega)]
/-- a minus -/
theorem S_min {n v x1 b E d k f m q0 o : Nat} {W0 C K K0 : List Int32} {s : Int32} {I J : fc_I} (ih : SIMs n v x1 K0 f) (n160 : n ≤ 160) (hv : v ≠ 43) (hv2 : v ≠ 32) (hX : SyX n v I b E (3, 45) (K ++ K0)) (hM : SyM n x1 J b E (3, 45) (mn k ++ W0) C (o : Int) d) (hB : SyB n b E (3, 45)) (hT : TT n I J) (hK : K.map trc = C) (hl : K0.length + W0.length + k + C.length ≤ b) (hW : stops 7 W0) (ho : o < 5) (hf : (5 - o) * 6 ≤ f) (hd : d ≤ o) (hm : n + 1 ≤ m + b) (hq : cdl C = some q0) : ∃ I', f_X5_readOpened v (lpm2 (f_X5_readLevel_B v) f) I 5 (zi o) = some I' ∧ SR n v x1 K0 5 (b + 1) d W0 k o q0 I J I' (lpm2 (f_X11_readE_40_B (zi x1)) m 1 s J) := by
  obtain ⟨m1, rfl⟩ : ∃ m1, m = m1 + 1 := ⟨m - 1, by have := hB.1; have := hB.2.1; omega⟩
  have bE := hB.2.2 (by decide)
  have En := hB.2.1
  have hs := hM.2.2.2.2.1
  have hr := hM.2.2.2.2.2.1
  have h7 : I 43 7 = 45 := hX.2.2.2.1
  obtain ⟨a1, a2⟩ := M_aheadS (s := 14) hr hs (by rw [len_mn]; omega) (by omega) (Or.inr ⟨rfl, rfl⟩)
  generalize hJ1 : pushI (fc_wI J 78 52 (J 78 52 + 1)) (mn k ++ W0) 14 = J1 at a1 a2
  have fb : FB x1 d J J1 := by
    rw [← hJ1]
    exact FB_push
  have c114 : J1 114 d = J 114 d := fb_114 hJ1
  have hM1 := SyM_FB hM fb a2 (by rw [c114]; exact hM.2.2.2.2.2.2.2)
  obtain ⟨I1, J2, b', E', t', r1, r2, r3, r4, r5, r6, r7, r8, r9, r10⟩ := S_next n160 hv En (TT_FB fb hT) hX hM1
  have o1 : ((o + 1 : Nat) : Int) = (o : Int) + 1 := by omega
  rw [← o1] at r4
  obtain ⟨I2, q1, q2, q3⟩ := ih 5 (o + 1) b' E' d (k + 1) q0 m1 t' W0 C K 0 I1 J2 (by omega) (by omega) (by omega) r3 r4 r5 r10 hK (by omega) (fun z => absurd z (by decide)) hW (by omega) (fun z => absurd z (by decide)) (fun _ => Or.inl rfl) (by omega) hq
  have er : lpm2 (f_X11_readE_40_B (zi x1)) (m1 + 1) 1 s J = lpm2 (f_X11_readE_40_B (zi x1)) m1 1 0 J2 := by
    show f_X11_readE_40_B (zi x1) (lpm2 (f_X11_readE_40_B (zi x1)) m1) 1 s J = _
    rw [R_other hs (by decide) (by decide), M_ahead hs, if_pos (Or.inr (Or.inl rfl)), a1, fq_bsome, kt_1, if_neg (by decide), if_pos rfl, r2, fq_usome]
  have z5 : (5 : Int32) = zi 5 := rfl
  have ex : ∀ I', f_X5_put v I2 (-9) = some I' → f_X5_readOpened v (lpm2 (f_X5_readLevel_B v) f) I 5 (zi o) = some I' := fun I' h => by
    rw [X_opM h7, r1, fq_usome, zi_S (by omega), z5, q1, fq_usome, h]
  have fm : FM x1 d J J2 := FM_t (FM_FB fb) (r8 d)
  rw [er]
  rcases q3 with q3 | ⟨b2, E2, t2, P, C', K', J3, m2, s2, ⟨g1, g2, g3, g4⟩, ⟨g5, g6, g7, g8⟩, ⟨g9, g10, g11⟩, g12, g13, g14⟩
  · obtain ⟨I3, z1, z2, z3⟩ := SRf_put (x := -9) hv q3
    refine ⟨I3, ex I3 z1, FX_t r7 (FX_t q2 z3), Or.inl ?_⟩
    obtain ⟨y1, y2, R, y3, y4, y5⟩ := z2
    exact ⟨y1, y2, R, y3, y4, FM_t fm y5⟩
  · cases P with
    | cons h p =>
      have q := (g10 h List.mem_cons_self).2
      have rb := rk_b h
      have l8 : lo 5 = 8 := rfl
      omega
    | nil =>
      have g9' : K'.map trc = C' := g9
      have g14' : cdl C' = some (q0 + 1) := g14
      have lK : K'.length = C'.length := by rw [← g9', List.length_map]
      have En2 := g7.2.1
      have En1 := g7.1
      simp only [List.length_nil] at g11
      refine ⟨_, ex _ (X_put g5.2.2.2.2.2.2 (by rw [List.length_append]; omega)), FX_t r7 (FX_t q2 FX_put), Or.inr ⟨b2, E2, t2, [], 14 :: C', -9 :: K', J3, m2, s2, ⟨g1, g2, by omega, FM_t fm g4⟩, ⟨SyX_put hv g5, ?_, g7, TT_put hv2 g8⟩, ⟨?_, fun h hh => absurd hh List.not_mem_nil, ?_⟩, Or.inl ?_, fun _ => ?_, ?_⟩⟩
      · have e : (o : Int) - (k : Int) + opn [] = ((o + 1 : Nat) : Int) - ((k + 1 : Nat) : Int) + opn [] := by omega
        rw [e, ← mn_S]
        exact g6
      · show trc (-9) :: K'.map trc = 14 :: C'
        rw [g9']
        rfl
      · simp only [List.length_nil, List.length_cons]
        omega
      · have := (jv_b t2).2
        show jv t2 < 5
        omega
      · rw [g13 (by decide), r9, c114]
      · show (cdl C').bind (cpk 14) = some (q0 + 1)
        rw [g14']
        show cpk 14 (q0 + 1) = some (q0 + 1)
        unfold cpk
        rw [kt_14, if_neg (by decide), if_pos (Or.inr rfl), if_pos (by omega)]
