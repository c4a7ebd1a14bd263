/-! ===== what a level gives: a fault of both, or both stand behind it ===== -/
def SRf (v x1 d : Nat) (J I' : fc_I) (r : Option (Int32 × fc_I)) : Prop := XF I' ∧ 0 ≤ (I' 43 2).toInt ∧ ∃ R, r = some (0, R) ∧ R 78 47 = I' 43 9 ∧ FM x1 d J R
def SRd (n v x1 : Nat) (K0 : List Int32) (L B d : Nat) (W0 : List Int32) (k o q0 : Nat) (J I' : fc_I) (r : Option (Int32 × fc_I)) (b' E' : Nat) (t' : Tk) (P C' K' : List Int32) (J' : fc_I) (m' : Nat) (s' : Int32) : Prop := (r = lpm2 (f_X11_readE_40_B (zi x1)) m' 0 s' J' ∧ n + 1 ≤ m' + b' ∧ B ≤ b' ∧ FM x1 d J J') ∧ (SyX n v I' b' E' t' (K' ++ K0) ∧ SyM n x1 J' b' E' t' (P ++ W0) (mn k ++ C') ((o : Int) - (k : Int) + opn P) d ∧ SyB n b' E' t' ∧ TT n I' J') ∧ (K'.map trc = P.reverse ++ C' ∧ (∀ h ∈ P, ¬ h = 15 ∧ lo L ≤ rk h) ∧ K0.length + P.length + W0.length + k + C'.length ≤ b') ∧ ((jv t' < (L : Int) ∨ L ≤ 2 ∧ jv t' = 2 ∧ J' 114 d = 1) ∧ (3 ≤ L → J' 114 d = J 114 d) ∧ cdl (P.reverse ++ C') = some (q0 + 1))
def SR (n v x1 : Nat) (K0 : List Int32) (L B d : Nat) (W0 : List Int32) (k o q0 : Nat) (I J I' : fc_I) (r : Option (Int32 × fc_I)) : Prop := FX v I I' ∧ (SRf v x1 d J I' r ∨ ∃ b' E' t' P C' K' J' m' s', SRd n v x1 K0 L B d W0 k o q0 J I' r b' E' t' P C' K' J' m' s')
theorem SR_pre {n v x1 L B B0 d k o q0 : Nat} {K0 W0 : List Int32} {I0 J0 I J I' : fc_I} {r : Option (Int32 × fc_I)} (hI : FX v I0 I) (hJ : FM x1 d J0 J) (hB : B0 ≤ B) (h3 : 3 ≤ L → J 114 d = J0 114 d) (h : SR n v x1 K0 L B d W0 k o q0 I J I' r) : SR n v x1 K0 L B0 d W0 k o q0 I0 J0 I' r := by
  refine ⟨FX_t hI h.1, ?_⟩
  rcases h.2 with ⟨a1, a2, R, a3, a4, a5⟩ | ⟨b', E', t', P, C', K', J', m', s', ⟨a1, a2, a3, a4⟩, a5, a6, a7, a8, a9⟩
  · exact Or.inl ⟨a1, a2, R, a3, a4, FM_t hJ a5⟩
  · exact Or.inr ⟨b', E', t', P, C', K', J', m', s', ⟨a1, a2, by omega, FM_t hJ a4⟩, a5, a6, a7, fun z => (a8 z).trans (h3 z), a9⟩
theorem X_f1 {n v b E : Nat} {t : Tk} {K : List Int32} {I : fc_I} (hb : b < 100000) (hX : SyX n v I b E t K) : ∃ I', f_X5_fail I = some I' ∧ XF I' ∧ I' 43 9 = zi b ∧ I' 43 2 = I 43 2 ∧ FX v I I' := by
  obtain ⟨_, x2, _, _, _, x6, _⟩ := hX
  refine ⟨_, X_fail1 x6, ⟨rfl, ?_⟩, ?_, rfl, ?_⟩
  · show (I 43 5).toInt ≠ -1
    rw [x2, zi_int hb]
    omega
  · exact x2
  · intro c s h1 h2
    by_cases c4 : c = 43
    · subst c4
      rw [fc_wI_at, if_neg (by omega), fc_wI_at, if_neg (by omega)]
    · rw [fc_wI_ne c4, fc_wI_ne c4]
/-- a fault of both -/
theorem S_flt {n v x1 L B d k o q0 b E : Nat} {t : Tk} {K0 K W0 : List Int32} {I J R : fc_I} {r : Option (Int32 × fc_I)} (hb : b < 100000) (hl : K.length < 100000) (hX : SyX n v I b E t K) (hr : r = some (0, R)) (h47 : R 78 47 = zi b) (hF : FM x1 d J R) : ∃ I', f_X5_fail I = some I' ∧ SR n v x1 K0 L B d W0 k o q0 I J I' r := by
  obtain ⟨I', a1, a2, a3, a4, a5⟩ := X_f1 hb hX
  refine ⟨I', a1, a5, Or.inl ⟨a2, ?_, R, hr, h47.trans a3.symm, hF⟩⟩
  rw [a4, hX.2.2.2.2.2.2.1, zi_int hl]
  omega
theorem SyX_put {n v b E : Nat} {t : Tk} {K : List Int32} {I : fc_I} {x : Int32} (hv : v ≠ 43) (hX : SyX n v I b E t K) : SyX n v (putI I v K x) b E t (x :: K) := by
  obtain ⟨x1, x2, x3, x4, x5, x6, x7⟩ := hX
  have q : ∀ s, s ≠ 2 → putI I v K x 43 s = I 43 s := fun s hs => by
    unfold putI
    rw [fc_wI_ne (fun z => hv z.symm), fc_wI_at, if_neg hs]
  refine ⟨?_, ?_, ?_, ?_, ?_, ?_, XS_put x7 hv⟩
  · rw [q 4 (by decide)]; exact x1
  · rw [q 5 (by decide)]; exact x2
  · rw [q 6 (by decide)]; exact x3
  · rw [q 7 (by decide)]; exact x4
  · rw [q 8 (by decide)]; exact x5
  · rw [q 9 (by decide)]; exact x6
theorem TT_put {n v : Nat} {K : List Int32} {I J : fc_I} {x : Int32} (hv : v ≠ 32) (h : TT n I J) : TT n (putI I v K x) J := by
  intro s hs
  have e : putI I v K x 32 = I 32 := by
    unfold putI
    rw [fc_wI_ne (fun z => hv z.symm), fc_wI_ne (by decide)]
  rw [e]
  exact h s hs
theorem TT_FB {n x1 d : Nat} {I J J' : fc_I} (f : FB x1 d J J') (h : TT n I J) : TT n I J' := fun s hs => (h s hs).trans (f.1 108 s (by decide) (by decide) (Or.inl (by decide)) (Or.inl (by decide))).symm
/-- a leaf -/
theorem S_leaf {n v x1 b E d k m q0 o : Nat} {t : Tk} {W0 C K K0 : List Int32} {s : Int32} {I J : fc_I} (n160 : n ≤ 160) (hv : v ≠ 43) (hv2 : v ≠ 32) (h1 : x1 < 12) (hX : SyX n v I b E t (K ++ K0)) (hM : SyM n x1 J b E t (mn k ++ W0) C o d) (hB : SyB n b E t) (hT : TT n I J) (hK : K.map trc = C) (hl : K0.length + W0.length + k + C.length ≤ b) (hW : stops 7 W0) (ho : o ≤ 5) (hm : n + 1 ≤ m + b) (hq : cdl C = some q0) (c : t.1 = 1 ∨ t.1 = 2) : ∃ I', f_X5_readLeaf v I = some I' ∧ SR n v x1 K0 5 (b + 1) d W0 k o q0 I J I' (lpm2 (f_X11_readE_40_B (zi x1)) m 1 s J) := by
  obtain ⟨m1, rfl⟩ : ∃ m1, m = m1 + 1 := ⟨m - 1, by have := hB.1; have := hB.2.1; omega⟩
  have bE := hB.2.2 (by omega)
  have En := hB.2.1
  have lK : K.length = C.length := by rw [← hK, List.length_map]
  have l14 : (mn k ++ W0).length = k + W0.length := by
    rw [List.length_append]
    unfold mn
    rw [List.length_replicate]
  have lKK : (K ++ K0).length < 160 := by
    rw [List.length_append]
    omega
  have ok : Tok t := hM.2.2.2.2.1.2.2
  have hs := hM.2.2.2.2.1
  have hr := hM.2.2.2.2.2.1
  have t8 : I 43 8 = t.2 := hX.2.2.2.2.1 c
  have key : ∀ X Y : Int32, X = (if t.1 = 1 then t.2 else -1 - t.2) → Y = (if t.1 = 1 then -1 - t.2 else t.2) → trc X = Y ∧ Y.toInt < 6 := fun X Y hX hY => by
    rcases c with c | c
    · rw [if_pos c] at hX hY
      have okb : 0 ≤ t.2.toInt ∧ t.2.toInt ≤ 9999 := by
        rcases ok with o | o | o | o | o | o
        · exact o.2
        · omega
        · omega
        · omega
        · rw [o] at c; exact absurd c (by decide)
        · rw [o] at c; exact absurd c (by decide)
      rw [hX, hY, trc_num okb.1]
      refine ⟨rfl, ?_⟩
      rw [i_sub (by rw [kt_m1]; omega) (by rw [kt_m1]; omega), kt_m1]
      omega
    · rw [if_neg (by omega)] at hX hY
      have okb : 0 ≤ t.2.toInt ∧ t.2.toInt < 6 := by
        rcases ok with o | o | o | o | o | o
        · omega
        · exact o.2
        · omega
        · omega
        · rw [o] at c; exact absurd c (by decide)
        · rw [o] at c; exact absurd c (by decide)
      rw [hX, hY, trc_nam okb.1 okb.2]
      exact ⟨rfl, okb.2⟩
  have xe := X_leaf (v := v) hX.2.2.2.1 c
  have re := R_worth (x := zi x1) (s := s) (kk := lpm2 (f_X11_readE_40_B (zi x1)) m1) hs c
  rw [t8] at xe
  generalize hx : (if t.1 = 1 then t.2 else -1 - t.2) = X at xe
  generalize hy : (if t.1 = 1 then -1 - t.2 else t.2) = Y at re
  obtain ⟨k1, k2⟩ := key X Y hx.symm hy.symm
  rw [X_put hX.2.2.2.2.2.2 lKK, fq_usome] at xe
  obtain ⟨J1, p1, p2, p3⟩ := M_worth (x := Y) h1 hr (by omega) (by omega)
  rw [dA_mn hW] at p2
  simp only at p2
  have c114 : J1 114 d = J 114 d := p3.1 114 d (by decide) (Or.inl (by decide))
  have hM1 := SyM_FB hM (FB_FR (d := d) p3) p2 (by rw [c114]; exact hM.2.2.2.2.2.2.2)
  obtain ⟨I1, J2, b', E', t', r1, r2, r3, r4, r5, r6, r7, r8, r9, r10⟩ := S_next n160 hv En (TT_FB (FB_FR (d := d) p3) (TT_put hv2 hT)) (SyX_put (x := X) hv hX) hM1
  refine ⟨I1, xe.trans r1, FX_t FX_put r7, Or.inr ⟨b', E', t', [], Y :: C, X :: K, J2, m1, s, ⟨?_, by omega, by omega, FM_t (FM_FB (FB_FR p3)) (r8 d)⟩, ⟨r3, ?_, r5, r10⟩, ⟨?_, fun h hh => absurd hh List.not_mem_nil, ?_⟩, Or.inl ?_, fun _ => ?_, ?_⟩⟩
  · show f_X11_readE_40_B (zi x1) (lpm2 (f_X11_readE_40_B (zi x1)) m1) 1 s J = _
    rw [re, p1 (fun I88 => fq_u (f_X11_next I88) fun I209 => lpm2 (f_X11_readE_40_B (zi x1)) m1 0 s I209), r2, fq_usome]
  · have e : (o : Int) - (k : Int) + opn [] = (o : Int) - (k : Int) := Int.add_zero _
    rw [e]
    exact r4
  · show trc X :: K.map trc = Y :: C
    rw [k1, hK]
  · simp only [List.length_nil, List.length_cons]
    omega
  · have := (jv_b t').2
    show jv t' < 5
    omega
  · rw [r9]
    exact c114
  · show (cdl C).bind (cpk Y) = some (q0 + 1)
    rw [hq]
    show cpk Y q0 = some (q0 + 1)
    unfold cpk
    rw [if_pos k2]
