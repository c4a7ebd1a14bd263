/-! ===== the first text, as the class reads it ===== -/
def T0 (k : Nat) : Int32 := (fc_byt.getD 0 []).getD k 0
theorem T0_nar : ∀ k < 39, vp_nar .byte (Int8.toInt32 (Int32.toInt8 (T0 k))) = T0 k := by decide +kernel
def wrI (I : fc_I) (n : Nat) : fc_I := fun c k => if c = 31 ∧ k = 6 then zi n else if c = 32 ∧ k < n then T0 k else I c k
theorem e_write {I : fc_I} (h : I 31 6 = 0) : f_X0_write 0 I = some (wrI I 39) := by
  have e0 : wrI I 0 = I := by
    funext c k
    unfold wrI
    by_cases c1 : c = 31 ∧ k = 6
    · rw [if_pos c1, c1.1, c1.2, h]
      rfl
    · rw [if_neg c1, if_neg (fun z => Nat.not_lt_zero _ z.2)]
  have l0 : ∀ {γ : Type} (k : Int32 → Option γ), fq_v (f_J0_length_8abf5 0) k = k 39 := fun k => rfl
  have ch : ∀ (i : Int32) (n : Nat), i.toInt = (n : Int) → n < 39 → ∀ {γ : Type} (k : Int32 → Option γ), fq_v (f_J0_charAt_5068e 0 i) k = k (T0 n) := fun i n hi hn γ k => by
    unfold f_J0_charAt_5068e
    have l39 : fc_len.getD 0 0 = 39 := rfl
    rw [l39, fq_gp ⟨by omega, by omega⟩, fq_vsome, cn_eq hi]
    rfl
  obtain ⟨J', p1, p2⟩ := lpm1_K (B := f_X0_write_2_B 0) 39 (by decide) (fun n J => J = wrI I n) (fun J => some J) (fun k i n J hi hn hJ => by
    subst hJ
    refine ⟨wrI I (n + 1), rfl, ?_⟩
    have q6 : wrI I n 31 6 = zi n := rfl
    have k39 : (39 : Int32).toInt = 39 := rfl
    have zn := zi_int (n := n) (by omega)
    unfold f_X0_write_2_B
    rw [l0, k39, if_pos (by omega), q6, kt_160, if_pos (by omega)]
    simp only [fq_l]
    rw [ch i n hi hn, fq_gp ⟨by omega, by omega⟩, zi_cn (by omega), zi_S (by omega), T0_nar n hn]
    have e : fc_wI (fc_wI (wrI I n) 31 6 (zi (n + 1))) 32 n (T0 n) = wrI I (n + 1) := by
      funext c s
      by_cases c2 : c = 32
      · subst c2
        rw [fc_wI_at]
        by_cases cs : s = n
        · rw [if_pos cs]
          unfold wrI
          rw [if_neg (by omega), if_pos ⟨rfl, by omega⟩, cs]
        · rw [if_neg cs, fc_wI_ne (by decide)]
          unfold wrI
          rw [if_neg (by omega), if_neg (show ¬ ((32 : Nat) = 31 ∧ s = 6) by omega)]
          by_cases cl : s < n
          · rw [if_pos ⟨rfl, cl⟩, if_pos ⟨rfl, by omega⟩]
          · rw [if_neg (fun z => cl z.2), if_neg (by omega)]
      · rw [fc_wI_ne c2]
        by_cases c3 : c = 31
        · subst c3
          rw [fc_wI_at]
          unfold wrI
          by_cases cs : s = 6
          · rw [if_pos cs, if_pos ⟨rfl, cs⟩]
          · rw [if_neg cs, if_neg (fun z => cs z.2), if_neg (by omega), if_neg (fun z => cs z.2), if_neg (by omega)]
        · rw [fc_wI_ne c3]
          unfold wrI
          rw [if_neg (fun z => c3 z.1), if_neg (fun z => c2 z.1), if_neg (fun z => c3 z.1), if_neg (fun z => c2 z.1)]
    rw [e]) (fun k i J hi hJ => by
    have k39 : (39 : Int32).toInt = 39 := rfl
    unfold f_X0_write_2_B
    rw [l0, k39, if_neg (by omega)]) 4000 0 0 I rfl (by omega) (by omega) e0.symm
  have p1' : J' = wrI I 39 := p1
  show lpm1 (f_X0_write_2_B 0) 4000 0 I = _
  rw [p2, p1']
/-- the class at a token of the first text -/
def SX (v : Nat) (I : fc_I) (b E : Nat) (t : Tk) (K : List Int32) : Prop := SyX 39 v I b E t K ∧ (∀ k, k < 39 → I 32 k = T0 k) ∧ E ≤ 39 ∧ Tok t ∧ K.length < 160
def NX (E b' E' : Nat) (t' : Tk) : Prop := nB T0 39 E = b' ∧ nE T0 39 E = E' ∧ nT T0 39 E = t'
theorem SX_next {v b E b' E' : Nat} {t t' : Tk} {K : List Int32} {I : fc_I} (hv : v ≠ 43) (h : SX v I b E t K) (hn : NX E b' E' t') : ∃ I1, f_X5_nextToken I = some I1 ∧ SX v I1 b' E' t' K ∧ FX v I I1 := by
  obtain ⟨⟨x1', x2, x3, x4, x5, x6, x7⟩, hT, hE, ok, hl⟩ := h
  obtain ⟨w, p1, p2⟩ := X_next x1' (by omega) hE x3
  obtain ⟨e1, e2, e3⟩ := nT_eq hT hE
  obtain ⟨g1, g2, g3⟩ := nB_b (T := I 32) hE
  have ok' : Tok (nT T0 39 E) := tk_ok
  rw [e1, e2, e3] at p1
  rw [e3] at p2
  rw [e1, e2] at g2
  rw [e2] at g3
  obtain ⟨n1, n2, n3⟩ := hn
  rw [n1, n2, n3] at p1
  rw [n3] at p2 ok'
  rw [n2] at g3
  refine ⟨_, p1, ⟨⟨x1', rfl, rfl, rfl, p2, x6, ?_⟩, hT, g3, ok', hl⟩, FX_tk⟩
  refine ⟨x7.1, cdv_c (J := I) K (fun s hs => ?_) x7.2⟩
  unfold tkI
  rw [if_neg hv]
theorem put_T {v : Nat} {K : List Int32} {I : fc_I} {x : Int32} (hv2 : v ≠ 32) (hT : ∀ k, k < 39 → I 32 k = T0 k) : ∀ k, k < 39 → putI I v K x 32 k = T0 k := fun k hk => by
  have e : putI I v K x 32 = I 32 := by
    unfold putI
    rw [fc_wI_ne (fun z => hv2 z.symm), fc_wI_ne (by decide)]
  rw [e]
  exact hT k hk
/-- a level takes the class from one token to another -/
def LVs (v f L b E : Nat) (t : Tk) (K : List Int32) (b' E' : Nat) (t' : Tk) (K' : List Int32) : Prop := ∀ I, SX v I b E t K → ∃ I', lpm2 (f_X5_readLevel_B v) f (zi L) 0 I = some I' ∧ SX v I' b' E' t' K' ∧ FX v I I'
theorem lv_S {v f : Nat} {a o : Int32} {I : fc_I} : lpm2 (f_X5_readLevel_B v) (f + 1) a o I = f_X5_readLevel_B v (lpm2 (f_X5_readLevel_B v) f) a o I := rfl
theorem LV_leaf {v f b E b' E' : Nat} {t t' : Tk} {K : List Int32} {x : Int32} (hv : v ≠ 43) (hv2 : v ≠ 32) (c : t.1 = 1 ∨ t.1 = 2) (hx : (if t.1 = 1 then t.2 else -1 - t.2) = x) (hn : NX E b' E' t') (hl : K.length < 159) : LVs v (f + 1) 5 b E t K b' E' t' (x :: K) := by
  intro I h
  obtain ⟨hX, hT, hE, ok, hl2⟩ := h
  have xe := X_leaf (v := v) hX.2.2.2.1 c
  rw [hX.2.2.2.2.1 c, hx, X_put hX.2.2.2.2.2.2 (by omega), fq_usome] at xe
  have h1 : SX v (putI I v K x) b E t (x :: K) := ⟨SyX_put hv hX, put_T hv2 hT, hE, ok, by simp only [List.length_cons]; omega⟩
  obtain ⟨I1, q1, q2, q3⟩ := SX_next hv h1 hn
  refine ⟨I1, ?_, q2, FX_t FX_put q3⟩
  have z5 : (5 : Int32) = zi 5 := rfl
  have e5 : zi 5 = 5 := z5.symm
  have n3 : ∀ y : Int32, ¬ t = (3, y) := fun y z => by
    rw [z] at c
    have c' : (3 : Nat) = 1 ∨ (3 : Nat) = 2 := c
    omega
  rw [lv_S, e5, X_lv5 hX.2.2.2.1 ok, if_neg (fun z => z.elim (n3 _) (n3 _)), xe, q1]
theorem LV_down {v f L b E b' E' : Nat} {t t' : Tk} {K K' : List Int32} (hL : L < 5) (h2 : L = 2 → t ≠ (4, 4)) (h : LVs v f (L + 1) b E t K b' E' t' K') (hj : jv t' ≠ (L : Int)) : LVs v (f + 1) L b E t K b' E' t' K' := by
  intro I hI
  obtain ⟨I1, p1, p2, p3⟩ := h I hI
  refine ⟨I1, ?_, p2, p3⟩
  obtain ⟨hX, hT, hE, ok, hl2⟩ := hI
  obtain ⟨r, j1, j2⟩ := e_join p2.2.2.2.1
  have zL := zi_int (n := L) (by omega)
  show f_X5_readLevel_B v (lpm2 (f_X5_readLevel_B v) f) (zi L) 0 I = _
  rw [X_lvN hX.2.2.2.1 ok hL h2, p1, fq_usome]
  show f_X5_readLevel_109_B v (lpm2 (f_X5_readLevel_B v) f) (zi L) 0 (if L = 2 then 1 else 160) (lpm1 (f_X5_readLevel_109_B v (lpm2 (f_X5_readLevel_B v) f) (zi L) 0 (if L = 2 then 1 else 160)) 3999) 0 I1 = _
  unfold f_X5_readLevel_109_B
  have x4 : (0 : Int32).toInt < (if L = 2 then (1 : Int32) else 160).toInt := by
    split
    · decide
    · decide
  rw [if_pos x4, p2.1.2.2.2.1, j1, fq_vsome, zL, j2, if_neg (fun z => hj z.symm)]
theorem LV_join {v f L b E b1 E1 b2 E2 b3 E3 : Nat} {t t1 t2 t3 : Tk} {K K1 K3 : List Int32} {x : Int32} (hv : v ≠ 43) (hv2 : v ≠ 32) (hL : L < 5) (h2 : L = 2 → t ≠ (4, 4)) (ha : LVs v f (L + 1) b E t K b1 E1 t1 K1) (hj1 : jv t1 = (L : Int)) (hx : -(Tx t1) = x) (hn : NX E1 b2 E2 t2) (hb : LVs v f (L + 1) b2 E2 t2 K1 b3 E3 t3 K3) (hj3 : jv t3 ≠ (L : Int)) (hl : K3.length < 159) : LVs v (f + 1) L b E t K b3 E3 t3 (x :: K3) := by
  intro I hI
  obtain ⟨I1, p1, p2, p3⟩ := ha I hI
  obtain ⟨I2, q1, q2, q3⟩ := SX_next hv p2 hn
  obtain ⟨I3, r1, r2, r3⟩ := hb I2 q2
  obtain ⟨hX, hT, hE, ok, hl2⟩ := hI
  obtain ⟨r, j1, j2⟩ := e_join p2.2.2.2.1
  obtain ⟨r', k1, k2⟩ := e_join r2.2.2.2.1
  have zL := zi_int (n := L) (by omega)
  refine ⟨putI I3 v K3 x, ?_, ⟨SyX_put hv r2.1, put_T hv2 r2.2.1, r2.2.2.1, r2.2.2.2.1, by simp only [List.length_cons]; omega⟩, FX_t p3 (FX_t q3 (FX_t r3 FX_put))⟩
  have hp := X_put (x := x) r2.1.2.2.2.2.2.2 (by omega)
  have h7 : putI I3 v K3 x 43 7 = Tx t3 := (SyX_put (x := x) hv r2.1).2.2.2.1
  show f_X5_readLevel_B v (lpm2 (f_X5_readLevel_B v) f) (zi L) 0 I = _
  rw [X_lvN hX.2.2.2.1 ok hL h2, p1, fq_usome]
  show f_X5_readLevel_109_B v (lpm2 (f_X5_readLevel_B v) f) (zi L) 0 (if L = 2 then 1 else 160) (lpm1 (f_X5_readLevel_109_B v (lpm2 (f_X5_readLevel_B v) f) (zi L) 0 (if L = 2 then 1 else 160)) 3999) 0 I1 = _
  have x4 : (0 : Int32).toInt < (if L = 2 then (1 : Int32) else 160).toInt := by
    split
    · decide
    · decide
  have e2 : lpm1 (f_X5_readLevel_109_B v (lpm2 (f_X5_readLevel_B v) f) (zi L) 0 (if L = 2 then 1 else 160)) 3999 (0 + 1) (putI I3 v K3 x) = some (putI I3 v K3 x) := by
    show f_X5_readLevel_109_B v (lpm2 (f_X5_readLevel_B v) f) (zi L) 0 (if L = 2 then 1 else 160) (lpm1 (f_X5_readLevel_109_B v (lpm2 (f_X5_readLevel_B v) f) (zi L) 0 (if L = 2 then 1 else 160)) 3998) (0 + 1) (putI I3 v K3 x) = _
    unfold f_X5_readLevel_109_B
    rw [h7, k1, fq_vsome, zL, k2, if_neg (show ¬ (L : Int) = jv t3 from fun z => hj3 z.symm)]
    split
    · rfl
    · rfl
  generalize lpm1 (f_X5_readLevel_109_B v (lpm2 (f_X5_readLevel_B v) f) (zi L) 0 (if L = 2 then 1 else 160)) 3999 = kk at e2
  unfold f_X5_readLevel_109_B
  rw [if_pos x4, p2.1.2.2.2.1, j1, fq_vsome, zL, j2, if_pos hj1.symm]
  simp only [fq_l]
  rw [q1, fq_usome, zi_S (by omega), r1, fq_usome, hx, hp, fq_usome, e2]
