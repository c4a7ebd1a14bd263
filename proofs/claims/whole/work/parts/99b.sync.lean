/-! ===== class and reference read the same token ===== -/
/-- the class at a token; the reference at it; the token's place -/
def SyX (n v : Nat) (I : fc_I) (b E : Nat) (t : Tk) (K : List Int32) : Prop := (I 43 4).toInt = (n : Int) ∧ I 43 5 = zi b ∧ I 43 6 = zi E ∧ I 43 7 = Tx t ∧ (t.1 = 1 ∨ t.1 = 2 → I 43 8 = t.2) ∧ (I 43 9).toInt = -1 ∧ XS I v K
def SyM (n x1 : Nat) (J : fc_I) (b E : Nat) (t : Tk) (W C : List Int32) (o : Int) (d : Nat) : Prop := mC J ∧ (J 78 39).toInt = (n : Int) ∧ J 78 47 = zi b ∧ J 78 44 = zi E ∧ SM J t ∧ RS J x1 W C o ∧ (J 78 53).toInt = (d : Int) ∧ (J 114 d = 0 ∨ J 114 d = 1)
def SyB (n b E : Nat) (t : Tk) : Prop := b ≤ E ∧ E ≤ n ∧ (t.1 ≠ 0 → b < E)
def TT (n : Nat) (I J : fc_I) : Prop := ∀ k, k < n → I 32 k = J 108 k
/-- what the class's reading leaves as it is; the reference's -/
def FX (v : Nat) (I I' : fc_I) : Prop := ∀ c s, c ≠ v → (c ≠ 43 ∨ s ≠ 2 ∧ s ≠ 5 ∧ s ≠ 6 ∧ s ≠ 7 ∧ s ≠ 8 ∧ s ≠ 9) → I' c s = I c s
def FM (x1 d : Nat) (J J' : fc_I) : Prop := (∀ c s, c ≠ 109 → c ≠ 113 → (c ≠ 114 ∨ s < d) → (c ≠ 78 ∨ s ≠ 44 ∧ s ≠ 45 ∧ s ≠ 46 ∧ s ≠ 47 ∧ s ≠ 51 ∧ s ≠ 52 ∧ s ≠ 53 ∧ s ≠ 56) → J' c s = J c s) ∧ ∀ s, (s < 160 * x1 ∨ 160 * x1 + 160 ≤ s) → J' 109 s = J 109 s
theorem FX_r {v : Nat} {I : fc_I} : FX v I I := fun _ _ _ _ => rfl
theorem FX_t {v : Nat} {I I' I'' : fc_I} (a : FX v I I') (b : FX v I' I'') : FX v I I'' := fun c s h1 h2 => (b c s h1 h2).trans (a c s h1 h2)
theorem FM_r {x1 d : Nat} {J : fc_I} : FM x1 d J J := ⟨fun _ _ _ _ _ _ => rfl, fun _ _ => rfl⟩
theorem FM_t {x1 d : Nat} {J J' J'' : fc_I} (a : FM x1 d J J') (b : FM x1 d J' J'') : FM x1 d J J'' := ⟨fun c s h1 h2 h3 h4 => (b.1 c s h1 h2 h3 h4).trans (a.1 c s h1 h2 h3 h4), fun s h => (b.2 s h).trans (a.2 s h)⟩
theorem FM_le {x1 d d' : Nat} {J J' : fc_I} (h : d ≤ d') (a : FM x1 d' J J') : FM x1 d J J' := ⟨fun c s h1 h2 h3 h4 => a.1 c s h1 h2 (h3.elim Or.inl (fun z => Or.inr (by omega))) h4, a.2⟩
theorem FM_FB {x1 d : Nat} {J J' : fc_I} (a : FB x1 d J J') : FM x1 d J J' := ⟨fun c s h1 h2 h3 h4 => a.1 c s h1 h2 (h3.elim Or.inl (fun z => Or.inr (by omega))) (h4.elim Or.inl (fun z => Or.inr (by omega))), a.2⟩
theorem FB_FR {x1 d : Nat} {J J' : fc_I} (a : FR x1 J J') : FB x1 d J J' := ⟨fun c s h1 _ _ h4 => a.1 c s h1 h4, a.2⟩
theorem mC_of {J J' : fc_I} (h : ∀ c s, c = 111 ∨ c = 112 → J' c s = J c s) (k : mC J) : mC J' := ⟨fun j hj => (h 111 j (Or.inl rfl)).trans (k.1 j hj), fun j hj => (h 112 j (Or.inr rfl)).trans (k.2 j hj)⟩
theorem SyM_FB {n x1 d b E : Nat} {t : Tk} {J J' : fc_I} {W C W' C' : List Int32} {o o' : Int} (h : SyM n x1 J b E t W C o d) (f : FB x1 d J J') (r : RS J' x1 W' C' o') (g : J' 114 d = 0 ∨ J' 114 d = 1) : SyM n x1 J' b E t W' C' o' d := by
  obtain ⟨a1, a2, a3, a4, a5, a6, a7, a8⟩ := h
  have q : ∀ s, s ≠ 51 → s ≠ 52 → s ≠ 56 → J' 78 s = J 78 s := fun s h1 h2 h3 => f.1 78 s (by decide) (by decide) (Or.inl (by decide)) (Or.inr ⟨h1, h2, h3⟩)
  refine ⟨mC_of (fun c s hc => f.1 c s (by omega) (by omega) (Or.inl (by omega)) (Or.inl (by omega))) a1, ?_, ?_, ?_, ?_, r, ?_, g⟩
  · rw [q 39 (by decide) (by decide) (by decide)]
    exact a2
  · rw [q 47 (by decide) (by decide) (by decide)]
    exact a3
  · rw [q 44 (by decide) (by decide) (by decide)]
    exact a4
  · obtain ⟨b1, b2, b3⟩ := a5
    refine ⟨?_, ?_, b3⟩
    · rw [q 45 (by decide) (by decide) (by decide)]
      exact b1
    · rw [q 46 (by decide) (by decide) (by decide)]
      exact b2
  · rw [q 53 (by decide) (by decide) (by decide)]
    exact a7
theorem FX_tk {v : Nat} {I : fc_I} {a b c d : Int32} : FX v I (tkI I a b c d) := by
  intro x s h1 h2
  unfold tkI
  by_cases c4 : x = 43
  · subst c4
    rw [if_pos rfl, if_neg (by omega), if_neg (by omega), if_neg (by omega), if_neg (by omega)]
  · rw [if_neg c4]
theorem FM_rI {x1 d : Nat} {J : fc_I} {a b c e : Int32} : FM x1 d J (rI J a b c e) := by
  refine ⟨fun x s h1 h2 h3 h4 => ?_, fun s _ => rfl⟩
  unfold rI
  by_cases c4 : x = 78
  · subst c4
    rw [if_pos rfl, if_neg (by omega), if_neg (by omega), if_neg (by omega), if_neg (by omega)]
  · rw [if_neg c4]
theorem FX_put {v : Nat} {I : fc_I} {C : List Int32} {x : Int32} : FX v I (putI I v C x) := by
  intro c s h1 h2
  unfold putI
  rw [fc_wI_ne h1]
  by_cases c4 : c = 43
  · subst c4
    rw [fc_wI_at, if_neg (by omega)]
  · rw [fc_wI_ne c4]
/-- the next token of both -/
theorem S_next {n v x1 b b0 E d : Nat} {t t0 : Tk} {K W C : List Int32} {o : Int} {I J : fc_I} (n160 : n ≤ 160) (hv : v ≠ 43) (hE : E ≤ n) (hT : TT n I J) (hX : SyX n v I b E t K) (hM : SyM n x1 J b0 E t0 W C o d) : ∃ I1 J1 b' E' t', f_X5_nextToken I = some I1 ∧ f_X11_next J = some J1 ∧ SyX n v I1 b' E' t' K ∧ SyM n x1 J1 b' E' t' W C o d ∧ SyB n b' E' t' ∧ E ≤ b' ∧ FX v I I1 ∧ (∀ D, FM x1 D J J1) ∧ J1 114 = J 114 ∧ TT n I1 J1 := by
  obtain ⟨x1', x2, x3, x4, x5, x6, x7⟩ := hX
  obtain ⟨a1, a2, a3, a4, a5, a6, a7, a8⟩ := hM
  obtain ⟨w, p1, p2⟩ := X_next x1' n160 hE x3
  obtain ⟨y, q1, q2⟩ := M_next a1 a2 n160 hE a4
  obtain ⟨e1, e2, e3⟩ := nT_eq hT hE
  obtain ⟨g1, g2, g3⟩ := nB_b (T := I 32) hE
  rw [e1, e2, e3] at p1
  rw [e3] at p2
  rw [e1, e2] at g2
  rw [e1] at g1
  rw [e2] at g3
  have g4 := nE_lt (T := J 108) hE
  have ok : Tok (nT (J 108) n E) := tk_ok
  generalize nB (J 108) n E = b' at *
  generalize nE (J 108) n E = E' at *
  generalize nT (J 108) n E = t' at *
  refine ⟨_, _, b', E', t', p1, q1, ⟨x1', rfl, rfl, rfl, p2, x6, ?_⟩, ⟨?_, a2, rfl, rfl, ⟨rfl, q2, ok⟩, ?_, a7, a8⟩, ⟨g2, g3, g4⟩, g1, FX_tk, fun D => FM_rI, rfl, hT⟩
  · refine ⟨x7.1, cdv_c (J := I) K (fun s hs => ?_) x7.2⟩
    unfold tkI
    rw [if_neg hv]
  · exact a1
  · exact ⟨a6.1, stk_c (J := J) W (fun _ _ => rfl) a6.2.1, a6.2.2.1, cds_c (J := J) C (fun _ _ => rfl) a6.2.2.2.1, a6.2.2.2.2⟩
