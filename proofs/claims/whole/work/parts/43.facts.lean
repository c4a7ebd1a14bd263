/-! ===== what a part of the rule comes to for a zone, on the abstract rows ===== -/
def fcA (A : fc_I) (s t z : Int32) : Nat → Int32 := fun k => if k = 0 then s else if k = 1 then A 1 (cn z) else if k = 2 then A 31 (61 * cn t + cn (A 0 0)) else if k = 3 then A 2 (cn z) else if k = 4 then A 3 (cn z) else z
def evA (A : fc_I) (s t z : Int32) (p : Nat) : Int32 := evv (fcA A s t z) (fun k => A 35 (160 * (2 * cn (A 0 10) + p) + k)) (cn (A 36 (2 * cn (A 0 10) + p)))
/-- hours since the call -/
def snA (A : fc_I) (z : Nat) : Int32 := if (A 5 z).toInt = -1 then 0 else if (A 0 0).toInt < (A 5 z).toInt then 0 else A 0 0 - A 5 z
/-- whether a zone is called by now -/
abbrev isC (A : fc_I) (z : Nat) : Prop := ¬ (A 5 z).toInt = -1 ∧ (A 5 z).toInt ≤ (A 0 0).toInt
theorem co_X {f : Nat} {J : fc_I} {r p : Nat} (hp : p < 2) (hr : r < cn (J 31 7)) (h6 : cn (J 31 7) ≤ 6) : aX f J 36 (2 * r + p) = aLen J (2 * r + p) ∧ ∀ k, k < 160 → k < cn (aLen J (2 * r + p)) → aX f J 35 (160 * (2 * r + p) + k) = trc (J (34 + r) (aBeg J (2 * r + p) + k)) := by
  refine ⟨?_, fun k hk h2 => ?_⟩
  · rw [ax_36]
    unfold aCm
    rw [if_pos ⟨by omega, by omega⟩]
  · rw [ax_35]
    unfold aCo
    have e1 : (160 * (2 * r + p) + k) / 320 = r := by omega
    have e2 : (160 * (2 * r + p) + k) % 160 = k := by omega
    have e3 : (160 * (2 * r + p) + k) / 160 = 2 * r + p := by omega
    rw [e1, e2, e3, if_pos ⟨by omega, hr, h2⟩]
theorem co_M {I : fc_I} {r p : Nat} (hp : p < 2) (hr : r < cn (I 78 40)) (h6 : cn (I 78 40) ≤ 6) : aM I 36 (2 * r + p) = I 110 (2 * r + p) ∧ ∀ k, k < 160 → k < cn (I 110 (2 * r + p)) → aM I 35 (160 * (2 * r + p) + k) = I 109 (160 * (2 * r + p) + k) := by
  refine ⟨?_, fun k hk h2 => ?_⟩
  · rw [am_36]
    unfold mCm
    rw [if_pos ⟨by omega, by omega⟩]
  · rw [am_35]
    unfold mCo
    have e1 : (160 * (2 * r + p) + k) / 320 = r := by omega
    have e2 : (160 * (2 * r + p) + k) % 160 = k := by omega
    have e3 : (160 * (2 * r + p) + k) / 160 = 2 * r + p := by omega
    rw [e1, e2, e3, if_pos ⟨by omega, hr, h2⟩]
/-- of a text: its parts' sizes, and that they come to a number -/
theorem wt_at {A : fc_I} (h : WfT A) {x : Int32} (h0 : 0 ≤ x.toInt) (h1 : x.toInt < (A 0 9).toInt) : ∃ n m : Nat, (A 36 (2 * cn x)).toInt = (n : Int) ∧ (A 36 (2 * cn x + 1)).toInt = (m : Int) ∧ n + m ≤ 160 ∧ cdp (fun k => A 35 (160 * (2 * cn x) + k)) n = some 1 ∧ cdp (fun k => A 35 (160 * (2 * cn x + 1) + k)) m = some 1 := by
  obtain ⟨n, m, a1, a2, a3, a4, a5⟩ := h (cn x) (by rw [cn_int h0]; exact h1)
  refine ⟨n, m, a1, a2, a3, ?_, ?_⟩
  · rw [show (fun k => A 35 (160 * (2 * cn x) + k)) = fun k => A 35 (320 * cn x + k) from funext fun k => by rw [show 160 * (2 * cn x) = 320 * cn x by omega]]
    exact a4
  · rw [show (fun k => A 35 (160 * (2 * cn x + 1) + k)) = fun k => A 35 (320 * cn x + 160 + k) from funext fun k => by rw [show 160 * (2 * cn x + 1) = 320 * cn x + 160 by omega]]
    exact a5
set_option maxHeartbeats 1000000 in
theorem wt_X {f : Nat} {J : fc_I} (hT : WfT (aX f J)) (hr : 0 ≤ (J 31 8).toInt ∧ (J 31 8).toInt < (J 31 7).toInt) (h6 : (J 31 7).toInt ≤ 6) (fa : Nat → Int32) (hf : ∀ k, k < 6 → J 55 k = fa k) (x1 : Int32) (p : Nat) (hx : x1.toInt = (p : Int)) (hp : p < 2) : ∃ g, f_X0_worth J x1 = some (evv fa (fun k => aX f J 35 (160 * (2 * cn (J 31 8) + p) + k)) (cn (aX f J 36 (2 * cn (J 31 8) + p))), stc J 42 g) := by
  obtain ⟨r, hrr⟩ : ∃ r, r = cn (J 31 8) := ⟨_, rfl⟩
  have er := cn_int hr.1
  have e7 := cn_int (x := J 31 7) (by omega)
  obtain ⟨n, m, a1, a2, a3, a4, a5⟩ := wt_at hT hr.1 hr.2
  rw [← hrr] at er a1 a2 a4 a5 ⊢
  obtain ⟨b1, b2⟩ := co_X (f := f) (J := J) (r := r) (p := 0) (by omega) (by omega) (by omega)
  obtain ⟨c1, c2⟩ := co_X (f := f) (J := J) (r := r) (p := 1) (by omega) (by omega) (by omega)
  rw [Nat.add_zero] at b1 b2
  have l0 : aLen J (2 * r) = J 40 r := by unfold aLen; rw [if_pos (by omega), show 2 * r / 2 = r by omega]
  have l1 : aLen J (2 * r + 1) = J 41 r - J 40 r := by unfold aLen; rw [if_neg (by omega), show (2 * r + 1) / 2 = r by omega]
  have g0 : aBeg J (2 * r) = 0 := by unfold aBeg; rw [if_pos (by omega)]
  have g1 : aBeg J (2 * r + 1) = cn (J 40 r) := by unfold aBeg; rw [if_neg (by omega), show (2 * r + 1) / 2 = r by omega]
  rw [b1, l0] at a1
  rw [c1, l1] at a2
  rw [l0, g0] at b2
  rw [l1, g1] at c2
  have n0 : cn (J 40 r) = n := cn_eq a1
  have m0 : cn (J 41 r - J 40 r) = m := cn_eq a2
  have t1 : (J 41 r).toInt = ((n + m : Nat) : Int) := by
    have e : J 41 r = (J 41 r - J 40 r) + J 40 r := by
      apply Int32.toBitVec_inj.mp
      simp
    rw [e, i_add (by omega) (by omega)]
    omega
  unfold f_X0_worth
  simp only [fq_l]
  rw [fq_gp ⟨hr.1, by omega⟩, ← hrr]
  rcases (show p = 0 ∨ p = 1 by omega) with rfl | rfl
  · rw [if_pos (by omega), if_pos (by omega), fq_gp ⟨hr.1, by omega⟩, Nat.add_zero, b1, l0, n0]
    have hc : cdp (fun k => trc (J (34 + r) (0 + k))) n = some 1 := by
      rw [← a4]
      exact (cdp_f n (fun k hk => by rw [b2 k (by omega) (by omega)])).1
    obtain ⟨g, hg⟩ := e_worthX (I := J) (fr := 0) (to := J 40 r) (q3 := 34 + r) (p := 0) (n := n) fa (by omega) kt_0 (by rw [a1, Nat.zero_add]) (by omega) hc hf
    refine ⟨g, ?_⟩
    rw [hg, evv_f (fun k hk => (b2 k (by omega) (by omega)).symm)]
  · rw [if_neg (by omega), fq_gp ⟨hr.1, by omega⟩, if_neg (by omega), fq_gp ⟨hr.1, by omega⟩, c1, l1, m0]
    have hc : cdp (fun k => trc (J (34 + r) (n + k))) m = some 1 := by
      rw [← a5]
      exact (cdp_f m (fun k hk => by rw [c2 k (by omega) (by omega), n0])).1
    obtain ⟨g, hg⟩ := e_worthX (I := J) (fr := J 40 r) (to := J 41 r) (q3 := 34 + r) (p := n) (n := m) fa (by omega) a1 t1 a3 hc hf
    refine ⟨g, ?_⟩
    have hh : ∀ k, k < m → trc (J (34 + r) (n + k)) = aX f J 35 (160 * (2 * r + 1) + k) := fun k hk => by rw [c2 k (by omega) (by omega), n0]
    rw [hg, evv_f hh]
theorem wt_M {I : fc_I} (hT : WfT (aM I)) (hr : 0 ≤ (I 78 41).toInt ∧ (I 78 41).toInt < (I 78 40).toInt) (h6 : (I 78 40).toInt ≤ 6) (fa : Nat → Int32) (z t h x1 : Int32) (hf : ∀ c : Int32, 0 ≤ c.toInt → c.toInt < 6 → ∀ g, f_X11_nameOf (stc I 115 g) c z t h = some (fa (cn c))) (p : Nat) (hx : x1.toInt = (p : Int)) (hp : p < 2) : ∃ g, f_X11_worthOf I x1 z t h = some (evv fa (fun k => aM I 35 (160 * (2 * cn (I 78 41) + p) + k)) (cn (aM I 36 (2 * cn (I 78 41) + p))), stc I 115 g) := by
  obtain ⟨r, hrr⟩ : ∃ r, r = cn (I 78 41) := ⟨_, rfl⟩
  have er := cn_int hr.1
  have e7 := cn_int (x := I 78 40) (by omega)
  obtain ⟨n, m, a1, a2, a3, a4, a5⟩ := wt_at hT hr.1 hr.2
  rw [← hrr] at er a1 a2 a4 a5 ⊢
  obtain ⟨b1, b2⟩ := co_M (I := I) (r := r) (p := p) hp (by omega) (by omega)
  obtain ⟨l1, l2⟩ := i_lin (a := 2) (x := I 78 41) (y := x1) (A := 2) rfl er.symm hx (by omega)
  have key : ∃ N : Nat, (aM I 36 (2 * r + p)).toInt = (N : Int) ∧ N ≤ 160 ∧ cdp (fun k => aM I 35 (160 * (2 * r + p) + k)) N = some 1 := by
    rcases (show p = 0 ∨ p = 1 by omega) with rfl | rfl
    · exact ⟨n, a1, by omega, a4⟩
    · exact ⟨m, a2, by omega, a5⟩
  obtain ⟨N, k1, k2, k3⟩ := key
  rw [b1] at k1 ⊢
  have kn : cn (I 110 (2 * r + p)) = N := cn_eq k1
  rw [kn] at b2 ⊢
  unfold f_X11_worthOf
  simp only [fq_l]
  have hc : cdp (fun k => I 109 (160 * (2 * r + p) + k)) N = some 1 := by
    rw [← k3]
    exact (cdp_f N (fun k hk => by rw [b2 k (by omega) (by omega)])).1
  obtain ⟨g, hg⟩ := e_worthM (I := I) (z := z) (t := t) (h := h) (q := 2 * I 78 41 + x1) (Q := 2 * r + p) (n := N) fa l1 (by omega) k1 k2 hc hf
  refine ⟨g, ?_⟩
  rw [hg, evv_f (fun k hk => (b2 k (by omega) (by omega)).symm)]
theorem wi_X {f : Nat} {I : fc_I} {t h : Int32} (ht : 0 ≤ t.toInt ∧ t.toInt ≤ 2) (hh : 0 ≤ h.toInt ∧ h.toInt ≤ 60) : aX f I 31 (61 * cn t + cn h) = I (22 + cn t) (cn h) ∧ aX f I 30 (61 * cn t + cn h) = I (18 + cn t) (cn h) := by
  have e1 := cn_int ht.1
  have e2 := cn_int hh.1
  rw [ax_31, ax_30]
  unfold aWi aWa
  rw [if_pos (by omega), if_pos (by omega), show (61 * cn t + cn h) / 61 = cn t by omega, show (61 * cn t + cn h) % 61 = cn h by omega]
  exact ⟨rfl, rfl⟩
theorem wi_M {I : fc_I} {t h : Int32} (ht : 0 ≤ t.toInt ∧ t.toInt ≤ 2) (hh : 0 ≤ h.toInt ∧ h.toInt ≤ 60) : ((61 : Int32) * t + h).toInt = 61 * t.toInt + h.toInt ∧ cn ((61 : Int32) * t + h) = 61 * cn t + cn h ∧ aM I 31 (61 * cn t + cn h) = I 107 (61 * cn t + cn h) ∧ aM I 30 (61 * cn t + cn h) = I 106 (61 * cn t + cn h) := by
  have e1 := cn_int ht.1
  have e2 := cn_int hh.1
  obtain ⟨l1, l2⟩ := i_lin (a := 61) (x := t) (y := h) (A := 61) rfl e1.symm e2.symm (by omega)
  rw [am_31, am_30]
  unfold mWi mWa
  rw [if_pos (by omega), if_pos (by omega)]
  exact ⟨by omega, l2, rfl, rfl⟩
set_option maxHeartbeats 2000000 in
theorem e_gather28 {f : Nat} (hf : f = 45 ∨ f = 58) {I : fc_I} {z t s : Int32} (hz : 0 ≤ z.toInt ∧ z.toInt < 6) (ht : 0 ≤ t.toInt ∧ t.toInt ≤ 2) (hh : 0 ≤ (I f 9).toInt ∧ (I f 9).toInt ≤ 60) : ∃ J, f_X4_gather_28 f z t 0 s I = some J ∧ (∀ c, c ≠ 55 → J c = I c) ∧ ∀ k, k < 6 → J 55 k = fcA (aX f I) s t z k := by
  have e1 := cn_int ht.1
  have h22 : 22 + cn t ≠ 55 := by omega
  have hf9 : f ≠ 55 := by omega
  have hf1 : f + 1 ≠ 55 := by omega
  have hf2 : f + 2 ≠ 55 := by omega
  have k0 : cn (0 : Int32) = 0 := rfl
  have k1 : cn (1 : Int32) = 1 := rfl
  have k2 : cn (2 : Int32) = 2 := rfl
  have k3 : cn (3 : Int32) = 3 := rfl
  have k4 : cn (4 : Int32) = 4 := rfl
  have k5 : cn (5 : Int32) = 5 := rfl
  refine ⟨fc_wI (fc_wI (fc_wI (fc_wI (fc_wI (fc_wI I 55 0 s) 55 1 (I 2 (cn z))) 55 2 (I (22 + cn t) (cn (I f 9)))) 55 3 (I (f + 1) (cn z))) 55 4 (I (f + 2) (cn z))) 55 5 z, ?_, fun c hc => ?_, fun k hk => ?_⟩
  · unfold f_X4_gather_28
    simp only [fq_l]
    rw [fq_gp ⟨by rw [kt_0]; omega, by rw [kt_0]; omega⟩, fq_gp ⟨hz.1, by omega⟩, fq_gp ⟨by rw [kt_1]; omega, by rw [kt_1]; omega⟩, fq_gp ⟨ht.1, by omega⟩]
    rw [fc_wI_lo hf9, fc_wI_lo hf9, fq_gp ⟨hh.1, by omega⟩, fq_gp ⟨by rw [kt_2]; omega, by rw [kt_2]; omega⟩, fq_gp ⟨hz.1, by omega⟩, fq_gp ⟨by rw [kt_3]; omega, by rw [kt_3]; omega⟩, fq_gp ⟨hz.1, by omega⟩, fq_gp ⟨by rw [kt_4]; omega, by rw [kt_4]; omega⟩, fq_gp ⟨by rw [kt_5]; omega, by rw [kt_5]; omega⟩]
    simp only [fc_wI_lo hf1, fc_wI_lo hf2, fc_wI_lo h22, fc_wI_lo (show 2 ≠ 55 by decide), k0, k1, k2, k3, k4, k5]
  · simp only [fc_wI_lo hc]
  · have ax1 : aX f I 0 0 = I f 9 := rfl
    have w31 := (wi_X (f := f) (I := I) ht hh).1
    unfold fcA
    rw [ax1, w31]
    simp only [fc_wI_at]
    rcases (show k = 0 ∨ k = 1 ∨ k = 2 ∨ k = 3 ∨ k = 4 ∨ k = 5 by omega) with rfl | rfl | rfl | rfl | rfl | rfl <;> simp <;> rfl
theorem e_gather {f : Nat} (hf : f = 45 ∨ f = 58) {I : fc_I} {z t : Int32} (hz : 0 ≤ z.toInt ∧ z.toInt < 6) (ht : 0 ≤ t.toInt ∧ t.toInt ≤ 2) (hh : 0 ≤ (I f 9).toInt ∧ (I f 9).toInt ≤ 60) : ∃ J, f_X4_gather f I z t = some J ∧ (∀ c, c ≠ 55 → J c = I c) ∧ ∀ k, k < 6 → J 55 k = fcA (aX f I) (snA (aX f I) (cn z)) t z k := by
  have e0 : aX f I 0 0 = I f 9 := rfl
  have e5 : aX f I 5 (cn z) = I (f + 4) (cn z) := rfl
  unfold f_X4_gather f_X2_isCalled snA
  rw [e0, e5, fq_gp ⟨hz.1, by omega⟩, kt_m1]
  by_cases c1 : (I (f + 4) (cn z)).toInt = -1
  · rw [if_pos c1, fq_vsome, if_pos kt_0, if_pos c1]
    exact e_gather28 hf hz ht hh
  · rw [if_neg c1, fq_gp ⟨hz.1, by omega⟩, if_neg c1]
    by_cases c2 : (I f 9).toInt < (I (f + 4) (cn z)).toInt
    · rw [if_pos c2, fq_vsome, if_pos kt_0, if_pos c2]
      exact e_gather28 hf hz ht hh
    · rw [if_neg c2, fq_vsome, if_neg (by decide), if_neg c2, fq_gp ⟨hz.1, by omega⟩]
      exact e_gather28 hf hz ht hh
set_option maxHeartbeats 2000000 in
theorem e_nameOf {I : fc_I} {z t : Int32} (hz : 0 ≤ z.toInt ∧ z.toInt < 6) (ht : 0 ≤ t.toInt ∧ t.toInt ≤ 2) (hh : 0 ≤ (I 78 0).toInt ∧ (I 78 0).toInt ≤ 60) (hc5 : (I 83 (cn z)).toInt ≤ (I 78 0).toInt) (c : Int32) (h0 : 0 ≤ c.toInt) (h6 : c.toInt < 6) (g : Nat → Int32) : f_X11_nameOf (stc I 115 g) c z t (I 78 0) = some (fcA (aM I) (snA (aM I) (cn z)) t z (cn c)) := by
  have ec := cn_int h0
  have e0 : aM I 0 0 = I 78 0 := rfl
  have e5 : aM I 5 (cn z) = I 83 (cn z) := rfl
  obtain ⟨l1, l2, l3, _⟩ := wi_M (I := I) ht hh
  have e1 := cn_int ht.1
  have e2 := cn_int hh.1
  unfold f_X11_nameOf fcA snA
  rw [e0, e5, l3]
  simp only [stc_ne (I := I) (c := 115) (c' := 83) (g := g) (by decide), stc_ne (I := I) (c := 115) (c' := 79) (g := g) (by decide), stc_ne (I := I) (c := 115) (c' := 107) (g := g) (by decide), stc_ne (I := I) (c := 115) (c' := 80) (g := g) (by decide), stc_ne (I := I) (c := 115) (c' := 81) (g := g) (by decide), kt_m1]
  rcases (show c.toInt = 0 ∨ c.toInt = 1 ∨ c.toInt = 2 ∨ c.toInt = 3 ∨ c.toInt = 4 ∨ c.toInt = 5 by omega) with q | q | q | q | q | q
  · rw [if_pos q, if_pos (show cn c = 0 by omega), fq_gp ⟨hz.1, by omega⟩]
    by_cases c1 : (I 83 (cn z)).toInt = -1
    · rw [if_pos c1, if_pos c1]
    · rw [if_neg c1, if_neg c1, fq_gp ⟨hz.1, by omega⟩, if_neg (by omega)]
  · rw [if_neg (by omega), if_pos q, if_neg (by omega), if_pos (by omega), fq_gp ⟨hz.1, by omega⟩]
    rfl
  · rw [if_neg (by omega), if_neg (by omega), if_pos q, if_neg (by omega), if_neg (by omega), if_pos (by omega), fq_gp ⟨by omega, by omega⟩, l2]
  · rw [if_neg (by omega), if_neg (by omega), if_neg (by omega), if_pos q, if_neg (by omega), if_neg (by omega), if_neg (by omega), if_pos (by omega), fq_gp ⟨hz.1, by omega⟩]
    rfl
  · rw [if_neg (by omega), if_neg (by omega), if_neg (by omega), if_neg (by omega), if_pos q, if_neg (by omega), if_neg (by omega), if_neg (by omega), if_neg (by omega), if_pos (by omega), fq_gp ⟨hz.1, by omega⟩]
    rfl
  · rw [if_neg (by omega), if_neg (by omega), if_neg (by omega), if_neg (by omega), if_neg (by omega), if_neg (by omega), if_neg (by omega), if_neg (by omega), if_neg (by omega), if_neg (by omega)]
