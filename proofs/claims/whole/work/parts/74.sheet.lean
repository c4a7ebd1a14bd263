/-! ===== the op sheet ===== -/
/-- a sheet becomes a row of n, all 0 -/
def stA (A : fc_I) (s : Nat) (g n : Int32) : fc_I := fun r k => if r = 28 ∧ k = s then g else if r = 33 ∧ k = s then n else if r = 34 ∧ 40 * s ≤ k ∧ k < 40 * s + 40 then 0 else A r k
theorem stA_o {A : fc_I} {s : Nat} {g n : Int32} {r : Nat} (h : r ≠ 28 ∧ r ≠ 33 ∧ r ≠ 34) : stA A s g n r = A r := by
  funext k
  unfold stA
  rw [if_neg (fun z => h.1 z.1), if_neg (fun z => h.2.1 z.1), if_neg (fun z => h.2.2 z.1)]
theorem st_X {I J : fc_I} {s : Nat} {g n : Int32} (hs : s < 4) (hc : ∀ c, ¬ (c = 76 ∨ c = 77 ∨ c = 72 + s) → J c = I c) (h76 : ∀ k, J 76 k = if k = s then g else I 76 k) (h77 : ∀ k, k ≠ s → J 77 k = I 77 k) (h77s : ¬ g = -1 → J 77 s = n) (hn : g = -1 → n = 0) (hi : ¬ g = -1 → ∀ k, k < 40 → J (72 + s) k = 0) : aX 45 J = stA (aX 45 I) s g n := by
  funext r
  by_cases hr : r = 28 ∨ r = 33 ∨ r = 34
  · funext k
    unfold stA
    rcases hr with rfl | rfl | rfl
    · rw [show aX 45 J 28 k = J 76 k from rfl, h76]
      by_cases e : k = s
      · rw [if_pos e, if_pos ⟨rfl, e⟩]
      · rw [if_neg e, if_neg (fun z => e z.2), if_neg (fun z => by omega), if_neg (fun z => by omega)]
        rfl
    · rw [show aX 45 J 33 k = aSz J k from rfl]
      unfold aSz
      rw [h76]
      by_cases e : k = s
      · rw [if_pos e, if_neg (show ¬ ((33 : Nat) = 28 ∧ k = s) from fun z => by omega), if_pos (show (33 : Nat) = 33 ∧ k = s from ⟨rfl, e⟩)]
        by_cases q : g = -1
        · rw [if_pos q, hn q]
        · rw [if_neg q, e, h77s q]
      · rw [if_neg e, if_neg (show ¬ ((33 : Nat) = 28 ∧ k = s) from fun z => by omega), if_neg (show ¬ ((33 : Nat) = 33 ∧ k = s) from fun z => e z.2), if_neg (show ¬ ((33 : Nat) = 34 ∧ _ ∧ _) from fun z => by omega), h77 k e]
        rfl
    · rw [show aX 45 J 34 k = aIt J k from rfl, if_neg (show ¬ ((34 : Nat) = 28 ∧ k = s) from fun z => by omega), if_neg (show ¬ ((34 : Nat) = 33 ∧ k = s) from fun z => by omega), show aX 45 I 34 k = aIt I k from rfl]
      unfold aIt
      rw [h76]
      by_cases e : k / 40 = s
      · rw [if_pos e, if_pos (show (34 : Nat) = 34 ∧ 40 * s ≤ k ∧ k < 40 * s + 40 by omega)]
        by_cases q : g = -1
        · rw [if_neg (fun z => z.2 q)]
        · rw [if_pos ⟨by omega, q⟩, e, hi q _ (by omega)]
      · rw [if_neg e, if_neg (show ¬ ((34 : Nat) = 34 ∧ 40 * s ≤ k ∧ k < 40 * s + 40) by omega)]
        by_cases q : k < 160
        · rw [hc (72 + k / 40) (by omega)]
        · rw [if_neg (fun z => q z.1), if_neg (fun z => q z.1)]
  · rw [stA_o (by omega)]
    exact aX_sh (fun c hc' => hc c (by omega)) r (by omega)
theorem st_M {I J : fc_I} {s : Nat} {g n : Int32} (hs : s < 4) (hc : ∀ c, ¬ (c = 127 ∨ c = 128 ∨ c = 129) → J c = I c) (h76 : ∀ k, J 127 k = if k = s then g else I 127 k) (h77 : ∀ k, J 128 k = if k = s then n else I 128 k) (hn : g = -1 → n = 0) (hi : ∀ k, J 129 k = if 40 * s ≤ k ∧ k < 40 * s + 40 then 0 else I 129 k) : aM J = stA (aM I) s g n := by
  funext r
  by_cases hr : r = 28 ∨ r = 33 ∨ r = 34
  · funext k
    unfold stA
    rcases hr with rfl | rfl | rfl
    · rw [show aM J 28 k = J 127 k from rfl, h76]
      by_cases e : k = s
      · rw [if_pos e, if_pos ⟨rfl, e⟩]
      · rw [if_neg e, if_neg (fun z => e z.2), if_neg (fun z => by omega), if_neg (fun z => by omega)]
        rfl
    · rw [show aM J 33 k = mSz J k from rfl]
      unfold mSz
      rw [h76, h77]
      by_cases e : k = s
      · rw [if_pos e, if_pos e, if_neg (show ¬ ((33 : Nat) = 28 ∧ k = s) from fun z => by omega), if_pos (show (33 : Nat) = 33 ∧ k = s from ⟨rfl, e⟩)]
        by_cases q : g = -1
        · rw [if_pos q, hn q]
        · rw [if_neg q]
      · rw [if_neg e, if_neg e, if_neg (show ¬ ((33 : Nat) = 28 ∧ k = s) from fun z => by omega), if_neg (show ¬ ((33 : Nat) = 33 ∧ k = s) from fun z => e z.2), if_neg (show ¬ ((33 : Nat) = 34 ∧ _ ∧ _) from fun z => by omega)]
        rfl
    · rw [show aM J 34 k = mIt J k from rfl, if_neg (show ¬ ((34 : Nat) = 28 ∧ k = s) from fun z => by omega), if_neg (show ¬ ((34 : Nat) = 33 ∧ k = s) from fun z => by omega), show aM I 34 k = mIt I k from rfl]
      unfold mIt
      rw [h76, hi]
      by_cases e : k / 40 = s
      · rw [if_pos e, if_pos (show (34 : Nat) = 34 ∧ 40 * s ≤ k ∧ k < 40 * s + 40 by omega), if_pos (show 40 * s ≤ k ∧ k < 40 * s + 40 by omega)]
        split <;> rfl
      · rw [if_neg e, if_neg (show ¬ ((34 : Nat) = 34 ∧ 40 * s ≤ k ∧ k < 40 * s + 40) by omega), if_neg (show ¬ (40 * s ≤ k ∧ k < 40 * s + 40) by omega)]
  · rw [stA_o (by omega)]
    exact aM_sh (fun c hc' => hc c (by omega)) r (by omega)
theorem Wf_st {A : fc_I} (hw : Wf A) {s : Nat} {g n : Int32} (hg : -1 ≤ g.toInt ∧ g.toInt ≤ 2) (hn : 0 ≤ n.toInt ∧ n.toInt ≤ 40) : Wf (stA A s g n) := by
  obtain ⟨v0, v1, v2, v3, v4, v5, v6, v7, v8⟩ := hw
  have o : ∀ r, r ≠ 28 ∧ r ≠ 33 ∧ r ≠ 34 → stA A s g n r = A r := fun r hr => stA_o hr
  refine ⟨?_, ?_, ?_, fun q hq => ?_, ?_, ?_, ?_, ?_, ?_⟩
  · unfold Wf0
    rw [o 0 (by decide)]
    exact v0
  · unfold WfR
    rw [o 0 (by decide), o 9 (by decide), o 10 (by decide), o 11 (by decide), o 12 (by decide), o 13 (by decide)]
    exact v1
  · unfold WfU
    rw [o 0 (by decide), o 14 (by decide), o 15 (by decide), o 16 (by decide), o 17 (by decide), o 18 (by decide), o 19 (by decide)]
    exact v2
  · have b := v3 q hq
    unfold stA
    simp only [show ¬ ((28 : Nat) = 33 ∧ q = s) from fun z => by omega, show ¬ ((33 : Nat) = 28 ∧ q = s) from fun z => by omega, show ¬ ((28 : Nat) = 34 ∧ 40 * s ≤ q ∧ q < 40 * s + 40) from fun z => by omega, show ¬ ((33 : Nat) = 34 ∧ 40 * s ≤ q ∧ q < 40 * s + 40) from fun z => by omega, if_false, ite_false, true_and]
    by_cases e : q = s
    · simp only [e, if_true, ite_true]
      exact ⟨hg, hn⟩
    · simp only [e, if_false, ite_false]
      exact b
  · unfold WfL
    rw [o 20 (by decide)]
    exact v4
  · unfold WfZ
    rw [o 0 (by decide), o 1 (by decide), o 2 (by decide), o 3 (by decide), o 4 (by decide), o 5 (by decide), o 6 (by decide), o 27 (by decide)]
    exact v5
  · unfold WfG
    rw [o 0 (by decide), o 11 (by decide)]
    exact v6
  · unfold WfH wS
    rw [o 0 (by decide), o 7 (by decide), o 2 (by decide), o 3 (by decide), o 4 (by decide)]
    exact v7
  · unfold WfT
    rw [o 0 (by decide), o 35 (by decide), o 36 (by decide)]
    exact v8
theorem e_sh70 {I : fc_I} {x : Int32} (hx : 0 ≤ x.toInt ∧ x.toInt ≤ 3) : ∃ J, f_X11_sheet_70 x 4000 0 I = some (1, J) ∧ (∀ c, c ≠ 129 → J c = I c) ∧ ∀ k, J 129 k = if 40 * cn x ≤ k ∧ k < 40 * cn x + 40 then 0 else I 129 k := by
  have e1 := cn_int hx.1
  obtain ⟨r, h1, h2⟩ := lpm1_R (B := f_X11_sheet_70_B x) 40 (by omega) (fun n J => (∀ c, c ≠ 129 → J c = I c) ∧ ∀ k, J 129 k = if 40 * cn x ≤ k ∧ k < 40 * cn x + n then 0 else I 129 k) (fun q => q.1 = 1 ∧ (∀ c, c ≠ 129 → q.2 c = I c) ∧ ∀ k, q.2 129 k = if 40 * cn x ≤ k ∧ k < 40 * cn x + 40 then 0 else I 129 k) (fun k i n J hi hn hP => by
    obtain ⟨p1, p2⟩ := hP
    obtain ⟨l1, l2⟩ := i_lin (a := 40) (x := x) (y := i) (A := 40) rfl e1.symm hi (by omega)
    unfold f_X11_sheet_70_B
    simp only [fq_l, kt_40]
    rw [if_pos (by omega), fq_gp ⟨by omega, by omega⟩, l2]
    refine ⟨_, ⟨fun c hc => by rw [fc_wI_lo hc, p1 c hc], fun q => ?_⟩, rfl⟩
    rw [fc_wI_at, p2]
    by_cases e : q = 40 * cn x + n
    · rw [if_pos e, if_pos (by omega)]
    · rw [if_neg e]
      by_cases c : 40 * cn x ≤ q ∧ q < 40 * cn x + n
      · rw [if_pos c, if_pos (by omega)]
      · rw [if_neg c, if_neg (by omega)]) (fun k i J hi hP => by
    unfold f_X11_sheet_70_B
    rw [if_neg (by rw [kt_40]; omega)]
    exact ⟨(1, J), ⟨rfl, hP.1, hP.2⟩, rfl⟩) 4000 0 0 I kt_0 (by omega) (by omega) ⟨fun _ _ => rfl, fun q => by rw [if_neg (by omega)]⟩
  refine ⟨r.2, ?_, h1.2⟩
  rw [← h1.1]
  exact h2
/-- the tie behind a sheet laid anew -/
theorem Rel_st {I J K : fc_I} (hR : Rel I) {s : Nat} {g n : Int32} (hg : -1 ≤ g.toInt ∧ g.toInt ≤ 2) (hn : 0 ≤ n.toInt ∧ n.toInt ≤ 40) (hJ : ∀ c, 78 ≤ c → J c = I c) (hX : aX 45 J = stA (aX 45 I) s g n) (hK : ∀ c, ¬ (c = 127 ∨ c = 128 ∨ c = 129) → K c = J c) (hM : aM K = stA (aM J) s g n) : Rel K := by
  have jM : aM J = aM I := aM_frame hJ
  have kX : aX 45 K = aX 45 J := aX_frame (Or.inl rfl) (fun c hc => hK c (by omega))
  refine ⟨?_, ?_, ?_, ?_⟩
  · rw [kX, hX, hM, jM, hR.1]
  · rw [kX, hX]
    exact Wf_st hR.2.1 hg hn
  · unfold mC
    rw [hK 111 (by decide), hK 112 (by decide), hJ 111 (by decide), hJ 112 (by decide)]
    exact hR.2.2.1
  · unfold mK
    rw [hK 78 (by decide), hK 86 (by decide), hK 87 (by decide), hJ 78 (by decide), hJ 86 (by decide), hJ 87 (by decide)]
    exact hR.2.2.2
set_option maxHeartbeats 4000000 in
set_option maxRecDepth 100000 in
theorem r_sheet {I : fc_I} {x1 x2 x3 : Int32} (hR : Rel I) : RR (f_X10_sheet I x1 x2 x3) (fun I => f_X11_sheet I x1 x2 x3) := by
  have he := hR.1
  have hw0 : (0 ≤ (I 45 9).toInt ∧ (I 45 9).toInt ≤ (I 15 11).toInt ∧ 1 ≤ (I 15 11).toInt ∧ (I 15 11).toInt ≤ 60) ∧ (0 ≤ (I 1 2).toInt ∧ (I 1 2).toInt ≤ 6) ∧ (0 ≤ (I 1 3).toInt ∧ (I 1 3).toInt ≤ 3) ∧ (0 ≤ (I 4 5).toInt ∧ (I 4 5).toInt ≤ 14) ∧ (0 ≤ (I 10 4).toInt ∧ (I 10 4).toInt ≤ 4) ∧ (0 ≤ (I 15 10).toInt ∧ (I 15 10).toInt ≤ 2) ∧ (0 ≤ (I 15 9).toInt ∧ (I 15 9).toInt ≤ 40) ∧ (0 ≤ (I 31 6).toInt ∧ (I 31 6).toInt ≤ 160) ∧ (1 ≤ (I 31 7).toInt ∧ (I 31 7).toInt ≤ 6) ∧ (0 ≤ (I 31 8).toInt ∧ (I 31 8).toInt < (I 31 7).toInt) := hR.2.1.1
  obtain ⟨⟨w1, w2, w3, w4⟩, ⟨w5, w6⟩, ⟨w7, w8⟩, ⟨w9, w10⟩, ⟨w11, w12⟩, ⟨w13, w14⟩, ⟨w15, w16⟩, ⟨w17, w18⟩, ⟨w19, w20⟩, ⟨w21, w22⟩⟩ := hw0
  have km1 : (-1 : Int32).toInt = -1 := rfl
  have km1l : (-1 : Int64).toInt = -1 := rfl
  by_cases c1 : x1.toInt < 0 ∨ 3 < x1.toInt
  · refine ⟨-2, I, I, ?_, ?_, hR⟩
    · unfold f_X10_sheet
      rw [e_isNoSheet, fq_vsome, if_pos c1, if_neg (by decide)]
    · show f_X11_sheet I x1 x2 x3 = _
      unfold f_X11_sheet
      rw [e_isSheet, fq_vsome, if_neg (show ¬ (0 ≤ x1.toInt ∧ x1.toInt ≤ 3) by omega), if_pos (by rfl)]
  · have hs : 0 ≤ x1.toInt ∧ x1.toInt ≤ 3 := by omega
    have e1 := cn_int hs.1
    have hg : ∀ {γ : Type} (y : Option γ), fq_g 4 x1 y = y := fun y => fq_gp ⟨by omega, by omega⟩
    by_cases c2 : x2.toInt < -1 ∨ 2 < x2.toInt
    · refine ⟨-2, I, I, ?_, ?_, hR⟩
      · unfold f_X10_sheet
        rw [e_isNoSheet, fq_vsome, if_neg c1, if_pos (by rfl), e_isOutside, fq_vsome, km1, kt_2, if_pos c2, if_neg (by decide)]
      · show f_X11_sheet I x1 x2 x3 = _
        unfold f_X11_sheet
        rw [e_isSheet, fq_vsome, if_pos hs, if_neg (by decide), e_isIn, fq_vsome, Int32.toInt_toInt64, km1l, kl_2, if_neg (show ¬ (-1 ≤ x2.toInt ∧ x2.toInt ≤ 2) by omega), if_pos (by rfl)]
    · have hX : f_X10_sheet I x1 x2 x3 = if x2.toInt = -1 then some (1, fc_wI I 76 (cn x1) (-1)) else if 40 < x3.toInt then some (-2, I) else if x3.toInt < 0 then some (-14, I) else some (1, fc_fI (fc_wI (fc_wI I 76 (cn x1) x2) 77 (cn x1) x3) (72 + cn x1) 40 0) := by
        unfold f_X10_sheet f_X7_lay
        simp only [hg, fq_l]
        rw [e_isNoSheet, fq_vsome, if_neg c1, if_pos (by rfl), e_isOutside, fq_vsome, km1, kt_2, if_neg c2, if_pos (by rfl), kt_40, e_fill (by omega), fq_usome, fq_usome]
      have hM : ∀ J, f_X11_sheet J x1 x2 x3 = if x2.toInt < 0 then f_X11_sheet_70 x1 4000 0 (fc_wI (fc_wI J 127 (cn x1) x2) 128 (cn x1) 0) else if 40 < x3.toInt then some (-2, J) else if x3.toInt < 0 then some (-14, J) else f_X11_sheet_70 x1 4000 0 (fc_wI (fc_wI J 127 (cn x1) x2) 128 (cn x1) x3) := fun J => by
        unfold f_X11_sheet
        simp only [hg, fq_l]
        rw [e_isSheet, fq_vsome, if_pos hs, if_neg (by decide), e_isIn, fq_vsome, Int32.toInt_toInt64, km1l, kl_2, if_pos (show (-1 ≤ x2.toInt ∧ x2.toInt ≤ 2) by omega), if_neg (by decide), kt_40]
        by_cases c : x2.toInt < 0
        · simp only [if_pos c]
        · simp only [if_neg c]
      have fin : ∀ (J : fc_I) (g n : Int32), (-1 ≤ g.toInt ∧ g.toInt ≤ 2) → (0 ≤ n.toInt ∧ n.toInt ≤ 40) → (g = -1 → n = 0) → (∀ c, 78 ≤ c → J c = I c) → aX 45 J = stA (aX 45 I) (cn x1) g n → ∃ K, f_X11_sheet_70 x1 4000 0 (fc_wI (fc_wI J 127 (cn x1) g) 128 (cn x1) n) = some (1, K) ∧ Rel K := fun J g n b1 b2 b3 h1 h2 => by
        obtain ⟨K, k1, k2, k3⟩ := e_sh70 (I := fc_wI (fc_wI J 127 (cn x1) g) 128 (cn x1) n) hs
        refine ⟨K, k1, Rel_st hR b1 b2 h1 h2 (fun c hc => by rw [k2 c (by omega), fc_wI_lo (by omega), fc_wI_lo (by omega)]) (st_M (by omega) (fun c hc => by rw [k2 c (by omega), fc_wI_lo (by omega), fc_wI_lo (by omega)]) (fun k => by rw [k2 127 (by decide), fc_wI_lo (by decide), fc_wI_at]) (fun k => by rw [k2 128 (by decide), fc_wI_at, fc_wI_lo (by decide)]) b3 (fun k => by rw [k3, fc_wI_lo (by decide), fc_wI_lo (by decide)]))⟩
      by_cases c3 : x2.toInt = -1
      · rw [if_pos c3] at hX
        have ex2 : x2 = -1 := Int32.toInt_inj.mp c3
        obtain ⟨K, k1, k2⟩ := fin (fc_wI I 76 (cn x1) (-1)) (-1) 0 (by rw [km1]; omega) (by rw [kt_0]; omega) (fun _ => rfl) (fun c hc => fc_wI_lo (by omega)) (st_X (by omega) (fun c hc => fc_wI_lo (by omega)) (fun k => fc_wI_at) (fun k _ => by rw [fc_wI_lo (by decide)]) (fun q => absurd rfl q) (fun _ => rfl) (fun q => absurd rfl q))
        refine ⟨_, _, K, hX, ?_, k2⟩
        show f_X11_sheet _ x1 x2 x3 = _
        rw [hM, if_pos (by omega), ex2, k1]
      · rw [if_neg c3] at hX
        by_cases c4 : 40 < x3.toInt
        · rw [if_pos c4] at hX
          exact ⟨_, _, _, hX, by show f_X11_sheet I x1 x2 x3 = _; rw [hM, if_neg (by omega), if_pos c4], hR⟩
        · rw [if_neg c4] at hX
          by_cases c5 : x3.toInt < 0
          · rw [if_pos c5] at hX
            exact ⟨_, _, _, hX, by show f_X11_sheet I x1 x2 x3 = _; rw [hM, if_neg (by omega), if_neg c4, if_pos c5], hR⟩
          · rw [if_neg c5] at hX
            have ff : ∀ (c : Nat) (Y : fc_I), c ≠ 72 + cn x1 → fc_fI Y (72 + cn x1) 40 0 c = Y c := fun c Y h => by
              funext k
              unfold fc_fI
              rw [if_neg (fun z => h z.1)]
            obtain ⟨K, k1, k2⟩ := fin (fc_fI (fc_wI (fc_wI I 76 (cn x1) x2) 77 (cn x1) x3) (72 + cn x1) 40 0) x2 x3 (by omega) (by omega) (fun q => absurd (by rw [q]; rfl) c3) (fun c hc => by rw [ff c _ (by omega), fc_wI_lo (by omega), fc_wI_lo (by omega)]) (st_X (by omega) (fun c hc => by rw [ff c _ (by omega), fc_wI_lo (by omega), fc_wI_lo (by omega)]) (fun k => by rw [ff 76 _ (by omega), fc_wI_lo (by decide), fc_wI_at]) (fun k hk => by rw [ff 77 _ (by omega), fc_wI_at, if_neg hk, fc_wI_lo (by decide)]) (fun _ => by rw [ff 77 _ (by omega), fc_wI_at, if_pos rfl]) (fun q => absurd (by rw [q]; rfl) c3) (fun _ k hk => by
              unfold fc_fI
              rw [if_pos ⟨rfl, hk⟩]))
            refine ⟨_, _, K, hX, ?_, k2⟩
            show f_X11_sheet _ x1 x2 x3 = _
            rw [hM, if_neg (by omega), if_neg c4, if_neg c5, k1]
