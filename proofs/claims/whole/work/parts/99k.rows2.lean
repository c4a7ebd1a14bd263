/-! ===== a text is learnt: rows whose cells stay ===== -/
theorem aX_tx2 {I J : fc_I} (h : ∀ c, c < 78 → ¬ (31 ≤ c ∧ c ≤ 43) → J c = I c) : ∀ r, r ≠ 0 ∧ r ≠ 32 ∧ r ≠ 35 ∧ r ≠ 36 → aX 45 J r = aX 45 I r := fun r hr => by
  rcases (show r = 1 ∨ r = 2 ∨ r = 3 ∨ r = 4 ∨ r = 5 ∨ r = 6 ∨ r = 7 ∨ r = 8 ∨ r = 9 ∨ r = 10 ∨ r = 11 ∨ r = 12 ∨ r = 13 ∨ r = 14 ∨ r = 15 ∨ r = 16 ∨ r = 17 ∨ r = 18 ∨ r = 19 ∨ r = 20 ∨ r = 21 ∨ r = 22 ∨ r = 23 ∨ r = 24 ∨ r = 25 ∨ r = 26 ∨ r = 27 ∨ r = 28 ∨ r = 29 ∨ r = 30 ∨ r = 31 ∨ r = 33 ∨ r = 34 ∨ 37 ≤ r by omega) with rfl | rfl | rfl | rfl | rfl | rfl | rfl | rfl | rfl | rfl | rfl | rfl | rfl | rfl | rfl | rfl | rfl | rfl | rfl | rfl | rfl | rfl | rfl | rfl | rfl | rfl | rfl | rfl | rfl | rfl | rfl | rfl | rfl | h37
  · exact (h 2 (by decide) (by decide))
  · exact (h 46 (by decide) (by decide))
  · exact (h 47 (by decide) (by decide))
  · exact (h 48 (by decide) (by decide))
  · exact (h 49 (by decide) (by decide))
  · exact (h 3 (by decide) (by decide))
  · exact (h 50 (by decide) (by decide))
  · exact (h 51 (by decide) (by decide))
  · exact (h 5 (by decide) (by decide))
  · exact (h 6 (by decide) (by decide))
  · exact (h 7 (by decide) (by decide))
  · exact (h 8 (by decide) (by decide))
  · exact (h 9 (by decide) (by decide))
  · exact (h 11 (by decide) (by decide))
  · exact (h 12 (by decide) (by decide))
  · exact (h 13 (by decide) (by decide))
  · exact (h 14 (by decide) (by decide))
  · exact (h 53 (by decide) (by decide))
  · exact (h 52 (by decide) (by decide))
  · exact (h 16 (by decide) (by decide))
  · exact (h 25 (by decide) (by decide))
  · exact (h 26 (by decide) (by decide))
  · exact (h 27 (by decide) (by decide))
  · exact (h 28 (by decide) (by decide))
  · exact (h 29 (by decide) (by decide))
  · exact (h 30 (by decide) (by decide))
  · exact (h 68 (by decide) (by decide))
  · exact (h 76 (by decide) (by decide))
  · rfl
  · show aWa J = aWa I
    funext k; unfold aWa; by_cases hk : k < 183
    · rw [if_pos hk, if_pos hk, h (18 + k / 61) (by omega) (by omega)]
    · rw [if_neg hk, if_neg hk]
  · show aWi J = aWi I
    funext k; unfold aWi; by_cases hk : k < 183
    · rw [if_pos hk, if_pos hk, h (22 + k / 61) (by omega) (by omega)]
    · rw [if_neg hk, if_neg hk]
  · show aSz J = aSz I
    unfold aSz
    rw [(h 76 (by decide) (by decide)), (h 77 (by decide) (by decide))]
  · show aIt J = aIt I
    funext k; unfold aIt; rw [(h 76 (by decide) (by decide))]; by_cases hk : k < 160
    · rw [h (72 + k / 40) (by omega) (by omega)]
    · simp [hk]
  · unfold aX
    rw [List.getD_eq_getElem?_getD, List.getD_eq_getElem?_getD, List.getElem?_eq_none (show (aR 45 J).length ≤ r from h37), List.getElem?_eq_none (show (aR 45 I).length ≤ r from h37)]
theorem aM_tx2 {I J : fc_I} (h : ∀ c, 78 < c → ¬ (108 ≤ c ∧ c ≤ 114) → J c = I c) : ∀ r, r ≠ 0 ∧ r ≠ 32 ∧ r ≠ 35 ∧ r ≠ 36 → aM J r = aM I r := fun r hr => by
  rcases (show r = 1 ∨ r = 2 ∨ r = 3 ∨ r = 4 ∨ r = 5 ∨ r = 6 ∨ r = 7 ∨ r = 8 ∨ r = 9 ∨ r = 10 ∨ r = 11 ∨ r = 12 ∨ r = 13 ∨ r = 14 ∨ r = 15 ∨ r = 16 ∨ r = 17 ∨ r = 18 ∨ r = 19 ∨ r = 20 ∨ r = 21 ∨ r = 22 ∨ r = 23 ∨ r = 24 ∨ r = 25 ∨ r = 26 ∨ r = 27 ∨ r = 28 ∨ r = 29 ∨ r = 30 ∨ r = 31 ∨ r = 33 ∨ r = 34 ∨ 37 ≤ r by omega) with rfl | rfl | rfl | rfl | rfl | rfl | rfl | rfl | rfl | rfl | rfl | rfl | rfl | rfl | rfl | rfl | rfl | rfl | rfl | rfl | rfl | rfl | rfl | rfl | rfl | rfl | rfl | rfl | rfl | rfl | rfl | rfl | rfl | h37
  · exact (h 79 (by decide) (by decide))
  · exact (h 80 (by decide) (by decide))
  · exact (h 81 (by decide) (by decide))
  · exact (h 82 (by decide) (by decide))
  · exact (h 83 (by decide) (by decide))
  · exact (h 84 (by decide) (by decide))
  · show mRo J = mRo I
    unfold mRo
    rw [(h 85 (by decide) (by decide)), (h 86 (by decide) (by decide)), (h 87 (by decide) (by decide))]
  · exact (h 86 (by decide) (by decide))
  · exact (h 88 (by decide) (by decide))
  · exact (h 89 (by decide) (by decide))
  · exact (h 90 (by decide) (by decide))
  · exact (h 91 (by decide) (by decide))
  · exact (h 92 (by decide) (by decide))
  · exact (h 93 (by decide) (by decide))
  · exact (h 94 (by decide) (by decide))
  · exact (h 95 (by decide) (by decide))
  · exact (h 96 (by decide) (by decide))
  · exact (h 97 (by decide) (by decide))
  · exact (h 98 (by decide) (by decide))
  · exact (h 99 (by decide) (by decide))
  · exact (h 100 (by decide) (by decide))
  · exact (h 101 (by decide) (by decide))
  · exact (h 102 (by decide) (by decide))
  · exact (h 103 (by decide) (by decide))
  · exact (h 104 (by decide) (by decide))
  · exact (h 105 (by decide) (by decide))
  · exact (h 126 (by decide) (by decide))
  · exact (h 127 (by decide) (by decide))
  · rfl
  · show mWa J = mWa I
    unfold mWa
    rw [(h 106 (by decide) (by decide))]
  · show mWi J = mWi I
    unfold mWi
    rw [(h 107 (by decide) (by decide))]
  · show mSz J = mSz I
    unfold mSz
    rw [(h 127 (by decide) (by decide)), (h 128 (by decide) (by decide))]
  · show mIt J = mIt I
    unfold mIt
    rw [(h 127 (by decide) (by decide)), (h 129 (by decide) (by decide))]
  · unfold aM
    rw [List.getD_eq_getElem?_getD, List.getD_eq_getElem?_getD, List.getElem?_eq_none (show (mR J).length ≤ r from h37), List.getElem?_eq_none (show (mR I).length ≤ r from h37)]
theorem Wf_tx {A B : fc_I} (hw : Wf A) (h0 : ∀ k, k ≠ 8 → k ≠ 9 → B 0 k = A 0 k) (hr : ∀ r, r ≠ 0 ∧ r ≠ 32 ∧ r ≠ 35 ∧ r ≠ 36 → B r = A r) (h8 : 0 ≤ (B 0 8).toInt ∧ (B 0 8).toInt ≤ 160) (h9 : (A 0 9).toInt ≤ (B 0 9).toInt ∧ (B 0 9).toInt ≤ 6) (hT : WfT B) : Wf B := by
  obtain ⟨⟨w1, w2, w3, w4, w5, w6, w7, w8, w9, w10⟩, wr, wu, ws, wl, wz, wg, wh, wt⟩ := hw
  refine ⟨?_, ?_, ?_, ?_, ?_, ?_, ?_, ?_, hT⟩
  · unfold Wf0
    simp only [h0 0 (by decide) (by decide), h0 1 (by decide) (by decide), h0 2 (by decide) (by decide), h0 3 (by decide) (by decide), h0 4 (by decide) (by decide), h0 5 (by decide) (by decide), h0 6 (by decide) (by decide), h0 7 (by decide) (by decide), h0 10 (by decide) (by decide), h0 11 (by decide) (by decide)]
    exact ⟨w1, w2, w3, w4, w5, w6, w7, h8, ⟨by omega, h9.2⟩, ⟨w10.1, by omega⟩⟩
  · unfold WfR
    simp only [h0 0 (by decide) (by decide), h0 1 (by decide) (by decide), h0 2 (by decide) (by decide), h0 3 (by decide) (by decide), h0 4 (by decide) (by decide), h0 5 (by decide) (by decide), h0 6 (by decide) (by decide), h0 7 (by decide) (by decide), h0 10 (by decide) (by decide), h0 11 (by decide) (by decide), hr 9 (by decide), hr 10 (by decide), hr 11 (by decide), hr 12 (by decide), hr 13 (by decide)]
    exact wr
  · unfold WfU
    simp only [h0 0 (by decide) (by decide), h0 1 (by decide) (by decide), h0 2 (by decide) (by decide), h0 3 (by decide) (by decide), h0 4 (by decide) (by decide), h0 5 (by decide) (by decide), h0 6 (by decide) (by decide), h0 7 (by decide) (by decide), h0 10 (by decide) (by decide), h0 11 (by decide) (by decide), hr 14 (by decide), hr 15 (by decide), hr 16 (by decide), hr 17 (by decide), hr 18 (by decide), hr 19 (by decide)]
    exact wu
  · unfold WfS
    simp only [hr 28 (by decide), hr 33 (by decide)]
    exact ws
  · unfold WfL
    simp only [hr 20 (by decide)]
    exact wl
  · unfold WfZ
    simp only [h0 0 (by decide) (by decide), h0 1 (by decide) (by decide), h0 2 (by decide) (by decide), h0 3 (by decide) (by decide), h0 4 (by decide) (by decide), h0 5 (by decide) (by decide), h0 6 (by decide) (by decide), h0 7 (by decide) (by decide), h0 10 (by decide) (by decide), h0 11 (by decide) (by decide), hr 1 (by decide), hr 2 (by decide), hr 3 (by decide), hr 4 (by decide), hr 5 (by decide), hr 6 (by decide), hr 27 (by decide)]
    exact wz
  · unfold WfG
    simp only [h0 0 (by decide) (by decide), h0 1 (by decide) (by decide), h0 2 (by decide) (by decide), h0 3 (by decide) (by decide), h0 4 (by decide) (by decide), h0 5 (by decide) (by decide), h0 6 (by decide) (by decide), h0 7 (by decide) (by decide), h0 10 (by decide) (by decide), h0 11 (by decide) (by decide), hr 11 (by decide)]
    exact wg
  · unfold WfH wS
    simp only [h0 0 (by decide) (by decide), h0 1 (by decide) (by decide), h0 2 (by decide) (by decide), h0 3 (by decide) (by decide), h0 4 (by decide) (by decide), h0 5 (by decide) (by decide), h0 6 (by decide) (by decide), h0 7 (by decide) (by decide), h0 10 (by decide) (by decide), h0 11 (by decide) (by decide), hr 2 (by decide), hr 3 (by decide), hr 4 (by decide), hr 7 (by decide)]
    exact wh
theorem cd_eq {J : fc_I} {v base : Nat} {K0 : List Int32} : ∀ K, cdv J v (K ++ K0) → cds J base (K.map trc) → ∀ i, i < K.length → trc (J v (K0.length + i)) = J 109 (base + i)
  | [], _, _, i, h => absurd h (Nat.not_lt_zero _)
  | x :: K, h1, h2, i, h => by
    have a1 : J v (K ++ K0).length = x := h1.1
    have a2 : J 109 (base + (K.map trc).length) = trc x := h2.1
    rw [List.length_append] at a1
    rw [List.length_map] at a2
    simp only [List.length_cons] at h
    by_cases c : i = K.length
    · rw [c, Nat.add_comm, a1, a2]
    · exact cd_eq K h1.2 h2.2 i (by omega)
theorem cdv_tl {J : fc_I} {v : Nat} {K0 : List Int32} : ∀ K, cdv J v (K ++ K0) → cdv J v K0
  | [], h => h
  | _ :: K, h => cdv_tl K h.2
theorem cdp_eq {f g : Nat → Int32} : ∀ n, (∀ k, k < n → f k = g k) → cdp f n = cdp g n
  | 0, _ => rfl
  | n + 1, h => by
    unfold cdp
    rw [cdp_eq n (fun k hk => h k (by omega)), h n (by omega)]
theorem cdp_cds {J : fc_I} {base : Nat} : ∀ C, cds J base C → cdp (fun k => J 109 (base + k)) C.length = cdl C
  | [], _ => rfl
  | x :: c, h => by
    have a1 : J 109 (base + c.length) = x := h.1
    show (cdp (fun k => J 109 (base + k)) c.length).bind (cpk (J 109 (base + c.length))) = (cdl c).bind (cpk x)
    rw [cdp_cds c h.2, a1]
theorem aCo_lo {I J : fc_I} {x : Nat} (hx : x ≤ 6) (h1 : x ≤ cn (I 31 7)) (h2 : x ≤ cn (J 31 7)) (hv : ∀ c, 34 ≤ c → c < 34 + x → J c = I c) (h40 : ∀ s, s < x → J 40 s = I 40 s) (h41 : ∀ s, s < x → J 41 s = I 41 s) : (∀ q, q < 320 * x → aCo J q = aCo I q) ∧ ∀ q, q < 2 * x → aCm J q = aCm I q := by
  have eL : ∀ q, q < 2 * x → aLen J q = aLen I q := fun q hq => by
    unfold aLen
    rw [h40 (q / 2) (by omega), h41 (q / 2) (by omega)]
  have eB : ∀ q, q < 2 * x → aBeg J q = aBeg I q := fun q hq => by
    unfold aBeg
    rw [h40 (q / 2) (by omega)]
  refine ⟨fun q hq => ?_, fun q hq => ?_⟩
  · unfold aCo
    rw [eL (q / 160) (by omega), eB (q / 160) (by omega), hv (34 + q / 320) (by omega) (by omega)]
    by_cases c : q % 160 < cn (aLen I (q / 160))
    · rw [if_pos ⟨by omega, by omega, c⟩, if_pos ⟨by omega, by omega, c⟩]
    · rw [if_neg (fun z => c z.2.2), if_neg (fun z => c z.2.2)]
  · unfold aCm
    rw [eL q hq, if_pos ⟨by omega, by omega⟩, if_pos ⟨by omega, by omega⟩]
theorem mCo_lo {I J : fc_I} {x : Nat} (hx : x ≤ 6) (h1 : x ≤ cn (I 78 40)) (h2 : x ≤ cn (J 78 40)) (h109 : ∀ s, s < 320 * x → J 109 s = I 109 s) (h110 : ∀ s, s < 2 * x → J 110 s = I 110 s) : (∀ q, q < 320 * x → mCo J q = mCo I q) ∧ ∀ q, q < 2 * x → mCm J q = mCm I q := by
  refine ⟨fun q hq => ?_, fun q hq => ?_⟩
  · unfold mCo
    rw [h109 q hq, h110 (q / 160) (by omega)]
    by_cases c : q % 160 < cn (I 110 (q / 160))
    · rw [if_pos ⟨by omega, by omega, c⟩, if_pos ⟨by omega, by omega, c⟩]
    · rw [if_neg (fun z => c z.2.2), if_neg (fun z => c z.2.2)]
  · unfold mCm
    rw [h110 q hq, if_pos ⟨by omega, by omega⟩, if_pos ⟨by omega, by omega⟩]
/-- a text that both have learnt -/
def RdT (x : Nat) (I : fc_I) : Prop := ∃ K1 K2 : List Int32, cdv I (34 + x) (K2 ++ K1) ∧ I 40 x = zi K1.length ∧ I 41 x = zi (K1.length + K2.length) ∧ I 110 (2 * x) = zi K1.length ∧ I 110 (2 * x + 1) = zi K2.length ∧ cds I (320 * x) (K1.map trc) ∧ cds I (320 * x + 160) (K2.map trc) ∧ cdl (K1.map trc) = some 1 ∧ cdl (K2.map trc) = some 1 ∧ K1.length + K2.length ≤ 160
theorem zi_sub {a b : Nat} (h : a + b < 50000) : zi (a + b) - zi a = zi b := zi_of (by rw [i_sub (by rw [zi_int (by omega), zi_int (by omega)]; omega) (by rw [zi_int (by omega), zi_int (by omega)]; omega), zi_int (by omega), zi_int (by omega)]; omega) (by omega)
/-- its rows are alike on both sides -/
theorem Rd_rows {I : fc_I} {x : Nat} (hx : x < 6) (h : RdT x I) (c1 : cn (I 31 7) = x + 1) (c2 : cn (I 78 40) = x + 1) : (∀ q, 320 * x ≤ q → aCo I q = mCo I q) ∧ (∀ q, 2 * x ≤ q → aCm I q = mCm I q) ∧ ∃ n m : Nat, (mCm I (2 * x)).toInt = (n : Int) ∧ (mCm I (2 * x + 1)).toInt = (m : Int) ∧ n + m ≤ 160 ∧ cdp (fun k => mCo I (320 * x + k)) n = some 1 ∧ cdp (fun k => mCo I (320 * x + 160 + k)) m = some 1 := by
  obtain ⟨K1, K2, a1, a2, a3, a4, a5, a6, a7, a8, a9, a10⟩ := h
  have z1 := zi_int (n := K1.length) (by omega)
  have z2 := zi_int (n := K2.length) (by omega)
  have eL0 : aLen I (2 * x) = zi K1.length := by
    unfold aLen
    rw [if_pos (by omega), show 2 * x / 2 = x by omega, a2]
  have eL1 : aLen I (2 * x + 1) = zi K2.length := by
    unfold aLen
    rw [if_neg (by omega), show (2 * x + 1) / 2 = x by omega, a2, a3, zi_sub (by omega)]
  have eB0 : aBeg I (2 * x) = 0 := by
    unfold aBeg
    rw [if_pos (by omega)]
  have eB1 : aBeg I (2 * x + 1) = K1.length := by
    unfold aBeg
    rw [if_neg (by omega), show (2 * x + 1) / 2 = x by omega, a2, zi_cn (by omega)]
  have g1 := cd_eq (K0 := []) (base := 320 * x) K1 (by rw [List.append_nil]; exact cdv_tl K2 a1) a6
  have g2 := cd_eq (base := 320 * x + 160) K2 a1 a7
  refine ⟨fun q hq => ?_, fun q hq => ?_, K1.length, K2.length, ?_, ?_, a10, ?_, ?_⟩
  · unfold aCo mCo
    rw [c1, c2]
    by_cases d : q < 320 * x + 320
    · by_cases e : q < 320 * x + 160
      · rw [show q / 160 = 2 * x by omega, show q / 320 = x by omega, eL0, eB0, a4, zi_cn (by omega)]
        by_cases f : q % 160 < K1.length
        · rw [if_pos ⟨by omega, by omega, f⟩, if_pos ⟨by omega, by omega, f⟩]
          have k := g1 (q % 160) f
          simp only [List.length_nil] at k
          rw [k, show 320 * x + q % 160 = q by omega]
        · rw [if_neg (fun z => f z.2.2), if_neg (fun z => f z.2.2)]
      · rw [show q / 160 = 2 * x + 1 by omega, show q / 320 = x by omega, eL1, eB1, a5, zi_cn (by omega)]
        by_cases f : q % 160 < K2.length
        · rw [if_pos ⟨by omega, by omega, f⟩, if_pos ⟨by omega, by omega, f⟩, g2 (q % 160) f, show 320 * x + 160 + q % 160 = q by omega]
        · rw [if_neg (fun z => f z.2.2), if_neg (fun z => f z.2.2)]
    · rw [if_neg (by omega), if_neg (by omega)]
  · unfold aCm mCm
    rw [c1, c2]
    by_cases d : q < 2 * x + 2
    · rw [if_pos ⟨by omega, by omega⟩, if_pos ⟨by omega, by omega⟩]
      rcases (show q = 2 * x ∨ q = 2 * x + 1 by omega) with rfl | rfl
      · rw [eL0, a4]
      · rw [eL1, a5]
    · rw [if_neg (by omega), if_neg (by omega)]
  · unfold mCm
    rw [c2, if_pos ⟨by omega, by omega⟩, a4, z1]
  · unfold mCm
    rw [c2, if_pos ⟨by omega, by omega⟩, a5, z2]
  · have e := cdp_cds _ a6
    rw [List.length_map, a8] at e
    rw [← e]
    refine cdp_eq _ (fun k hk => ?_)
    show mCo I (320 * x + k) = I 109 (320 * x + k)
    unfold mCo
    rw [c2, show (320 * x + k) / 160 = 2 * x by omega, a4, zi_cn (by omega), if_pos ⟨by omega, by omega, by omega⟩]
  · have e := cdp_cds _ a7
    rw [List.length_map, a9] at e
    rw [← e]
    refine cdp_eq _ (fun k hk => ?_)
    show mCo I (320 * x + 160 + k) = I 109 (320 * x + 160 + k)
    unfold mCo
    rw [c2, show (320 * x + 160 + k) / 160 = 2 * x + 1 by omega, a5, zi_cn (by omega), if_pos ⟨by omega, by omega, by omega⟩]
