/-! ===== the first tie ===== -/
theorem first_rows {G : fc_I} (g2 : G 2 = fun _ => 0) (g5 : G 5 = fun _ => 0) (g6 : G 6 = fun _ => 0) (g7 : G 7 = fun _ => 0) (g8 : G 8 = fun _ => 0) (g9 : G 9 = fun _ => 0) (g11 : G 11 = fun _ => 0) (g12 : G 12 = fun _ => 0) (g13 : G 13 = fun _ => 0) (g14 : G 14 = fun _ => 0) (g18 : G 18 = fun _ => 0) (g19 : G 19 = fun _ => 0) (g20 : G 20 = fun _ => 0) (g22 : G 22 = fun _ => 0) (g23 : G 23 = fun _ => 0) (g24 : G 24 = fun _ => 0) (g25 : G 25 = fun _ => 0) (g26 : G 26 = fun _ => 0) (g27 : G 27 = fun _ => 0) (g28 : G 28 = fun _ => 0) (g29 : G 29 = fun _ => 0) (g30 : G 30 = fun _ => 0) (g46 : G 46 = fun _ => 0) (g47 : G 47 = fun _ => 0) (g48 : G 48 = fun _ => 0) (g50 : G 50 = fun _ => 0) (g51 : G 51 = fun _ => 0) (g52 : G 52 = fun _ => 0) (g72 : G 72 = fun _ => 0) (g73 : G 73 = fun _ => 0) (g74 : G 74 = fun _ => 0) (g75 : G 75 = fun _ => 0) (g77 : G 77 = fun _ => 0) (g79 : G 79 = fun _ => 0) (g80 : G 80 = fun _ => 0) (g81 : G 81 = fun _ => 0) (g82 : G 82 = fun _ => 0) (g85 : G 85 = fun _ => 0) (g86 : G 86 = fun _ => 0) (g87 : G 87 = fun _ => 0) (g88 : G 88 = fun _ => 0) (g89 : G 89 = fun _ => 0) (g90 : G 90 = fun _ => 0) (g91 : G 91 = fun _ => 0) (g92 : G 92 = fun _ => 0) (g93 : G 93 = fun _ => 0) (g94 : G 94 = fun _ => 0) (g95 : G 95 = fun _ => 0) (g96 : G 96 = fun _ => 0) (g98 : G 98 = fun _ => 0) (g100 : G 100 = fun _ => 0) (g101 : G 101 = fun _ => 0) (g102 : G 102 = fun _ => 0) (g103 : G 103 = fun _ => 0) (g104 : G 104 = fun _ => 0) (g105 : G 105 = fun _ => 0) (g106 : G 106 = fun _ => 0) (g107 : G 107 = fun _ => 0) (g128 : G 128 = fun _ => 0) (g129 : G 129 = fun _ => 0) (g49 : G 49 = fun k => if k < 6 then -1 else 0) (g53 : G 53 = fun k => if k < 4 then -1 else 0) (g68 : G 68 = fun k => if k < 6 then -1 else 0) (g76 : G 76 = fun k => if k < 4 then -1 else 0) (g83 : G 83 = fun k => if k < 6 then -1 else 0) (g84 : G 84 = fun k => if k < 6 then -1 else 0) (g97 : G 97 = fun k => if k < 4 then -1 else 0) (g126 : G 126 = fun k => if k < 6 then -1 else 0) (g127 : G 127 = fun k => if k < 4 then -1 else 0) (g3 : G 3 = fun k => if k < 6 then -1 else 0) (g16 : G 16 = fun k => if k = 0 then 1 else 0) (g99 : G 99 = fun k => if k = 0 then 1 else 0) (g1_2 : G 1 2 = 0) (g1_3 : G 1 3 = 0) (g4_5 : G 4 5 = 0) (g10_4 : G 10 4 = 0) (g15_11 : G 15 11 = 30) (g15_10 : G 15 10 = 0) (g15_9 : G 15 9 = 0) (g31_6 : G 31 6 = 0) (g31_7 : G 31 7 = 1) (g31_8 : G 31 8 = 0) (g45_9 : G 45 9 = 0) (g45_8 : G 45 8 = 0) (g78_0 : G 78 0 = 0) (g78_1 : G 78 1 = 30) (g78_2 : G 78 2 = 0) (g78_9 : G 78 9 = 0) (g78_13 : G 78 13 = 0) (g78_19 : G 78 19 = 0) (g78_28 : G 78 28 = 0) (g78_29 : G 78 29 = 0) (g78_39 : G 78 39 = 0) (g78_40 : G 78 40 = 1) (g78_41 : G 78 41 = 0) (g78_26 : G 78 26 = 0) (gd : RdT 0 G) (g111 : (List.range 44).map (fun k => G 111 k) = [115, 105, 110, 99, 101, 104, 101, 105, 103, 104, 116, 119, 105, 110, 100, 108, 101, 102, 116, 99, 114, 111, 119, 100, 122, 111, 110, 101, 104, 101, 101, 100, 115, 116, 111, 112, 111, 114, 97, 110, 100, 110, 111, 116]) (g112 : (List.range 12).map (fun k => G 112 k) = [0, 5, 11, 15, 19, 24, 28, 32, 36, 38, 41, 44]) : Rel G := by
  have e0 : aS 45 G = fun k => ([0, 30, 0, 0, 0, 0, 0, 0, 0, 1, 0, 0] : List Int32).getD k 0 := by
    unfold aS
    rw [g45_9, g45_8, g15_11, g15_10, g15_9, g1_2, g1_3, g4_5, g10_4, g31_6, g31_7, g31_8]
  have m0 : mS G = fun k => ([0, 30, 0, 0, 0, 0, 0, 0, 0, 1, 0, 0] : List Int32).getD k 0 := by
    unfold mS
    rw [g78_0, g78_1, g78_2, g78_9, g78_13, g78_19, g78_28, g78_29, g78_39, g78_40, g78_41, g78_26]
  have c1 : cn (G 31 7) = 0 + 1 := by
    rw [g31_7]
    rfl
  have c2 : cn (G 78 40) = 0 + 1 := by
    rw [g78_40]
    rfl
  obtain ⟨d1, d2, d3⟩ := Rd_rows (by decide) gd c1 c2
  have rows : aX 45 G = aM G := by
    funext r
    rcases (show r = 0 ∨ r = 1 ∨ r = 2 ∨ r = 3 ∨ r = 4 ∨ r = 5 ∨ r = 6 ∨ r = 7 ∨ r = 8 ∨ r = 9 ∨ r = 10 ∨ r = 11 ∨ r = 12 ∨ r = 13 ∨ r = 14 ∨ r = 15 ∨ r = 16 ∨ r = 17 ∨ r = 18 ∨ r = 19 ∨ r = 20 ∨ r = 21 ∨ r = 22 ∨ r = 23 ∨ r = 24 ∨ r = 25 ∨ r = 26 ∨ r = 27 ∨ r = 28 ∨ r = 29 ∨ r = 30 ∨ r = 31 ∨ r = 32 ∨ r = 33 ∨ r = 34 ∨ r = 35 ∨ r = 36 ∨ 37 ≤ r by omega) with rfl | rfl | rfl | rfl | rfl | rfl | rfl | rfl | rfl | rfl | rfl | rfl | rfl | rfl | rfl | rfl | rfl | rfl | rfl | rfl | rfl | rfl | rfl | rfl | rfl | rfl | rfl | rfl | rfl | rfl | rfl | rfl | rfl | rfl | rfl | rfl | rfl | h37
    · exact e0.trans m0.symm
    · show G 2 = G 79
      rw [g2, g79]
    · show G 46 = G 80
      rw [g46, g80]
    · show G 47 = G 81
      rw [g47, g81]
    · show G 48 = G 82
      rw [g48, g82]
    · show G 49 = G 83
      rw [g49, g83]
    · show G 3 = G 84
      rw [g3, g84]
    · show G 50 = mRo G
      unfold mRo
      rw [g50, g85, g86, g87]
      funext k
      show (0 : Int32) = 0 - 0 - 0
      decide
    · show G 51 = G 86
      rw [g51, g86]
    · show G 5 = G 88
      rw [g5, g88]
    · show G 6 = G 89
      rw [g6, g89]
    · show G 7 = G 90
      rw [g7, g90]
    · show G 8 = G 91
      rw [g8, g91]
    · show G 9 = G 92
      rw [g9, g92]
    · show G 11 = G 93
      rw [g11, g93]
    · show G 12 = G 94
      rw [g12, g94]
    · show G 13 = G 95
      rw [g13, g95]
    · show G 14 = G 96
      rw [g14, g96]
    · show G 53 = G 97
      rw [g53, g97]
    · show G 52 = G 98
      rw [g52, g98]
    · show G 16 = G 99
      rw [g16, g99]
    · show G 25 = G 100
      rw [g25, g100]
    · show G 26 = G 101
      rw [g26, g101]
    · show G 27 = G 102
      rw [g27, g102]
    · show G 28 = G 103
      rw [g28, g103]
    · show G 29 = G 104
      rw [g29, g104]
    · show G 30 = G 105
      rw [g30, g105]
    · show G 68 = G 126
      rw [g68, g126]
    · show G 76 = G 127
      rw [g76, g127]
    · rfl
    · show aWa G = mWa G
      funext k
      unfold aWa mWa
      by_cases hk : k < 183
      · rw [if_pos hk, if_pos hk, g106]
        rcases (show k / 61 = 0 ∨ k / 61 = 1 ∨ k / 61 = 2 by omega) with e | e | e
        · rw [e]
          show G 18 (k % 61) = 0
          rw [g18]
        · rw [e]
          show G 19 (k % 61) = 0
          rw [g19]
        · rw [e]
          show G 20 (k % 61) = 0
          rw [g20]
      · rw [if_neg hk, if_neg hk]
    · show aWi G = mWi G
      funext k
      unfold aWi mWi
      by_cases hk : k < 183
      · rw [if_pos hk, if_pos hk, g107]
        rcases (show k / 61 = 0 ∨ k / 61 = 1 ∨ k / 61 = 2 by omega) with e | e | e
        · rw [e]
          show G 22 (k % 61) = 0
          rw [g22]
        · rw [e]
          show G 23 (k % 61) = 0
          rw [g23]
        · rw [e]
          show G 24 (k % 61) = 0
          rw [g24]
      · rw [if_neg hk, if_neg hk]
    · show aTp G = mTp G
      funext k
      have cz : cn (0 : Int32) = 0 := rfl
      unfold aTp mTp
      rw [g31_6, g78_39, cz, if_neg (Nat.not_lt_zero _), if_neg (Nat.not_lt_zero _)]
    · show aSz G = mSz G
      unfold aSz mSz
      rw [g76, g77, g127, g128]
    · show aIt G = mIt G
      funext k
      unfold aIt mIt
      rw [g76, g127, g129]
      by_cases hk : k < 160
      · have e : G (72 + k / 40) (k % 40) = 0 := by
          rcases (show k / 40 = 0 ∨ k / 40 = 1 ∨ k / 40 = 2 ∨ k / 40 = 3 by omega) with e | e | e | e
          · rw [e]
            show G 72 (k % 40) = 0
            rw [g72]
          · rw [e]
            show G 73 (k % 40) = 0
            rw [g73]
          · rw [e]
            show G 74 (k % 40) = 0
            rw [g74]
          · rw [e]
            show G 75 (k % 40) = 0
            rw [g75]
        rw [e]
      · rw [if_neg (fun z => hk z.1), if_neg (fun z => hk z.1)]
    · show aCo G = mCo G
      exact funext fun q => d1 q (by omega)
    · show aCm G = mCm G
      exact funext fun q => d2 q (by omega)
    · unfold aX aM
      rw [List.getD_eq_getElem?_getD, List.getD_eq_getElem?_getD, List.getElem?_eq_none (show (aR 45 G).length ≤ r from h37), List.getElem?_eq_none (show (mR G).length ≤ r from h37)]
  have a0 : aX 45 G 0 = fun k => ([0, 30, 0, 0, 0, 0, 0, 0, 0, 1, 0, 0] : List Int32).getD k 0 := e0
  have a2 : aX 45 G 2 = fun _ => 0 := by
    show G 46 = _
    rw [g46]
  have a3 : aX 45 G 3 = fun _ => 0 := by
    show G 47 = _
    rw [g47]
  have a4 : aX 45 G 4 = fun _ => 0 := by
    show G 48 = _
    rw [g48]
  have a7 : aX 45 G 7 = fun _ => 0 := by
    show G 50 = _
    rw [g50]
  have a19 : aX 45 G 19 = fun _ => 0 := by
    show G 52 = _
    rw [g52]
  have a5 : aX 45 G 5 = fun k => if k < 6 then -1 else 0 := by
    show G 49 = _
    rw [g49]
  have a6 : aX 45 G 6 = fun k => if k < 6 then -1 else 0 := by
    show G 3 = _
    rw [g3]
  have a18 : aX 45 G 18 = fun k => if k < 4 then -1 else 0 := by
    show G 53 = _
    rw [g53]
  have a27 : aX 45 G 27 = fun k => if k < 6 then -1 else 0 := by
    show G 68 = _
    rw [g68]
  have a28 : aX 45 G 28 = fun k => if k < 4 then -1 else 0 := by
    show G 76 = _
    rw [g76]
  have a20 : aX 45 G 20 = fun k => if k = 0 then 1 else 0 := by
    show G 16 = _
    rw [g16]
  refine ⟨rows, ⟨?_, ?_, ?_, ?_, ?_, ?_, ?_, ?_, ?_⟩, ⟨row_list g111, row_list g112⟩, fun s _ _ => ?_⟩
  · unfold Wf0
    simp only [a0]
    decide
  · unfold WfR
    intro r hr
    simp only [a0] at hr
    have hr' : (r : Int) < 0 := hr
    omega
  · unfold WfU
    intro b hb
    simp only [a0, a18, a19, if_pos hb]
    refine ⟨fun z => ?_, Or.inl rfl, by decide⟩
    have z' : (b : Int) < 0 := z
    omega
  · unfold WfS
    intro q hq
    have e33 : aX 45 G 33 q = 0 := by
      show aSz G q = 0
      unfold aSz
      rw [g76, g77]
      split
      · rfl
      · rfl
    simp only [e33, a28, if_pos hq]
    decide
  · unfold WfL
    intro t _
    simp only [a20]
    by_cases c : t = 0
    · rw [if_pos c]
      exact Or.inr rfl
    · rw [if_neg c]
      exact Or.inl rfl
  · unfold WfZ
    intro z hz
    simp only [a0, a2, a3, a4, a5, a6, a27, if_pos hz]
    refine ⟨fun y => ?_, by decide, by decide, by decide, fun _ => by decide, by decide⟩
    have y' : (z : Int) < 0 := y
    omega
  · unfold WfG
    intro r hr
    simp only [a0] at hr
    have hr' : (r : Int) < 0 := hr
    omega
  · unfold WfH wS
    simp only [a0, a2, a3, a4, a7]
    exact ⟨fun _ _ => by decide, by decide⟩
  · intro t ht
    rw [a0] at ht
    have ht' : (t : Int) < 1 := ht
    have t0 : t = 0 := by omega
    rw [t0, rows]
    exact d3
  · rw [g86, g87]
    exact ⟨rfl, rfl⟩
theorem first_rel : ∃ J0 J, f_X0_write 0 (cI_0 (fc_zI I00 0)) = some J0 ∧ f_X0_learn J0 = some (0, J) ∧ Rel (cI_2 J) := by
  have hw := e_write (I := cI_0 (fc_zI I00 0)) b0_31_6
  obtain ⟨J, p1, p2, p3, p4, p5, p6, p7, p8⟩ := first_learn (I := wrI (cI_0 (fc_zI I00 0)) 39) rfl (by
    show (if (31 : Nat) = 31 ∧ (7 : Nat) = 6 then zi 39 else if (31 : Nat) = 32 ∧ (7 : Nat) < 39 then T0 7 else cI_0 (fc_zI I00 0) 31 7) = 0
    rw [if_neg (by decide), if_neg (by decide), b0_31_7]) (fun k hk => by
    show (if (32 : Nat) = 31 ∧ k = 6 then zi 39 else if (32 : Nat) = 32 ∧ k < 39 then T0 k else cI_0 (fc_zI I00 0) 32 k) = T0 k
    rw [if_neg (by omega), if_pos ⟨rfl, hk⟩])
  have jb : ∀ c, c ≠ 31 ∧ c ≠ 32 ∧ c ≠ 34 ∧ c ≠ 40 ∧ c ≠ 41 ∧ c ≠ 43 → J c = cI_0 (fc_zI I00 0) c := fun c hc => by
    funext s
    rw [p2 c s (by omega) (by omega) (by omega) (by omega) (by omega)]
    unfold wrI
    rw [if_neg (by omega), if_neg (by omega)]
  have j318 : J 31 8 = 0 := by
    rw [p3 8 (by decide) (by decide)]
    unfold wrI
    rw [if_neg (by decide), if_neg (by decide), b0_31_8]
  exact ⟨_, J, hw, p1, first_rows (c2_2.trans ((jb 2 (by decide)).trans b0_2)) (c2_5.trans ((jb 5 (by decide)).trans b0_5)) (c2_6.trans ((jb 6 (by decide)).trans b0_6)) (c2_7.trans ((jb 7 (by decide)).trans b0_7)) (c2_8.trans ((jb 8 (by decide)).trans b0_8)) (c2_9.trans ((jb 9 (by decide)).trans b0_9)) (c2_11.trans ((jb 11 (by decide)).trans b0_11)) (c2_12.trans ((jb 12 (by decide)).trans b0_12)) (c2_13.trans ((jb 13 (by decide)).trans b0_13)) (c2_14.trans ((jb 14 (by decide)).trans b0_14)) (c2_18.trans ((jb 18 (by decide)).trans b0_18)) (c2_19.trans ((jb 19 (by decide)).trans b0_19)) (c2_20.trans ((jb 20 (by decide)).trans b0_20)) (c2_22.trans ((jb 22 (by decide)).trans b0_22)) (c2_23.trans ((jb 23 (by decide)).trans b0_23)) (c2_24.trans ((jb 24 (by decide)).trans b0_24)) (c2_25.trans ((jb 25 (by decide)).trans b0_25)) (c2_26.trans ((jb 26 (by decide)).trans b0_26)) (c2_27.trans ((jb 27 (by decide)).trans b0_27)) (c2_28.trans ((jb 28 (by decide)).trans b0_28)) (c2_29.trans ((jb 29 (by decide)).trans b0_29)) (c2_30.trans ((jb 30 (by decide)).trans b0_30)) (c2_46) (c2_47) (c2_48) (c2_50) (c2_51) (c2_52) (c2_72) (c2_73) (c2_74) (c2_75) (c2_77) (c2_79) (c2_80) (c2_81) (c2_82) (c2_85) (c2_86) (c2_87) (c2_88) (c2_89) (c2_90) (c2_91) (c2_92) (c2_93) (c2_94) (c2_95) (c2_96) (c2_98) (c2_100) (c2_101) (c2_102) (c2_103) (c2_104) (c2_105) (c2_106) (c2_107) (c2_128) (c2_129) (c2_49) (c2_53) (c2_68) (c2_76) (c2_83) (c2_84) (c2_97) (c2_126) (c2_127) (c2_3.trans ((jb 3 (by decide)).trans b0_3)) (c2_16.trans ((jb 16 (by decide)).trans b0_16)) (c2_99) ((congrFun (c2_1.trans (jb 1 (by decide))) 2).trans b0_1_2) ((congrFun (c2_1.trans (jb 1 (by decide))) 3).trans b0_1_3) ((congrFun (c2_4.trans (jb 4 (by decide))) 5).trans b0_4_5) ((congrFun (c2_10.trans (jb 10 (by decide))) 4).trans b0_10_4) ((congrFun (c2_15.trans (jb 15 (by decide))) 11).trans b0_15_11) ((congrFun (c2_15.trans (jb 15 (by decide))) 10).trans b0_15_10) ((congrFun (c2_15.trans (jb 15 (by decide))) 9).trans b0_15_9) ((congrFun c2_31 6).trans p4) ((congrFun c2_31 7).trans p5) ((congrFun c2_31 8).trans j318) (c2_45_9) (c2_45_8) (c2_78_0) (c2_78_1) (c2_78_2) (c2_78_9) (c2_78_13) (c2_78_19) (c2_78_28) (c2_78_29) (c2_78_39) (c2_78_40) (c2_78_41) (c2_78_26) (⟨FK1, FK2, cdv_c (J := J) _ (fun s _ => congrFun c2_34 s) p8, (congrFun c2_40 0).trans p6, (congrFun c2_41 0).trans p7, c2_110a, c2_110b, c2_109a, c2_109b, by decide, by decide, by decide⟩) (c2_111) (c2_112)⟩
