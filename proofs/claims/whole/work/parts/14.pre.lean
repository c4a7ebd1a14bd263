section JR
variable {m : fc_MI} {d nb zb pc : Nat} {ls : List (Option Value)} {st : List Value} {sh : fc_Sh} {I : fc_I} {P : fc_P} {Q : fc_Q}
theorem fj_icmp_eq {x y : Int32} {off : Int} {tgt : Nat} (hd : decode m.2.1 pc = .ok (.if_icmp .eq off, 3)) (ht : (pc : Int) + off = (tgt : Int)) (kt : x.toInt = y.toInt → fc_T m d nb zb tgt ls st sh I P Q) (kf : ¬ x.toInt = y.toInt → fc_T m d nb zb (pc + 3) ls st sh I P Q) : fc_T m d nb zb pc ls (.int y :: .int x :: st) sh I P Q := ft_icmp_eq hd ht (fun q => kt (congrArg Int32.toInt q)) (fun q => kf (fun z => q (Int32.toInt_inj.mp z)))
theorem fj_if_eq {x : Int32} {off : Int} {tgt : Nat} (hd : decode m.2.1 pc = .ok (.ifCond .eq off, 3)) (ht : (pc : Int) + off = (tgt : Int)) (kt : x.toInt = 0 → fc_T m d nb zb tgt ls st sh I P Q) (kf : ¬ x.toInt = 0 → fc_T m d nb zb (pc + 3) ls st sh I P Q) : fc_T m d nb zb pc ls (.int x :: st) sh I P Q := ft_if_eq hd ht (fun q => kt (by rw [q]; rfl)) (fun q => kf (fun z => q (Int32.toInt_inj.mp (z.trans Int32.toInt_zero.symm))))
theorem fj_icmp_ne {x y : Int32} {off : Int} {tgt : Nat} (hd : decode m.2.1 pc = .ok (.if_icmp .ne off, 3)) (ht : (pc : Int) + off = (tgt : Int)) (kt : ¬ x.toInt = y.toInt → fc_T m d nb zb tgt ls st sh I P Q) (kf : x.toInt = y.toInt → fc_T m d nb zb (pc + 3) ls st sh I P Q) : fc_T m d nb zb pc ls (.int y :: .int x :: st) sh I P Q := ft_icmp_ne hd ht (fun q => kt (fun z => q (Int32.toInt_inj.mp z))) (fun q => kf (congrArg Int32.toInt q))
theorem fj_if_ne {x : Int32} {off : Int} {tgt : Nat} (hd : decode m.2.1 pc = .ok (.ifCond .ne off, 3)) (ht : (pc : Int) + off = (tgt : Int)) (kt : ¬ x.toInt = 0 → fc_T m d nb zb tgt ls st sh I P Q) (kf : x.toInt = 0 → fc_T m d nb zb (pc + 3) ls st sh I P Q) : fc_T m d nb zb pc ls (.int x :: st) sh I P Q := ft_if_ne hd ht (fun q => kt (fun z => q (Int32.toInt_inj.mp (z.trans Int32.toInt_zero.symm)))) (fun q => kf (by rw [q]; rfl))
theorem fj_icmp_lt {x y : Int32} {off : Int} {tgt : Nat} (hd : decode m.2.1 pc = .ok (.if_icmp .lt off, 3)) (ht : (pc : Int) + off = (tgt : Int)) (kt : x.toInt < y.toInt → fc_T m d nb zb tgt ls st sh I P Q) (kf : y.toInt ≤ x.toInt → fc_T m d nb zb (pc + 3) ls st sh I P Q) : fc_T m d nb zb pc ls (.int y :: .int x :: st) sh I P Q := ft_icmp_lt hd ht (fun q => kt (Int32.lt_iff_toInt_lt.mp q)) (fun q => kf (by rw [Int32.lt_iff_toInt_lt] at q; omega))
theorem fj_if_lt {x : Int32} {off : Int} {tgt : Nat} (hd : decode m.2.1 pc = .ok (.ifCond .lt off, 3)) (ht : (pc : Int) + off = (tgt : Int)) (kt : x.toInt < 0 → fc_T m d nb zb tgt ls st sh I P Q) (kf : 0 ≤ x.toInt → fc_T m d nb zb (pc + 3) ls st sh I P Q) : fc_T m d nb zb pc ls (.int x :: st) sh I P Q := ft_if_lt hd ht (fun q => kt (by simpa [Int32.lt_iff_toInt_lt, Int32.le_iff_toInt_le] using q)) (fun q => kf (by simp only [Int32.lt_iff_toInt_lt, Int32.le_iff_toInt_le, Int32.toInt_zero] at q; omega))
theorem fj_icmp_ge {x y : Int32} {off : Int} {tgt : Nat} (hd : decode m.2.1 pc = .ok (.if_icmp .ge off, 3)) (ht : (pc : Int) + off = (tgt : Int)) (kt : y.toInt ≤ x.toInt → fc_T m d nb zb tgt ls st sh I P Q) (kf : x.toInt < y.toInt → fc_T m d nb zb (pc + 3) ls st sh I P Q) : fc_T m d nb zb pc ls (.int y :: .int x :: st) sh I P Q := ft_icmp_ge hd ht (fun q => kt (Int32.le_iff_toInt_le.mp q)) (fun q => kf (by rw [Int32.le_iff_toInt_le] at q; omega))
theorem fj_if_ge {x : Int32} {off : Int} {tgt : Nat} (hd : decode m.2.1 pc = .ok (.ifCond .ge off, 3)) (ht : (pc : Int) + off = (tgt : Int)) (kt : 0 ≤ x.toInt → fc_T m d nb zb tgt ls st sh I P Q) (kf : x.toInt < 0 → fc_T m d nb zb (pc + 3) ls st sh I P Q) : fc_T m d nb zb pc ls (.int x :: st) sh I P Q := ft_if_ge hd ht (fun q => kt (by simpa [Int32.lt_iff_toInt_lt, Int32.le_iff_toInt_le] using q)) (fun q => kf (by simp only [Int32.lt_iff_toInt_lt, Int32.le_iff_toInt_le, Int32.toInt_zero] at q; omega))
theorem fj_icmp_gt {x y : Int32} {off : Int} {tgt : Nat} (hd : decode m.2.1 pc = .ok (.if_icmp .gt off, 3)) (ht : (pc : Int) + off = (tgt : Int)) (kt : y.toInt < x.toInt → fc_T m d nb zb tgt ls st sh I P Q) (kf : x.toInt ≤ y.toInt → fc_T m d nb zb (pc + 3) ls st sh I P Q) : fc_T m d nb zb pc ls (.int y :: .int x :: st) sh I P Q := ft_icmp_gt hd ht (fun q => kt (Int32.lt_iff_toInt_lt.mp q)) (fun q => kf (by rw [Int32.lt_iff_toInt_lt] at q; omega))
theorem fj_if_gt {x : Int32} {off : Int} {tgt : Nat} (hd : decode m.2.1 pc = .ok (.ifCond .gt off, 3)) (ht : (pc : Int) + off = (tgt : Int)) (kt : 0 < x.toInt → fc_T m d nb zb tgt ls st sh I P Q) (kf : x.toInt ≤ 0 → fc_T m d nb zb (pc + 3) ls st sh I P Q) : fc_T m d nb zb pc ls (.int x :: st) sh I P Q := ft_if_gt hd ht (fun q => kt (by simpa [Int32.lt_iff_toInt_lt, Int32.le_iff_toInt_le] using q)) (fun q => kf (by simp only [Int32.lt_iff_toInt_lt, Int32.le_iff_toInt_le, Int32.toInt_zero] at q; omega))
theorem fj_icmp_le {x y : Int32} {off : Int} {tgt : Nat} (hd : decode m.2.1 pc = .ok (.if_icmp .le off, 3)) (ht : (pc : Int) + off = (tgt : Int)) (kt : x.toInt ≤ y.toInt → fc_T m d nb zb tgt ls st sh I P Q) (kf : y.toInt < x.toInt → fc_T m d nb zb (pc + 3) ls st sh I P Q) : fc_T m d nb zb pc ls (.int y :: .int x :: st) sh I P Q := ft_icmp_le hd ht (fun q => kt (Int32.le_iff_toInt_le.mp q)) (fun q => kf (by rw [Int32.le_iff_toInt_le] at q; omega))
theorem fj_if_le {x : Int32} {off : Int} {tgt : Nat} (hd : decode m.2.1 pc = .ok (.ifCond .le off, 3)) (ht : (pc : Int) + off = (tgt : Int)) (kt : x.toInt ≤ 0 → fc_T m d nb zb tgt ls st sh I P Q) (kf : 0 < x.toInt → fc_T m d nb zb (pc + 3) ls st sh I P Q) : fc_T m d nb zb pc ls (.int x :: st) sh I P Q := ft_if_le hd ht (fun q => kt (by simpa [Int32.lt_iff_toInt_lt, Int32.le_iff_toInt_le] using q)) (fun q => kf (by simp only [Int32.lt_iff_toInt_lt, Int32.le_iff_toInt_le, Int32.toInt_zero] at q; omega))
end JR
theorem ax0_0 {f : Nat} {I : fc_I} : aX f I 0 0 = I f 9 := Eq.trans rfl rfl
theorem ax0_1 {f : Nat} {I : fc_I} : aX f I 0 1 = I 15 11 := Eq.trans rfl rfl
theorem ax0_2 {f : Nat} {I : fc_I} : aX f I 0 2 = I 1 2 := Eq.trans rfl rfl
theorem ax0_3 {f : Nat} {I : fc_I} : aX f I 0 3 = I 1 3 := Eq.trans rfl rfl
theorem ax0_4 {f : Nat} {I : fc_I} : aX f I 0 4 = I 4 5 := Eq.trans rfl rfl
theorem ax0_5 {f : Nat} {I : fc_I} : aX f I 0 5 = I 10 4 := Eq.trans rfl rfl
theorem ax0_6 {f : Nat} {I : fc_I} : aX f I 0 6 = I 15 10 := Eq.trans rfl rfl
theorem ax0_7 {f : Nat} {I : fc_I} : aX f I 0 7 = I 15 9 := Eq.trans rfl rfl
theorem ax0_8 {f : Nat} {I : fc_I} : aX f I 0 8 = I 31 6 := Eq.trans rfl rfl
theorem ax0_9 {f : Nat} {I : fc_I} : aX f I 0 9 = I 31 7 := Eq.trans rfl rfl
theorem ax0_10 {f : Nat} {I : fc_I} : aX f I 0 10 = I 31 8 := Eq.trans rfl rfl
theorem ax0_11 {f : Nat} {I : fc_I} : aX f I 0 11 = I f 8 := Eq.trans rfl rfl
theorem ax_1 {f k : Nat} {I : fc_I} : aX f I 1 k = I 2 k := Eq.trans rfl rfl
theorem ax_2 {f k : Nat} {I : fc_I} : aX f I 2 k = I (f + 1) k := Eq.trans rfl rfl
theorem ax_3 {f k : Nat} {I : fc_I} : aX f I 3 k = I (f + 2) k := Eq.trans rfl rfl
theorem ax_4 {f k : Nat} {I : fc_I} : aX f I 4 k = I (f + 3) k := Eq.trans rfl rfl
theorem ax_5 {f k : Nat} {I : fc_I} : aX f I 5 k = I (f + 4) k := Eq.trans rfl rfl
theorem ax_6 {f k : Nat} {I : fc_I} : aX f I 6 k = I 3 k := Eq.trans rfl rfl
theorem ax_7 {f k : Nat} {I : fc_I} : aX f I 7 k = I (f + 5) k := Eq.trans rfl rfl
theorem ax_8 {f k : Nat} {I : fc_I} : aX f I 8 k = I (f + 6) k := Eq.trans rfl rfl
theorem ax_9 {f k : Nat} {I : fc_I} : aX f I 9 k = I 5 k := Eq.trans rfl rfl
theorem ax_10 {f k : Nat} {I : fc_I} : aX f I 10 k = I 6 k := Eq.trans rfl rfl
theorem ax_11 {f k : Nat} {I : fc_I} : aX f I 11 k = I 7 k := Eq.trans rfl rfl
theorem ax_12 {f k : Nat} {I : fc_I} : aX f I 12 k = I 8 k := Eq.trans rfl rfl
theorem ax_13 {f k : Nat} {I : fc_I} : aX f I 13 k = I 9 k := Eq.trans rfl rfl
theorem ax_14 {f k : Nat} {I : fc_I} : aX f I 14 k = I 11 k := Eq.trans rfl rfl
theorem ax_15 {f k : Nat} {I : fc_I} : aX f I 15 k = I 12 k := Eq.trans rfl rfl
theorem ax_16 {f k : Nat} {I : fc_I} : aX f I 16 k = I 13 k := Eq.trans rfl rfl
theorem ax_17 {f k : Nat} {I : fc_I} : aX f I 17 k = I 14 k := Eq.trans rfl rfl
theorem ax_18 {f k : Nat} {I : fc_I} : aX f I 18 k = I (f + 8) k := Eq.trans rfl rfl
theorem ax_19 {f k : Nat} {I : fc_I} : aX f I 19 k = I (f + 7) k := Eq.trans rfl rfl
theorem ax_20 {f k : Nat} {I : fc_I} : aX f I 20 k = I 16 k := Eq.trans rfl rfl
theorem ax_21 {f k : Nat} {I : fc_I} : aX f I 21 k = I 25 k := Eq.trans rfl rfl
theorem ax_22 {f k : Nat} {I : fc_I} : aX f I 22 k = I 26 k := Eq.trans rfl rfl
theorem ax_23 {f k : Nat} {I : fc_I} : aX f I 23 k = I 27 k := Eq.trans rfl rfl
theorem ax_24 {f k : Nat} {I : fc_I} : aX f I 24 k = I 28 k := Eq.trans rfl rfl
theorem ax_25 {f k : Nat} {I : fc_I} : aX f I 25 k = I 29 k := Eq.trans rfl rfl
theorem ax_26 {f k : Nat} {I : fc_I} : aX f I 26 k = I 30 k := Eq.trans rfl rfl
theorem ax_27 {f k : Nat} {I : fc_I} : aX f I 27 k = I 68 k := Eq.trans rfl rfl
theorem ax_28 {f k : Nat} {I : fc_I} : aX f I 28 k = I 76 k := Eq.trans rfl rfl
theorem ax_30 {f k : Nat} {I : fc_I} : aX f I 30 k = aWa I k := Eq.trans rfl rfl
theorem ax_31 {f k : Nat} {I : fc_I} : aX f I 31 k = aWi I k := Eq.trans rfl rfl
theorem ax_32 {f k : Nat} {I : fc_I} : aX f I 32 k = aTp I k := Eq.trans rfl rfl
theorem ax_33 {f k : Nat} {I : fc_I} : aX f I 33 k = aSz I k := Eq.trans rfl rfl
theorem ax_34 {f k : Nat} {I : fc_I} : aX f I 34 k = aIt I k := Eq.trans rfl rfl
theorem ax_35 {f k : Nat} {I : fc_I} : aX f I 35 k = aCo I k := Eq.trans rfl rfl
theorem ax_36 {f k : Nat} {I : fc_I} : aX f I 36 k = aCm I k := Eq.trans rfl rfl
theorem am0_0 {I : fc_I} : aM I 0 0 = I 78 0 := Eq.trans rfl rfl
theorem am0_1 {I : fc_I} : aM I 0 1 = I 78 1 := Eq.trans rfl rfl
theorem am0_2 {I : fc_I} : aM I 0 2 = I 78 2 := Eq.trans rfl rfl
theorem am0_3 {I : fc_I} : aM I 0 3 = I 78 9 := Eq.trans rfl rfl
theorem am0_4 {I : fc_I} : aM I 0 4 = I 78 13 := Eq.trans rfl rfl
theorem am0_5 {I : fc_I} : aM I 0 5 = I 78 19 := Eq.trans rfl rfl
theorem am0_6 {I : fc_I} : aM I 0 6 = I 78 28 := Eq.trans rfl rfl
theorem am0_7 {I : fc_I} : aM I 0 7 = I 78 29 := Eq.trans rfl rfl
theorem am0_8 {I : fc_I} : aM I 0 8 = I 78 39 := Eq.trans rfl rfl
theorem am0_9 {I : fc_I} : aM I 0 9 = I 78 40 := Eq.trans rfl rfl
theorem am0_10 {I : fc_I} : aM I 0 10 = I 78 41 := Eq.trans rfl rfl
theorem am0_11 {I : fc_I} : aM I 0 11 = I 78 26 := Eq.trans rfl rfl
theorem am_1 {k : Nat} {I : fc_I} : aM I 1 k = I 79 k := Eq.trans rfl rfl
theorem am_2 {k : Nat} {I : fc_I} : aM I 2 k = I 80 k := Eq.trans rfl rfl
theorem am_3 {k : Nat} {I : fc_I} : aM I 3 k = I 81 k := Eq.trans rfl rfl
theorem am_4 {k : Nat} {I : fc_I} : aM I 4 k = I 82 k := Eq.trans rfl rfl
theorem am_5 {k : Nat} {I : fc_I} : aM I 5 k = I 83 k := Eq.trans rfl rfl
theorem am_6 {k : Nat} {I : fc_I} : aM I 6 k = I 84 k := Eq.trans rfl rfl
theorem am_8 {k : Nat} {I : fc_I} : aM I 8 k = I 86 k := Eq.trans rfl rfl
theorem am_9 {k : Nat} {I : fc_I} : aM I 9 k = I 88 k := Eq.trans rfl rfl
theorem am_10 {k : Nat} {I : fc_I} : aM I 10 k = I 89 k := Eq.trans rfl rfl
theorem am_11 {k : Nat} {I : fc_I} : aM I 11 k = I 90 k := Eq.trans rfl rfl
theorem am_12 {k : Nat} {I : fc_I} : aM I 12 k = I 91 k := Eq.trans rfl rfl
theorem am_13 {k : Nat} {I : fc_I} : aM I 13 k = I 92 k := Eq.trans rfl rfl
theorem am_14 {k : Nat} {I : fc_I} : aM I 14 k = I 93 k := Eq.trans rfl rfl
theorem am_15 {k : Nat} {I : fc_I} : aM I 15 k = I 94 k := Eq.trans rfl rfl
theorem am_16 {k : Nat} {I : fc_I} : aM I 16 k = I 95 k := Eq.trans rfl rfl
theorem am_17 {k : Nat} {I : fc_I} : aM I 17 k = I 96 k := Eq.trans rfl rfl
theorem am_18 {k : Nat} {I : fc_I} : aM I 18 k = I 97 k := Eq.trans rfl rfl
theorem am_19 {k : Nat} {I : fc_I} : aM I 19 k = I 98 k := Eq.trans rfl rfl
theorem am_20 {k : Nat} {I : fc_I} : aM I 20 k = I 99 k := Eq.trans rfl rfl
theorem am_21 {k : Nat} {I : fc_I} : aM I 21 k = I 100 k := Eq.trans rfl rfl
theorem am_22 {k : Nat} {I : fc_I} : aM I 22 k = I 101 k := Eq.trans rfl rfl
theorem am_23 {k : Nat} {I : fc_I} : aM I 23 k = I 102 k := Eq.trans rfl rfl
theorem am_24 {k : Nat} {I : fc_I} : aM I 24 k = I 103 k := Eq.trans rfl rfl
theorem am_25 {k : Nat} {I : fc_I} : aM I 25 k = I 104 k := Eq.trans rfl rfl
theorem am_26 {k : Nat} {I : fc_I} : aM I 26 k = I 105 k := Eq.trans rfl rfl
theorem am_27 {k : Nat} {I : fc_I} : aM I 27 k = I 126 k := Eq.trans rfl rfl
theorem am_28 {k : Nat} {I : fc_I} : aM I 28 k = I 127 k := Eq.trans rfl rfl
theorem am_7 {k : Nat} {I : fc_I} : aM I 7 k = I 85 k - I 86 k - I 87 k := Eq.trans rfl rfl
theorem am_30 {k : Nat} {I : fc_I} : aM I 30 k = mWa I k := Eq.trans rfl rfl
theorem am_31 {k : Nat} {I : fc_I} : aM I 31 k = mWi I k := Eq.trans rfl rfl
theorem am_32 {k : Nat} {I : fc_I} : aM I 32 k = mTp I k := Eq.trans rfl rfl
theorem am_33 {k : Nat} {I : fc_I} : aM I 33 k = mSz I k := Eq.trans rfl rfl
theorem am_34 {k : Nat} {I : fc_I} : aM I 34 k = mIt I k := Eq.trans rfl rfl
theorem am_35 {k : Nat} {I : fc_I} : aM I 35 k = mCo I k := Eq.trans rfl rfl
theorem am_36 {k : Nat} {I : fc_I} : aM I 36 k = mCm I k := Eq.trans rfl rfl
/-- single numbers within their bounds -/
def Wf0 (A : fc_I) : Prop := (0 ≤ (A 0 0).toInt ∧ (A 0 0).toInt ≤ (A 0 1).toInt ∧ 1 ≤ (A 0 1).toInt ∧ (A 0 1).toInt ≤ 60) ∧ (0 ≤ (A 0 2).toInt ∧ (A 0 2).toInt ≤ 6) ∧ (0 ≤ (A 0 3).toInt ∧ (A 0 3).toInt ≤ 3) ∧ (0 ≤ (A 0 4).toInt ∧ (A 0 4).toInt ≤ 14) ∧ (0 ≤ (A 0 5).toInt ∧ (A 0 5).toInt ≤ 4) ∧ (0 ≤ (A 0 6).toInt ∧ (A 0 6).toInt ≤ 2) ∧ (0 ≤ (A 0 7).toInt ∧ (A 0 7).toInt ≤ 40) ∧ (0 ≤ (A 0 8).toInt ∧ (A 0 8).toInt ≤ 160) ∧ (1 ≤ (A 0 9).toInt ∧ (A 0 9).toInt ≤ 6) ∧ (0 ≤ (A 0 10).toInt ∧ (A 0 10).toInt < (A 0 9).toInt)
/-- of a road: kind, zone, goal, when it was turned -/
def WfR (A : fc_I) : Prop := ∀ r : Nat, (r : Int) < (A 0 4).toInt → (0 ≤ (A 9 r).toInt ∧ (A 9 r).toInt ≤ 5) ∧ (0 ≤ (A 10 r).toInt ∧ (A 10 r).toInt < (A 0 2).toInt) ∧ (0 ≤ (A 11 r).toInt ∧ ((A 11 r).toInt < 6 ∨ 10 ≤ (A 11 r).toInt ∧ (A 11 r).toInt < 13 ∨ (A 11 r).toInt = 20)) ∧ (1 ≤ (A 12 r).toInt ∧ (A 12 r).toInt ≤ 9999) ∧ (-1 ≤ (A 13 r).toInt ∧ (A 13 r).toInt ≤ (A 0 0).toInt)
/-- of a bus -/
def WfB (A : fc_I) : Prop := ∀ b : Nat, (b : Int) < (A 0 5).toInt → (0 ≤ (A 14 b).toInt ∧ (A 14 b).toInt < (A 0 2).toInt) ∧ (0 ≤ (A 15 b).toInt ∧ (A 15 b).toInt < (A 0 3).toInt) ∧ (1 ≤ (A 16 b).toInt ∧ (A 16 b).toInt ≤ 99) ∧ (1 ≤ (A 17 b).toInt ∧ (A 17 b).toInt ≤ 9) ∧ ((A 18 b).toInt = -1 ∨ (A 0 0).toInt < (A 18 b).toInt ∧ (A 18 b).toInt ≤ 69)
/-- of sheets, tracks -/
def WfS (A : fc_I) : Prop := ∀ s : Nat, s < 4 → (-1 ≤ (A 28 s).toInt ∧ (A 28 s).toInt ≤ 2) ∧ (0 ≤ (A 33 s).toInt ∧ (A 33 s).toInt ≤ 40)
def WfL (A : fc_I) : Prop := ∀ t : Nat, t < 3 → (A 20 t).toInt = 0 ∨ (A 20 t).toInt = 1
theorem cn_eq {x : Int32} {n : Nat} (h : x.toInt = (n : Int)) : cn x = n := by
  unfold cn
  rw [Int32.toNatClampNeg, h]
  rfl
theorem cn_int {x : Int32} (h : 0 ≤ x.toInt) : (cn x : Int) = x.toInt := by
  unfold cn
  rw [Int32.toNatClampNeg]
  omega
theorem i_add {x y : Int32} (h1 : -2147483648 ≤ x.toInt + y.toInt) (h2 : x.toInt + y.toInt < 2147483648) : (x + y).toInt = x.toInt + y.toInt := by
  rw [Int32.toInt_add, Int.bmod_eq_of_le (by omega) (by omega)]
theorem i_sub {x y : Int32} (h1 : -2147483648 ≤ x.toInt - y.toInt) (h2 : x.toInt - y.toInt < 2147483648) : (x - y).toInt = x.toInt - y.toInt := by
  rw [Int32.toInt_sub, Int.bmod_eq_of_le (by omega) (by omega)]
theorem i_mul {x y : Int32} (h1 : -2147483648 ≤ x.toInt * y.toInt) (h2 : x.toInt * y.toInt < 2147483648) : (x * y).toInt = x.toInt * y.toInt := by
  rw [Int32.toInt_mul, Int.bmod_eq_of_le (by omega) (by omega)]

