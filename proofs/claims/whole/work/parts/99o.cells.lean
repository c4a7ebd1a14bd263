/-! ===== cells behind the constructors ===== -/
set_option maxRecDepth 100000 in
theorem c2_1 {J : fc_I} : cI_2 J 1 = J 1 := by
  funext k
  rfl
set_option maxRecDepth 100000 in
theorem c2_2 {J : fc_I} : cI_2 J 2 = J 2 := by
  funext k
  rfl
set_option maxRecDepth 100000 in
theorem c2_3 {J : fc_I} : cI_2 J 3 = J 3 := by
  funext k
  rfl
set_option maxRecDepth 100000 in
theorem c2_4 {J : fc_I} : cI_2 J 4 = J 4 := by
  funext k
  rfl
set_option maxRecDepth 100000 in
theorem c2_5 {J : fc_I} : cI_2 J 5 = J 5 := by
  funext k
  rfl
set_option maxRecDepth 100000 in
theorem c2_6 {J : fc_I} : cI_2 J 6 = J 6 := by
  funext k
  rfl
set_option maxRecDepth 100000 in
theorem c2_7 {J : fc_I} : cI_2 J 7 = J 7 := by
  funext k
  rfl
set_option maxRecDepth 100000 in
theorem c2_8 {J : fc_I} : cI_2 J 8 = J 8 := by
  funext k
  rfl
set_option maxRecDepth 100000 in
theorem c2_9 {J : fc_I} : cI_2 J 9 = J 9 := by
  funext k
  rfl
set_option maxRecDepth 100000 in
theorem c2_10 {J : fc_I} : cI_2 J 10 = J 10 := by
  funext k
  rfl
set_option maxRecDepth 100000 in
theorem c2_11 {J : fc_I} : cI_2 J 11 = J 11 := by
  funext k
  rfl
set_option maxRecDepth 100000 in
theorem c2_12 {J : fc_I} : cI_2 J 12 = J 12 := by
  funext k
  rfl
set_option maxRecDepth 100000 in
theorem c2_13 {J : fc_I} : cI_2 J 13 = J 13 := by
  funext k
  rfl
set_option maxRecDepth 100000 in
theorem c2_14 {J : fc_I} : cI_2 J 14 = J 14 := by
  funext k
  rfl
set_option maxRecDepth 100000 in
theorem c2_15 {J : fc_I} : cI_2 J 15 = J 15 := by
  funext k
  rfl
set_option maxRecDepth 100000 in
theorem c2_16 {J : fc_I} : cI_2 J 16 = J 16 := by
  funext k
  rfl
set_option maxRecDepth 100000 in
theorem c2_18 {J : fc_I} : cI_2 J 18 = J 18 := by
  funext k
  rfl
set_option maxRecDepth 100000 in
theorem c2_19 {J : fc_I} : cI_2 J 19 = J 19 := by
  funext k
  rfl
set_option maxRecDepth 100000 in
theorem c2_20 {J : fc_I} : cI_2 J 20 = J 20 := by
  funext k
  rfl
set_option maxRecDepth 100000 in
theorem c2_22 {J : fc_I} : cI_2 J 22 = J 22 := by
  funext k
  rfl
set_option maxRecDepth 100000 in
theorem c2_23 {J : fc_I} : cI_2 J 23 = J 23 := by
  funext k
  rfl
set_option maxRecDepth 100000 in
theorem c2_24 {J : fc_I} : cI_2 J 24 = J 24 := by
  funext k
  rfl
set_option maxRecDepth 100000 in
theorem c2_25 {J : fc_I} : cI_2 J 25 = J 25 := by
  funext k
  rfl
set_option maxRecDepth 100000 in
theorem c2_26 {J : fc_I} : cI_2 J 26 = J 26 := by
  funext k
  rfl
set_option maxRecDepth 100000 in
theorem c2_27 {J : fc_I} : cI_2 J 27 = J 27 := by
  funext k
  rfl
set_option maxRecDepth 100000 in
theorem c2_28 {J : fc_I} : cI_2 J 28 = J 28 := by
  funext k
  rfl
set_option maxRecDepth 100000 in
theorem c2_29 {J : fc_I} : cI_2 J 29 = J 29 := by
  funext k
  rfl
set_option maxRecDepth 100000 in
theorem c2_30 {J : fc_I} : cI_2 J 30 = J 30 := by
  funext k
  rfl
set_option maxRecDepth 100000 in
theorem c2_31 {J : fc_I} : cI_2 J 31 = J 31 := by
  funext k
  rfl
set_option maxRecDepth 100000 in
theorem c2_34 {J : fc_I} : cI_2 J 34 = J 34 := by
  funext k
  rfl
set_option maxRecDepth 100000 in
theorem c2_40 {J : fc_I} : cI_2 J 40 = J 40 := by
  funext k
  rfl
set_option maxRecDepth 100000 in
theorem c2_41 {J : fc_I} : cI_2 J 41 = J 41 := by
  funext k
  rfl
set_option maxRecDepth 100000 in
theorem c2_46 {J : fc_I} : cI_2 J 46 = fun _ => 0 := by
  funext k
  rfl
set_option maxRecDepth 100000 in
theorem c2_47 {J : fc_I} : cI_2 J 47 = fun _ => 0 := by
  funext k
  rfl
set_option maxRecDepth 100000 in
theorem c2_48 {J : fc_I} : cI_2 J 48 = fun _ => 0 := by
  funext k
  rfl
set_option maxRecDepth 100000 in
theorem c2_50 {J : fc_I} : cI_2 J 50 = fun _ => 0 := by
  funext k
  rfl
set_option maxRecDepth 100000 in
theorem c2_51 {J : fc_I} : cI_2 J 51 = fun _ => 0 := by
  funext k
  rfl
set_option maxRecDepth 100000 in
theorem c2_52 {J : fc_I} : cI_2 J 52 = fun _ => 0 := by
  funext k
  rfl
set_option maxRecDepth 100000 in
theorem c2_72 {J : fc_I} : cI_2 J 72 = fun _ => 0 := by
  funext k
  rfl
set_option maxRecDepth 100000 in
theorem c2_73 {J : fc_I} : cI_2 J 73 = fun _ => 0 := by
  funext k
  rfl
set_option maxRecDepth 100000 in
theorem c2_74 {J : fc_I} : cI_2 J 74 = fun _ => 0 := by
  funext k
  rfl
set_option maxRecDepth 100000 in
theorem c2_75 {J : fc_I} : cI_2 J 75 = fun _ => 0 := by
  funext k
  rfl
set_option maxRecDepth 100000 in
theorem c2_77 {J : fc_I} : cI_2 J 77 = fun _ => 0 := by
  funext k
  rfl
set_option maxRecDepth 100000 in
theorem c2_79 {J : fc_I} : cI_2 J 79 = fun _ => 0 := by
  funext k
  rfl
set_option maxRecDepth 100000 in
theorem c2_80 {J : fc_I} : cI_2 J 80 = fun _ => 0 := by
  funext k
  rfl
set_option maxRecDepth 100000 in
theorem c2_81 {J : fc_I} : cI_2 J 81 = fun _ => 0 := by
  funext k
  rfl
set_option maxRecDepth 100000 in
theorem c2_82 {J : fc_I} : cI_2 J 82 = fun _ => 0 := by
  funext k
  rfl
set_option maxRecDepth 100000 in
theorem c2_85 {J : fc_I} : cI_2 J 85 = fun _ => 0 := by
  funext k
  rfl
set_option maxRecDepth 100000 in
theorem c2_86 {J : fc_I} : cI_2 J 86 = fun _ => 0 := by
  funext k
  rfl
set_option maxRecDepth 100000 in
theorem c2_87 {J : fc_I} : cI_2 J 87 = fun _ => 0 := by
  funext k
  rfl
set_option maxRecDepth 100000 in
theorem c2_88 {J : fc_I} : cI_2 J 88 = fun _ => 0 := by
  funext k
  rfl
set_option maxRecDepth 100000 in
theorem c2_89 {J : fc_I} : cI_2 J 89 = fun _ => 0 := by
  funext k
  rfl
set_option maxRecDepth 100000 in
theorem c2_90 {J : fc_I} : cI_2 J 90 = fun _ => 0 := by
  funext k
  rfl
set_option maxRecDepth 100000 in
theorem c2_91 {J : fc_I} : cI_2 J 91 = fun _ => 0 := by
  funext k
  rfl
set_option maxRecDepth 100000 in
theorem c2_92 {J : fc_I} : cI_2 J 92 = fun _ => 0 := by
  funext k
  rfl
set_option maxRecDepth 100000 in
theorem c2_93 {J : fc_I} : cI_2 J 93 = fun _ => 0 := by
  funext k
  rfl
set_option maxRecDepth 100000 in
theorem c2_94 {J : fc_I} : cI_2 J 94 = fun _ => 0 := by
  funext k
  rfl
set_option maxRecDepth 100000 in
theorem c2_95 {J : fc_I} : cI_2 J 95 = fun _ => 0 := by
  funext k
  rfl
set_option maxRecDepth 100000 in
theorem c2_96 {J : fc_I} : cI_2 J 96 = fun _ => 0 := by
  funext k
  rfl
set_option maxRecDepth 100000 in
theorem c2_98 {J : fc_I} : cI_2 J 98 = fun _ => 0 := by
  funext k
  rfl
set_option maxRecDepth 100000 in
theorem c2_100 {J : fc_I} : cI_2 J 100 = fun _ => 0 := by
  funext k
  rfl
set_option maxRecDepth 100000 in
theorem c2_101 {J : fc_I} : cI_2 J 101 = fun _ => 0 := by
  funext k
  rfl
set_option maxRecDepth 100000 in
theorem c2_102 {J : fc_I} : cI_2 J 102 = fun _ => 0 := by
  funext k
  rfl
set_option maxRecDepth 100000 in
theorem c2_103 {J : fc_I} : cI_2 J 103 = fun _ => 0 := by
  funext k
  rfl
set_option maxRecDepth 100000 in
theorem c2_104 {J : fc_I} : cI_2 J 104 = fun _ => 0 := by
  funext k
  rfl
set_option maxRecDepth 100000 in
theorem c2_105 {J : fc_I} : cI_2 J 105 = fun _ => 0 := by
  funext k
  rfl
set_option maxRecDepth 100000 in
theorem c2_106 {J : fc_I} : cI_2 J 106 = fun _ => 0 := by
  funext k
  rfl
set_option maxRecDepth 100000 in
theorem c2_107 {J : fc_I} : cI_2 J 107 = fun _ => 0 := by
  funext k
  rfl
set_option maxRecDepth 100000 in
theorem c2_108 {J : fc_I} : cI_2 J 108 = fun _ => 0 := by
  funext k
  rfl
set_option maxRecDepth 100000 in
theorem c2_128 {J : fc_I} : cI_2 J 128 = fun _ => 0 := by
  funext k
  rfl
set_option maxRecDepth 100000 in
theorem c2_129 {J : fc_I} : cI_2 J 129 = fun _ => 0 := by
  funext k
  rfl
set_option maxRecDepth 100000 in
theorem c2_45_9 {J : fc_I} : cI_2 J 45 9 = 0 := by
  rfl
set_option maxRecDepth 100000 in
theorem c2_45_8 {J : fc_I} : cI_2 J 45 8 = 0 := by
  rfl
set_option maxRecDepth 100000 in
theorem c2_78_0 {J : fc_I} : cI_2 J 78 0 = 0 := by
  rfl
set_option maxRecDepth 100000 in
theorem c2_78_1 {J : fc_I} : cI_2 J 78 1 = 30 := by
  rfl
set_option maxRecDepth 100000 in
theorem c2_78_2 {J : fc_I} : cI_2 J 78 2 = 0 := by
  rfl
set_option maxRecDepth 100000 in
theorem c2_78_9 {J : fc_I} : cI_2 J 78 9 = 0 := by
  rfl
set_option maxRecDepth 100000 in
theorem c2_78_13 {J : fc_I} : cI_2 J 78 13 = 0 := by
  rfl
set_option maxRecDepth 100000 in
theorem c2_78_19 {J : fc_I} : cI_2 J 78 19 = 0 := by
  rfl
set_option maxRecDepth 100000 in
theorem c2_78_28 {J : fc_I} : cI_2 J 78 28 = 0 := by
  rfl
set_option maxRecDepth 100000 in
theorem c2_78_29 {J : fc_I} : cI_2 J 78 29 = 0 := by
  rfl
set_option maxRecDepth 100000 in
theorem c2_78_39 {J : fc_I} : cI_2 J 78 39 = 0 := by
  rfl
set_option maxRecDepth 100000 in
theorem c2_78_40 {J : fc_I} : cI_2 J 78 40 = 1 := by
  rfl
set_option maxRecDepth 100000 in
theorem c2_78_41 {J : fc_I} : cI_2 J 78 41 = 0 := by
  rfl
set_option maxRecDepth 100000 in
theorem c2_78_26 {J : fc_I} : cI_2 J 78 26 = 0 := by
  rfl
set_option maxRecDepth 100000 in
theorem c2_49 {J : fc_I} : cI_2 J 49 = fun k => if k < 6 then -1 else 0 := by
  funext k
  show (if (49 : Nat) = 49 ∧ k < 6 then (-1 : Int32) else 0) = if k < 6 then -1 else 0
  by_cases c : k < 6
  · rw [if_pos ⟨rfl, c⟩, if_pos c]
  · rw [if_neg (fun z => c z.2), if_neg c]
set_option maxRecDepth 100000 in
theorem c2_53 {J : fc_I} : cI_2 J 53 = fun k => if k < 4 then -1 else 0 := by
  funext k
  show (if (53 : Nat) = 53 ∧ k < 4 then (-1 : Int32) else 0) = if k < 4 then -1 else 0
  by_cases c : k < 4
  · rw [if_pos ⟨rfl, c⟩, if_pos c]
  · rw [if_neg (fun z => c z.2), if_neg c]
set_option maxRecDepth 100000 in
theorem c2_68 {J : fc_I} : cI_2 J 68 = fun k => if k < 6 then -1 else 0 := by
  funext k
  show (if (68 : Nat) = 68 ∧ k < 6 then (-1 : Int32) else 0) = if k < 6 then -1 else 0
  by_cases c : k < 6
  · rw [if_pos ⟨rfl, c⟩, if_pos c]
  · rw [if_neg (fun z => c z.2), if_neg c]
set_option maxRecDepth 100000 in
theorem c2_76 {J : fc_I} : cI_2 J 76 = fun k => if k < 4 then -1 else 0 := by
  funext k
  show (if (76 : Nat) = 76 ∧ k < 4 then (-1 : Int32) else 0) = if k < 4 then -1 else 0
  by_cases c : k < 4
  · rw [if_pos ⟨rfl, c⟩, if_pos c]
  · rw [if_neg (fun z => c z.2), if_neg c]
set_option maxRecDepth 100000 in
theorem c2_83 {J : fc_I} : cI_2 J 83 = fun k => if k < 6 then -1 else 0 := by
  funext k
  match k with
  | 0 => rfl
  | 1 => rfl
  | 2 => rfl
  | 3 => rfl
  | 4 => rfl
  | 5 => rfl
  | k + 6 =>
    rw [if_neg (by omega)]
    rfl
set_option maxRecDepth 100000 in
theorem c2_84 {J : fc_I} : cI_2 J 84 = fun k => if k < 6 then -1 else 0 := by
  funext k
  match k with
  | 0 => rfl
  | 1 => rfl
  | 2 => rfl
  | 3 => rfl
  | 4 => rfl
  | 5 => rfl
  | k + 6 =>
    rw [if_neg (by omega)]
    rfl
set_option maxRecDepth 100000 in
theorem c2_97 {J : fc_I} : cI_2 J 97 = fun k => if k < 4 then -1 else 0 := by
  funext k
  match k with
  | 0 => rfl
  | 1 => rfl
  | 2 => rfl
  | 3 => rfl
  | k + 4 =>
    rw [if_neg (by omega)]
    rfl
set_option maxRecDepth 100000 in
theorem c2_126 {J : fc_I} : cI_2 J 126 = fun k => if k < 6 then -1 else 0 := by
  funext k
  match k with
  | 0 => rfl
  | 1 => rfl
  | 2 => rfl
  | 3 => rfl
  | 4 => rfl
  | 5 => rfl
  | k + 6 =>
    rw [if_neg (by omega)]
    rfl
set_option maxRecDepth 100000 in
theorem c2_127 {J : fc_I} : cI_2 J 127 = fun k => if k < 4 then -1 else 0 := by
  funext k
  match k with
  | 0 => rfl
  | 1 => rfl
  | 2 => rfl
  | 3 => rfl
  | k + 4 =>
    rw [if_neg (by omega)]
    rfl
set_option maxRecDepth 100000 in
theorem c2_99 {J : fc_I} : cI_2 J 99 = fun k => if k = 0 then 1 else 0 := by
  funext k
  match k with
  | 0 => rfl
  | 1 => rfl
  | 2 => rfl
  | k + 3 =>
    rw [if_neg (by omega)]
    rfl
set_option maxRecDepth 100000 in
theorem b0_2 : cI_0 (fc_zI I00 0) 2 = fun _ => 0 := by
  funext k
  rfl
set_option maxRecDepth 100000 in
theorem b0_5 : cI_0 (fc_zI I00 0) 5 = fun _ => 0 := by
  funext k
  rfl
set_option maxRecDepth 100000 in
theorem b0_6 : cI_0 (fc_zI I00 0) 6 = fun _ => 0 := by
  funext k
  rfl
set_option maxRecDepth 100000 in
theorem b0_7 : cI_0 (fc_zI I00 0) 7 = fun _ => 0 := by
  funext k
  rfl
set_option maxRecDepth 100000 in
theorem b0_8 : cI_0 (fc_zI I00 0) 8 = fun _ => 0 := by
  funext k
  rfl
set_option maxRecDepth 100000 in
theorem b0_9 : cI_0 (fc_zI I00 0) 9 = fun _ => 0 := by
  funext k
  rfl
set_option maxRecDepth 100000 in
theorem b0_11 : cI_0 (fc_zI I00 0) 11 = fun _ => 0 := by
  funext k
  rfl
set_option maxRecDepth 100000 in
theorem b0_12 : cI_0 (fc_zI I00 0) 12 = fun _ => 0 := by
  funext k
  rfl
set_option maxRecDepth 100000 in
theorem b0_13 : cI_0 (fc_zI I00 0) 13 = fun _ => 0 := by
  funext k
  rfl
set_option maxRecDepth 100000 in
theorem b0_14 : cI_0 (fc_zI I00 0) 14 = fun _ => 0 := by
  funext k
  rfl
set_option maxRecDepth 100000 in
theorem b0_18 : cI_0 (fc_zI I00 0) 18 = fun _ => 0 := by
  funext k
  rfl
set_option maxRecDepth 100000 in
theorem b0_19 : cI_0 (fc_zI I00 0) 19 = fun _ => 0 := by
  funext k
  rfl
set_option maxRecDepth 100000 in
theorem b0_20 : cI_0 (fc_zI I00 0) 20 = fun _ => 0 := by
  funext k
  rfl
set_option maxRecDepth 100000 in
theorem b0_22 : cI_0 (fc_zI I00 0) 22 = fun _ => 0 := by
  funext k
  rfl
set_option maxRecDepth 100000 in
theorem b0_23 : cI_0 (fc_zI I00 0) 23 = fun _ => 0 := by
  funext k
  rfl
set_option maxRecDepth 100000 in
theorem b0_24 : cI_0 (fc_zI I00 0) 24 = fun _ => 0 := by
  funext k
  rfl
set_option maxRecDepth 100000 in
theorem b0_25 : cI_0 (fc_zI I00 0) 25 = fun _ => 0 := by
  funext k
  rfl
set_option maxRecDepth 100000 in
theorem b0_26 : cI_0 (fc_zI I00 0) 26 = fun _ => 0 := by
  funext k
  rfl
set_option maxRecDepth 100000 in
theorem b0_27 : cI_0 (fc_zI I00 0) 27 = fun _ => 0 := by
  funext k
  rfl
set_option maxRecDepth 100000 in
theorem b0_28 : cI_0 (fc_zI I00 0) 28 = fun _ => 0 := by
  funext k
  rfl
set_option maxRecDepth 100000 in
theorem b0_29 : cI_0 (fc_zI I00 0) 29 = fun _ => 0 := by
  funext k
  rfl
set_option maxRecDepth 100000 in
theorem b0_30 : cI_0 (fc_zI I00 0) 30 = fun _ => 0 := by
  funext k
  rfl
set_option maxRecDepth 100000 in
theorem b0_1_2 : cI_0 (fc_zI I00 0) 1 2 = 0 := by
  rfl
set_option maxRecDepth 100000 in
theorem b0_1_3 : cI_0 (fc_zI I00 0) 1 3 = 0 := by
  rfl
set_option maxRecDepth 100000 in
theorem b0_4_5 : cI_0 (fc_zI I00 0) 4 5 = 0 := by
  rfl
set_option maxRecDepth 100000 in
theorem b0_10_4 : cI_0 (fc_zI I00 0) 10 4 = 0 := by
  rfl
set_option maxRecDepth 100000 in
theorem b0_15_11 : cI_0 (fc_zI I00 0) 15 11 = 30 := by
  rfl
set_option maxRecDepth 100000 in
theorem b0_15_10 : cI_0 (fc_zI I00 0) 15 10 = 0 := by
  rfl
set_option maxRecDepth 100000 in
theorem b0_15_9 : cI_0 (fc_zI I00 0) 15 9 = 0 := by
  rfl
set_option maxRecDepth 100000 in
theorem b0_31_6 : cI_0 (fc_zI I00 0) 31 6 = 0 := by
  rfl
set_option maxRecDepth 100000 in
theorem b0_31_7 : cI_0 (fc_zI I00 0) 31 7 = 0 := by
  rfl
set_option maxRecDepth 100000 in
theorem b0_31_8 : cI_0 (fc_zI I00 0) 31 8 = 0 := by
  rfl
set_option maxRecDepth 100000 in
theorem b0_3 : cI_0 (fc_zI I00 0) 3 = fun k => if k < 6 then -1 else 0 := by
  funext k
  show (if (3 : Nat) = 3 ∧ k < 6 then (-1 : Int32) else 0) = if k < 6 then -1 else 0
  by_cases c : k < 6
  · rw [if_pos ⟨rfl, c⟩, if_pos c]
  · rw [if_neg (fun z => c z.2), if_neg c]
set_option maxRecDepth 100000 in
theorem b0_16 : cI_0 (fc_zI I00 0) 16 = fun k => if k = 0 then 1 else 0 := by
  funext k
  show (if (16 : Nat) = 16 ∧ k = cn 0 then (1 : Int32) else 0) = if k = 0 then 1 else 0
  have e : cn (0 : Int32) = 0 := rfl
  rw [e]
  by_cases c : k = 0
  · rw [if_pos ⟨rfl, c⟩, if_pos c]
  · rw [if_neg (fun z => c z.2), if_neg c]
theorem row_list {f : Nat → Int32} {n : Nat} {l : List Int32} (h : (List.range n).map f = l) : ∀ k, k < n → f k = l.getD k 0 := fun k hk => by
  rw [← h, List.getD_eq_getElem?_getD, List.getElem?_map, List.getElem?_range hk]
  rfl
set_option maxRecDepth 100000 in
theorem c2_111 {J : fc_I} : (List.range 44).map (fun k => cI_2 J 111 k) = [115, 105, 110, 99, 101, 104, 101, 105, 103, 104, 116, 119, 105, 110, 100, 108, 101, 102, 116, 99, 114, 111, 119, 100, 122, 111, 110, 101, 104, 101, 101, 100, 115, 116, 111, 112, 111, 114, 97, 110, 100, 110, 111, 116] := by
  rfl
set_option maxRecDepth 100000 in
theorem c2_112 {J : fc_I} : (List.range 12).map (fun k => cI_2 J 112 k) = [0, 5, 11, 15, 19, 24, 28, 32, 36, 38, 41, 44] := by
  rfl
set_option maxRecDepth 100000 in
theorem c2_110a {J : fc_I} : cI_2 J 110 0 = zi 5 := by
  rfl
set_option maxRecDepth 100000 in
theorem c2_110b {J : fc_I} : cI_2 J 110 1 = zi 3 := by
  rfl
set_option maxRecDepth 100000 in
theorem c2_109a {J : fc_I} : cds (cI_2 J) (320 * 0) (FK1.map trc) := by
  exact ⟨rfl, rfl, rfl, rfl, rfl, trivial⟩
set_option maxRecDepth 100000 in
theorem c2_109b {J : fc_I} : cds (cI_2 J) (320 * 0 + 160) (FK2.map trc) := by
  exact ⟨rfl, rfl, rfl, trivial⟩
