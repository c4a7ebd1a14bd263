theorem e_appX {I : fc_I} {x : Int32} {b : Int64} (h0 : 0 ≤ (I 31 6).toInt) (hx : 0 ≤ x.toInt) (h1 : (I 31 6).toInt + x.toInt ≤ 160) : f_X0_append_18 x b 4000 0 I = some ((fX b x.toInt.toNat 0 I) 31 6, fX b x.toInt.toNat 0 I) := by
  have key := lpm1_S (B := f_X0_append_18_B x b) (fun i _ => (x.toInt - i.toInt).toNat) (fun i I => 0 ≤ i.toInt ∧ i.toInt ≤ x.toInt ∧ 0 ≤ (I 31 6).toInt ∧ (I 31 6).toInt + (x.toInt - i.toInt) ≤ 160) (fun i I => some ((fX b (x.toInt - i.toInt).toNat i I) 31 6, fX b (x.toInt - i.toInt).toNat i I)) (fun k i I hi ih => by
    obtain ⟨a1, a2, a3, a4⟩ := hi
    unfold f_X0_append_18_B
    by_cases c : i.toInt < x.toInt
    · obtain ⟨e1, e2⟩ := i_p1 (N := 1000) (x := i) a1 (by omega) (by omega)
      obtain ⟨e3, e4⟩ := i_p1 (N := 160) (x := I 31 6) a3 (by omega) (by omega)
      rw [if_pos c]
      show fq_g 160 (I 31 6) (k (i + 1) (fc_wI (fc_wI I 31 6 (I 31 6 + 1)) 32 (cn (I 31 6)) (fB b i))) = _
      have h6 : (fc_wI (fc_wI I 31 6 (I 31 6 + 1)) 32 (cn (I 31 6)) (fB b i)) 31 6 = I 31 6 + 1 := by simp [fc_wI]
      rw [fq_gp ⟨a3, by omega⟩, ih (i + 1) _ ⟨by omega, by omega, by rw [h6]; omega, by rw [h6]; omega⟩ (by omega), show (x.toInt - i.toInt).toNat = (x.toInt - (i + 1).toInt).toNat + 1 by omega]
      rfl
    · rw [if_neg c, show (x.toInt - i.toInt).toNat = 0 by omega]
      rfl)
  have r := key 4000 0 I ⟨by rw [kt_0]; omega, by rw [kt_0]; omega, h0, by rw [kt_0]; omega⟩ (by show (x.toInt - (0 : Int32).toInt).toNat < 4000; rw [kt_0]; omega)
  rw [kt_0, Int.sub_zero] at r
  exact r
theorem e_appM {I : fc_I} {x : Int32} {b : Int64} (h0 : 0 ≤ (I 78 39).toInt) (hx : 0 ≤ x.toInt) (h1 : (I 78 39).toInt + x.toInt ≤ 160) : f_X11_feed_33 x b 4000 0 I = some ((fM b x.toInt.toNat 0 I) 78 39, fM b x.toInt.toNat 0 I) := by
  have key := lpm1_S (B := f_X11_feed_33_B x b) (fun i _ => (x.toInt - i.toInt).toNat) (fun i I => 0 ≤ i.toInt ∧ i.toInt ≤ x.toInt ∧ 0 ≤ (I 78 39).toInt ∧ (I 78 39).toInt + (x.toInt - i.toInt) ≤ 160) (fun i I => some ((fM b (x.toInt - i.toInt).toNat i I) 78 39, fM b (x.toInt - i.toInt).toNat i I)) (fun k i I hi ih => by
    obtain ⟨a1, a2, a3, a4⟩ := hi
    unfold f_X11_feed_33_B
    by_cases c : i.toInt < x.toInt
    · obtain ⟨e1, e2⟩ := i_p1 (N := 1000) (x := i) a1 (by omega) (by omega)
      obtain ⟨e3, e4⟩ := i_p1 (N := 160) (x := I 78 39) a3 (by omega) (by omega)
      rw [if_pos c]
      have h5 : (fc_wI I 108 (cn (I 78 39)) (fB b i)) 78 39 = I 78 39 := by simp [fc_wI]
      show fq_g 160 (I 78 39) (k (i + 1) (fc_wI (fc_wI I 108 (cn (I 78 39)) (fB b i)) 78 39 ((fc_wI I 108 (cn (I 78 39)) (fB b i)) 78 39 + 1))) = _
      rw [h5]
      have h6 : (fc_wI (fc_wI I 108 (cn (I 78 39)) (fB b i)) 78 39 (I 78 39 + 1)) 78 39 = I 78 39 + 1 := by simp [fc_wI]
      rw [fq_gp ⟨a3, by omega⟩, ih (i + 1) _ ⟨by omega, by omega, by rw [h6]; omega, by rw [h6]; omega⟩ (by omega), show (x.toInt - i.toInt).toNat = (x.toInt - (i + 1).toInt).toNat + 1 by omega]
      rfl
    · rw [if_neg c, show (x.toInt - i.toInt).toNat = 0 by omega]
      rfl)
  have r := key 4000 0 I ⟨by rw [kt_0]; omega, by rw [kt_0]; omega, h0, by rw [kt_0]; omega⟩ (by show (x.toInt - (0 : Int32).toInt).toNat < 4000; rw [kt_0]; omega)
  rw [kt_0, Int.sub_zero] at r
  exact r
