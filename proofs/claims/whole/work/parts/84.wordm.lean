/-! ===== the reference's next token: words ===== -/
def offN (m : Nat) : Nat := ([0, 5, 11, 15, 19, 24, 28, 32, 36, 38, 41, 44] : List Nat).getD m 0
theorem offN_d : ∀ m, m < 11 → offN (m + 1) = offN m + fc_len.getD (m + 1) 0 ∧ offN (m + 1) ≤ 44 ∧ 0 < fc_len.getD (m + 1) 0 ∧ fc_len.getD (m + 1) 0 < 10 := by decide
theorem offN_b : ∀ m, m < 12 → ([0, 5, 11, 15, 19, 24, 28, 32, 36, 38, 41, 44] : List Int32).getD m 0 = zi (offN m) := by decide
theorem lett_b : ∀ m, m < 11 → ∀ i, i < fc_len.getD (m + 1) 0 → ([115, 105, 110, 99, 101, 104, 101, 105, 103, 104, 116, 119, 105, 110, 100, 108, 101, 102, 116, 99, 114, 111, 119, 100, 122, 111, 110, 101, 104, 101, 101, 100, 115, 116, 111, 112, 111, 114, 97, 110, 100, 110, 111, 116] : List Int32).getD (offN m + i) 0 = (fc_byt.getD (m + 1) []).getD i 0 := by decide +kernel
def wmI (I : fc_I) (e b m : Nat) : fc_I := rI I (zi e) (if m < 6 then 2 else 4) (if m < 6 then zi m else zi (m - 6)) (zi b)
theorem weq_iff {T : Nat → Int32} {p len k L : Nat} (hL : fc_len.getD k 0 = L) (h : len = L) : weq T p len k = true ↔ ∀ j, j < L → T (p + j) = (fc_byt.getD k []).getD j 0 := by
  unfold weq
  rw [hL, decide_eq_true h, Bool.true_and]
  constructor
  · intro q j hj
    exact of_decide_eq_true (List.all_eq_true.mp q j (List.mem_range.mpr (by omega)))
  · intro q
    refine List.all_eq_true.mpr (fun j hj => ?_)
    exact decide_eq_true (q j (by have := List.mem_range.mp hj; omega))
theorem M_w75 {I : fc_I} {e b m L : Nat} {t w : Int32} {k31 : Int32 → fc_I → Option fc_I} (hC : mC I) (hb : b ≤ e) (he : e ≤ 160) (hm : m < 11) (hL : fc_len.getD (m + 1) 0 = L) (hl : e - b = L) : f_X11_readWord_75 (zi m) (zi L) k31 4000 1 0 (rI I (zi e) t w (zi b)) = if weq (I 108) b (e - b) (m + 1) = true then k31 (zi (m + 1)) (wmI I e b m) else k31 (zi (m + 1)) (rI I (zi e) t w (zi b)) := by
  obtain ⟨o1, o2, o3, o4⟩ := offN_d m hm
  rw [hL] at o1 o3 o4
  have k6 : (6 : Int32).toInt = 6 := rfl
  have zS : zi m + 1 = zi (m + 1) := zi_S (by omega)
  have z6 : 6 ≤ m → zi m - 6 = zi (m - 6) := fun h => zi_of (by
    have z1 := zi_int (n := m) (by omega)
    rw [i_sub (by omega) (by omega), z1, k6]
    omega) (by omega)
  have i12 : I 112 m = zi (offN m) := by
    rw [hC.2 m (by omega)]
    exact offN_b m (by omega)
  have tail : ∀ (x : Int32) (J : fc_I), J = rI I (zi e) t w (zi b) → (if x.toInt = 0 then k31 (zi m + 1) J else if (zi m).toInt < (6 : Int32).toInt then (if (zi m).toInt < (6 : Int32).toInt then k31 (zi m + 1) (fc_wI (fc_wI J 78 45 2) 78 46 (zi m)) else k31 (zi m + 1) (fc_wI (fc_wI J 78 45 2) 78 46 (zi m - 6))) else (if (zi m).toInt < (6 : Int32).toInt then k31 (zi m + 1) (fc_wI (fc_wI J 78 45 4) 78 46 (zi m)) else k31 (zi m + 1) (fc_wI (fc_wI J 78 45 4) 78 46 (zi m - 6)))) = if x.toInt = 0 then k31 (zi (m + 1)) (rI I (zi e) t w (zi b)) else k31 (zi (m + 1)) (wmI I e b m) := fun x J hJ => by
    rw [hJ, zS]
    simp only [rI_w45, rI_w46, k6, zi_int (n := m) (by omega)]
    unfold wmI
    by_cases h0 : x.toInt = 0
    · rw [if_pos h0, if_pos h0]
    · rw [if_neg h0, if_neg h0]
      by_cases c : m < 6
      · rw [if_pos (by omega), if_pos (by omega), if_pos c, if_pos c]
      · rw [if_neg (by omega), if_neg (by omega), if_neg c, if_neg c, z6 (by omega)]
  have wq := weq_iff (T := I 108) (p := b) (len := e - b) (k := m + 1) hL hl
  obtain ⟨x', J', q1, q3⟩ := lpm2_KX (B := f_X11_readWord_75_B (zi m) (zi L) k31) L (by omega) (fun n x J => J = rI I (zi e) t w (zi b) ∧ ((x = 1 ∧ ∀ j, j < n → I 108 (b + j) = (fc_byt.getD (m + 1) []).getD j 0) ∨ (x = 0 ∧ ∃ j, j < n ∧ I 108 (b + j) ≠ (fc_byt.getD (m + 1) []).getD j 0))) (fun x J => (x = 1 ∧ weq (I 108) b (e - b) (m + 1) = true) ∨ (x = 0 ∧ ¬ weq (I 108) b (e - b) (m + 1) = true)) (fun x _ => if x.toInt = 0 then k31 (zi (m + 1)) (rI I (zi e) t w (zi b)) else k31 (zi (m + 1)) (wmI I e b m)) (fun k x i n J hi hn hp => by
    obtain ⟨hJ, hx⟩ := hp
    unfold f_X11_readWord_75_B
    simp only [fq_l]
    rw [if_pos (by rw [zi_int (by omega)]; omega)]
    rcases hx with ⟨x1, h⟩ | ⟨x0, j, hj, h⟩
    · left
      have ea : (zi b + i).toInt = ((b + n : Nat) : Int) := by
        have z1 := zi_int (n := b) (by omega)
        rw [i_add (by omega) (by omega)]
        omega
      have eo : (zi (offN m) + i).toInt = ((offN m + n : Nat) : Int) := by
        have z1 := zi_int (n := offN m) (by omega)
        rw [i_add (by omega) (by omega)]
        omega
      rw [x1, kt_1, if_neg (by omega), hJ]
      simp only [rI_47, rI_T, rI_B, rI_L, zi_cn (n := m) (by omega), i12, cn_eq ea, cn_eq eo]
      rw [fq_gp ⟨by omega, by omega⟩, fq_gp ⟨by rw [zi_int (by omega)]; omega, by rw [zi_int (by omega)]; omega⟩, fq_gp ⟨by omega, by omega⟩, hC.1 (offN m + n) (by omega), lett_b m hm n (by rw [hL]; exact hn)]
      by_cases g : (I 108 (b + n)).toInt = ((fc_byt.getD (m + 1) []).getD n 0).toInt
      · rw [if_pos g]
        refine ⟨_, _, ⟨rfl, Or.inl ⟨rfl, ?_⟩⟩, rfl⟩
        intro j hj
        by_cases ej : j = n
        · rw [ej]
          exact Int32.toInt_inj.mp g
        · exact h j (by omega)
      · rw [if_neg g]
        exact ⟨_, _, ⟨rfl, Or.inr ⟨rfl, n, by omega, fun z => g (by rw [z])⟩⟩, rfl⟩
    · right
      rw [x0, kt_0, if_pos rfl, if_pos rfl]
      refine ⟨Or.inr ⟨rfl, fun z => h (wq.mp z j (by omega))⟩, ?_⟩
      rw [if_pos rfl, hJ, zS]) (fun k x i J hi hp => by
    obtain ⟨hJ, hx⟩ := hp
    refine ⟨?_, ?_⟩
    · rcases hx with ⟨x1, h⟩ | ⟨x0, j, hj, h⟩
      · exact Or.inl ⟨x1, wq.mpr h⟩
      · exact Or.inr ⟨x0, fun z => h (wq.mp z j hj)⟩
    · unfold f_X11_readWord_75_B
      simp only [fq_l]
      rw [if_neg (by rw [zi_int (by omega)]; omega)]
      exact tail x J hJ) 4000 1 0 0 (rI I (zi e) t w (zi b)) kt_0 (by omega) (by omega) ⟨rfl, Or.inl ⟨rfl, fun j hj => absurd hj (by omega)⟩⟩
  show lpm2 (f_X11_readWord_75_B (zi m) (zi L) k31) 4000 1 0 _ = _
  rw [q3]
  rcases q1 with ⟨x1, h⟩ | ⟨x0, h⟩
  · rw [x1, kt_1, if_neg (by omega), if_pos h]
  · rw [x0, kt_0, if_pos rfl, if_neg h]
