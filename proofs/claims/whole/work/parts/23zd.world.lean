set_option maxHeartbeats 4000000 in
set_option maxRecDepth 100000 in
theorem whole_world {p : Program} {s : State} {m : MethodId} {meth : Method} {c : Code} {b L : Nat} {xs : Nat → Int32} (C0 : lw_At p s m meth c b L xs) : ∃ (D : va_G) (β : Nat → ClassId) (ex : Nat → Nat), (∀ (k : Nat) (q : vw_C), fc_cl[k]? = some q → u_Kn s q.1 q.2.1 q.2.2 (D.1 k) (D.2 k)) ∧ (∀ (k : Nat) (q : ClassId × FieldType), (fc_tys β)[k]? = some q → ArrOfT s q.1 q.2 ∧ va_RA s q.1 q.2) ∧ fc_env ex (fun q : Nat => s.heap.size ≤ q) s s.heap ∧ ex 400 = b := by
  obtain ⟨hx, hb, hr, hml, hown, hts, hX, hbl, hlocks, hgv⟩ := id C0
  have hgs := flat_of_before _ hgv
  have htf : ∀ w ∈ fc_tbl, w.before #[Value.ref b] s = true := fun w h => hts w (List.mem_filter.mp h).1
  have hAn : ∀ a : Nat, a < s.heap.size → ¬ (fun q : Nat => s.heap.size ≤ q) a := fun a h => Nat.not_le.mpr h
  obtain ⟨t0, n0, a0⟩ := ar_known (htf _ ac_I)
  obtain ⟨t1, n1, a1⟩ := ar_known (htf _ ac_B)
  obtain ⟨t2, n2, a2⟩ := ar_known (htf _ ac_Z)
  obtain ⟨t3, n3, a3⟩ := ar_known (htf _ ac_C)
  have hov : (Cond.arrayOver (.array .int)).before #[Value.ref b] s = true := hts _ (List.mem_append_right _ (List.mem_append_left _ (List.mem_of_getElem? (i := 127) rfl)))
  obtain ⟨t4, n4, a4⟩ := ao_known hov
  obtain ⟨c0, i0, K0⟩ := u_known (C := RX0) (T := TX0) (N := 9) (n := 9) htf in_X0 (htf (.instantiable RX0 9) (fc_b1 174 rfl rfl))
  obtain ⟨c1, i1, K1⟩ := u_known (C := RX1) (T := TX1) (N := 5) (n := 5) htf in_X1 (htf (.instantiable RX1 5) (fc_b1 93 rfl rfl))
  obtain ⟨c2, i2, K2⟩ := u_known (C := RX2) (T := TX2) (N := 10) (n := 10) htf in_X2 (htf (.instantiable RX2 10) (fc_b2 138 rfl rfl))
  obtain ⟨c3, i3, K3⟩ := u_known (C := RX3) (T := TX3) (N := 8) (n := 8) htf in_X3 (htf (.instantiable RX3 8) (fc_b2 227 rfl rfl))
  obtain ⟨c4, i4, K4⟩ := u_known (C := RX4) (T := TX4) (N := 7) (n := 7) htf in_X4 (htf (.instantiable RX4 7) (fc_b2 198 rfl rfl))
  obtain ⟨c5, i5, K5⟩ := u_known (C := RX5) (T := TX5) (N := 10) (n := 10) htf in_X5 (htf (.instantiable RX5 10) (fc_b1 181 rfl rfl))
  obtain ⟨c6, i6, K6⟩ := u_known (C := RX6) (T := TX6) (N := 6) (n := 6) htf in_X6 (htf (.instantiable RX6 6) (fc_b1 59 rfl rfl))
  obtain ⟨c7, i7, K7⟩ := u_known (C := RX7) (T := TX7) (N := 3) (n := 3) htf in_X7 (htf (.instantiable RX7 3) (fc_b3 23 rfl rfl))
  obtain ⟨c8, i8, K8⟩ := u_known (C := RX8) (T := TX8) (N := 12) (n := 12) htf in_X8 (htf (.instantiable RX8 12) (fc_b1 121 rfl rfl))
  obtain ⟨c9, i9, K9⟩ := u_known (C := RX9) (T := TX9) (N := 4) (n := 4) htf in_X9 (htf (.instantiable RX9 4) (fc_b1 30 rfl rfl))
  obtain ⟨c10, i10, K10⟩ := u_known (C := RX10) (T := TX10) (N := 9) (n := 9) htf in_X10 (htf (.instantiable RX10 9) (fc_b1 22 rfl rfl))
  obtain ⟨c11, i11, K11⟩ := u_known (C := RX11) (T := TX11) (N := 75) (n := 75) htf in_X11 (htf (.instantiable RX11 75) (fc_b4 173 rfl rfl))
  obtain ⟨D, hD⟩ : ∃ D : va_G, ∀ (k : Nat) (q : vw_C), fc_cl[k]? = some q → u_Kn s q.1 q.2.1 q.2.2 (D.1 k) (D.2 k) := by
    refine ⟨(fun k => if k = 0 then c0 else if k = 1 then c1 else if k = 2 then c2 else if k = 3 then c3 else if k = 4 then c4 else if k = 5 then c5 else if k = 6 then c6 else if k = 7 then c7 else if k = 8 then c8 else if k = 9 then c9 else if k = 10 then c10 else c11, fun k => if k = 0 then i0 else if k = 1 then i1 else if k = 2 then i2 else if k = 3 then i3 else if k = 4 then i4 else if k = 5 then i5 else if k = 6 then i6 else if k = 7 then i7 else if k = 8 then i8 else if k = 9 then i9 else if k = 10 then i10 else i11), ?_⟩
    intro k q hq
    match k, hq with
    | 0, hq => cases hq; exact K0
    | 1, hq => cases hq; exact K1
    | 2, hq => cases hq; exact K2
    | 3, hq => cases hq; exact K3
    | 4, hq => cases hq; exact K4
    | 5, hq => cases hq; exact K5
    | 6, hq => cases hq; exact K6
    | 7, hq => cases hq; exact K7
    | 8, hq => cases hq; exact K8
    | 9, hq => cases hq; exact K9
    | 10, hq => cases hq; exact K10
    | 11, hq => cases hq; exact K11
    | k + 12, hq => simp [fc_cl] at hq
  obtain ⟨β, hβ⟩ : ∃ β : Nat → ClassId, ∀ (k : Nat) (q : ClassId × FieldType), (fc_tys β)[k]? = some q → ArrOfT s q.1 q.2 ∧ va_RA s q.1 q.2 := by
    refine ⟨fun k => if k = 0 then t0 else if k = 1 then t1 else if k = 2 then t2 else if k = 3 then t3 else t4, ?_⟩
    intro k q hq
    match k, hq with
    | 0, hq => cases hq; exact ⟨a0, n0⟩
    | 1, hq => cases hq; exact ⟨a1, n1⟩
    | 2, hq => cases hq; exact ⟨a2, n2⟩
    | 3, hq => cases hq; exact ⟨a3, n3⟩
    | 4, hq => cases hq; exact ⟨a4, n4⟩
    | k + 5, hq => simp [fc_tys] at hq
  obtain ⟨adK, adV, hS, hSe⟩ := vk_Sof (args := #[Value.ref b]) (s := s) (N := 12) (tm := tmS) (len := fc_len) (byt := fc_byt) (A := fun q : Nat => s.heap.size ≤ q) (by decide) (fun i hi => hgs _ (sg_ex i hi).1) (fun i hi => hgs _ (sg_ex i hi).2.1) (fun i hi => hgs _ (sg_ex i hi).2.2.1) (fun i hi => hgs _ (sg_ex i hi).2.2.2) (fun i hi j hj => hgs _ (sg_el i hi j hj)) (fun i j hi hj hij => (sg_ne i hi j hj hij).imp (hgs _) (hgs _)) hAn
  obtain ⟨aK, hKe, hKT⟩ := va_Tof (args := #[Value.ref b]) (s := s) (tm := .static "FloodCity" "KIND_ABOVE" "[I") (ty := .int) (N := 6) (f := fun j => .int (fc_kab.getD j 0)) (A := fun q : Nat => s.heap.size ≤ q) (by decide) (hgs _ sg_k.1) (va_eqt (hgs _ sg_k.2.1)) (fun j hj => va_eqt (hgs _ (sg_k.2.2.2.2 j hj))) hAn
  have hKZ := va_Zof (A := fun q : Nat => s.heap.size ≤ q) (hts _ (List.mem_append_right _ (List.mem_append_right _ (List.mem_append_right _ (List.mem_append_right _ (List.mem_append_left _ (List.mem_of_getElem? (i := 150) rfl))))))) (htf _ (fc_b1 1 rfl rfl)) hKe hAn
  have hCZ := va_Zof (A := fun q : Nat => s.heap.size ≤ q) (hts _ (List.mem_append_right _ (List.mem_append_right _ (List.mem_append_left _ (List.mem_of_getElem? (i := 25) rfl))))) (htf _ (fc_b1 9 rfl rfl)) (va_eqi (hgs _ sg_k.2.2.1)) hAn
  have hFZ := va_Zqof (A := fun q : Nat => s.heap.size ≤ q) (hts _ (List.mem_append_right _ (List.mem_append_right _ (List.mem_append_left _ (List.mem_of_getElem? (i := 41) rfl))))) (htf _ (fc_b1 11 rfl rfl)) (hgs _ sg_k.2.2.2.1) hAn
  obtain ⟨aF, hF⟩ : ∃ aF : Nat, va_Z "jdk/internal/util/Preconditions" "SIOOBE_FORMATTER" "Ljava/util/function/BiFunction;" .null (fun q : Nat => s.heap.size ≤ q) s s.heap ∨ va_Z "jdk/internal/util/Preconditions" "SIOOBE_FORMATTER" "Ljava/util/function/BiFunction;" (.ref aF) (fun q : Nat => s.heap.size ≤ q) s s.heap := by
    rcases hFZ with h | ⟨t, h⟩
    · exact ⟨0, Or.inl h⟩
    · exact ⟨t, Or.inr h⟩
  obtain ⟨ex, eK, eV, eA, eF, eB⟩ : ∃ ex : Nat → Nat, (∀ k, k < 12 → ex k = adK k) ∧ (∀ k, k < 12 → ex (200 + k) = adV k) ∧ ex 100 = aK ∧ ex 300 = aF ∧ ex 400 = b := by
    refine ⟨fun k => if k < 12 then adK k else if k < 100 then 0 else if k = 100 then aK else if k < 212 then adV (k - 200) else if k = 300 then aF else b, fun k hk => if_pos hk, fun k hk => ?_, rfl, rfl, rfl⟩
    show (if 200 + k < 12 then _ else if 200 + k < 100 then _ else if 200 + k = 100 then _ else if 200 + k < 212 then adV (200 + k - 200) else _) = adV k
    rw [if_neg (by omega), if_neg (by omega), if_neg (by omega), if_pos (by omega)]
    congr 1
    omega
  have hEnv : fc_env ex (fun q : Nat => s.heap.size ≤ q) s s.heap := by
    refine ⟨⟨fun i hi => ?_, fun i j hi hj q => hS.2 i j hi hj (by rw [← eK i hi, ← eK j hj]; exact q)⟩, ?_, by rw [eA]; exact hKZ, by rw [eA]; exact hKT, hCZ, by rw [eF]; exact hF, ?_, va_Nw.of rfl (hts _ (List.mem_append_right _ (List.mem_append_right _ (List.mem_append_right _ (List.mem_append_right _ (List.mem_append_left _ (List.mem_of_getElem? (i := 149) rfl))))))), over_moved (Vm.Alike.refl _) hov⟩
    · show va_O _ (ex i) _ _ _ ∧ va_OF _ _ _ _ (ex i) _ _ _ ∧ va_OF _ _ _ (.ref (ex (200 + i))) (ex i) _ _ _ ∧ va_T _ (ex (200 + i)) _ _ _ _ _
      rw [eK i hi, eV i hi]
      exact hS.1 i hi
    · intro q hq
      simp only [fc_strs, List.mem_cons, List.not_mem_nil, or_false] at hq
      rcases hq with rfl | rfl | rfl | rfl | rfl | rfl | rfl | rfl | rfl | rfl | rfl | rfl
      · exact vk_R.of (hts _ (List.mem_append_right _ (List.mem_append_right _ (List.mem_append_left _ (List.mem_of_getElem? (i := 11) rfl))))) (by rw [eK 0 (by decide)]; exact hSe 0 (by decide))
      · exact vk_R.of (hts _ (List.mem_append_right _ (List.mem_append_right _ (List.mem_append_left _ (List.mem_of_getElem? (i := 83) rfl))))) (by rw [eK 1 (by decide)]; exact hSe 1 (by decide))
      · exact vk_R.of (hts _ (List.mem_append_right _ (List.mem_append_right _ (List.mem_append_left _ (List.mem_of_getElem? (i := 90) rfl))))) (by rw [eK 2 (by decide)]; exact hSe 2 (by decide))
      · exact vk_R.of (hts _ (List.mem_append_right _ (List.mem_append_right _ (List.mem_append_left _ (List.mem_of_getElem? (i := 91) rfl))))) (by rw [eK 3 (by decide)]; exact hSe 3 (by decide))
      · exact vk_R.of (hts _ (List.mem_append_right _ (List.mem_append_right _ (List.mem_append_left _ (List.mem_of_getElem? (i := 92) rfl))))) (by rw [eK 4 (by decide)]; exact hSe 4 (by decide))
      · exact vk_R.of (hts _ (List.mem_append_right _ (List.mem_append_right _ (List.mem_append_left _ (List.mem_of_getElem? (i := 93) rfl))))) (by rw [eK 5 (by decide)]; exact hSe 5 (by decide))
      · exact vk_R.of (hts _ (List.mem_append_right _ (List.mem_append_right _ (List.mem_append_left _ (List.mem_of_getElem? (i := 94) rfl))))) (by rw [eK 6 (by decide)]; exact hSe 6 (by decide))
      · exact vk_R.of (hts _ (List.mem_append_right _ (List.mem_append_right _ (List.mem_append_left _ (List.mem_of_getElem? (i := 95) rfl))))) (by rw [eK 7 (by decide)]; exact hSe 7 (by decide))
      · exact vk_R.of (hts _ (List.mem_append_right _ (List.mem_append_right _ (List.mem_append_left _ (List.mem_of_getElem? (i := 96) rfl))))) (by rw [eK 8 (by decide)]; exact hSe 8 (by decide))
      · exact vk_R.of (hts _ (List.mem_append_right _ (List.mem_append_right _ (List.mem_append_left _ (List.mem_of_getElem? (i := 97) rfl))))) (by rw [eK 9 (by decide)]; exact hSe 9 (by decide))
      · exact vk_R.of (hts _ (List.mem_append_right _ (List.mem_append_right _ (List.mem_append_left _ (List.mem_of_getElem? (i := 98) rfl))))) (by rw [eK 10 (by decide)]; exact hSe 10 (by decide))
      · exact vk_R.of (hts _ (List.mem_append_right _ (List.mem_append_right _ (List.mem_append_left _ (List.mem_of_getElem? (i := 99) rfl))))) (by rw [eK 11 (by decide)]; exact hSe 11 (by decide))
    · intro q hq
      simp only [fc_nest, List.mem_cons, List.not_mem_nil, or_false] at hq
      rcases hq with rfl | rfl | rfl | rfl | rfl | rfl
      · exact va_Nw.of rfl (hts _ (List.mem_append_right _ (List.mem_append_left _ (List.mem_of_getElem? (i := 60) rfl))))
      · exact va_Nw.of rfl (hts _ (List.mem_append_right _ (List.mem_append_left _ (List.mem_of_getElem? (i := 94) rfl))))
      · exact va_Nw.of rfl (hts _ (List.mem_append_right _ (List.mem_append_left _ (List.mem_of_getElem? (i := 175) rfl))))
      · exact va_Nw.of rfl (hts _ (List.mem_append_right _ (List.mem_append_right _ (List.mem_append_right _ (List.mem_append_left _ (List.mem_of_getElem? (i := 175) rfl))))))
      · exact va_Nw.of rfl (hts _ (List.mem_append_right _ (List.mem_append_right _ (List.mem_append_right _ (List.mem_append_left _ (List.mem_of_getElem? (i := 176) rfl))))))
      · exact va_Nw.of rfl (hts _ (List.mem_append_right _ (List.mem_append_right _ (List.mem_append_right _ (List.mem_append_right _ (List.mem_append_left _ (List.mem_of_getElem? (i := 28) rfl)))))))
  exact ⟨D, β, ex, hD, hβ, hEnv, eB⟩
