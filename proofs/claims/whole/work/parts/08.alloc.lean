/-! ===== makings ===== -/
def fc_zI (I : fc_I) (c : Nat) : fc_I := fun c' k => if c' = c then 0 else I c' k
def fc_zP (P : fc_P) (c : Nat) : fc_P := fun c' k => if c' = c then none else P c' k
def fc_aa (as : Nat → Nat) (n a : Nat) : Nat → Nat := fun c => if c = n then a else as c
theorem fc_aa_ext {as : Nat → Nat} {n a : Nat} : fc_ext n (n + 1) as (fc_aa as n a) := fun c h => by
  unfold fc_aa
  rw [if_neg (by omega)]
theorem fc_map_aa {P : fc_P} {sh : fc_Sh} {as : Nat → Nat} {a i j : Nat} (hok : fc_ok sh P) : (P i j).map (fc_aa as sh.length a) = (P i j).map as := by
  cases hp : P i j with
  | none => rfl
  | some v =>
    have := hok.2 i j v hp
    simp [fc_aa, Nat.ne_of_lt this]
theorem fc_w_push {β : Nat → ClassId} {as : Nat → Nat} {sh : fc_Sh} {I : fc_I} {P : fc_P} {a : Nat} {q : Nat × Nat} (hok : fc_ok sh P) : fc_w β (fc_aa as sh.length a) (sh ++ [q]) (fc_zI I sh.length) (fc_zP P sh.length) = fc_w β as sh I P ++ [(a, fc_cell β (fc_aa as sh.length a) (fc_zI I sh.length) (fc_zP P sh.length) sh.length q)] := by
  apply List.ext_getElem?
  intro i
  unfold fc_w
  rw [List.mapIdx_append]
  by_cases hi : i < sh.length
  · rw [List.getElem?_append_left (by simpa using hi), List.getElem?_append_left (by simpa using hi)]
    simp only [List.getElem?_mapIdx]
    cases hs : sh[i]? with
    | none => rfl
    | some r =>
      have hne : i ≠ sh.length := Nat.ne_of_lt hi
      have eI : fc_zI I sh.length i = I i := by funext k; simp [fc_zI, hne]
      have eP : ∀ j, fc_zP P sh.length i j = P i j := fun j => by simp [fc_zP, hne]
      have ea : fc_aa as sh.length a i = as i := by simp [fc_aa, hne]
      simp only [Option.map_some, Option.some.injEq, Prod.mk.injEq, ea, true_and]
      unfold fc_cell fc_fv
      simp only [eI, eP, fc_map_aa hok]
  · rw [List.getElem?_append_right (by simpa using hi), List.getElem?_append_right (by simpa using hi)]
    simp [fc_aa]
theorem fc_ok_push {sh : fc_Sh} {P : fc_P} {q : Nat × Nat} (hok : fc_ok sh P) (h : sh.length < 1000) : fc_ok (sh ++ [q]) (fc_zP P sh.length) := by
  refine ⟨by simp; omega, fun c j v hv => ?_⟩
  unfold fc_zP at hv
  split at hv
  · cases hv
  · have := hok.2 c j v hv
    simp
    omega
section ALLOC
variable {m : fc_MI} {d nb zb pc : Nat} {ls : List (Option Value)} {st : List Value} {sh : fc_Sh} {I : fc_I} {P : fc_P} {Q : fc_Q}
set_option maxHeartbeats 4000000 in
theorem ft_new {ci idx : Nat} {q : vw_C} (hcq : fc_cl[ci]? = some q) (hw : Cond.classLink m.1.cls idx q.1 ∈ fc_tbl ∧ Cond.instantiable q.1 q.2.2 ∈ fc_tbl ∧ Cond.initialized q.1 ∈ fc_tbl) (hty : ∀ j, j < q.2.2 → fc_ty ci j = .int ∨ fc_isR (fc_ty ci j) = true) (hks : fc_oks sh.length ls st = true) (hlen : sh.length < 1000) (hd : decode m.2.1 pc = .ok (.new idx, 3)) (kk : fc_T m d nb zb (pc + 3) ls ([.ref sh.length] ++ st) (sh ++ [(10 + ci, q.2.2)]) (fc_zI I sh.length) (fc_zP P sh.length) Q) : fc_T m d (nb + 1) (zb + q.2.2) pc ls st sh I P Q := fun p l e R s mm args below meth cd β D A as H locs cells slots Nt Zt lsA QF C hb h1 hW hS hl hF => by
  obtain ⟨hx, hbb, hml, hown, hts, hnm, hfr, hlo, hA, hE, hscr⟩ := id C
  obtain ⟨C0, T0, N0⟩ := q
  refine va_new (ci := ci) (fs := (List.range N0).map (fun k => fc_fv as (fc_zI I sh.length) (fc_zP P sh.length) sh.length ci k)) hx hbb hts (fc_in ci _ hcq) (fc_ty ci) (fc_nm ci _ hcq).2 hown (hts _ hw.1) (hts _ hw.2.1) (hts _ hw.2.2) hW.2.2 hW.1 hW.2.1 hS hA hcq ?_ (by omega) (by show slots + N0 ≤ _; have h2 : slots + (zb + N0) ≤ Zt := hb.2.1; omega) hd (fun a H1 hP1 hD1 hS1 => ?_)
  · intro j hj
    have hj : j < N0 := hj
    have ev : vp_V ((List.range N0).map (fun k => fc_fv as (fc_zI I sh.length) (fc_zP P sh.length) sh.length ci k)) j = fc_fv as (fc_zI I sh.length) (fc_zP P sh.length) sh.length ci j := by
      simp [vp_V, hj]
    rw [ev]
    rcases hty j hj with h | h
    · simp [fc_fv, h, fc_isR, fc_zI, defaultValue]
    · unfold fc_fv
      rw [if_pos h]
      generalize fc_ty ci j = t at h
      cases t <;> first | (simp [fc_isR] at h; done) | simp [fc_zP, va_rf, defaultValue]
  · have ec : (Sum.inr (ci, (List.range N0).map (fun k => fc_fv as (fc_zI I sh.length) (fc_zP P sh.length) sh.length ci k)) : va_E) = fc_cell β (fc_aa as sh.length a) (fc_zI I sh.length) (fc_zP P sh.length) sh.length (10 + ci, N0) := by
      rw [fc_cell_o]
      simp [fc_fv, fc_zP]
    rw [ec, ← fc_w_push h1] at hP1 hD1
    have h2 : slots + (zb + N0) ≤ Zt := hb.2.1
    have hg := fc_go (ls := ls) (st := st) (sh := sh) (vs := [.ref sh.length]) (nb := nb) (zb := zb) (cells1 := cells + 1) (slots1 := slots + N0) (as' := fc_aa as sh.length a) C ⟨by omega, by omega, hb.2.2.1, hb.2.2.2⟩ (by simp) (fc_ok_push h1 hlen) (by rw [List.length_append]; exact fc_aa_ext) hks ⟨hP1, hD1, hW.2.2⟩ hS1 hl hF kk
    have ev : [Value.ref sh.length].map (fc_cv (fc_aa as sh.length a)) = [.ref a] := by simp [fc_cv, fc_aa]
    rw [ev] at hg
    exact hg
set_option maxHeartbeats 4000000 in
theorem fc_newarr {t N : Nat} {atype : ArrayType} {ty : FieldType} {n : Int32} (hty : newarray.typeOf atype = ty) (ht : t < 4) (htt : ∀ β, (fc_tys β)[t]? = some (β t, ty)) (hRA : ∀ (U : State) (cA : ClassId), va_RA U cA ty → U.vm.findClass ("[" ++ ty.toString) = some cA) (hdv : defaultValue ty = .int 0) (hw : Cond.arrayClass ty ∈ fc_tbl) (hn : ¬ n < 0) (hN : n.toNatClampNeg = N) (hbytes : N * componentBytes ty ≤ 536870912) (hks : fc_oks sh.length ls st = true) (hlen : sh.length < 1000) (hd : decode m.2.1 pc = .ok (.newarray atype, 2)) (kk : fc_T m d nb zb (pc + 2) ls ([.ref sh.length] ++ st) (sh ++ [(t, N)]) (fc_zI I sh.length) (fc_zP P sh.length) Q) : fc_T m d (nb + 1) (zb + N) pc ls (.int n :: st) sh I P Q := fun p l e R s mm args below meth cd β D A as H locs cells slots Nt Zt lsA QF C hb h1 hW hS hl hF => by
  obtain ⟨hx, hbb, hml, hown, hts, hnm, hfr, hlo, hA, hE, hscr⟩ := id C
  refine va_newa (atype := atype) (a0 := (N, .inl (fun _ => 0))) hx hbb (by rw [hty]; exact hts _ hw) hty hW.2.2 hW.1 hW.2.1 hS hA (fun cA => by rw [hdv]; rfl) hn hN hbytes (by omega) (by omega) hd (fun a cA H1 hK1 hP1 hD1 hS1 => ?_)
  have e0 : cA = β t := by
    have h5 := (hK1.2 5 (cA, ty) rfl).2
    have h6 := (hW.2.2.2 t (β t, ty) (htt β)).2
    exact Option.some.inj ((hRA _ _ h5).symm.trans (hRA _ _ h6))
  subst e0
  have ec : (Sum.inl (β t, N, Sum.inl (fun _ => 0)) : va_E) = fc_cell β (fc_aa as sh.length a) (fc_zI I sh.length) (fc_zP P sh.length) sh.length (t, N) := by
    rw [fc_cell_a ht, show fc_zI I sh.length sh.length = fun _ => 0 from funext fun k => by simp [fc_zI]]
  rw [ec, ← fc_w_push h1] at hP1 hD1
  have hg := fc_go (ls := ls) (st := st) (sh := sh) (vs := [.ref sh.length]) (nb := nb) (zb := zb) (cells1 := cells + 1) (slots1 := slots + N) (as' := fc_aa as sh.length a) C ⟨by omega, by omega, hb.2.2.1, hb.2.2.2⟩ (by simp) (fc_ok_push h1 hlen) (by rw [List.length_append]; exact fc_aa_ext) hks ⟨hP1, hD1, hW.2.2⟩ hS1 hl hF kk
  have ev : [Value.ref sh.length].map (fc_cv (fc_aa as sh.length a)) = [.ref a] := by simp [fc_cv, fc_aa]
  rw [ev] at hg
  exact hg
theorem ft_newI {N : Nat} {n : Int32} (hw : Cond.arrayClass .int ∈ fc_tbl) (hn : ¬ n < 0) (hN : n.toNatClampNeg = N) (hbytes : N ≤ 100000) (hks : fc_oks sh.length ls st = true) (hlen : sh.length < 1000) (hd : decode m.2.1 pc = .ok (.newarray .int, 2)) (kk : fc_T m d nb zb (pc + 2) ls ([.ref sh.length] ++ st) (sh ++ [(0, N)]) (fc_zI I sh.length) (fc_zP P sh.length) Q) : fc_T m d (nb + 1) (zb + N) pc ls (.int n :: st) sh I P Q := fc_newarr (atype := .int) (t := 0) rfl (by decide) (fun _ => rfl) (fun _ _ h => h) rfl hw hn hN (by show N * 4 ≤ _; omega) hks hlen hd kk
theorem ft_newB {N : Nat} {n : Int32} (hw : Cond.arrayClass .byte ∈ fc_tbl) (hn : ¬ n < 0) (hN : n.toNatClampNeg = N) (hbytes : N ≤ 100000) (hks : fc_oks sh.length ls st = true) (hlen : sh.length < 1000) (hd : decode m.2.1 pc = .ok (.newarray .byte, 2)) (kk : fc_T m d nb zb (pc + 2) ls ([.ref sh.length] ++ st) (sh ++ [(1, N)]) (fc_zI I sh.length) (fc_zP P sh.length) Q) : fc_T m d (nb + 1) (zb + N) pc ls (.int n :: st) sh I P Q := fc_newarr (atype := .byte) (t := 1) rfl (by decide) (fun _ => rfl) (fun _ _ h => h) rfl hw hn hN (by show N * 1 ≤ _; omega) hks hlen hd kk
theorem ft_newZ {N : Nat} {n : Int32} (hw : Cond.arrayClass .boolean ∈ fc_tbl) (hn : ¬ n < 0) (hN : n.toNatClampNeg = N) (hbytes : N ≤ 100000) (hks : fc_oks sh.length ls st = true) (hlen : sh.length < 1000) (hd : decode m.2.1 pc = .ok (.newarray .boolean, 2)) (kk : fc_T m d nb zb (pc + 2) ls ([.ref sh.length] ++ st) (sh ++ [(2, N)]) (fc_zI I sh.length) (fc_zP P sh.length) Q) : fc_T m d (nb + 1) (zb + N) pc ls (.int n :: st) sh I P Q := fc_newarr (atype := .boolean) (t := 2) rfl (by decide) (fun _ => rfl) (fun _ _ h => h) rfl hw hn hN (by show N * 1 ≤ _; omega) hks hlen hd kk
theorem ft_newC {N : Nat} {n : Int32} (hw : Cond.arrayClass .char ∈ fc_tbl) (hn : ¬ n < 0) (hN : n.toNatClampNeg = N) (hbytes : N ≤ 100000) (hks : fc_oks sh.length ls st = true) (hlen : sh.length < 1000) (hd : decode m.2.1 pc = .ok (.newarray .char, 2)) (kk : fc_T m d nb zb (pc + 2) ls ([.ref sh.length] ++ st) (sh ++ [(3, N)]) (fc_zI I sh.length) (fc_zP P sh.length) Q) : fc_T m d (nb + 1) (zb + N) pc ls (.int n :: st) sh I P Q := fc_newarr (atype := .char) (t := 3) rfl (by decide) (fun _ => rfl) (fun _ _ h => h) rfl hw hn hN (by show N * 2 ≤ _; omega) hks hlen hd kk
def fc_mI (I : fc_I) (n N : Nat) : fc_I := fun c k => if n ≤ c ∧ c < n + 1 + N then 0 else I c k
def fc_mP (P : fc_P) (n N : Nat) : fc_P := fun c j => if c = n then (if j < N then some (n + 1 + j) else none) else if n < c ∧ c < n + 1 + N then none else P c j
def fc_ma (as : Nat → Nat) (n N a : Nat) (r : Nat → Nat) : Nat → Nat := fun c => if c = n then a else if n < c ∧ c < n + 1 + N then r (c - (n + 1)) else as c
theorem fc_ma_ext {as : Nat → Nat} {n N a : Nat} {r : Nat → Nat} : fc_ext n (n + (N + 1)) as (fc_ma as n N a r) := fun c h => by
  unfold fc_ma
  rw [if_neg (by omega), if_neg (by omega)]
theorem fc_w_mna {β : Nat → ClassId} {as : Nat → Nat} {sh : fc_Sh} {I : fc_I} {P : fc_P} {a N K : Nat} {r : Nat → Nat} (hok : fc_ok sh P) : fc_w β (fc_ma as sh.length N a r) (sh ++ ((4, N) :: List.replicate N (0, K))) (fc_mI I sh.length N) (fc_mP P sh.length N) = (fc_w β as sh I P ++ [(a, .inl (β 4, N, .inr (.inr (.inr (.inr (fun i => if i < N then some (r i) else none))))))]) ++ (List.range N).map (fun i => (r i, .inl (β 0, K, .inl (fun _ => 0)))) := by
  apply List.ext_getElem?
  intro i
  rw [List.append_assoc]
  unfold fc_w
  rw [List.mapIdx_append]
  by_cases hi : i < sh.length
  · rw [List.getElem?_append_left (by simpa using hi), List.getElem?_append_left (by simpa using hi)]
    simp only [List.getElem?_mapIdx]
    cases hs : sh[i]? with
    | none => rfl
    | some q =>
      have hne : i ≠ sh.length := Nat.ne_of_lt hi
      have eI : fc_mI I sh.length N i = I i := by funext k; unfold fc_mI; rw [if_neg (by omega)]
      have eP : ∀ j, fc_mP P sh.length N i j = P i j := fun j => by unfold fc_mP; rw [if_neg hne, if_neg (by omega)]
      have ea : fc_ma as sh.length N a r i = as i := by unfold fc_ma; rw [if_neg hne, if_neg (by omega)]
      have em : ∀ j, (P i j).map (fc_ma as sh.length N a r) = (P i j).map as := fun j => by
        cases hp : P i j with
        | none => rfl
        | some v =>
          have hv := hok.2 i j v hp
          simp only [Option.map_some, Option.some.injEq]
          unfold fc_ma
          rw [if_neg (by omega), if_neg (by omega)]
      simp only [Option.map_some, Option.some.injEq, Prod.mk.injEq, ea, true_and]
      unfold fc_cell fc_fv
      simp only [eI, eP, em]
  · rw [List.getElem?_append_right (by simpa using hi), List.getElem?_append_right (by simpa using hi)]
    simp only [List.length_mapIdx]
    obtain ⟨j, rfl⟩ : ∃ j, i = sh.length + j := ⟨i - sh.length, by omega⟩
    rw [show sh.length + j - sh.length = j by omega]
    match j with
    | 0 =>
      simp only [List.mapIdx_cons, List.getElem?_cons_zero, Nat.zero_add, List.singleton_append]
      rw [fc_cell_r]
      simp only [Option.some.injEq, Prod.mk.injEq]
      refine ⟨by simp [fc_ma], ?_⟩
      have ef : (fun j => Option.map (fc_ma as sh.length N a r) (fc_mP P sh.length N sh.length j)) = (fun i => if i < N then some (r i) else none) := funext fun j => by
        simp only [fc_mP, if_true]
        by_cases hj : j < N
        · rw [if_pos hj, if_pos hj]
          simp only [Option.map_some, Option.some.injEq]
          unfold fc_ma
          rw [if_neg (by omega), if_pos (by omega)]
          congr 1
          omega
        · rw [if_neg hj, if_neg hj]; rfl
      rw [ef]
    | j + 1 =>
      simp only [List.mapIdx_cons, List.getElem?_cons_succ, List.singleton_append, List.getElem?_mapIdx, List.getElem?_map]
      by_cases hj : j < N
      · rw [List.getElem?_replicate, if_pos hj, List.getElem?_range hj]
        simp only [Option.map_some, Option.some.injEq, Prod.mk.injEq]
        rw [fc_cell_a (by decide)]
        refine ⟨?_, ?_⟩
        · unfold fc_ma
          rw [if_neg (by omega), if_pos (by omega)]
          congr 1
          omega
        · have ef : fc_mI I sh.length N (j + 1 + sh.length) = fun _ => 0 := funext fun k => by
            unfold fc_mI
            rw [if_pos (by omega)]
          rw [ef]
      · rw [List.getElem?_replicate, if_neg hj, List.getElem?_eq_none (by simpa using hj)]
        rfl
theorem fc_ok_mna {sh : fc_Sh} {P : fc_P} {N K : Nat} (hok : fc_ok sh P) (h : sh.length + N < 1000) : fc_ok (sh ++ ((4, N) :: List.replicate N (0, K))) (fc_mP P sh.length N) := by
  refine ⟨by simp; omega, fun c j v hv => ?_⟩
  unfold fc_mP at hv
  simp only [List.length_append, List.length_cons, List.length_replicate]
  split at hv
  · split at hv
    · cases hv; omega
    · cases hv
  · split at hv
    · cases hv
    · have := hok.2 c j v hv
      omega
set_option maxHeartbeats 4000000 in
theorem ft_mna {N K idx : Nat} {n k : Int32} (hw : Cond.classLink m.1.cls idx "[[I" ∈ fc_tbl ∧ Cond.arrayClass .int ∈ fc_tbl) (hn : ¬ n < 0) (hk : ¬ k < 0) (hN : n.toNatClampNeg = N) (hK : k.toNatClampNeg = K) (h2 : N ≤ 1000 ∧ K ≤ 1000) (hks : fc_oks sh.length ls st = true) (hlen : sh.length + N < 1000) (hd : decode m.2.1 pc = .ok (.multianewarray idx 2, 4)) (kk : fc_T m d nb zb (pc + 4) ls ([.ref sh.length] ++ st) (sh ++ ((4, N) :: List.replicate N (0, K))) (fc_mI I sh.length N) (fc_mP P sh.length N) Q) : fc_T m d (nb + (N + 1)) (zb + (N + N * K)) pc ls (.int k :: .int n :: st) sh I P Q := fun p l e R s mm args below meth cd β D A as H locs cells slots Nt Zt lsA QF C hb h1 hW hS hl hF => by
  obtain ⟨hx, hbb, hml, hown, hts, hnm, hfr, hlo, hA, hE, hscr⟩ := id C
  have hb2 : slots + (zb + (N + N * K)) ≤ Zt := hb.2.1
  have hcy : s.vm.findClass (FieldType.array .int).toString = some (β 0) := (hW.2.2.2 0 _ rfl).2
  have eX : fc_w β as sh I P = fc_w β as sh I P ++ va_pl [] (fun _ => .inr (0, [])) := by simp [va_pl]
  have hP0 := hW.1
  have hD0 := hW.2.1
  rw [eX] at hP0 hD0
  refine va_mna (ty := .int) (cy := β 0) (z := (K, .inl (fun _ => 0))) hx hbb hown (hts _ hw.1) (over_moved (Vm.Alike.refl _) hE.2.2.2.2.2.2.2.2) (hts _ hw.2) hcy hW.2.2 hP0 hD0 hS hA hn hk hN hK (by omega) (by show K * 4 ≤ _; omega) (by omega) rfl rfl (by omega) (by omega) (fun cA => ?_) hd (fun a r cA H1 hr1 hr2 hK1 hP1 hD1 hS1 => ?_)
  · show ({ cls := cA, slots := Array.replicate K (Value.int 0), vm := .none } : Cell) = arrV cA K (fun _ => .int 0)
    rw [arrV_new]
  · have e0 : cA = β 4 := by
      have h5 := (hK1.2 5 (cA, .array .int) rfl).2
      have h6 := (hW.2.2.2 4 (β 4, .array .int) rfl).2
      have h5 : s.vm.findClass ("[" ++ (FieldType.array .int).toString) = some cA := h5
      have h6 : s.vm.findClass ("[" ++ (FieldType.array .int).toString) = some (β 4) := h6
      exact Option.some.inj (h5.symm.trans h6)
    subst e0
    have er : va_pl ([] ++ (List.range N).map r) (vr_up (fun _ => .inr (0, [])) ((List.range N).map r) (.inl (β 0, K, .inl (fun _ => 0)))) = (List.range N).map (fun i => (r i, (.inl (β 0, K, .inl (fun _ => 0)) : va_E))) := by
      unfold va_pl
      rw [List.nil_append, List.map_map]
      apply List.map_congr_left
      intro i hi
      simp only [Function.comp, Prod.mk.injEq, true_and]
      exact vr_up_in (List.mem_map.mpr ⟨i, hi, rfl⟩)
    rw [er, ← fc_w_mna h1] at hP1 hD1
    have hg := fc_go (ls := ls) (st := st) (sh := sh) (vs := [.ref sh.length]) (nb := nb) (zb := zb) (cells1 := cells + 1 + N) (slots1 := slots + N + N * K) (as' := fc_ma as sh.length N a r) C ⟨by omega, by omega, hb.2.2.1, hb.2.2.2⟩ (by simp) (fc_ok_mna h1 hlen) (by simp only [List.length_append, List.length_cons, List.length_replicate]; exact fc_ma_ext) hks ⟨hP1, hD1, hW.2.2⟩ hS1 hl hF kk
    have ev : [Value.ref sh.length].map (fc_cv (fc_ma as sh.length N a r)) = [.ref a] := by simp [fc_cv, fc_ma]
    rw [ev] at hg
    exact hg
end ALLOC
