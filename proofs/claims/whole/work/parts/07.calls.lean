/-! ===== calls ===== -/
theorem fc_blind {β : Nat → ClassId} {D : va_G} {as : Nat → Nat} {av : List Value} {sh : fc_Sh} {I : fc_I} {P : fc_P} {sz : Nat} : FrameBlind (fc_Pc β D as av sh I P sz) := fun a U g mk q => ⟨q.1, q.2.1, fc_W.alike (u := U) (U := U.calling g mk a) (Vm.Alike.refl U.vm) q.2.2.1, q.2.2.2.same rfl⟩
set_option maxHeartbeats 4000000 in
theorem fc_back {p : Program} {l : Launch} {e : Env} {R : Room} {s : State} {mm : MethodId} {args : Array Value} {below : List Frame} {meth : Method} {c : Code} {H : Heap} {locs : List Loc} {cells slots mc ms pc n : Nat} {lsA : Array Slot} {st0 rest : List Value} {free A1 A : Nat → Prop} {QF : State → Prop} {β : Nat → ClassId} {D : va_G} {as : Nat → Nat} {Q' : fc_Q} {a : Array Value}
    (hr : va_Run p l e R s mm args below meth c H locs cells slots mc ms (F0 mm pc lsA st0) rest (fc_Qc β D as n A1 Q' a) free) (hS : va_S A s.heap H locs) (hA : ∀ q, A1 q → A q) (hf : ∀ q, free q → A q)
    (kk : ∀ (v : Option Value) (sh' : fc_Sh) (I' : fc_I) (P' : fc_P) (as' : Nat → Nat) (H1 : Heap) (locs1 : List Loc), Q' v sh' I' P' → n ≤ sh'.length → fc_ok sh' P' → fc_ext n sh'.length as as' → fc_W β D A as' sh' I' P' s H1 → va_S A s.heap H1 locs1 → W p l e R s mm args below meth c H1 locs1 (cells + mc) (slots + ms) QF (F0 mm (pc + 3) lsA ((v.map (fc_cv as')).toList ++ rest))) : W p l e R s mm args below meth c H locs cells slots QF (F0 mm pc lsA st0) := by
  intro T hT X
  obtain ⟨v, st₀, t, T', L, h0, X', hL, e1, e2, ⟨⟨v', sh', I', P', as', ho, hq, hn, hok, hx, hW1⟩, hz, hk⟩, st⟩ := hr T hT X
  cases ho
  rw [h0] at hz hk
  have hal : s.vm.Alike t.vm := by rw [← e2]; exact X'.warmed.alike
  obtain ⟨t2, a1, b1⟩ := kk v' sh' I' P' as' T'.heap (locs ++ L) hq hn hok hx (by rw [e1]; exact (hW1.weak hA).alike hal.symm)
    ⟨Nat.le_trans hS.1 (by rw [e1]; exact hz), fun q h1 h2 => by rw [e1, hk q (Nat.lt_of_lt_of_le h1 hS.1) (fun z => h2 (hA q z))]; exact hS.2.1 q h1 h2, fun q hq => by
      rcases List.mem_append.mp hq with h | h
      · exact hS.2.2 q h
      · exact hf _ (hL q h)⟩ T' rfl X'
  exact ⟨t2, st t2 a1, b1⟩
/-- what the tables say of a method -/
def fc_mf (m : fc_MI) (n : Nat) : Prop := Cond.initialized m.1.cls ∈ fc_tbl ∧ Cond.code m.1 m.2.1 m.2.2.1 m.2.2.2.1 ∈ fc_tbl ∧ (m.1.cls ≠ "java/lang/invoke/MethodHandle" ∧ m.1.cls ≠ "java/lang/invoke/VarHandle" ∧ (parseMethodDescriptor m.1.desc).map (fun d => d.parameters.length) = some n) ∧ m.2.2.1 ≤ 45
theorem fc_goodC {m : fc_MI} {n : Nat} (h : fc_mf m n) : GoodIn fc_tbl (Cond.code m.1 m.2.1 m.2.2.1 m.2.2.2.1 :: fc_tbl) := fun w hw => by
  rcases List.mem_cons.mp hw with rfl | hw
  · exact fc_good _ h.2.1
  · exact fc_good _ hw
def fc_cfV (own : String) (idx : Nat) (m : fc_MI) (ci n : Nat) : Prop := Cond.methodLink own idx m.1 ∈ fc_tbl ∧ fc_mf m n ∧ Cond.instanceMethod m.1 ∈ fc_tbl ∧ Cond.selects m.1.cls m.1 m.1 ∈ fc_tbl ∧ (fc_cl[ci]?).map (fun q => q.1) = some m.1.cls
def fc_cfVS (own : String) (idx : Nat) (m : fc_MI) (n : Nat) : Prop := Cond.methodLink own idx m.1 ∈ fc_tbl ∧ fc_mf m n ∧ Cond.instanceMethod m.1 ∈ fc_tbl ∧ Cond.selects m.1.cls m.1 m.1 ∈ fc_tbl ∧ m.1.cls = "java/lang/String"
def fc_cfS (own : String) (idx : Nat) (m : fc_MI) (n : Nat) : Prop := Cond.methodLink own idx m.1 ∈ fc_tbl ∧ fc_mf m n ∧ Cond.static m.1 ∈ fc_tbl
def fc_cfI (own : String) (idx : Nat) (m : fc_MI) (n : Nat) : Prop := Cond.methodLink own idx m.1 ∈ fc_tbl ∧ fc_mf m n ∧ m.1.name = "<init>" ∧ m.2.2.2.1 = none ∧ Cond.instanceMethod m.1 ∈ fc_tbl
def fc_cfSN (own : String) (idx : Nat) (m : fc_MI) (host : String) (n : Nat) : Prop := (own, idx, m.1, host) ∈ fc_nest ∧ fc_mf m n ∧ Cond.static m.1 ∈ fc_tbl
def fc_cfIN (own : String) (idx : Nat) (m : fc_MI) (host : String) (n : Nat) : Prop := (own, idx, m.1, host) ∈ fc_nest ∧ fc_mf m n ∧ m.1.name = "<init>" ∧ m.2.2.2.1 = none ∧ Cond.instanceMethod m.1 ∈ fc_tbl
theorem fc_Pcs {β : Nat → ClassId} {D : va_G} {A : Nat → Prop} {as : Nat → Nat} {av : List Value} {sh : fc_Sh} {I : fc_I} {P : fc_P} {s : State} {H : Heap} {locs : List Loc} (hW : fc_W β D A as sh I P s H) (hS : va_S A s.heap H locs) (hA : ∀ q, s.heap.size ≤ q → A q) (hE : fc_env (fc_ex as) A s s.heap) : ∀ U : State, U.heap = H → s.WarmedH U.vm → fc_Pc β D as av sh I P H.size (av.map (fc_cv as)).toArray U := fun U hU hw => ⟨rfl, by rw [hU], by rw [hU]; exact (hW.weak (fun _ _ => trivial)).alike hw.alike, hE.to (fc_own hW hS hA) hS hU hw⟩
section CALLS
variable {m m' : fc_MI} {d nb zb nb' zb' pc idx n : Nat} {ls : List (Option Value)} {st As : List Value} {sh : fc_Sh} {I : fc_I} {P : fc_P} {Q Q' : fc_Q}


/-- the values that are held lead to cells that are there -/
def fc_okv (n : Nat) (v : Value) : Bool := match v with
  | .ref c => decide (c < n) || decide (1000 ≤ c)
  | _ => true
def fc_oks (n : Nat) (ls : List (Option Value)) (st : List Value) : Bool := ls.all (fun o => match o with | some v => fc_okv n v | none => true) && st.all (fc_okv n)
theorem fc_cv_ext {n n' : Nat} {as as' : Nat → Nat} (h : fc_ext n n' as as') (hn : n' ≤ 1000) {v : Value} (hv : fc_okv n v = true) : fc_cv as' v = fc_cv as v := by
  cases v with
  | ref c =>
    simp only [fc_okv, Bool.or_eq_true, decide_eq_true_eq] at hv
    show Value.ref (as' c) = Value.ref (as c)
    have hq : ¬ (n ≤ c ∧ c < n') := by
      rcases hv with hv | hv
      · exact fun z => Nat.not_lt.mpr z.1 hv
      · exact fun z => Nat.not_lt.mpr (Nat.le_trans hn hv) z.2
    rw [h c hq]
  | _ => rfl
theorem fc_st_ext {n n' : Nat} {as as' : Nat → Nat} (h : fc_ext n n' as as') (hn : n' ≤ 1000) {ls : List (Option Value)} {st : List Value} (hk : fc_oks n ls st = true) : st.map (fc_cv as') = st.map (fc_cv as) := by
  simp only [fc_oks, Bool.and_eq_true, List.all_eq_true] at hk
  exact List.map_congr_left (fun v hv => fc_cv_ext h hn (hk.2 v hv))
theorem fc_ls_ext {n n' : Nat} {as as' : Nat → Nat} (h : fc_ext n n' as as') (hn : n' ≤ 1000) {ls : List (Option Value)} {st : List Value} (hk : fc_oks n ls st = true) {a : Array Slot} {nL : Nat} (hl : lv_has a nL (fc_lv as ls)) : lv_has a nL (fc_lv as' ls) := by
  simp only [fc_oks, Bool.and_eq_true, List.all_eq_true] at hk
  refine ⟨hl.1, hl.2.1, fun x hx => ?_⟩
  obtain ⟨v, h1, h2⟩ := fc_lv_of hx
  have h3 := hl.2.2 _ (fc_lv_mem (as := as) h1)
  rw [h2, fc_cv_ext h hn (hk.1 (some v) (List.mem_of_getElem? h1))]
  exact h3
theorem fc_ex_ext {n n' : Nat} {as as' : Nat → Nat} (h : fc_ext n n' as as') (hn : n' ≤ 1000) : fc_ex as' = fc_ex as := funext fun k => h (1000 + k) (by omega)
/-- the walk goes on behind a call or a making -/
theorem fc_go {p : Program} {l : Launch} {e : Env} {R : Room} {s : State} {mm : MethodId} {args : Array Value} {below : List Frame} {meth : Method} {cd : Code} {β : Nat → ClassId} {D : va_G} {A : Nat → Prop} {as as' : Nat → Nat} {H1 : Heap} {locs1 : List Loc} {cells1 slots1 Nt Zt d1 : Nat} {lsA : Array Slot} {QF : State → Prop} {sh' : fc_Sh} {I' : fc_I} {P' : fc_P} {vs : List Value}
    (C : fc_Ctx m d1 p R s mm args meth cd A (fc_ex as)) (hb : cells1 + nb ≤ Nt ∧ slots1 + zb ≤ Zt ∧ Nt ≤ R.cells ∧ Zt ≤ R.slots) (hn : sh.length ≤ sh'.length) (hok : fc_ok sh' P') (hex : fc_ext sh.length sh'.length as as') (hks : fc_oks sh.length ls st = true) (hW1 : fc_W β D A as' sh' I' P' s H1) (hS1 : va_S A s.heap H1 locs1) (hl : lv_has lsA m.2.2.1 (fc_lv as ls))
    (hF : ∀ (pc' : Nat) (lsA' : Array Slot) (v : Option Value) (sh'' : fc_Sh) (I' : fc_I) (P' : fc_P) (as' : Nat → Nat) (H' : Heap) (locs' : List Loc) (cells' slots' : Nat), fc_isRet m pc' v → Q v sh'' I' P' → sh.length ≤ sh''.length → fc_ok sh'' P' → fc_ext sh.length sh''.length as as' → cells' ≤ Nt → slots' ≤ Zt → fc_W β D A as' sh'' I' P' s H' → va_S A s.heap H' locs' → W p l e R s mm args below meth cd H' locs' cells' slots' QF (F0 mm pc' lsA' (v.toList.map (fc_cv as'))))
    (k : fc_T m d1 nb zb pc ls (vs ++ st) sh' I' P' Q) : W p l e R s mm args below meth cd H1 locs1 cells1 slots1 QF (F0 mm pc lsA (vs.map (fc_cv as') ++ st.map (fc_cv as))) := by
  have e1 := fc_ex_ext hex hok.1
  have e2 := fc_st_ext hex hok.1 hks
  have h := k p l e R s mm args below meth cd β D A as' H1 locs1 cells1 slots1 Nt Zt lsA QF (by rw [e1]; exact C) hb hok hW1 hS1 (fc_ls_ext hex hok.1 hks hl) (fun pc' lsA' v sh'' I'' P'' as'' H' locs' cells' slots' hr hQ hn2 hok2 hx2 hc2 hs2 hW2 hS2 => hF pc' lsA' v sh'' I'' P'' as'' H' locs' cells' slots' hr hQ (Nat.le_trans hn hn2) hok2 (hex.tr hx2 hn hn2) hc2 hs2 hW2 hS2)
  rw [List.map_append, e2] at h
  exact h
theorem fc_oks_any {n : Nat} : True := trivial

set_option maxHeartbeats 4000000 in
theorem fc_callV {ci N b : Nat} (hc : fc_cfV m.1.cls idx m' ci n) (hs : sh[b]? = some (10 + ci, N)) (hC : fc_C m' d nb' zb' (.ref b :: As) sh I P Q') (hAn : As.length = n) (hst : (st.map fun v => v.category).sum ≤ 8) (hks : fc_oks sh.length ls st = true) (hd : decode m.2.1 pc = .ok (.invokevirtual idx, 3)) (kk : ∀ (v : Option Value) (sh' : fc_Sh) (I' : fc_I) (P' : fc_P), Q' v sh' I' P' → fc_T m (d + 1) nb zb (pc + 3) ls (v.toList ++ st) sh' I' P' Q) : fc_T m (d + 1) (nb' + nb) (zb' + zb) pc ls (As.reverse ++ .ref b :: st) sh I P Q := fun p l e R s mm args below meth cd β D A as H locs cells slots Nt Zt lsA QF C hb h1 hW hS hl hF => by
  obtain ⟨hx, hbb, hml, hown, hts, hnm, hfr, hlo, hA, hE, hscr⟩ := id C
  have hc8 := fc_cat8 (as := as) hst
  obtain ⟨hlink, hmf, hinst, hsel, hci⟩ := hc
  have hM := hC h1 l β D as H.size
  have hO := fc_own hW hS hA
  obtain ⟨q, hcq, hq1⟩ : ∃ q, fc_cl[ci]? = some q ∧ q.1 = m'.1.cls := by
    cases hq : fc_cl[ci]? with
    | none => rw [hq] at hci; simp at hci
    | some q => rw [hq] at hci; exact ⟨q, rfl, by simpa using hci⟩
  have he := fc_w_at (β := β) (as := as) (I := I) (P := P) hs
  rw [fc_cell_o] at he
  have hrec := va_recv hW.2.2 hW.1 hcq he
  rw [hq1] at hrec
  have hrun := va_runV (l := l) (e := e) (below := below) (meth := meth) (locs := locs) (cells := cells) (slots := slots) (As := As.map (fc_cv as)) (rest := st.map (fc_cv as)) (g := F0 mm pc lsA ((As.map (fc_cv as)).reverse ++ .ref (as b) :: st.map (fc_cv as))) ⟨hx, hbb, hml, hown, hts⟩ hM ⟨callB_of n hts (fc_goodC hmf) rfl rfl rfl (hts _ hmf.1) (hts _ hlink) hmf.2.2.1 ⟨by show d + 1 ≤ R.frames; omega, by have := hmf.2.2.2; show 8 + (_ + 11) + 64 * d ≤ _; omega⟩, hts _ hinst, hts _ hsel⟩ ⟨fc_blind, hrec, fun U hU hw => fc_Pcs (av := .ref b :: As) hW hS hA hE U hU hw⟩ rfl (by rw [List.length_map]; exact hAn) hl.1 rfl (lv_room hc8) hd ⟨by omega, by omega⟩
  have es : (As.reverse ++ .ref b :: st).map (fc_cv as) = (As.map (fc_cv as)).reverse ++ .ref (as b) :: st.map (fc_cv as) := by simp [fc_cv]
  rw [es]
  refine fc_back (Q' := Q') hrun hS hO hO (fun v sh' I' P' as' H1 locs1 hq hn hok hex hW1 hS1 => ?_)
  have hk := kk v sh' I' P' hq
  have hg := fc_go (ls := ls) (st := st) (vs := v.toList) (nb := nb) (zb := zb) (cells1 := cells + nb') (slots1 := slots + zb') C ⟨by omega, by omega, hb.2.2.1, hb.2.2.2⟩ hn hok hex hks hW1 hS1 hl hF hk
  have ev : (v.map (fc_cv as')).toList = v.toList.map (fc_cv as') := by cases v <;> rfl
  rw [ev]
  exact hg
set_option maxHeartbeats 4000000 in
theorem fc_calLV {ci N b : Nat} (hc : fc_cfV m.1.cls idx m' ci n) (hs : sh[b]? = some (10 + ci, N)) (hC : fc_C m' d 0 0 (.ref b :: As) sh I P Q') (hsh : ∀ v sh' I' P', Q' v sh' I' P' → sh' = sh) (hAn : As.length = n) (hst : (st.map fun v => v.category).sum ≤ 8) (hd : decode m.2.1 pc = .ok (.invokevirtual idx, 3)) (kk : ∀ (v : Option Value) (I' : fc_I) (P' : fc_P), Q' v sh I' P' → fc_T m (d + 1) nb zb (pc + 3) ls (v.toList ++ st) sh I' P' Q) : fc_T m (d + 1) nb zb pc ls (As.reverse ++ .ref b :: st) sh I P Q := fun p l e R s mm args below meth cd β D A as H locs cells slots Nt Zt lsA QF C hb h1 hW hS hl hF => by
  obtain ⟨hx, hbb, hml, hown, hts, hnm, hfr, hlo, hA, hE, hscr⟩ := id C
  have hc8 := fc_cat8 (as := as) hst
  obtain ⟨hlink, hmf, hinst, hsel, hci⟩ := hc
  have hM := hC h1 l β D as H.size
  have hO := fc_own hW hS hA
  obtain ⟨q, hcq, hq1⟩ : ∃ q, fc_cl[ci]? = some q ∧ q.1 = m'.1.cls := by
    cases hq : fc_cl[ci]? with
    | none => rw [hq] at hci; simp at hci
    | some q => rw [hq] at hci; exact ⟨q, rfl, by simpa using hci⟩
  have he := fc_w_at (β := β) (as := as) (I := I) (P := P) hs
  rw [fc_cell_o] at he
  have hrec := va_recv hW.2.2 hW.1 hcq he
  rw [hq1] at hrec
  have hrun := va_runV (l := l) (e := e) (below := below) (meth := meth) (locs := locs) (cells := cells) (slots := slots) (As := As.map (fc_cv as)) (rest := st.map (fc_cv as)) (g := F0 mm pc lsA ((As.map (fc_cv as)).reverse ++ .ref (as b) :: st.map (fc_cv as))) ⟨hx, hbb, hml, hown, hts⟩ hM ⟨callB_of n hts (fc_goodC hmf) rfl rfl rfl (hts _ hmf.1) (hts _ hlink) hmf.2.2.1 ⟨by show d + 1 ≤ R.frames; omega, by have := hmf.2.2.2; show 8 + (_ + 11) + 64 * d ≤ _; omega⟩, hts _ hinst, hts _ hsel⟩ ⟨fc_blind, hrec, fun U hU hw => fc_Pcs (av := .ref b :: As) hW hS hA hE U hU hw⟩ rfl (by rw [List.length_map]; exact hAn) hl.1 rfl (lv_room hc8) hd ⟨by omega, by omega⟩
  have es : (As.reverse ++ .ref b :: st).map (fc_cv as) = (As.map (fc_cv as)).reverse ++ .ref (as b) :: st.map (fc_cv as) := by simp [fc_cv]
  rw [es]
  refine fc_back (Q' := Q') hrun hS hO hO (fun v sh' I' P' as' H1 locs1 hq hn hok hex hW1 hS1 => ?_)
  have e0 := hsh v sh' I' P' hq
  subst e0
  have e1 := hex.eq
  subst e1
  have hk := kk v I' P' hq p l e R s mm args below meth cd β D A as' H1 locs1 (cells + 0) (slots + 0) Nt Zt lsA QF C hb hok hW1 hS1 hl hF
  rw [List.map_append] at hk
  have ev : (v.map (fc_cv as')).toList = v.toList.map (fc_cv as') := by cases v <;> rfl
  rw [ev]
  exact hk
set_option maxHeartbeats 4000000 in
theorem fc_callS (hc : fc_cfS m.1.cls idx m' n) (hC : fc_C m' d nb' zb' As sh I P Q') (hAn : As.length = n) (hst : (st.map fun v => v.category).sum ≤ 8) (hks : fc_oks sh.length ls st = true) (hd : decode m.2.1 pc = .ok (.invokestatic idx, 3)) (kk : ∀ (v : Option Value) (sh' : fc_Sh) (I' : fc_I) (P' : fc_P), Q' v sh' I' P' → fc_T m (d + 1) nb zb (pc + 3) ls (v.toList ++ st) sh' I' P' Q) : fc_T m (d + 1) (nb' + nb) (zb' + zb) pc ls (As.reverse ++ st) sh I P Q := fun p l e R s mm args below meth cd β D A as H locs cells slots Nt Zt lsA QF C hb h1 hW hS hl hF => by
  obtain ⟨hx, hbb, hml, hown, hts, hnm, hfr, hlo, hA, hE, hscr⟩ := id C
  have hc8 := fc_cat8 (as := as) hst
  obtain ⟨hlink, hmf, hstat⟩ := hc
  have hM := hC h1 l β D as H.size
  have hO := fc_own hW hS hA
  have hrun := va_runS (l := l) (e := e) (below := below) (meth := meth) (locs := locs) (cells := cells) (slots := slots) (As := As.map (fc_cv as)) (rest := st.map (fc_cv as)) (g := F0 mm pc lsA ((As.map (fc_cv as)).reverse ++ st.map (fc_cv as))) ⟨hx, hbb, hml, hown, hts⟩ hM ⟨callB_of n hts (fc_goodC hmf) rfl rfl rfl (hts _ hmf.1) (hts _ hlink) hmf.2.2.1 ⟨by show d + 1 ≤ R.frames; omega, by have := hmf.2.2.2; show 8 + (_ + 11) + 64 * d ≤ _; omega⟩, hts _ hstat⟩ ⟨fc_blind, fun U hU hw => fc_Pcs (av := As) hW hS hA hE U hU hw⟩ rfl (by rw [List.length_map]; exact hAn) hl.1 rfl (lv_room hc8) hd ⟨by omega, by omega⟩
  have es : (As.reverse ++ st).map (fc_cv as) = (As.map (fc_cv as)).reverse ++ st.map (fc_cv as) := by simp [fc_cv]
  rw [es]
  refine fc_back (Q' := Q') hrun hS hO hO (fun v sh' I' P' as' H1 locs1 hq hn hok hex hW1 hS1 => ?_)
  have hk := kk v sh' I' P' hq
  have hg := fc_go (ls := ls) (st := st) (vs := v.toList) (nb := nb) (zb := zb) (cells1 := cells + nb') (slots1 := slots + zb') C ⟨by omega, by omega, hb.2.2.1, hb.2.2.2⟩ hn hok hex hks hW1 hS1 hl hF hk
  have ev : (v.map (fc_cv as')).toList = v.toList.map (fc_cv as') := by cases v <;> rfl
  rw [ev]
  exact hg
set_option maxHeartbeats 4000000 in
theorem fc_calLS (hc : fc_cfS m.1.cls idx m' n) (hC : fc_C m' d 0 0 As sh I P Q') (hsh : ∀ v sh' I' P', Q' v sh' I' P' → sh' = sh) (hAn : As.length = n) (hst : (st.map fun v => v.category).sum ≤ 8) (hd : decode m.2.1 pc = .ok (.invokestatic idx, 3)) (kk : ∀ (v : Option Value) (I' : fc_I) (P' : fc_P), Q' v sh I' P' → fc_T m (d + 1) nb zb (pc + 3) ls (v.toList ++ st) sh I' P' Q) : fc_T m (d + 1) nb zb pc ls (As.reverse ++ st) sh I P Q := fun p l e R s mm args below meth cd β D A as H locs cells slots Nt Zt lsA QF C hb h1 hW hS hl hF => by
  obtain ⟨hx, hbb, hml, hown, hts, hnm, hfr, hlo, hA, hE, hscr⟩ := id C
  have hc8 := fc_cat8 (as := as) hst
  obtain ⟨hlink, hmf, hstat⟩ := hc
  have hM := hC h1 l β D as H.size
  have hO := fc_own hW hS hA
  have hrun := va_runS (l := l) (e := e) (below := below) (meth := meth) (locs := locs) (cells := cells) (slots := slots) (As := As.map (fc_cv as)) (rest := st.map (fc_cv as)) (g := F0 mm pc lsA ((As.map (fc_cv as)).reverse ++ st.map (fc_cv as))) ⟨hx, hbb, hml, hown, hts⟩ hM ⟨callB_of n hts (fc_goodC hmf) rfl rfl rfl (hts _ hmf.1) (hts _ hlink) hmf.2.2.1 ⟨by show d + 1 ≤ R.frames; omega, by have := hmf.2.2.2; show 8 + (_ + 11) + 64 * d ≤ _; omega⟩, hts _ hstat⟩ ⟨fc_blind, fun U hU hw => fc_Pcs (av := As) hW hS hA hE U hU hw⟩ rfl (by rw [List.length_map]; exact hAn) hl.1 rfl (lv_room hc8) hd ⟨by omega, by omega⟩
  have es : (As.reverse ++ st).map (fc_cv as) = (As.map (fc_cv as)).reverse ++ st.map (fc_cv as) := by simp [fc_cv]
  rw [es]
  refine fc_back (Q' := Q') hrun hS hO hO (fun v sh' I' P' as' H1 locs1 hq hn hok hex hW1 hS1 => ?_)
  have e0 := hsh v sh' I' P' hq
  subst e0
  have e1 := hex.eq
  subst e1
  have hk := kk v I' P' hq p l e R s mm args below meth cd β D A as' H1 locs1 (cells + 0) (slots + 0) Nt Zt lsA QF C hb hok hW1 hS1 hl hF
  rw [List.map_append] at hk
  have ev : (v.map (fc_cv as')).toList = v.toList.map (fc_cv as') := by cases v <;> rfl
  rw [ev]
  exact hk
set_option maxHeartbeats 4000000 in
theorem fc_callSN {host : String} (hc : fc_cfSN m.1.cls idx m' host n) (hC : fc_C m' d nb' zb' As sh I P Q') (hAn : As.length = n) (hst : (st.map fun v => v.category).sum ≤ 8) (hks : fc_oks sh.length ls st = true) (hd : decode m.2.1 pc = .ok (.invokestatic idx, 3)) (kk : ∀ (v : Option Value) (sh' : fc_Sh) (I' : fc_I) (P' : fc_P), Q' v sh' I' P' → fc_T m (d + 1) nb zb (pc + 3) ls (v.toList ++ st) sh' I' P' Q) : fc_T m (d + 1) (nb' + nb) (zb' + zb) pc ls (As.reverse ++ st) sh I P Q := fun p l e R s mm args below meth cd β D A as H locs cells slots Nt Zt lsA QF C hb h1 hW hS hl hF => by
  obtain ⟨hx, hbb, hml, hown, hts, hnm, hfr, hlo, hA, hE, hscr⟩ := id C
  have hc8 := fc_cat8 (as := as) hst
  obtain ⟨hlink, hmf, hstat⟩ := hc
  have hM := hC h1 l β D as H.size
  have hO := fc_own hW hS hA
  have hnl := hE.2.2.2.2.2.2.1 _ hlink
  have hrun := va_runSN (l := l) (e := e) (below := below) (meth := meth) (locs := locs) (cells := cells) (slots := slots) (As := As.map (fc_cv as)) (rest := st.map (fc_cv as)) (g := F0 mm pc lsA ((As.map (fc_cv as)).reverse ++ st.map (fc_cv as))) ⟨hx, hbb, hml, hown, hts⟩ hM ⟨va_cnB n hts (fc_goodC hmf) rfl rfl rfl hnl (hts _ hmf.1) hmf.2.2.1 ⟨by show d + 1 ≤ R.frames; omega, by have := hmf.2.2.2; show 8 + (_ + 11) + 64 * d ≤ _; omega⟩, hts _ hstat, trivial⟩ ⟨fc_blind, fun U hU hw => fc_Pcs (av := As) hW hS hA hE U hU hw⟩ rfl (by rw [List.length_map]; exact hAn) hl.1 rfl (lv_room hc8) hd ⟨by omega, by omega⟩
  have es : (As.reverse ++ st).map (fc_cv as) = (As.map (fc_cv as)).reverse ++ st.map (fc_cv as) := by simp [fc_cv]
  rw [es]
  refine fc_back (Q' := Q') hrun hS hO hO (fun v sh' I' P' as' H1 locs1 hq hn hok hex hW1 hS1 => ?_)
  have hk := kk v sh' I' P' hq
  have hg := fc_go (ls := ls) (st := st) (vs := v.toList) (nb := nb) (zb := zb) (cells1 := cells + nb') (slots1 := slots + zb') C ⟨by omega, by omega, hb.2.2.1, hb.2.2.2⟩ hn hok hex hks hW1 hS1 hl hF hk
  have ev : (v.map (fc_cv as')).toList = v.toList.map (fc_cv as') := by cases v <;> rfl
  rw [ev]
  exact hg
set_option maxHeartbeats 4000000 in
theorem fc_calLSN {host : String} (hc : fc_cfSN m.1.cls idx m' host n) (hC : fc_C m' d 0 0 As sh I P Q') (hsh : ∀ v sh' I' P', Q' v sh' I' P' → sh' = sh) (hAn : As.length = n) (hst : (st.map fun v => v.category).sum ≤ 8) (hd : decode m.2.1 pc = .ok (.invokestatic idx, 3)) (kk : ∀ (v : Option Value) (I' : fc_I) (P' : fc_P), Q' v sh I' P' → fc_T m (d + 1) nb zb (pc + 3) ls (v.toList ++ st) sh I' P' Q) : fc_T m (d + 1) nb zb pc ls (As.reverse ++ st) sh I P Q := fun p l e R s mm args below meth cd β D A as H locs cells slots Nt Zt lsA QF C hb h1 hW hS hl hF => by
  obtain ⟨hx, hbb, hml, hown, hts, hnm, hfr, hlo, hA, hE, hscr⟩ := id C
  have hc8 := fc_cat8 (as := as) hst
  obtain ⟨hlink, hmf, hstat⟩ := hc
  have hM := hC h1 l β D as H.size
  have hO := fc_own hW hS hA
  have hnl := hE.2.2.2.2.2.2.1 _ hlink
  have hrun := va_runSN (l := l) (e := e) (below := below) (meth := meth) (locs := locs) (cells := cells) (slots := slots) (As := As.map (fc_cv as)) (rest := st.map (fc_cv as)) (g := F0 mm pc lsA ((As.map (fc_cv as)).reverse ++ st.map (fc_cv as))) ⟨hx, hbb, hml, hown, hts⟩ hM ⟨va_cnB n hts (fc_goodC hmf) rfl rfl rfl hnl (hts _ hmf.1) hmf.2.2.1 ⟨by show d + 1 ≤ R.frames; omega, by have := hmf.2.2.2; show 8 + (_ + 11) + 64 * d ≤ _; omega⟩, hts _ hstat, trivial⟩ ⟨fc_blind, fun U hU hw => fc_Pcs (av := As) hW hS hA hE U hU hw⟩ rfl (by rw [List.length_map]; exact hAn) hl.1 rfl (lv_room hc8) hd ⟨by omega, by omega⟩
  have es : (As.reverse ++ st).map (fc_cv as) = (As.map (fc_cv as)).reverse ++ st.map (fc_cv as) := by simp [fc_cv]
  rw [es]
  refine fc_back (Q' := Q') hrun hS hO hO (fun v sh' I' P' as' H1 locs1 hq hn hok hex hW1 hS1 => ?_)
  have e0 := hsh v sh' I' P' hq
  subst e0
  have e1 := hex.eq
  subst e1
  have hk := kk v I' P' hq p l e R s mm args below meth cd β D A as' H1 locs1 (cells + 0) (slots + 0) Nt Zt lsA QF C hb hok hW1 hS1 hl hF
  rw [List.map_append] at hk
  have ev : (v.map (fc_cv as')).toList = v.toList.map (fc_cv as') := by cases v <;> rfl
  rw [ev]
  exact hk
set_option maxHeartbeats 4000000 in
theorem fc_callI {b : Nat} (hc : fc_cfI m.1.cls idx m' n) (hC : fc_C m' d nb' zb' (.ref b :: As) sh I P Q') (hAn : As.length = n) (hst : (st.map fun v => v.category).sum ≤ 8) (hks : fc_oks sh.length ls st = true) (hd : decode m.2.1 pc = .ok (.invokespecial idx, 3)) (kk : ∀ (v : Option Value) (sh' : fc_Sh) (I' : fc_I) (P' : fc_P), Q' v sh' I' P' → fc_T m (d + 1) nb zb (pc + 3) ls (v.toList ++ st) sh' I' P' Q) : fc_T m (d + 1) (nb' + nb) (zb' + zb) pc ls (As.reverse ++ .ref b :: st) sh I P Q := fun p l e R s mm args below meth cd β D A as H locs cells slots Nt Zt lsA QF C hb h1 hW hS hl hF => by
  obtain ⟨hx, hbb, hml, hown, hts, hnm, hfr, hlo, hA, hE, hscr⟩ := id C
  have hc8 := fc_cat8 (as := as) hst
  obtain ⟨hlink, hmf, hnmI, hret, hinst⟩ := hc
  have hM := hC h1 l β D as H.size
  have hO := fc_own hW hS hA
  have hrun := va_runI (l := l) (e := e) (below := below) (meth := meth) (locs := locs) (cells := cells) (slots := slots) (As := As.map (fc_cv as)) (rest := st.map (fc_cv as)) (g := F0 mm pc lsA ((As.map (fc_cv as)).reverse ++ .ref (as b) :: st.map (fc_cv as))) ⟨hx, hbb, hml, hown, hts⟩ hM ⟨callB_of n hts (fc_goodC hmf) (by rw [hret]) rfl rfl (hts _ hmf.1) (hts _ hlink) hmf.2.2.1 ⟨by show d + 1 ≤ R.frames; omega, by have := hmf.2.2.2; show 8 + (_ + 11) + 64 * d ≤ _; omega⟩, hnmI, hts _ hinst⟩ ⟨fc_blind, fun U hU hw => fc_Pcs (av := .ref b :: As) hW hS hA hE U hU hw⟩ rfl (by rw [List.length_map]; exact hAn) hl.1 rfl (lv_room hc8) hd ⟨by omega, by omega⟩
  have es : (As.reverse ++ .ref b :: st).map (fc_cv as) = (As.map (fc_cv as)).reverse ++ .ref (as b) :: st.map (fc_cv as) := by simp [fc_cv]
  rw [es]
  refine fc_back (Q' := Q') hrun hS hO hO (fun v sh' I' P' as' H1 locs1 hq hn hok hex hW1 hS1 => ?_)
  have hk := kk v sh' I' P' hq
  have hg := fc_go (ls := ls) (st := st) (vs := v.toList) (nb := nb) (zb := zb) (cells1 := cells + nb') (slots1 := slots + zb') C ⟨by omega, by omega, hb.2.2.1, hb.2.2.2⟩ hn hok hex hks hW1 hS1 hl hF hk
  have ev : (v.map (fc_cv as')).toList = v.toList.map (fc_cv as') := by cases v <;> rfl
  rw [ev]
  exact hg
set_option maxHeartbeats 4000000 in
theorem fc_calLI {b : Nat} (hc : fc_cfI m.1.cls idx m' n) (hC : fc_C m' d 0 0 (.ref b :: As) sh I P Q') (hsh : ∀ v sh' I' P', Q' v sh' I' P' → sh' = sh) (hAn : As.length = n) (hst : (st.map fun v => v.category).sum ≤ 8) (hd : decode m.2.1 pc = .ok (.invokespecial idx, 3)) (kk : ∀ (v : Option Value) (I' : fc_I) (P' : fc_P), Q' v sh I' P' → fc_T m (d + 1) nb zb (pc + 3) ls (v.toList ++ st) sh I' P' Q) : fc_T m (d + 1) nb zb pc ls (As.reverse ++ .ref b :: st) sh I P Q := fun p l e R s mm args below meth cd β D A as H locs cells slots Nt Zt lsA QF C hb h1 hW hS hl hF => by
  obtain ⟨hx, hbb, hml, hown, hts, hnm, hfr, hlo, hA, hE, hscr⟩ := id C
  have hc8 := fc_cat8 (as := as) hst
  obtain ⟨hlink, hmf, hnmI, hret, hinst⟩ := hc
  have hM := hC h1 l β D as H.size
  have hO := fc_own hW hS hA
  have hrun := va_runI (l := l) (e := e) (below := below) (meth := meth) (locs := locs) (cells := cells) (slots := slots) (As := As.map (fc_cv as)) (rest := st.map (fc_cv as)) (g := F0 mm pc lsA ((As.map (fc_cv as)).reverse ++ .ref (as b) :: st.map (fc_cv as))) ⟨hx, hbb, hml, hown, hts⟩ hM ⟨callB_of n hts (fc_goodC hmf) (by rw [hret]) rfl rfl (hts _ hmf.1) (hts _ hlink) hmf.2.2.1 ⟨by show d + 1 ≤ R.frames; omega, by have := hmf.2.2.2; show 8 + (_ + 11) + 64 * d ≤ _; omega⟩, hnmI, hts _ hinst⟩ ⟨fc_blind, fun U hU hw => fc_Pcs (av := .ref b :: As) hW hS hA hE U hU hw⟩ rfl (by rw [List.length_map]; exact hAn) hl.1 rfl (lv_room hc8) hd ⟨by omega, by omega⟩
  have es : (As.reverse ++ .ref b :: st).map (fc_cv as) = (As.map (fc_cv as)).reverse ++ .ref (as b) :: st.map (fc_cv as) := by simp [fc_cv]
  rw [es]
  refine fc_back (Q' := Q') hrun hS hO hO (fun v sh' I' P' as' H1 locs1 hq hn hok hex hW1 hS1 => ?_)
  have e0 := hsh v sh' I' P' hq
  subst e0
  have e1 := hex.eq
  subst e1
  have hk := kk v I' P' hq p l e R s mm args below meth cd β D A as' H1 locs1 (cells + 0) (slots + 0) Nt Zt lsA QF C hb hok hW1 hS1 hl hF
  rw [List.map_append] at hk
  have ev : (v.map (fc_cv as')).toList = v.toList.map (fc_cv as') := by cases v <;> rfl
  rw [ev]
  exact hk
set_option maxHeartbeats 4000000 in
theorem fc_callIN {b : Nat} {host : String} (hc : fc_cfIN m.1.cls idx m' host n) (hC : fc_C m' d nb' zb' (.ref b :: As) sh I P Q') (hAn : As.length = n) (hst : (st.map fun v => v.category).sum ≤ 8) (hks : fc_oks sh.length ls st = true) (hd : decode m.2.1 pc = .ok (.invokespecial idx, 3)) (kk : ∀ (v : Option Value) (sh' : fc_Sh) (I' : fc_I) (P' : fc_P), Q' v sh' I' P' → fc_T m (d + 1) nb zb (pc + 3) ls (v.toList ++ st) sh' I' P' Q) : fc_T m (d + 1) (nb' + nb) (zb' + zb) pc ls (As.reverse ++ .ref b :: st) sh I P Q := fun p l e R s mm args below meth cd β D A as H locs cells slots Nt Zt lsA QF C hb h1 hW hS hl hF => by
  obtain ⟨hx, hbb, hml, hown, hts, hnm, hfr, hlo, hA, hE, hscr⟩ := id C
  have hc8 := fc_cat8 (as := as) hst
  obtain ⟨hlink, hmf, hnmI, hret, hinst⟩ := hc
  have hM := hC h1 l β D as H.size
  have hO := fc_own hW hS hA
  have hrun := va_runIN (l := l) (e := e) (below := below) (meth := meth) (locs := locs) (cells := cells) (slots := slots) (As := As.map (fc_cv as)) (rest := st.map (fc_cv as)) (g := F0 mm pc lsA ((As.map (fc_cv as)).reverse ++ .ref (as b) :: st.map (fc_cv as))) ⟨hx, hbb, hml, hown, hts⟩ hM ⟨va_cnB n hts (fc_goodC hmf) (by rw [hret]) rfl rfl (hE.2.2.2.2.2.2.1 _ hlink) (hts _ hmf.1) hmf.2.2.1 ⟨by show d + 1 ≤ R.frames; omega, by have := hmf.2.2.2; show 8 + (_ + 11) + 64 * d ≤ _; omega⟩, hnmI, hts _ hinst⟩ ⟨fc_blind, fun U hU hw => fc_Pcs (av := .ref b :: As) hW hS hA hE U hU hw⟩ rfl (by rw [List.length_map]; exact hAn) hl.1 rfl (lv_room hc8) hd ⟨by omega, by omega⟩
  have es : (As.reverse ++ .ref b :: st).map (fc_cv as) = (As.map (fc_cv as)).reverse ++ .ref (as b) :: st.map (fc_cv as) := by simp [fc_cv]
  rw [es]
  refine fc_back (Q' := Q') hrun hS hO hO (fun v sh' I' P' as' H1 locs1 hq hn hok hex hW1 hS1 => ?_)
  have hk := kk v sh' I' P' hq
  have hg := fc_go (ls := ls) (st := st) (vs := v.toList) (nb := nb) (zb := zb) (cells1 := cells + nb') (slots1 := slots + zb') C ⟨by omega, by omega, hb.2.2.1, hb.2.2.2⟩ hn hok hex hks hW1 hS1 hl hF hk
  have ev : (v.map (fc_cv as')).toList = v.toList.map (fc_cv as') := by cases v <;> rfl
  rw [ev]
  exact hg
set_option maxHeartbeats 4000000 in
theorem fc_calLIN {b : Nat} {host : String} (hc : fc_cfIN m.1.cls idx m' host n) (hC : fc_C m' d 0 0 (.ref b :: As) sh I P Q') (hsh : ∀ v sh' I' P', Q' v sh' I' P' → sh' = sh) (hAn : As.length = n) (hst : (st.map fun v => v.category).sum ≤ 8) (hd : decode m.2.1 pc = .ok (.invokespecial idx, 3)) (kk : ∀ (v : Option Value) (I' : fc_I) (P' : fc_P), Q' v sh I' P' → fc_T m (d + 1) nb zb (pc + 3) ls (v.toList ++ st) sh I' P' Q) : fc_T m (d + 1) nb zb pc ls (As.reverse ++ .ref b :: st) sh I P Q := fun p l e R s mm args below meth cd β D A as H locs cells slots Nt Zt lsA QF C hb h1 hW hS hl hF => by
  obtain ⟨hx, hbb, hml, hown, hts, hnm, hfr, hlo, hA, hE, hscr⟩ := id C
  have hc8 := fc_cat8 (as := as) hst
  obtain ⟨hlink, hmf, hnmI, hret, hinst⟩ := hc
  have hM := hC h1 l β D as H.size
  have hO := fc_own hW hS hA
  have hrun := va_runIN (l := l) (e := e) (below := below) (meth := meth) (locs := locs) (cells := cells) (slots := slots) (As := As.map (fc_cv as)) (rest := st.map (fc_cv as)) (g := F0 mm pc lsA ((As.map (fc_cv as)).reverse ++ .ref (as b) :: st.map (fc_cv as))) ⟨hx, hbb, hml, hown, hts⟩ hM ⟨va_cnB n hts (fc_goodC hmf) (by rw [hret]) rfl rfl (hE.2.2.2.2.2.2.1 _ hlink) (hts _ hmf.1) hmf.2.2.1 ⟨by show d + 1 ≤ R.frames; omega, by have := hmf.2.2.2; show 8 + (_ + 11) + 64 * d ≤ _; omega⟩, hnmI, hts _ hinst⟩ ⟨fc_blind, fun U hU hw => fc_Pcs (av := .ref b :: As) hW hS hA hE U hU hw⟩ rfl (by rw [List.length_map]; exact hAn) hl.1 rfl (lv_room hc8) hd ⟨by omega, by omega⟩
  have es : (As.reverse ++ .ref b :: st).map (fc_cv as) = (As.map (fc_cv as)).reverse ++ .ref (as b) :: st.map (fc_cv as) := by simp [fc_cv]
  rw [es]
  refine fc_back (Q' := Q') hrun hS hO hO (fun v sh' I' P' as' H1 locs1 hq hn hok hex hW1 hS1 => ?_)
  have e0 := hsh v sh' I' P' hq
  subst e0
  have e1 := hex.eq
  subst e1
  have hk := kk v I' P' hq p l e R s mm args below meth cd β D A as' H1 locs1 (cells + 0) (slots + 0) Nt Zt lsA QF C hb hok hW1 hS1 hl hF
  rw [List.map_append] at hk
  have ev : (v.map (fc_cv as')).toList = v.toList.map (fc_cv as') := by cases v <;> rfl
  rw [ev]
  exact hk
set_option maxHeartbeats 4000000 in
theorem fc_callVS {k : Nat} (hc : fc_cfVS m.1.cls idx m' n) (hk : k < 12) (hC : fc_C m' d nb' zb' (.ref (1000 + k) :: As) sh I P Q') (hAn : As.length = n) (hst : (st.map fun v => v.category).sum ≤ 8) (hks : fc_oks sh.length ls st = true) (hd : decode m.2.1 pc = .ok (.invokevirtual idx, 3)) (kk : ∀ (v : Option Value) (sh' : fc_Sh) (I' : fc_I) (P' : fc_P), Q' v sh' I' P' → fc_T m (d + 1) nb zb (pc + 3) ls (v.toList ++ st) sh' I' P' Q) : fc_T m (d + 1) (nb' + nb) (zb' + zb) pc ls (As.reverse ++ .ref (1000 + k) :: st) sh I P Q := fun p l e R s mm args below meth cd β D A as H locs cells slots Nt Zt lsA QF C hb h1 hW hS hl hF => by
  obtain ⟨hx, hbb, hml, hown, hts, hnm, hfr, hlo, hA, hE, hscr⟩ := id C
  have hc8 := fc_cat8 (as := as) hst
  obtain ⟨hlink, hmf, hinst, hsel, hci⟩ := hc
  have hM := hC h1 l β D as H.size
  have hO := fc_own hW hS hA
  have hrec := vk_recv hE.1 hk hS
  rw [← hci] at hrec
  have hrun := va_runV (l := l) (e := e) (below := below) (meth := meth) (locs := locs) (cells := cells) (slots := slots) (As := As.map (fc_cv as)) (rest := st.map (fc_cv as)) (g := F0 mm pc lsA ((As.map (fc_cv as)).reverse ++ .ref (as (1000 + k)) :: st.map (fc_cv as))) ⟨hx, hbb, hml, hown, hts⟩ hM ⟨callB_of n hts (fc_goodC hmf) rfl rfl rfl (hts _ hmf.1) (hts _ hlink) hmf.2.2.1 ⟨by show d + 1 ≤ R.frames; omega, by have := hmf.2.2.2; show 8 + (_ + 11) + 64 * d ≤ _; omega⟩, hts _ hinst, hts _ hsel⟩ ⟨fc_blind, hrec, fun U hU hw => fc_Pcs (av := .ref (1000 + k) :: As) hW hS hA hE U hU hw⟩ rfl (by rw [List.length_map]; exact hAn) hl.1 rfl (lv_room hc8) hd ⟨by omega, by omega⟩
  have es : (As.reverse ++ .ref (1000 + k) :: st).map (fc_cv as) = (As.map (fc_cv as)).reverse ++ .ref (as (1000 + k)) :: st.map (fc_cv as) := by simp [fc_cv]
  rw [es]
  refine fc_back (Q' := Q') hrun hS hO hO (fun v sh' I' P' as' H1 locs1 hq hn hok hex hW1 hS1 => ?_)
  have hk := kk v sh' I' P' hq
  have hg := fc_go (ls := ls) (st := st) (vs := v.toList) (nb := nb) (zb := zb) (cells1 := cells + nb') (slots1 := slots + zb') C ⟨by omega, by omega, hb.2.2.1, hb.2.2.2⟩ hn hok hex hks hW1 hS1 hl hF hk
  have ev : (v.map (fc_cv as')).toList = v.toList.map (fc_cv as') := by cases v <;> rfl
  rw [ev]
  exact hg
set_option maxHeartbeats 4000000 in
theorem fc_calLVS {k : Nat} (hc : fc_cfVS m.1.cls idx m' n) (hk : k < 12) (hC : fc_C m' d 0 0 (.ref (1000 + k) :: As) sh I P Q') (hsh : ∀ v sh' I' P', Q' v sh' I' P' → sh' = sh) (hAn : As.length = n) (hst : (st.map fun v => v.category).sum ≤ 8) (hd : decode m.2.1 pc = .ok (.invokevirtual idx, 3)) (kk : ∀ (v : Option Value) (I' : fc_I) (P' : fc_P), Q' v sh I' P' → fc_T m (d + 1) nb zb (pc + 3) ls (v.toList ++ st) sh I' P' Q) : fc_T m (d + 1) nb zb pc ls (As.reverse ++ .ref (1000 + k) :: st) sh I P Q := fun p l e R s mm args below meth cd β D A as H locs cells slots Nt Zt lsA QF C hb h1 hW hS hl hF => by
  obtain ⟨hx, hbb, hml, hown, hts, hnm, hfr, hlo, hA, hE, hscr⟩ := id C
  have hc8 := fc_cat8 (as := as) hst
  obtain ⟨hlink, hmf, hinst, hsel, hci⟩ := hc
  have hM := hC h1 l β D as H.size
  have hO := fc_own hW hS hA
  have hrec := vk_recv hE.1 hk hS
  rw [← hci] at hrec
  have hrun := va_runV (l := l) (e := e) (below := below) (meth := meth) (locs := locs) (cells := cells) (slots := slots) (As := As.map (fc_cv as)) (rest := st.map (fc_cv as)) (g := F0 mm pc lsA ((As.map (fc_cv as)).reverse ++ .ref (as (1000 + k)) :: st.map (fc_cv as))) ⟨hx, hbb, hml, hown, hts⟩ hM ⟨callB_of n hts (fc_goodC hmf) rfl rfl rfl (hts _ hmf.1) (hts _ hlink) hmf.2.2.1 ⟨by show d + 1 ≤ R.frames; omega, by have := hmf.2.2.2; show 8 + (_ + 11) + 64 * d ≤ _; omega⟩, hts _ hinst, hts _ hsel⟩ ⟨fc_blind, hrec, fun U hU hw => fc_Pcs (av := .ref (1000 + k) :: As) hW hS hA hE U hU hw⟩ rfl (by rw [List.length_map]; exact hAn) hl.1 rfl (lv_room hc8) hd ⟨by omega, by omega⟩
  have es : (As.reverse ++ .ref (1000 + k) :: st).map (fc_cv as) = (As.map (fc_cv as)).reverse ++ .ref (as (1000 + k)) :: st.map (fc_cv as) := by simp [fc_cv]
  rw [es]
  refine fc_back (Q' := Q') hrun hS hO hO (fun v sh' I' P' as' H1 locs1 hq hn hok hex hW1 hS1 => ?_)
  have e0 := hsh v sh' I' P' hq
  subst e0
  have e1 := hex.eq
  subst e1
  have hk := kk v I' P' hq p l e R s mm args below meth cd β D A as' H1 locs1 (cells + 0) (slots + 0) Nt Zt lsA QF C hb hok hW1 hS1 hl hF
  rw [List.map_append] at hk
  have ev : (v.map (fc_cv as')).toList = v.toList.map (fc_cv as') := by cases v <;> rfl
  rw [ev]
  exact hk
end CALLS

def fc_Ci (m : fc_MI) (d : Nat) (av : List Value) (sh : fc_Sh) (I : fc_I) (P : fc_P) (post : Int32 → fc_I → fc_P → Prop) : Prop := fc_C m d 0 0 av sh I P (fun v sh' I' P' => sh' = sh ∧ ∃ r : Int32, v = some (.int r) ∧ post r I' P')
/-- a method that only answers -/
def fc_Cp (m : fc_MI) (d : Nat) (av : List Value) (sh : fc_Sh) (I : fc_I) (P : fc_P) (x : Int32) : Prop := fc_Ci m d av sh I P (fun r I' P' => r = x ∧ I' = I ∧ P' = P)
def fc_Cl (m : fc_MI) (d : Nat) (av : List Value) (sh : fc_Sh) (I : fc_I) (P : fc_P) (post : Int64 → fc_I → fc_P → Prop) : Prop := fc_C m d 0 0 av sh I P (fun v sh' I' P' => sh' = sh ∧ ∃ r : Int64, v = some (.long r) ∧ post r I' P')
def fc_Cv (m : fc_MI) (d : Nat) (av : List Value) (sh : fc_Sh) (I : fc_I) (P : fc_P) (post : fc_I → fc_P → Prop) : Prop := fc_C m d 0 0 av sh I P (fun v sh' I' P' => sh' = sh ∧ v = none ∧ post I' P')
/-- the ends of steady methods -/
def fc_Qi (sh : fc_Sh) (post : Int32 → fc_I → fc_P → Prop) : fc_Q := fun v sh' I' P' => sh' = sh ∧ ∃ r : Int32, v = some (.int r) ∧ post r I' P'
def fc_Ql (sh : fc_Sh) (post : Int64 → fc_I → fc_P → Prop) : fc_Q := fun v sh' I' P' => sh' = sh ∧ ∃ r : Int64, v = some (.long r) ∧ post r I' P'
def fc_Qv (sh : fc_Sh) (post : fc_I → fc_P → Prop) : fc_Q := fun v sh' I' P' => sh' = sh ∧ v = none ∧ post I' P'
section STEADY
variable {m m' : fc_MI} {d nb zb pc idx : Nat} {ls : List (Option Value)} {st : List Value} {sh : fc_Sh} {I : fc_I} {P : fc_P} {Q : fc_Q}
theorem fc_Ci.of {av : List Value} {post : Int32 → fc_I → fc_P → Prop} (hy : plainName m.1.cls = true ∧ m.2.2.2.2 = none) (hl : (fc_arg av).length ≤ m.2.2.1) {ls : List (Option Value)} (hls : fc_arg av ++ List.replicate (m.2.2.1 - (fc_arg av).length) none = ls) (h : fc_T m d 0 0 0 ls [] sh I P (fc_Qi sh post)) : fc_Ci m d av sh I P post := fc_C.of hy hl hls h
theorem fc_Cp.of {av : List Value} {x : Int32} (hy : plainName m.1.cls = true ∧ m.2.2.2.2 = none) (hl : (fc_arg av).length ≤ m.2.2.1) {ls : List (Option Value)} (hls : fc_arg av ++ List.replicate (m.2.2.1 - (fc_arg av).length) none = ls) (h : fc_T m d 0 0 0 ls [] sh I P (fc_Qi sh (fun r I' P' => r = x ∧ I' = I ∧ P' = P))) : fc_Cp m d av sh I P x := fc_C.of hy hl hls h
theorem fc_Cl.of {av : List Value} {post : Int64 → fc_I → fc_P → Prop} (hy : plainName m.1.cls = true ∧ m.2.2.2.2 = none) (hl : (fc_arg av).length ≤ m.2.2.1) {ls : List (Option Value)} (hls : fc_arg av ++ List.replicate (m.2.2.1 - (fc_arg av).length) none = ls) (h : fc_T m d 0 0 0 ls [] sh I P (fc_Ql sh post)) : fc_Cl m d av sh I P post := fc_C.of hy hl hls h
theorem fc_Cv.of {av : List Value} {post : fc_I → fc_P → Prop} (hy : plainName m.1.cls = true ∧ m.2.2.2.2 = none) (hl : (fc_arg av).length ≤ m.2.2.1) {ls : List (Option Value)} (hls : fc_arg av ++ List.replicate (m.2.2.1 - (fc_arg av).length) none = ls) (h : fc_T m d 0 0 0 ls [] sh I P (fc_Qv sh post)) : fc_Cv m d av sh I P post := fc_C.of hy hl hls h
theorem ft_reti {x : Int32} {ty : FieldType} {post : Int32 → fc_I → fc_P → Prop} (hd : decode m.2.1 pc = .ok (.ireturn, 1)) (hr : m.2.2.2.1 = some ty) (hn : narrow ty (.int x) = .int x) (h : post x I P) : fc_T m d nb zb pc ls [.int x] sh I P (fc_Qi sh post) := ft_iret hd hr hn ⟨rfl, x, rfl, h⟩
theorem ft_retl {x : Int64} {post : Int64 → fc_I → fc_P → Prop} (hd : decode m.2.1 pc = .ok (.lreturn, 1)) (hr : m.2.2.2.1 = some .long) (h : post x I P) : fc_T m d nb zb pc ls [.long x] sh I P (fc_Ql sh post) := ft_lret hd hr ⟨rfl, x, rfl, h⟩
theorem ft_retv {post : fc_I → fc_P → Prop} (hd : decode m.2.1 pc = .ok (.return_, 1)) (hr : m.2.2.2.1 = none) (h : post I P) : fc_T m d nb zb pc ls [] sh I P (fc_Qv sh post) := ft_vret hd hr ⟨rfl, rfl, h⟩

theorem ft_V0i {ci N b : Nat} {post : Int32 → fc_I → fc_P → Prop} (hc : fc_cfV m.1.cls idx m' ci 0) (hs : sh[b]? = some (10 + ci, N)) (hC : fc_Ci m' d [.ref b] sh I P post) (hst : (st.map fun v => v.category).sum ≤ 8) (hd : decode m.2.1 pc = .ok (.invokevirtual idx, 3)) (kk : ∀ (r : Int32) (I' : fc_I) (P' : fc_P), post r I' P' → fc_T m (d + 1) nb zb (pc + 3) ls (.int r :: st) sh I' P' Q) : fc_T m (d + 1) nb zb pc ls (.ref b :: st) sh I P Q := fc_calLV (As := []) hc hs hC (fun v sh' I' P' h => h.1) rfl hst hd (fun v I' P' hq => by obtain ⟨_, r, rfl, hq⟩ := hq; exact kk r I' P' hq)
theorem ft_V0p {ci N b : Nat} {x : Int32} (hc : fc_cfV m.1.cls idx m' ci 0) (hs : sh[b]? = some (10 + ci, N)) (hC : fc_Cp m' d [.ref b] sh I P x) (hst : (st.map fun v => v.category).sum ≤ 8) (hd : decode m.2.1 pc = .ok (.invokevirtual idx, 3)) (kk : fc_T m (d + 1) nb zb (pc + 3) ls (.int x :: st) sh I P Q) : fc_T m (d + 1) nb zb pc ls (.ref b :: st) sh I P Q := fc_calLV (As := []) hc hs hC (fun v sh' I' P' h => h.1) rfl hst hd (fun v I' P' hq => by obtain ⟨_, r, rfl, rfl, rfl, rfl⟩ := hq; exact kk)
theorem ft_V0l {ci N b : Nat} {post : Int64 → fc_I → fc_P → Prop} (hc : fc_cfV m.1.cls idx m' ci 0) (hs : sh[b]? = some (10 + ci, N)) (hC : fc_Cl m' d [.ref b] sh I P post) (hst : (st.map fun v => v.category).sum ≤ 8) (hd : decode m.2.1 pc = .ok (.invokevirtual idx, 3)) (kk : ∀ (r : Int64) (I' : fc_I) (P' : fc_P), post r I' P' → fc_T m (d + 1) nb zb (pc + 3) ls (.long r :: st) sh I' P' Q) : fc_T m (d + 1) nb zb pc ls (.ref b :: st) sh I P Q := fc_calLV (As := []) hc hs hC (fun v sh' I' P' h => h.1) rfl hst hd (fun v I' P' hq => by obtain ⟨_, r, rfl, hq⟩ := hq; exact kk r I' P' hq)
theorem ft_V0v {ci N b : Nat} {post : fc_I → fc_P → Prop} (hc : fc_cfV m.1.cls idx m' ci 0) (hs : sh[b]? = some (10 + ci, N)) (hC : fc_Cv m' d [.ref b] sh I P post) (hst : (st.map fun v => v.category).sum ≤ 8) (hd : decode m.2.1 pc = .ok (.invokevirtual idx, 3)) (kk : ∀ (I' : fc_I) (P' : fc_P), post I' P' → fc_T m (d + 1) nb zb (pc + 3) ls st sh I' P' Q) : fc_T m (d + 1) nb zb pc ls (.ref b :: st) sh I P Q := fc_calLV (As := []) hc hs hC (fun v sh' I' P' h => h.1) rfl hst hd (fun v I' P' hq => by obtain ⟨_, rfl, hq⟩ := hq; exact kk I' P' hq)
theorem ft_V1i {ci N b : Nat} {a1 : Value} {post : Int32 → fc_I → fc_P → Prop} (hc : fc_cfV m.1.cls idx m' ci 1) (hs : sh[b]? = some (10 + ci, N)) (hC : fc_Ci m' d [.ref b, a1] sh I P post) (hst : (st.map fun v => v.category).sum ≤ 8) (hd : decode m.2.1 pc = .ok (.invokevirtual idx, 3)) (kk : ∀ (r : Int32) (I' : fc_I) (P' : fc_P), post r I' P' → fc_T m (d + 1) nb zb (pc + 3) ls (.int r :: st) sh I' P' Q) : fc_T m (d + 1) nb zb pc ls (a1 :: .ref b :: st) sh I P Q := fc_calLV (As := [a1]) hc hs hC (fun v sh' I' P' h => h.1) rfl hst hd (fun v I' P' hq => by obtain ⟨_, r, rfl, hq⟩ := hq; exact kk r I' P' hq)
theorem ft_V1p {ci N b : Nat} {a1 : Value} {x : Int32} (hc : fc_cfV m.1.cls idx m' ci 1) (hs : sh[b]? = some (10 + ci, N)) (hC : fc_Cp m' d [.ref b, a1] sh I P x) (hst : (st.map fun v => v.category).sum ≤ 8) (hd : decode m.2.1 pc = .ok (.invokevirtual idx, 3)) (kk : fc_T m (d + 1) nb zb (pc + 3) ls (.int x :: st) sh I P Q) : fc_T m (d + 1) nb zb pc ls (a1 :: .ref b :: st) sh I P Q := fc_calLV (As := [a1]) hc hs hC (fun v sh' I' P' h => h.1) rfl hst hd (fun v I' P' hq => by obtain ⟨_, r, rfl, rfl, rfl, rfl⟩ := hq; exact kk)
theorem ft_V1l {ci N b : Nat} {a1 : Value} {post : Int64 → fc_I → fc_P → Prop} (hc : fc_cfV m.1.cls idx m' ci 1) (hs : sh[b]? = some (10 + ci, N)) (hC : fc_Cl m' d [.ref b, a1] sh I P post) (hst : (st.map fun v => v.category).sum ≤ 8) (hd : decode m.2.1 pc = .ok (.invokevirtual idx, 3)) (kk : ∀ (r : Int64) (I' : fc_I) (P' : fc_P), post r I' P' → fc_T m (d + 1) nb zb (pc + 3) ls (.long r :: st) sh I' P' Q) : fc_T m (d + 1) nb zb pc ls (a1 :: .ref b :: st) sh I P Q := fc_calLV (As := [a1]) hc hs hC (fun v sh' I' P' h => h.1) rfl hst hd (fun v I' P' hq => by obtain ⟨_, r, rfl, hq⟩ := hq; exact kk r I' P' hq)
theorem ft_V1v {ci N b : Nat} {a1 : Value} {post : fc_I → fc_P → Prop} (hc : fc_cfV m.1.cls idx m' ci 1) (hs : sh[b]? = some (10 + ci, N)) (hC : fc_Cv m' d [.ref b, a1] sh I P post) (hst : (st.map fun v => v.category).sum ≤ 8) (hd : decode m.2.1 pc = .ok (.invokevirtual idx, 3)) (kk : ∀ (I' : fc_I) (P' : fc_P), post I' P' → fc_T m (d + 1) nb zb (pc + 3) ls st sh I' P' Q) : fc_T m (d + 1) nb zb pc ls (a1 :: .ref b :: st) sh I P Q := fc_calLV (As := [a1]) hc hs hC (fun v sh' I' P' h => h.1) rfl hst hd (fun v I' P' hq => by obtain ⟨_, rfl, hq⟩ := hq; exact kk I' P' hq)
theorem ft_V2i {ci N b : Nat} {a1 a2 : Value} {post : Int32 → fc_I → fc_P → Prop} (hc : fc_cfV m.1.cls idx m' ci 2) (hs : sh[b]? = some (10 + ci, N)) (hC : fc_Ci m' d [.ref b, a1, a2] sh I P post) (hst : (st.map fun v => v.category).sum ≤ 8) (hd : decode m.2.1 pc = .ok (.invokevirtual idx, 3)) (kk : ∀ (r : Int32) (I' : fc_I) (P' : fc_P), post r I' P' → fc_T m (d + 1) nb zb (pc + 3) ls (.int r :: st) sh I' P' Q) : fc_T m (d + 1) nb zb pc ls (a2 :: a1 :: .ref b :: st) sh I P Q := fc_calLV (As := [a1, a2]) hc hs hC (fun v sh' I' P' h => h.1) rfl hst hd (fun v I' P' hq => by obtain ⟨_, r, rfl, hq⟩ := hq; exact kk r I' P' hq)
theorem ft_V2p {ci N b : Nat} {a1 a2 : Value} {x : Int32} (hc : fc_cfV m.1.cls idx m' ci 2) (hs : sh[b]? = some (10 + ci, N)) (hC : fc_Cp m' d [.ref b, a1, a2] sh I P x) (hst : (st.map fun v => v.category).sum ≤ 8) (hd : decode m.2.1 pc = .ok (.invokevirtual idx, 3)) (kk : fc_T m (d + 1) nb zb (pc + 3) ls (.int x :: st) sh I P Q) : fc_T m (d + 1) nb zb pc ls (a2 :: a1 :: .ref b :: st) sh I P Q := fc_calLV (As := [a1, a2]) hc hs hC (fun v sh' I' P' h => h.1) rfl hst hd (fun v I' P' hq => by obtain ⟨_, r, rfl, rfl, rfl, rfl⟩ := hq; exact kk)
theorem ft_V2l {ci N b : Nat} {a1 a2 : Value} {post : Int64 → fc_I → fc_P → Prop} (hc : fc_cfV m.1.cls idx m' ci 2) (hs : sh[b]? = some (10 + ci, N)) (hC : fc_Cl m' d [.ref b, a1, a2] sh I P post) (hst : (st.map fun v => v.category).sum ≤ 8) (hd : decode m.2.1 pc = .ok (.invokevirtual idx, 3)) (kk : ∀ (r : Int64) (I' : fc_I) (P' : fc_P), post r I' P' → fc_T m (d + 1) nb zb (pc + 3) ls (.long r :: st) sh I' P' Q) : fc_T m (d + 1) nb zb pc ls (a2 :: a1 :: .ref b :: st) sh I P Q := fc_calLV (As := [a1, a2]) hc hs hC (fun v sh' I' P' h => h.1) rfl hst hd (fun v I' P' hq => by obtain ⟨_, r, rfl, hq⟩ := hq; exact kk r I' P' hq)
theorem ft_V2v {ci N b : Nat} {a1 a2 : Value} {post : fc_I → fc_P → Prop} (hc : fc_cfV m.1.cls idx m' ci 2) (hs : sh[b]? = some (10 + ci, N)) (hC : fc_Cv m' d [.ref b, a1, a2] sh I P post) (hst : (st.map fun v => v.category).sum ≤ 8) (hd : decode m.2.1 pc = .ok (.invokevirtual idx, 3)) (kk : ∀ (I' : fc_I) (P' : fc_P), post I' P' → fc_T m (d + 1) nb zb (pc + 3) ls st sh I' P' Q) : fc_T m (d + 1) nb zb pc ls (a2 :: a1 :: .ref b :: st) sh I P Q := fc_calLV (As := [a1, a2]) hc hs hC (fun v sh' I' P' h => h.1) rfl hst hd (fun v I' P' hq => by obtain ⟨_, rfl, hq⟩ := hq; exact kk I' P' hq)
theorem ft_V3i {ci N b : Nat} {a1 a2 a3 : Value} {post : Int32 → fc_I → fc_P → Prop} (hc : fc_cfV m.1.cls idx m' ci 3) (hs : sh[b]? = some (10 + ci, N)) (hC : fc_Ci m' d [.ref b, a1, a2, a3] sh I P post) (hst : (st.map fun v => v.category).sum ≤ 8) (hd : decode m.2.1 pc = .ok (.invokevirtual idx, 3)) (kk : ∀ (r : Int32) (I' : fc_I) (P' : fc_P), post r I' P' → fc_T m (d + 1) nb zb (pc + 3) ls (.int r :: st) sh I' P' Q) : fc_T m (d + 1) nb zb pc ls (a3 :: a2 :: a1 :: .ref b :: st) sh I P Q := fc_calLV (As := [a1, a2, a3]) hc hs hC (fun v sh' I' P' h => h.1) rfl hst hd (fun v I' P' hq => by obtain ⟨_, r, rfl, hq⟩ := hq; exact kk r I' P' hq)
theorem ft_V3p {ci N b : Nat} {a1 a2 a3 : Value} {x : Int32} (hc : fc_cfV m.1.cls idx m' ci 3) (hs : sh[b]? = some (10 + ci, N)) (hC : fc_Cp m' d [.ref b, a1, a2, a3] sh I P x) (hst : (st.map fun v => v.category).sum ≤ 8) (hd : decode m.2.1 pc = .ok (.invokevirtual idx, 3)) (kk : fc_T m (d + 1) nb zb (pc + 3) ls (.int x :: st) sh I P Q) : fc_T m (d + 1) nb zb pc ls (a3 :: a2 :: a1 :: .ref b :: st) sh I P Q := fc_calLV (As := [a1, a2, a3]) hc hs hC (fun v sh' I' P' h => h.1) rfl hst hd (fun v I' P' hq => by obtain ⟨_, r, rfl, rfl, rfl, rfl⟩ := hq; exact kk)
theorem ft_V3l {ci N b : Nat} {a1 a2 a3 : Value} {post : Int64 → fc_I → fc_P → Prop} (hc : fc_cfV m.1.cls idx m' ci 3) (hs : sh[b]? = some (10 + ci, N)) (hC : fc_Cl m' d [.ref b, a1, a2, a3] sh I P post) (hst : (st.map fun v => v.category).sum ≤ 8) (hd : decode m.2.1 pc = .ok (.invokevirtual idx, 3)) (kk : ∀ (r : Int64) (I' : fc_I) (P' : fc_P), post r I' P' → fc_T m (d + 1) nb zb (pc + 3) ls (.long r :: st) sh I' P' Q) : fc_T m (d + 1) nb zb pc ls (a3 :: a2 :: a1 :: .ref b :: st) sh I P Q := fc_calLV (As := [a1, a2, a3]) hc hs hC (fun v sh' I' P' h => h.1) rfl hst hd (fun v I' P' hq => by obtain ⟨_, r, rfl, hq⟩ := hq; exact kk r I' P' hq)
theorem ft_V3v {ci N b : Nat} {a1 a2 a3 : Value} {post : fc_I → fc_P → Prop} (hc : fc_cfV m.1.cls idx m' ci 3) (hs : sh[b]? = some (10 + ci, N)) (hC : fc_Cv m' d [.ref b, a1, a2, a3] sh I P post) (hst : (st.map fun v => v.category).sum ≤ 8) (hd : decode m.2.1 pc = .ok (.invokevirtual idx, 3)) (kk : ∀ (I' : fc_I) (P' : fc_P), post I' P' → fc_T m (d + 1) nb zb (pc + 3) ls st sh I' P' Q) : fc_T m (d + 1) nb zb pc ls (a3 :: a2 :: a1 :: .ref b :: st) sh I P Q := fc_calLV (As := [a1, a2, a3]) hc hs hC (fun v sh' I' P' h => h.1) rfl hst hd (fun v I' P' hq => by obtain ⟨_, rfl, hq⟩ := hq; exact kk I' P' hq)
theorem ft_V4i {ci N b : Nat} {a1 a2 a3 a4 : Value} {post : Int32 → fc_I → fc_P → Prop} (hc : fc_cfV m.1.cls idx m' ci 4) (hs : sh[b]? = some (10 + ci, N)) (hC : fc_Ci m' d [.ref b, a1, a2, a3, a4] sh I P post) (hst : (st.map fun v => v.category).sum ≤ 8) (hd : decode m.2.1 pc = .ok (.invokevirtual idx, 3)) (kk : ∀ (r : Int32) (I' : fc_I) (P' : fc_P), post r I' P' → fc_T m (d + 1) nb zb (pc + 3) ls (.int r :: st) sh I' P' Q) : fc_T m (d + 1) nb zb pc ls (a4 :: a3 :: a2 :: a1 :: .ref b :: st) sh I P Q := fc_calLV (As := [a1, a2, a3, a4]) hc hs hC (fun v sh' I' P' h => h.1) rfl hst hd (fun v I' P' hq => by obtain ⟨_, r, rfl, hq⟩ := hq; exact kk r I' P' hq)
theorem ft_V4p {ci N b : Nat} {a1 a2 a3 a4 : Value} {x : Int32} (hc : fc_cfV m.1.cls idx m' ci 4) (hs : sh[b]? = some (10 + ci, N)) (hC : fc_Cp m' d [.ref b, a1, a2, a3, a4] sh I P x) (hst : (st.map fun v => v.category).sum ≤ 8) (hd : decode m.2.1 pc = .ok (.invokevirtual idx, 3)) (kk : fc_T m (d + 1) nb zb (pc + 3) ls (.int x :: st) sh I P Q) : fc_T m (d + 1) nb zb pc ls (a4 :: a3 :: a2 :: a1 :: .ref b :: st) sh I P Q := fc_calLV (As := [a1, a2, a3, a4]) hc hs hC (fun v sh' I' P' h => h.1) rfl hst hd (fun v I' P' hq => by obtain ⟨_, r, rfl, rfl, rfl, rfl⟩ := hq; exact kk)
theorem ft_V4l {ci N b : Nat} {a1 a2 a3 a4 : Value} {post : Int64 → fc_I → fc_P → Prop} (hc : fc_cfV m.1.cls idx m' ci 4) (hs : sh[b]? = some (10 + ci, N)) (hC : fc_Cl m' d [.ref b, a1, a2, a3, a4] sh I P post) (hst : (st.map fun v => v.category).sum ≤ 8) (hd : decode m.2.1 pc = .ok (.invokevirtual idx, 3)) (kk : ∀ (r : Int64) (I' : fc_I) (P' : fc_P), post r I' P' → fc_T m (d + 1) nb zb (pc + 3) ls (.long r :: st) sh I' P' Q) : fc_T m (d + 1) nb zb pc ls (a4 :: a3 :: a2 :: a1 :: .ref b :: st) sh I P Q := fc_calLV (As := [a1, a2, a3, a4]) hc hs hC (fun v sh' I' P' h => h.1) rfl hst hd (fun v I' P' hq => by obtain ⟨_, r, rfl, hq⟩ := hq; exact kk r I' P' hq)
theorem ft_V4v {ci N b : Nat} {a1 a2 a3 a4 : Value} {post : fc_I → fc_P → Prop} (hc : fc_cfV m.1.cls idx m' ci 4) (hs : sh[b]? = some (10 + ci, N)) (hC : fc_Cv m' d [.ref b, a1, a2, a3, a4] sh I P post) (hst : (st.map fun v => v.category).sum ≤ 8) (hd : decode m.2.1 pc = .ok (.invokevirtual idx, 3)) (kk : ∀ (I' : fc_I) (P' : fc_P), post I' P' → fc_T m (d + 1) nb zb (pc + 3) ls st sh I' P' Q) : fc_T m (d + 1) nb zb pc ls (a4 :: a3 :: a2 :: a1 :: .ref b :: st) sh I P Q := fc_calLV (As := [a1, a2, a3, a4]) hc hs hC (fun v sh' I' P' h => h.1) rfl hst hd (fun v I' P' hq => by obtain ⟨_, rfl, hq⟩ := hq; exact kk I' P' hq)
theorem ft_V5i {ci N b : Nat} {a1 a2 a3 a4 a5 : Value} {post : Int32 → fc_I → fc_P → Prop} (hc : fc_cfV m.1.cls idx m' ci 5) (hs : sh[b]? = some (10 + ci, N)) (hC : fc_Ci m' d [.ref b, a1, a2, a3, a4, a5] sh I P post) (hst : (st.map fun v => v.category).sum ≤ 8) (hd : decode m.2.1 pc = .ok (.invokevirtual idx, 3)) (kk : ∀ (r : Int32) (I' : fc_I) (P' : fc_P), post r I' P' → fc_T m (d + 1) nb zb (pc + 3) ls (.int r :: st) sh I' P' Q) : fc_T m (d + 1) nb zb pc ls (a5 :: a4 :: a3 :: a2 :: a1 :: .ref b :: st) sh I P Q := fc_calLV (As := [a1, a2, a3, a4, a5]) hc hs hC (fun v sh' I' P' h => h.1) rfl hst hd (fun v I' P' hq => by obtain ⟨_, r, rfl, hq⟩ := hq; exact kk r I' P' hq)
theorem ft_V5p {ci N b : Nat} {a1 a2 a3 a4 a5 : Value} {x : Int32} (hc : fc_cfV m.1.cls idx m' ci 5) (hs : sh[b]? = some (10 + ci, N)) (hC : fc_Cp m' d [.ref b, a1, a2, a3, a4, a5] sh I P x) (hst : (st.map fun v => v.category).sum ≤ 8) (hd : decode m.2.1 pc = .ok (.invokevirtual idx, 3)) (kk : fc_T m (d + 1) nb zb (pc + 3) ls (.int x :: st) sh I P Q) : fc_T m (d + 1) nb zb pc ls (a5 :: a4 :: a3 :: a2 :: a1 :: .ref b :: st) sh I P Q := fc_calLV (As := [a1, a2, a3, a4, a5]) hc hs hC (fun v sh' I' P' h => h.1) rfl hst hd (fun v I' P' hq => by obtain ⟨_, r, rfl, rfl, rfl, rfl⟩ := hq; exact kk)
theorem ft_V5l {ci N b : Nat} {a1 a2 a3 a4 a5 : Value} {post : Int64 → fc_I → fc_P → Prop} (hc : fc_cfV m.1.cls idx m' ci 5) (hs : sh[b]? = some (10 + ci, N)) (hC : fc_Cl m' d [.ref b, a1, a2, a3, a4, a5] sh I P post) (hst : (st.map fun v => v.category).sum ≤ 8) (hd : decode m.2.1 pc = .ok (.invokevirtual idx, 3)) (kk : ∀ (r : Int64) (I' : fc_I) (P' : fc_P), post r I' P' → fc_T m (d + 1) nb zb (pc + 3) ls (.long r :: st) sh I' P' Q) : fc_T m (d + 1) nb zb pc ls (a5 :: a4 :: a3 :: a2 :: a1 :: .ref b :: st) sh I P Q := fc_calLV (As := [a1, a2, a3, a4, a5]) hc hs hC (fun v sh' I' P' h => h.1) rfl hst hd (fun v I' P' hq => by obtain ⟨_, r, rfl, hq⟩ := hq; exact kk r I' P' hq)
theorem ft_V5v {ci N b : Nat} {a1 a2 a3 a4 a5 : Value} {post : fc_I → fc_P → Prop} (hc : fc_cfV m.1.cls idx m' ci 5) (hs : sh[b]? = some (10 + ci, N)) (hC : fc_Cv m' d [.ref b, a1, a2, a3, a4, a5] sh I P post) (hst : (st.map fun v => v.category).sum ≤ 8) (hd : decode m.2.1 pc = .ok (.invokevirtual idx, 3)) (kk : ∀ (I' : fc_I) (P' : fc_P), post I' P' → fc_T m (d + 1) nb zb (pc + 3) ls st sh I' P' Q) : fc_T m (d + 1) nb zb pc ls (a5 :: a4 :: a3 :: a2 :: a1 :: .ref b :: st) sh I P Q := fc_calLV (As := [a1, a2, a3, a4, a5]) hc hs hC (fun v sh' I' P' h => h.1) rfl hst hd (fun v I' P' hq => by obtain ⟨_, rfl, hq⟩ := hq; exact kk I' P' hq)
theorem ft_V6i {ci N b : Nat} {a1 a2 a3 a4 a5 a6 : Value} {post : Int32 → fc_I → fc_P → Prop} (hc : fc_cfV m.1.cls idx m' ci 6) (hs : sh[b]? = some (10 + ci, N)) (hC : fc_Ci m' d [.ref b, a1, a2, a3, a4, a5, a6] sh I P post) (hst : (st.map fun v => v.category).sum ≤ 8) (hd : decode m.2.1 pc = .ok (.invokevirtual idx, 3)) (kk : ∀ (r : Int32) (I' : fc_I) (P' : fc_P), post r I' P' → fc_T m (d + 1) nb zb (pc + 3) ls (.int r :: st) sh I' P' Q) : fc_T m (d + 1) nb zb pc ls (a6 :: a5 :: a4 :: a3 :: a2 :: a1 :: .ref b :: st) sh I P Q := fc_calLV (As := [a1, a2, a3, a4, a5, a6]) hc hs hC (fun v sh' I' P' h => h.1) rfl hst hd (fun v I' P' hq => by obtain ⟨_, r, rfl, hq⟩ := hq; exact kk r I' P' hq)
theorem ft_V6p {ci N b : Nat} {a1 a2 a3 a4 a5 a6 : Value} {x : Int32} (hc : fc_cfV m.1.cls idx m' ci 6) (hs : sh[b]? = some (10 + ci, N)) (hC : fc_Cp m' d [.ref b, a1, a2, a3, a4, a5, a6] sh I P x) (hst : (st.map fun v => v.category).sum ≤ 8) (hd : decode m.2.1 pc = .ok (.invokevirtual idx, 3)) (kk : fc_T m (d + 1) nb zb (pc + 3) ls (.int x :: st) sh I P Q) : fc_T m (d + 1) nb zb pc ls (a6 :: a5 :: a4 :: a3 :: a2 :: a1 :: .ref b :: st) sh I P Q := fc_calLV (As := [a1, a2, a3, a4, a5, a6]) hc hs hC (fun v sh' I' P' h => h.1) rfl hst hd (fun v I' P' hq => by obtain ⟨_, r, rfl, rfl, rfl, rfl⟩ := hq; exact kk)
theorem ft_V6l {ci N b : Nat} {a1 a2 a3 a4 a5 a6 : Value} {post : Int64 → fc_I → fc_P → Prop} (hc : fc_cfV m.1.cls idx m' ci 6) (hs : sh[b]? = some (10 + ci, N)) (hC : fc_Cl m' d [.ref b, a1, a2, a3, a4, a5, a6] sh I P post) (hst : (st.map fun v => v.category).sum ≤ 8) (hd : decode m.2.1 pc = .ok (.invokevirtual idx, 3)) (kk : ∀ (r : Int64) (I' : fc_I) (P' : fc_P), post r I' P' → fc_T m (d + 1) nb zb (pc + 3) ls (.long r :: st) sh I' P' Q) : fc_T m (d + 1) nb zb pc ls (a6 :: a5 :: a4 :: a3 :: a2 :: a1 :: .ref b :: st) sh I P Q := fc_calLV (As := [a1, a2, a3, a4, a5, a6]) hc hs hC (fun v sh' I' P' h => h.1) rfl hst hd (fun v I' P' hq => by obtain ⟨_, r, rfl, hq⟩ := hq; exact kk r I' P' hq)
theorem ft_V6v {ci N b : Nat} {a1 a2 a3 a4 a5 a6 : Value} {post : fc_I → fc_P → Prop} (hc : fc_cfV m.1.cls idx m' ci 6) (hs : sh[b]? = some (10 + ci, N)) (hC : fc_Cv m' d [.ref b, a1, a2, a3, a4, a5, a6] sh I P post) (hst : (st.map fun v => v.category).sum ≤ 8) (hd : decode m.2.1 pc = .ok (.invokevirtual idx, 3)) (kk : ∀ (I' : fc_I) (P' : fc_P), post I' P' → fc_T m (d + 1) nb zb (pc + 3) ls st sh I' P' Q) : fc_T m (d + 1) nb zb pc ls (a6 :: a5 :: a4 :: a3 :: a2 :: a1 :: .ref b :: st) sh I P Q := fc_calLV (As := [a1, a2, a3, a4, a5, a6]) hc hs hC (fun v sh' I' P' h => h.1) rfl hst hd (fun v I' P' hq => by obtain ⟨_, rfl, hq⟩ := hq; exact kk I' P' hq)
theorem ft_S0i {post : Int32 → fc_I → fc_P → Prop} (hc : fc_cfS m.1.cls idx m' 0) (hC : fc_Ci m' d [] sh I P post) (hst : (st.map fun v => v.category).sum ≤ 8) (hd : decode m.2.1 pc = .ok (.invokestatic idx, 3)) (kk : ∀ (r : Int32) (I' : fc_I) (P' : fc_P), post r I' P' → fc_T m (d + 1) nb zb (pc + 3) ls (.int r :: st) sh I' P' Q) : fc_T m (d + 1) nb zb pc ls (st) sh I P Q := fc_calLS (As := []) hc hC (fun v sh' I' P' h => h.1) rfl hst hd (fun v I' P' hq => by obtain ⟨_, r, rfl, hq⟩ := hq; exact kk r I' P' hq)
theorem ft_S0p {x : Int32} (hc : fc_cfS m.1.cls idx m' 0) (hC : fc_Cp m' d [] sh I P x) (hst : (st.map fun v => v.category).sum ≤ 8) (hd : decode m.2.1 pc = .ok (.invokestatic idx, 3)) (kk : fc_T m (d + 1) nb zb (pc + 3) ls (.int x :: st) sh I P Q) : fc_T m (d + 1) nb zb pc ls (st) sh I P Q := fc_calLS (As := []) hc hC (fun v sh' I' P' h => h.1) rfl hst hd (fun v I' P' hq => by obtain ⟨_, r, rfl, rfl, rfl, rfl⟩ := hq; exact kk)
theorem ft_S0l {post : Int64 → fc_I → fc_P → Prop} (hc : fc_cfS m.1.cls idx m' 0) (hC : fc_Cl m' d [] sh I P post) (hst : (st.map fun v => v.category).sum ≤ 8) (hd : decode m.2.1 pc = .ok (.invokestatic idx, 3)) (kk : ∀ (r : Int64) (I' : fc_I) (P' : fc_P), post r I' P' → fc_T m (d + 1) nb zb (pc + 3) ls (.long r :: st) sh I' P' Q) : fc_T m (d + 1) nb zb pc ls (st) sh I P Q := fc_calLS (As := []) hc hC (fun v sh' I' P' h => h.1) rfl hst hd (fun v I' P' hq => by obtain ⟨_, r, rfl, hq⟩ := hq; exact kk r I' P' hq)
theorem ft_S0v {post : fc_I → fc_P → Prop} (hc : fc_cfS m.1.cls idx m' 0) (hC : fc_Cv m' d [] sh I P post) (hst : (st.map fun v => v.category).sum ≤ 8) (hd : decode m.2.1 pc = .ok (.invokestatic idx, 3)) (kk : ∀ (I' : fc_I) (P' : fc_P), post I' P' → fc_T m (d + 1) nb zb (pc + 3) ls st sh I' P' Q) : fc_T m (d + 1) nb zb pc ls (st) sh I P Q := fc_calLS (As := []) hc hC (fun v sh' I' P' h => h.1) rfl hst hd (fun v I' P' hq => by obtain ⟨_, rfl, hq⟩ := hq; exact kk I' P' hq)
theorem ft_S1i {a1 : Value} {post : Int32 → fc_I → fc_P → Prop} (hc : fc_cfS m.1.cls idx m' 1) (hC : fc_Ci m' d [a1] sh I P post) (hst : (st.map fun v => v.category).sum ≤ 8) (hd : decode m.2.1 pc = .ok (.invokestatic idx, 3)) (kk : ∀ (r : Int32) (I' : fc_I) (P' : fc_P), post r I' P' → fc_T m (d + 1) nb zb (pc + 3) ls (.int r :: st) sh I' P' Q) : fc_T m (d + 1) nb zb pc ls (a1 :: st) sh I P Q := fc_calLS (As := [a1]) hc hC (fun v sh' I' P' h => h.1) rfl hst hd (fun v I' P' hq => by obtain ⟨_, r, rfl, hq⟩ := hq; exact kk r I' P' hq)
theorem ft_S1p {a1 : Value} {x : Int32} (hc : fc_cfS m.1.cls idx m' 1) (hC : fc_Cp m' d [a1] sh I P x) (hst : (st.map fun v => v.category).sum ≤ 8) (hd : decode m.2.1 pc = .ok (.invokestatic idx, 3)) (kk : fc_T m (d + 1) nb zb (pc + 3) ls (.int x :: st) sh I P Q) : fc_T m (d + 1) nb zb pc ls (a1 :: st) sh I P Q := fc_calLS (As := [a1]) hc hC (fun v sh' I' P' h => h.1) rfl hst hd (fun v I' P' hq => by obtain ⟨_, r, rfl, rfl, rfl, rfl⟩ := hq; exact kk)
theorem ft_S1l {a1 : Value} {post : Int64 → fc_I → fc_P → Prop} (hc : fc_cfS m.1.cls idx m' 1) (hC : fc_Cl m' d [a1] sh I P post) (hst : (st.map fun v => v.category).sum ≤ 8) (hd : decode m.2.1 pc = .ok (.invokestatic idx, 3)) (kk : ∀ (r : Int64) (I' : fc_I) (P' : fc_P), post r I' P' → fc_T m (d + 1) nb zb (pc + 3) ls (.long r :: st) sh I' P' Q) : fc_T m (d + 1) nb zb pc ls (a1 :: st) sh I P Q := fc_calLS (As := [a1]) hc hC (fun v sh' I' P' h => h.1) rfl hst hd (fun v I' P' hq => by obtain ⟨_, r, rfl, hq⟩ := hq; exact kk r I' P' hq)
theorem ft_S1v {a1 : Value} {post : fc_I → fc_P → Prop} (hc : fc_cfS m.1.cls idx m' 1) (hC : fc_Cv m' d [a1] sh I P post) (hst : (st.map fun v => v.category).sum ≤ 8) (hd : decode m.2.1 pc = .ok (.invokestatic idx, 3)) (kk : ∀ (I' : fc_I) (P' : fc_P), post I' P' → fc_T m (d + 1) nb zb (pc + 3) ls st sh I' P' Q) : fc_T m (d + 1) nb zb pc ls (a1 :: st) sh I P Q := fc_calLS (As := [a1]) hc hC (fun v sh' I' P' h => h.1) rfl hst hd (fun v I' P' hq => by obtain ⟨_, rfl, hq⟩ := hq; exact kk I' P' hq)
theorem ft_S2i {a1 a2 : Value} {post : Int32 → fc_I → fc_P → Prop} (hc : fc_cfS m.1.cls idx m' 2) (hC : fc_Ci m' d [a1, a2] sh I P post) (hst : (st.map fun v => v.category).sum ≤ 8) (hd : decode m.2.1 pc = .ok (.invokestatic idx, 3)) (kk : ∀ (r : Int32) (I' : fc_I) (P' : fc_P), post r I' P' → fc_T m (d + 1) nb zb (pc + 3) ls (.int r :: st) sh I' P' Q) : fc_T m (d + 1) nb zb pc ls (a2 :: a1 :: st) sh I P Q := fc_calLS (As := [a1, a2]) hc hC (fun v sh' I' P' h => h.1) rfl hst hd (fun v I' P' hq => by obtain ⟨_, r, rfl, hq⟩ := hq; exact kk r I' P' hq)
theorem ft_S2p {a1 a2 : Value} {x : Int32} (hc : fc_cfS m.1.cls idx m' 2) (hC : fc_Cp m' d [a1, a2] sh I P x) (hst : (st.map fun v => v.category).sum ≤ 8) (hd : decode m.2.1 pc = .ok (.invokestatic idx, 3)) (kk : fc_T m (d + 1) nb zb (pc + 3) ls (.int x :: st) sh I P Q) : fc_T m (d + 1) nb zb pc ls (a2 :: a1 :: st) sh I P Q := fc_calLS (As := [a1, a2]) hc hC (fun v sh' I' P' h => h.1) rfl hst hd (fun v I' P' hq => by obtain ⟨_, r, rfl, rfl, rfl, rfl⟩ := hq; exact kk)
theorem ft_S2l {a1 a2 : Value} {post : Int64 → fc_I → fc_P → Prop} (hc : fc_cfS m.1.cls idx m' 2) (hC : fc_Cl m' d [a1, a2] sh I P post) (hst : (st.map fun v => v.category).sum ≤ 8) (hd : decode m.2.1 pc = .ok (.invokestatic idx, 3)) (kk : ∀ (r : Int64) (I' : fc_I) (P' : fc_P), post r I' P' → fc_T m (d + 1) nb zb (pc + 3) ls (.long r :: st) sh I' P' Q) : fc_T m (d + 1) nb zb pc ls (a2 :: a1 :: st) sh I P Q := fc_calLS (As := [a1, a2]) hc hC (fun v sh' I' P' h => h.1) rfl hst hd (fun v I' P' hq => by obtain ⟨_, r, rfl, hq⟩ := hq; exact kk r I' P' hq)
theorem ft_S2v {a1 a2 : Value} {post : fc_I → fc_P → Prop} (hc : fc_cfS m.1.cls idx m' 2) (hC : fc_Cv m' d [a1, a2] sh I P post) (hst : (st.map fun v => v.category).sum ≤ 8) (hd : decode m.2.1 pc = .ok (.invokestatic idx, 3)) (kk : ∀ (I' : fc_I) (P' : fc_P), post I' P' → fc_T m (d + 1) nb zb (pc + 3) ls st sh I' P' Q) : fc_T m (d + 1) nb zb pc ls (a2 :: a1 :: st) sh I P Q := fc_calLS (As := [a1, a2]) hc hC (fun v sh' I' P' h => h.1) rfl hst hd (fun v I' P' hq => by obtain ⟨_, rfl, hq⟩ := hq; exact kk I' P' hq)
theorem ft_S3i {a1 a2 a3 : Value} {post : Int32 → fc_I → fc_P → Prop} (hc : fc_cfS m.1.cls idx m' 3) (hC : fc_Ci m' d [a1, a2, a3] sh I P post) (hst : (st.map fun v => v.category).sum ≤ 8) (hd : decode m.2.1 pc = .ok (.invokestatic idx, 3)) (kk : ∀ (r : Int32) (I' : fc_I) (P' : fc_P), post r I' P' → fc_T m (d + 1) nb zb (pc + 3) ls (.int r :: st) sh I' P' Q) : fc_T m (d + 1) nb zb pc ls (a3 :: a2 :: a1 :: st) sh I P Q := fc_calLS (As := [a1, a2, a3]) hc hC (fun v sh' I' P' h => h.1) rfl hst hd (fun v I' P' hq => by obtain ⟨_, r, rfl, hq⟩ := hq; exact kk r I' P' hq)
theorem ft_S3p {a1 a2 a3 : Value} {x : Int32} (hc : fc_cfS m.1.cls idx m' 3) (hC : fc_Cp m' d [a1, a2, a3] sh I P x) (hst : (st.map fun v => v.category).sum ≤ 8) (hd : decode m.2.1 pc = .ok (.invokestatic idx, 3)) (kk : fc_T m (d + 1) nb zb (pc + 3) ls (.int x :: st) sh I P Q) : fc_T m (d + 1) nb zb pc ls (a3 :: a2 :: a1 :: st) sh I P Q := fc_calLS (As := [a1, a2, a3]) hc hC (fun v sh' I' P' h => h.1) rfl hst hd (fun v I' P' hq => by obtain ⟨_, r, rfl, rfl, rfl, rfl⟩ := hq; exact kk)
theorem ft_S3l {a1 a2 a3 : Value} {post : Int64 → fc_I → fc_P → Prop} (hc : fc_cfS m.1.cls idx m' 3) (hC : fc_Cl m' d [a1, a2, a3] sh I P post) (hst : (st.map fun v => v.category).sum ≤ 8) (hd : decode m.2.1 pc = .ok (.invokestatic idx, 3)) (kk : ∀ (r : Int64) (I' : fc_I) (P' : fc_P), post r I' P' → fc_T m (d + 1) nb zb (pc + 3) ls (.long r :: st) sh I' P' Q) : fc_T m (d + 1) nb zb pc ls (a3 :: a2 :: a1 :: st) sh I P Q := fc_calLS (As := [a1, a2, a3]) hc hC (fun v sh' I' P' h => h.1) rfl hst hd (fun v I' P' hq => by obtain ⟨_, r, rfl, hq⟩ := hq; exact kk r I' P' hq)
theorem ft_S3v {a1 a2 a3 : Value} {post : fc_I → fc_P → Prop} (hc : fc_cfS m.1.cls idx m' 3) (hC : fc_Cv m' d [a1, a2, a3] sh I P post) (hst : (st.map fun v => v.category).sum ≤ 8) (hd : decode m.2.1 pc = .ok (.invokestatic idx, 3)) (kk : ∀ (I' : fc_I) (P' : fc_P), post I' P' → fc_T m (d + 1) nb zb (pc + 3) ls st sh I' P' Q) : fc_T m (d + 1) nb zb pc ls (a3 :: a2 :: a1 :: st) sh I P Q := fc_calLS (As := [a1, a2, a3]) hc hC (fun v sh' I' P' h => h.1) rfl hst hd (fun v I' P' hq => by obtain ⟨_, rfl, hq⟩ := hq; exact kk I' P' hq)
theorem ft_S4i {a1 a2 a3 a4 : Value} {post : Int32 → fc_I → fc_P → Prop} (hc : fc_cfS m.1.cls idx m' 4) (hC : fc_Ci m' d [a1, a2, a3, a4] sh I P post) (hst : (st.map fun v => v.category).sum ≤ 8) (hd : decode m.2.1 pc = .ok (.invokestatic idx, 3)) (kk : ∀ (r : Int32) (I' : fc_I) (P' : fc_P), post r I' P' → fc_T m (d + 1) nb zb (pc + 3) ls (.int r :: st) sh I' P' Q) : fc_T m (d + 1) nb zb pc ls (a4 :: a3 :: a2 :: a1 :: st) sh I P Q := fc_calLS (As := [a1, a2, a3, a4]) hc hC (fun v sh' I' P' h => h.1) rfl hst hd (fun v I' P' hq => by obtain ⟨_, r, rfl, hq⟩ := hq; exact kk r I' P' hq)
theorem ft_S4p {a1 a2 a3 a4 : Value} {x : Int32} (hc : fc_cfS m.1.cls idx m' 4) (hC : fc_Cp m' d [a1, a2, a3, a4] sh I P x) (hst : (st.map fun v => v.category).sum ≤ 8) (hd : decode m.2.1 pc = .ok (.invokestatic idx, 3)) (kk : fc_T m (d + 1) nb zb (pc + 3) ls (.int x :: st) sh I P Q) : fc_T m (d + 1) nb zb pc ls (a4 :: a3 :: a2 :: a1 :: st) sh I P Q := fc_calLS (As := [a1, a2, a3, a4]) hc hC (fun v sh' I' P' h => h.1) rfl hst hd (fun v I' P' hq => by obtain ⟨_, r, rfl, rfl, rfl, rfl⟩ := hq; exact kk)
theorem ft_S4l {a1 a2 a3 a4 : Value} {post : Int64 → fc_I → fc_P → Prop} (hc : fc_cfS m.1.cls idx m' 4) (hC : fc_Cl m' d [a1, a2, a3, a4] sh I P post) (hst : (st.map fun v => v.category).sum ≤ 8) (hd : decode m.2.1 pc = .ok (.invokestatic idx, 3)) (kk : ∀ (r : Int64) (I' : fc_I) (P' : fc_P), post r I' P' → fc_T m (d + 1) nb zb (pc + 3) ls (.long r :: st) sh I' P' Q) : fc_T m (d + 1) nb zb pc ls (a4 :: a3 :: a2 :: a1 :: st) sh I P Q := fc_calLS (As := [a1, a2, a3, a4]) hc hC (fun v sh' I' P' h => h.1) rfl hst hd (fun v I' P' hq => by obtain ⟨_, r, rfl, hq⟩ := hq; exact kk r I' P' hq)
theorem ft_S4v {a1 a2 a3 a4 : Value} {post : fc_I → fc_P → Prop} (hc : fc_cfS m.1.cls idx m' 4) (hC : fc_Cv m' d [a1, a2, a3, a4] sh I P post) (hst : (st.map fun v => v.category).sum ≤ 8) (hd : decode m.2.1 pc = .ok (.invokestatic idx, 3)) (kk : ∀ (I' : fc_I) (P' : fc_P), post I' P' → fc_T m (d + 1) nb zb (pc + 3) ls st sh I' P' Q) : fc_T m (d + 1) nb zb pc ls (a4 :: a3 :: a2 :: a1 :: st) sh I P Q := fc_calLS (As := [a1, a2, a3, a4]) hc hC (fun v sh' I' P' h => h.1) rfl hst hd (fun v I' P' hq => by obtain ⟨_, rfl, hq⟩ := hq; exact kk I' P' hq)
theorem ft_S5i {a1 a2 a3 a4 a5 : Value} {post : Int32 → fc_I → fc_P → Prop} (hc : fc_cfS m.1.cls idx m' 5) (hC : fc_Ci m' d [a1, a2, a3, a4, a5] sh I P post) (hst : (st.map fun v => v.category).sum ≤ 8) (hd : decode m.2.1 pc = .ok (.invokestatic idx, 3)) (kk : ∀ (r : Int32) (I' : fc_I) (P' : fc_P), post r I' P' → fc_T m (d + 1) nb zb (pc + 3) ls (.int r :: st) sh I' P' Q) : fc_T m (d + 1) nb zb pc ls (a5 :: a4 :: a3 :: a2 :: a1 :: st) sh I P Q := fc_calLS (As := [a1, a2, a3, a4, a5]) hc hC (fun v sh' I' P' h => h.1) rfl hst hd (fun v I' P' hq => by obtain ⟨_, r, rfl, hq⟩ := hq; exact kk r I' P' hq)
theorem ft_S5p {a1 a2 a3 a4 a5 : Value} {x : Int32} (hc : fc_cfS m.1.cls idx m' 5) (hC : fc_Cp m' d [a1, a2, a3, a4, a5] sh I P x) (hst : (st.map fun v => v.category).sum ≤ 8) (hd : decode m.2.1 pc = .ok (.invokestatic idx, 3)) (kk : fc_T m (d + 1) nb zb (pc + 3) ls (.int x :: st) sh I P Q) : fc_T m (d + 1) nb zb pc ls (a5 :: a4 :: a3 :: a2 :: a1 :: st) sh I P Q := fc_calLS (As := [a1, a2, a3, a4, a5]) hc hC (fun v sh' I' P' h => h.1) rfl hst hd (fun v I' P' hq => by obtain ⟨_, r, rfl, rfl, rfl, rfl⟩ := hq; exact kk)
theorem ft_S5l {a1 a2 a3 a4 a5 : Value} {post : Int64 → fc_I → fc_P → Prop} (hc : fc_cfS m.1.cls idx m' 5) (hC : fc_Cl m' d [a1, a2, a3, a4, a5] sh I P post) (hst : (st.map fun v => v.category).sum ≤ 8) (hd : decode m.2.1 pc = .ok (.invokestatic idx, 3)) (kk : ∀ (r : Int64) (I' : fc_I) (P' : fc_P), post r I' P' → fc_T m (d + 1) nb zb (pc + 3) ls (.long r :: st) sh I' P' Q) : fc_T m (d + 1) nb zb pc ls (a5 :: a4 :: a3 :: a2 :: a1 :: st) sh I P Q := fc_calLS (As := [a1, a2, a3, a4, a5]) hc hC (fun v sh' I' P' h => h.1) rfl hst hd (fun v I' P' hq => by obtain ⟨_, r, rfl, hq⟩ := hq; exact kk r I' P' hq)
theorem ft_S5v {a1 a2 a3 a4 a5 : Value} {post : fc_I → fc_P → Prop} (hc : fc_cfS m.1.cls idx m' 5) (hC : fc_Cv m' d [a1, a2, a3, a4, a5] sh I P post) (hst : (st.map fun v => v.category).sum ≤ 8) (hd : decode m.2.1 pc = .ok (.invokestatic idx, 3)) (kk : ∀ (I' : fc_I) (P' : fc_P), post I' P' → fc_T m (d + 1) nb zb (pc + 3) ls st sh I' P' Q) : fc_T m (d + 1) nb zb pc ls (a5 :: a4 :: a3 :: a2 :: a1 :: st) sh I P Q := fc_calLS (As := [a1, a2, a3, a4, a5]) hc hC (fun v sh' I' P' h => h.1) rfl hst hd (fun v I' P' hq => by obtain ⟨_, rfl, hq⟩ := hq; exact kk I' P' hq)
theorem ft_S6i {a1 a2 a3 a4 a5 a6 : Value} {post : Int32 → fc_I → fc_P → Prop} (hc : fc_cfS m.1.cls idx m' 6) (hC : fc_Ci m' d [a1, a2, a3, a4, a5, a6] sh I P post) (hst : (st.map fun v => v.category).sum ≤ 8) (hd : decode m.2.1 pc = .ok (.invokestatic idx, 3)) (kk : ∀ (r : Int32) (I' : fc_I) (P' : fc_P), post r I' P' → fc_T m (d + 1) nb zb (pc + 3) ls (.int r :: st) sh I' P' Q) : fc_T m (d + 1) nb zb pc ls (a6 :: a5 :: a4 :: a3 :: a2 :: a1 :: st) sh I P Q := fc_calLS (As := [a1, a2, a3, a4, a5, a6]) hc hC (fun v sh' I' P' h => h.1) rfl hst hd (fun v I' P' hq => by obtain ⟨_, r, rfl, hq⟩ := hq; exact kk r I' P' hq)
theorem ft_S6p {a1 a2 a3 a4 a5 a6 : Value} {x : Int32} (hc : fc_cfS m.1.cls idx m' 6) (hC : fc_Cp m' d [a1, a2, a3, a4, a5, a6] sh I P x) (hst : (st.map fun v => v.category).sum ≤ 8) (hd : decode m.2.1 pc = .ok (.invokestatic idx, 3)) (kk : fc_T m (d + 1) nb zb (pc + 3) ls (.int x :: st) sh I P Q) : fc_T m (d + 1) nb zb pc ls (a6 :: a5 :: a4 :: a3 :: a2 :: a1 :: st) sh I P Q := fc_calLS (As := [a1, a2, a3, a4, a5, a6]) hc hC (fun v sh' I' P' h => h.1) rfl hst hd (fun v I' P' hq => by obtain ⟨_, r, rfl, rfl, rfl, rfl⟩ := hq; exact kk)
theorem ft_S6l {a1 a2 a3 a4 a5 a6 : Value} {post : Int64 → fc_I → fc_P → Prop} (hc : fc_cfS m.1.cls idx m' 6) (hC : fc_Cl m' d [a1, a2, a3, a4, a5, a6] sh I P post) (hst : (st.map fun v => v.category).sum ≤ 8) (hd : decode m.2.1 pc = .ok (.invokestatic idx, 3)) (kk : ∀ (r : Int64) (I' : fc_I) (P' : fc_P), post r I' P' → fc_T m (d + 1) nb zb (pc + 3) ls (.long r :: st) sh I' P' Q) : fc_T m (d + 1) nb zb pc ls (a6 :: a5 :: a4 :: a3 :: a2 :: a1 :: st) sh I P Q := fc_calLS (As := [a1, a2, a3, a4, a5, a6]) hc hC (fun v sh' I' P' h => h.1) rfl hst hd (fun v I' P' hq => by obtain ⟨_, r, rfl, hq⟩ := hq; exact kk r I' P' hq)
theorem ft_S6v {a1 a2 a3 a4 a5 a6 : Value} {post : fc_I → fc_P → Prop} (hc : fc_cfS m.1.cls idx m' 6) (hC : fc_Cv m' d [a1, a2, a3, a4, a5, a6] sh I P post) (hst : (st.map fun v => v.category).sum ≤ 8) (hd : decode m.2.1 pc = .ok (.invokestatic idx, 3)) (kk : ∀ (I' : fc_I) (P' : fc_P), post I' P' → fc_T m (d + 1) nb zb (pc + 3) ls st sh I' P' Q) : fc_T m (d + 1) nb zb pc ls (a6 :: a5 :: a4 :: a3 :: a2 :: a1 :: st) sh I P Q := fc_calLS (As := [a1, a2, a3, a4, a5, a6]) hc hC (fun v sh' I' P' h => h.1) rfl hst hd (fun v I' P' hq => by obtain ⟨_, rfl, hq⟩ := hq; exact kk I' P' hq)
theorem ft_SN1i {host : String} {a1 : Value} {post : Int32 → fc_I → fc_P → Prop} (hc : fc_cfSN m.1.cls idx m' host 1) (hC : fc_Ci m' d [a1] sh I P post) (hst : (st.map fun v => v.category).sum ≤ 8) (hd : decode m.2.1 pc = .ok (.invokestatic idx, 3)) (kk : ∀ (r : Int32) (I' : fc_I) (P' : fc_P), post r I' P' → fc_T m (d + 1) nb zb (pc + 3) ls (.int r :: st) sh I' P' Q) : fc_T m (d + 1) nb zb pc ls (a1 :: st) sh I P Q := fc_calLSN (As := [a1]) hc hC (fun v sh' I' P' h => h.1) rfl hst hd (fun v I' P' hq => by obtain ⟨_, r, rfl, hq⟩ := hq; exact kk r I' P' hq)
theorem ft_SN1p {host : String} {a1 : Value} {x : Int32} (hc : fc_cfSN m.1.cls idx m' host 1) (hC : fc_Cp m' d [a1] sh I P x) (hst : (st.map fun v => v.category).sum ≤ 8) (hd : decode m.2.1 pc = .ok (.invokestatic idx, 3)) (kk : fc_T m (d + 1) nb zb (pc + 3) ls (.int x :: st) sh I P Q) : fc_T m (d + 1) nb zb pc ls (a1 :: st) sh I P Q := fc_calLSN (As := [a1]) hc hC (fun v sh' I' P' h => h.1) rfl hst hd (fun v I' P' hq => by obtain ⟨_, r, rfl, rfl, rfl, rfl⟩ := hq; exact kk)
theorem ft_SN3i {host : String} {a1 a2 a3 : Value} {post : Int32 → fc_I → fc_P → Prop} (hc : fc_cfSN m.1.cls idx m' host 3) (hC : fc_Ci m' d [a1, a2, a3] sh I P post) (hst : (st.map fun v => v.category).sum ≤ 8) (hd : decode m.2.1 pc = .ok (.invokestatic idx, 3)) (kk : ∀ (r : Int32) (I' : fc_I) (P' : fc_P), post r I' P' → fc_T m (d + 1) nb zb (pc + 3) ls (.int r :: st) sh I' P' Q) : fc_T m (d + 1) nb zb pc ls (a3 :: a2 :: a1 :: st) sh I P Q := fc_calLSN (As := [a1, a2, a3]) hc hC (fun v sh' I' P' h => h.1) rfl hst hd (fun v I' P' hq => by obtain ⟨_, r, rfl, hq⟩ := hq; exact kk r I' P' hq)
theorem ft_SN3p {host : String} {a1 a2 a3 : Value} {x : Int32} (hc : fc_cfSN m.1.cls idx m' host 3) (hC : fc_Cp m' d [a1, a2, a3] sh I P x) (hst : (st.map fun v => v.category).sum ≤ 8) (hd : decode m.2.1 pc = .ok (.invokestatic idx, 3)) (kk : fc_T m (d + 1) nb zb (pc + 3) ls (.int x :: st) sh I P Q) : fc_T m (d + 1) nb zb pc ls (a3 :: a2 :: a1 :: st) sh I P Q := fc_calLSN (As := [a1, a2, a3]) hc hC (fun v sh' I' P' h => h.1) rfl hst hd (fun v I' P' hq => by obtain ⟨_, r, rfl, rfl, rfl, rfl⟩ := hq; exact kk)
theorem ft_VS0i {k : Nat} {post : Int32 → fc_I → fc_P → Prop} (hc : fc_cfVS m.1.cls idx m' 0) (hk : k < 12) (hC : fc_Ci m' d [.ref (1000 + k)] sh I P post) (hst : (st.map fun v => v.category).sum ≤ 8) (hd : decode m.2.1 pc = .ok (.invokevirtual idx, 3)) (kk : ∀ (r : Int32) (I' : fc_I) (P' : fc_P), post r I' P' → fc_T m (d + 1) nb zb (pc + 3) ls (.int r :: st) sh I' P' Q) : fc_T m (d + 1) nb zb pc ls (.ref (1000 + k) :: st) sh I P Q := fc_calLVS (As := []) hc hk hC (fun v sh' I' P' h => h.1) rfl hst hd (fun v I' P' hq => by obtain ⟨_, r, rfl, hq⟩ := hq; exact kk r I' P' hq)
theorem ft_VS0p {k : Nat} {x : Int32} (hc : fc_cfVS m.1.cls idx m' 0) (hk : k < 12) (hC : fc_Cp m' d [.ref (1000 + k)] sh I P x) (hst : (st.map fun v => v.category).sum ≤ 8) (hd : decode m.2.1 pc = .ok (.invokevirtual idx, 3)) (kk : fc_T m (d + 1) nb zb (pc + 3) ls (.int x :: st) sh I P Q) : fc_T m (d + 1) nb zb pc ls (.ref (1000 + k) :: st) sh I P Q := fc_calLVS (As := []) hc hk hC (fun v sh' I' P' h => h.1) rfl hst hd (fun v I' P' hq => by obtain ⟨_, r, rfl, rfl, rfl, rfl⟩ := hq; exact kk)
theorem ft_VS1i {k : Nat} {a1 : Value} {post : Int32 → fc_I → fc_P → Prop} (hc : fc_cfVS m.1.cls idx m' 1) (hk : k < 12) (hC : fc_Ci m' d [.ref (1000 + k), a1] sh I P post) (hst : (st.map fun v => v.category).sum ≤ 8) (hd : decode m.2.1 pc = .ok (.invokevirtual idx, 3)) (kk : ∀ (r : Int32) (I' : fc_I) (P' : fc_P), post r I' P' → fc_T m (d + 1) nb zb (pc + 3) ls (.int r :: st) sh I' P' Q) : fc_T m (d + 1) nb zb pc ls (a1 :: .ref (1000 + k) :: st) sh I P Q := fc_calLVS (As := [a1]) hc hk hC (fun v sh' I' P' h => h.1) rfl hst hd (fun v I' P' hq => by obtain ⟨_, r, rfl, hq⟩ := hq; exact kk r I' P' hq)
theorem ft_VS1p {k : Nat} {a1 : Value} {x : Int32} (hc : fc_cfVS m.1.cls idx m' 1) (hk : k < 12) (hC : fc_Cp m' d [.ref (1000 + k), a1] sh I P x) (hst : (st.map fun v => v.category).sum ≤ 8) (hd : decode m.2.1 pc = .ok (.invokevirtual idx, 3)) (kk : fc_T m (d + 1) nb zb (pc + 3) ls (.int x :: st) sh I P Q) : fc_T m (d + 1) nb zb pc ls (a1 :: .ref (1000 + k) :: st) sh I P Q := fc_calLVS (As := [a1]) hc hk hC (fun v sh' I' P' h => h.1) rfl hst hd (fun v I' P' hq => by obtain ⟨_, r, rfl, rfl, rfl, rfl⟩ := hq; exact kk)
theorem ft_bz {c : Prop} [Decidable c] {off : Int} {tgt : Nat} (hd : decode m.2.1 pc = .ok (.ifCond .eq off, 3)) (ht : (pc : Int) + off = (tgt : Int)) (kt : ¬ c → fc_T m d nb zb tgt ls st sh I P Q) (kf : c → fc_T m d nb zb (pc + 3) ls st sh I P Q) : fc_T m d nb zb pc ls (.int (if c then 1 else 0) :: st) sh I P Q := by
  by_cases h : c
  · rw [if_pos h]; exact ft_if_eq hd ht (fun q => absurd q (by decide)) (fun _ => kf h)
  · rw [if_neg h]; exact ft_if_eq hd ht (fun _ => kt h) (fun q => absurd rfl q)
theorem ft_bnz {c : Prop} [Decidable c] {off : Int} {tgt : Nat} (hd : decode m.2.1 pc = .ok (.ifCond .ne off, 3)) (ht : (pc : Int) + off = (tgt : Int)) (kt : c → fc_T m d nb zb tgt ls st sh I P Q) (kf : ¬ c → fc_T m d nb zb (pc + 3) ls st sh I P Q) : fc_T m d nb zb pc ls (.int (if c then 1 else 0) :: st) sh I P Q := by
  by_cases h : c
  · rw [if_pos h]; exact ft_if_ne hd ht (fun _ => kt h) (fun q => absurd q (by decide))
  · rw [if_neg h]; exact ft_if_ne hd ht (fun q => absurd rfl q) (fun _ => kf h)
theorem fc_nb {c : Prop} [Decidable c] : narrow .boolean (.int (if c then 1 else 0)) = .int (if c then 1 else 0) := by
  by_cases h : c
  · rw [if_pos h]; rfl
  · rw [if_neg h]; rfl

end STEADY
