/-! ===== the T layer: a pure memory (shape, ints, references), and walks over it ===== -/
abbrev fc_MI : Type := MethodName × ByteArray × Nat × Option FieldType × Option (Nat × (Nat → Int32))
abbrev fc_Sh : Type := List (Nat × Nat)
abbrev fc_I : Type := Nat → Nat → Int32
abbrev fc_P : Type := Nat → Nat → Option Nat
def fc_tbl : List Cond := lw_tbl.filter goodWord
theorem fc_good : GoodIn fc_tbl fc_tbl := fun w hw => ⟨hw, good_of_word (List.mem_filter.mp hw).2⟩
theorem fc_mem {w : Cond} (i : Nat) (h : lw_tbl[i]? = some w) (g : goodWord w = true) : w ∈ fc_tbl := List.mem_filter.mpr ⟨List.mem_of_getElem? h, g⟩
abbrev fc_cl : List vw_C := [(RX0, TX0, 9), (RX1, TX1, 5), (RX2, TX2, 10), (RX3, TX3, 8), (RX4, TX4, 7), (RX5, TX5, 10), (RX6, TX6, 6), (RX7, TX7, 3), (RX8, TX8, 12), (RX9, TX9, 4), (RX10, TX10, 9), (RX11, TX11, 75)]
def fc_ty (ci k : Nat) : FieldType := match ci with
  | 0 => tyX0 k
  | 1 => tyX1 k
  | 2 => tyX2 k
  | 3 => tyX3 k
  | 4 => tyX4 k
  | 5 => tyX5 k
  | 6 => tyX6 k
  | 7 => tyX7 k
  | 8 => tyX8 k
  | 9 => tyX9 k
  | 10 => tyX10 k
  | _ => tyX11 k
def fc_isR (t : FieldType) : Bool := match t with
  | .array _ => true
  | .object _ => true
  | _ => false
def fc_fv (as : Nat → Nat) (I : fc_I) (P : fc_P) (c ci k : Nat) : Value := if fc_isR (fc_ty ci k) = true then va_rf ((P c k).map as) else .int (I c k)
def fc_cell (β : Nat → ClassId) (as : Nat → Nat) (I : fc_I) (P : fc_P) (c : Nat) (q : Nat × Nat) : va_E :=
  if q.1 < 4 then .inl (β q.1, q.2, .inl (I c))
  else if q.1 < 10 then .inl (β 4, q.2, .inr (.inr (.inr (.inr (fun j => (P c j).map as)))))
  else .inr (q.1 - 10, (List.range q.2).map (fun k => fc_fv as I P c (q.1 - 10) k))
def fc_w (β : Nat → ClassId) (as : Nat → Nat) (sh : fc_Sh) (I : fc_I) (P : fc_P) : va_W := sh.mapIdx (fun c q => (as c, fc_cell β as I P c q))
abbrev fc_tys (β : Nat → ClassId) : List (ClassId × FieldType) := [(β 0, .int), (β 1, .byte), (β 2, .boolean), (β 3, .char), (β 4, .array .int)]
theorem fc_w_at {β : Nat → ClassId} {as : Nat → Nat} {sh : fc_Sh} {I : fc_I} {P : fc_P} {c : Nat} {q : Nat × Nat} (h : sh[c]? = some q) : (fc_w β as sh I P)[c]? = some (as c, fc_cell β as I P c q) := by
  simp [fc_w, h]
theorem fc_w_len {β : Nat → ClassId} {as : Nat → Nat} {sh : fc_Sh} {I : fc_I} {P : fc_P} : (fc_w β as sh I P).length = sh.length := by simp [fc_w]
theorem fc_w_of {β : Nat → ClassId} {as : Nat → Nat} {sh : fc_Sh} {I : fc_I} {P : fc_P} {c : Nat} {x : Nat × va_E} (h : (fc_w β as sh I P)[c]? = some x) : ∃ q, sh[c]? = some q ∧ x = (as c, fc_cell β as I P c q) := by
  simp only [fc_w, List.getElem?_mapIdx, Option.map_eq_some_iff] at h
  obtain ⟨q, h1, h2⟩ := h
  exact ⟨q, h1, h2.symm⟩
/-- a cell put anew -/
theorem fc_w_set {β : Nat → ClassId} {as : Nat → Nat} {sh : fc_Sh} {I I' : fc_I} {P P' : fc_P} {c : Nat} {q : Nat × Nat} (h : sh[c]? = some q) (hI : ∀ c', c' ≠ c → I' c' = I c') (hP : ∀ c', c' ≠ c → P' c' = P c') : (fc_w β as sh I P).set c (as c, fc_cell β as I' P' c q) = fc_w β as sh I' P' := by
  apply List.ext_getElem?
  intro i
  rw [List.getElem?_set]
  by_cases e : c = i
  · subst e
    have hl : c < sh.length := (List.getElem?_eq_some_iff.mp h).1
    rw [if_pos rfl, if_pos (by rw [fc_w_len]; exact hl), fc_w_at h]
  · rw [if_neg e]
    simp only [fc_w, List.getElem?_mapIdx]
    cases sh[i]? with
    | none => rfl
    | some r => simp [fc_cell, fc_fv, hI i (fun z => e z.symm), hP i (fun z => e z.symm)]
/-- other addresses for cells that aren't there -/
def fc_ext (n n' : Nat) (as as' : Nat → Nat) : Prop := ∀ c, ¬ (n ≤ c ∧ c < n') → as' c = as c
theorem fc_ext.rf {n : Nat} {as : Nat → Nat} : fc_ext n n as as := fun _ _ => rfl
theorem fc_ext.eq {n : Nat} {as as' : Nat → Nat} (h : fc_ext n n as as') : as' = as := funext fun c => h c (by omega)
theorem fc_ext.tr {a b c : Nat} {x y z : Nat → Nat} (h1 : fc_ext a b x y) (h2 : fc_ext b c y z) (hab : a ≤ b) (hbc : b ≤ c) : fc_ext a c x z := fun k hk => by
  rw [h2 k (by omega), h1 k (by omega)]
def fc_cv (as : Nat → Nat) (v : Value) : Value := match v with
  | .ref c => .ref (as c)
  | v => v
/-- few cells, and no reference leads beyond them -/
def fc_ok (sh : fc_Sh) (P : fc_P) : Prop := sh.length ≤ 1000 ∧ ∀ c j v, P c j = some v → v < sh.length
def fc_W (β : Nat → ClassId) (D : va_G) (A : Nat → Prop) (as : Nat → Nat) (sh : fc_Sh) (I : fc_I) (P : fc_P) (U : State) (H : Heap) : Prop :=
  va_P D fc_cl (fc_w β as sh I P) H ∧ va_D A (fc_w β as sh I P) ∧ va_K D fc_cl (fc_tys β) U
/-- the locals that are known -/
def fc_lv (as : Nat → Nat) (ls : List (Option Value)) : List (Nat × Value) := (ls.mapIdx (fun i v => (i, v))).filterMap (fun q => q.2.map (fun v => (q.1, fc_cv as v)))
theorem fc_lv_mem {as : Nat → Nat} {ls : List (Option Value)} {i : Nat} {v : Value} (h : ls[i]? = some (some v)) : (i, fc_cv as v) ∈ fc_lv as ls := by
  refine List.mem_filterMap.mpr ⟨(i, some v), List.mem_of_getElem? (i := i) (by simp [h]), rfl⟩
theorem fc_lv_of {as : Nat → Nat} {ls : List (Option Value)} {x : Nat × Value} (h : x ∈ fc_lv as ls) : ∃ v, ls[x.1]? = some (some v) ∧ x.2 = fc_cv as v := by
  obtain ⟨⟨i, o⟩, h1, h2⟩ := List.mem_filterMap.mp h
  obtain ⟨j, hj⟩ := List.mem_iff_getElem?.mp h1
  simp only [List.getElem?_mapIdx, Option.map_eq_some_iff] at hj
  obtain ⟨w, hw, e⟩ := hj
  cases e
  cases o with
  | none => simp at h2
  | some v =>
    simp at h2
    subst h2
    exact ⟨v, hw, rfl⟩
/-- what is outside the own world: texts, a static row, statics of the library, words of nest mates -/
def fc_strs : List (String × Nat × String × Nat) := [("FloodCity", 44, "heed 20 + since * 10 ; stop 60 < wind ;", 0), ("FloodCity$Reader", 87, "since", 1), ("FloodCity$Reader", 93, "height", 2), ("FloodCity$Reader", 95, "wind", 3), ("FloodCity$Reader", 97, "left", 4), ("FloodCity$Reader", 99, "crowd", 5), ("FloodCity$Reader", 101, "zone", 6), ("FloodCity$Reader", 103, "heed", 7), ("FloodCity$Reader", 105, "stop", 8), ("FloodCity$Reader", 107, "or", 9), ("FloodCity$Reader", 109, "and", 10), ("FloodCity$Reader", 111, "not", 11)]
def fc_byt : List (List Int32) := [[104, 101, 101, 100, 32, 50, 48, 32, 43, 32, 115, 105, 110, 99, 101, 32, 42, 32, 49, 48, 32, 59, 32, 115, 116, 111, 112, 32, 54, 48, 32, 60, 32, 119, 105, 110, 100, 32, 59], [115, 105, 110, 99, 101], [104, 101, 105, 103, 104, 116], [119, 105, 110, 100], [108, 101, 102, 116], [99, 114, 111, 119, 100], [122, 111, 110, 101], [104, 101, 101, 100], [115, 116, 111, 112], [111, 114], [97, 110, 100], [110, 111, 116]]
def fc_len : List Nat := [39, 5, 6, 4, 4, 5, 4, 4, 4, 2, 3, 3]
def fc_kab : List Int32 := [-1, 0, 0, 1, 2, 0]
def fc_nest : List (String × Nat × MethodName × String) := [("FloodCity", 18, ⟨"FloodCity$Roads", "<init>", "()V"⟩, "FloodCity"), ("FloodCity", 25, ⟨"FloodCity$Buses", "<init>", "()V"⟩, "FloodCity"), ("FloodCity", 39, ⟨"FloodCity$Book", "<init>", "()V"⟩, "FloodCity"), ("FloodCity$Storm", 46, ⟨"FloodCity", "isNoTrack", "(I)Z"⟩, "FloodCity"), ("FloodCity$Storm", 50, ⟨"FloodCity", "isOutside", "(III)Z"⟩, "FloodCity"), ("FloodCity$Hours", 138, ⟨"FloodCity", "isOutside", "(III)Z"⟩, "FloodCity")]
def fc_env (ex : Nat → Nat) (A : Nat → Prop) (U : State) (H : Heap) : Prop :=
  vk_S 12 fc_len fc_byt ex (fun k => ex (200 + k)) A U H ∧ (∀ q ∈ fc_strs, vk_R q.1 q.2.1 q.2.2.1 (ex q.2.2.2) U) ∧
  va_Z "FloodCity" "KIND_ABOVE" "[I" (.ref (ex 100)) A U H ∧ va_T .int (ex 100) 6 (fun j => .int (fc_kab.getD j 0)) A U H ∧
  va_Z "java/lang/String" "COMPACT_STRINGS" "Z" (.int 1) A U H ∧ (va_Z "jdk/internal/util/Preconditions" "SIOOBE_FORMATTER" "Ljava/util/function/BiFunction;" .null A U H ∨ va_Z "jdk/internal/util/Preconditions" "SIOOBE_FORMATTER" "Ljava/util/function/BiFunction;" (.ref (ex 300)) A U H) ∧
  (∀ q ∈ fc_nest, va_Nw (.methodLinkNest q.1 q.2.1 q.2.2.1 q.2.2.2) U) ∧ va_Nw (.fieldLinkNest "FloodCity$Roads" 31 "FloodCity" "KIND_ABOVE" "[I" "FloodCity") U ∧ (Cond.arrayOver (.array .int)).before #[] U = true
theorem fc_env.to {ex : Nat → Nat} {A B : Nat → Prop} {s U : State} {H : Heap} {locs : List Loc} (h : fc_env ex A s s.heap) (hAB : ∀ q, B q → A q) (hS : va_S A s.heap H locs) (hU : U.heap = H) (hW : s.WarmedH U.vm) : fc_env ex B U U.heap := by
  obtain ⟨h1, h2, h3, h4, h5, h6, h7, h8⟩ := h
  have hvm := hW.alike
  rw [hU]
  exact ⟨((h1.moved hvm).kept hS.2.1).narrow hAB, fun q hq => (h2 q hq).warm hW, ((h3.moved hvm).kept hS.2.1).narrow hAB, ((h4.moved hvm).kept hS.2.1).narrow hAB, ((h5.moved hvm).kept hS.2.1).narrow hAB, h6.imp (fun z => ((z.moved hvm).kept hS.2.1).narrow hAB) (fun z => ((z.moved hvm).kept hS.2.1).narrow hAB), fun q hq => (h7 q hq).warmM hW, h8.1.warmF hW, over_moved hvm h8.2⟩
theorem fc_env.same {ex : Nat → Nat} {A : Nat → Prop} {u U : State} {H : Heap} (h : fc_env ex A u H) (hv : U.vm = u.vm) : fc_env ex A U H := by
  obtain ⟨h1, h2, h3, h4, h5, h6, h7, h8⟩ := h
  have hvm : u.vm.Alike U.vm := by rw [hv]; exact Vm.Alike.refl _
  exact ⟨h1.moved hvm, fun q hq => (h2 q hq).same hv, h3.moved hvm, h4.moved hvm, h5.moved hvm, h6.imp (fun z => z.moved hvm) (fun z => z.moved hvm), fun q hq => (h7 q hq).same rfl hv.symm, h8.1.same rfl hv.symm, over_moved hvm h8.2⟩
abbrev fc_ex (as : Nat → Nat) : Nat → Nat := fun k => as (1000 + k)
/-- what stays through a frame -/
def fc_Ctx (m : fc_MI) (d : Nat) (p : Program) (R : Room) (s : State) (mm : MethodId) (args : Array Value) (meth : Method) (c : Code) (A : Nat → Prop) (ex : Nat → Nat) : Prop :=
  p.tables.exec = Jvm.exec ∧ c.code = m.2.1 ∧ c.maxLocals = m.2.2.1 ∧ s.vm.findClass m.1.cls = some mm.cls ∧ (∀ w ∈ fc_tbl, w.before args s = true) ∧ (m.1.name = "<init>" → meth.name = "<init>") ∧ d ≤ R.frames ∧ 64 * d ≤ R.locals ∧ (∀ q, s.heap.size ≤ q → A q) ∧ fc_env ex A s s.heap ∧ ∀ (L : Nat) (xs : Nat → Int32), m.2.2.2.2 = some (L, xs) → va_X (ex 400) L xs s s.heap ∧ ex 400 < s.heap.size ∧ ¬ A (ex 400)
/-- v is what the method's return at pc gives -/
def fc_isRet (m : fc_MI) (pc : Nat) (v : Option Value) : Prop :=
  (∃ (x : Int32) (ty : FieldType), v = some (.int x) ∧ m.2.2.2.1 = some ty ∧ narrow ty (.int x) = .int x ∧ decode m.2.1 pc = .ok (.ireturn, 1)) ∨
  (∃ x : Int64, v = some (.long x) ∧ m.2.2.2.1 = some .long ∧ decode m.2.1 pc = .ok (.lreturn, 1)) ∨ (v = none ∧ m.2.2.2.1 = none ∧ decode m.2.1 pc = .ok (.return_, 1))
abbrev fc_Q : Type := Option Value → fc_Sh → fc_I → fc_P → Prop
/-- from here the method comes to a return with Q -/
def fc_T (m : fc_MI) (d nb zb : Nat) (pc : Nat) (ls : List (Option Value)) (st : List Value) (sh : fc_Sh) (I : fc_I) (P : fc_P) (Q : fc_Q) : Prop :=
  ∀ (p : Program) (l : Launch) (e : Env) (R : Room) (s : State) (mm : MethodId) (args : Array Value) (below : List Frame) (meth : Method) (c : Code) (β : Nat → ClassId) (D : va_G) (A : Nat → Prop) (as : Nat → Nat) (H : Heap) (locs : List Loc) (cells slots Nt Zt : Nat) (lsA : Array Slot) (QF : State → Prop),
  fc_Ctx m d p R s mm args meth c A (fc_ex as) → (cells + nb ≤ Nt ∧ slots + zb ≤ Zt ∧ Nt ≤ R.cells ∧ Zt ≤ R.slots) → fc_ok sh P →
  fc_W β D A as sh I P s H → va_S A s.heap H locs → lv_has lsA m.2.2.1 (fc_lv as ls) →
  (∀ (pc' : Nat) (lsA' : Array Slot) (v : Option Value) (sh' : fc_Sh) (I' : fc_I) (P' : fc_P) (as' : Nat → Nat) (H' : Heap) (locs' : List Loc) (cells' slots' : Nat), fc_isRet m pc' v → Q v sh' I' P' → sh.length ≤ sh'.length → fc_ok sh' P' → fc_ext sh.length sh'.length as as' → cells' ≤ Nt → slots' ≤ Zt → fc_W β D A as' sh' I' P' s H' → va_S A s.heap H' locs' →
    W p l e R s mm args below meth c H' locs' cells' slots' QF (F0 mm pc' lsA' (v.toList.map (fc_cv as')))) →
  W p l e R s mm args below meth c H locs cells slots QF (F0 mm pc lsA (st.map (fc_cv as)))
/-- a method's contract -/
def fc_Pc (β : Nat → ClassId) (D : va_G) (as : Nat → Nat) (av : List Value) (sh : fc_Sh) (I : fc_I) (P : fc_P) (sz : Nat) : Array Value → State → Prop := fun v U => v = (av.map (fc_cv as)).toArray ∧ U.heap.size = sz ∧ fc_W β D (fun _ => True) as sh I P U U.heap ∧ fc_env (fc_ex as) (va_A (fc_w β as sh I P) sz) U U.heap
def fc_Qc (β : Nat → ClassId) (D : va_G) (as : Nat → Nat) (n : Nat) (A : Nat → Prop) (Q : fc_Q) : Array Value → State → Outcome → State → Prop := fun _ st o t =>
  (∃ (v : Option Value) (sh' : fc_Sh) (I' : fc_I) (P' : fc_P) (as' : Nat → Nat), o = .returned (v.map (fc_cv as')) ∧ Q v sh' I' P' ∧ n ≤ sh'.length ∧ fc_ok sh' P' ∧ fc_ext n sh'.length as as' ∧ fc_W β D A as' sh' I' P' t t.heap) ∧ va_F A st t
def fc_C (m : fc_MI) (d nb zb : Nat) (av : List Value) (sh : fc_Sh) (I : fc_I) (P : fc_P) (Q : fc_Q) : Prop :=
  fc_ok sh P → ∀ (l : Launch) (β : Nat → ClassId) (D : va_G) (as : Nat → Nat) (sz : Nat), Met l m.1 (Cond.code m.1 m.2.1 m.2.2.1 m.2.2.2.1 :: fc_tbl) { frames := d, cells := nb, slots := zb, locals := 64 * d } (fc_Pc β D as av sh I P sz) (fc_Qc β D as sh.length (va_A (fc_w β as sh I P) sz) Q) nb zb (va_A (fc_w β as sh I P) sz)
theorem fc_W.alike {β : Nat → ClassId} {D : va_G} {A : Nat → Prop} {as : Nat → Nat} {sh : fc_Sh} {I : fc_I} {P : fc_P} {u U : State} {H : Heap} (hvm : u.vm.Alike U.vm) (h : fc_W β D A as sh I P u H) : fc_W β D A as sh I P U H := ⟨h.1, h.2.1, h.2.2.moved hvm⟩
theorem fc_W.weak {β : Nat → ClassId} {D : va_G} {A B : Nat → Prop} {as : Nat → Nat} {sh : fc_Sh} {I : fc_I} {P : fc_P} {U : State} {H : Heap} (h : fc_W β D A as sh I P U H) (hAB : ∀ q, A q → B q) : fc_W β D B as sh I P U H := ⟨h.1, h.2.1.weaken (fun _ q _ hq => hAB q.1 hq), h.2.2⟩
theorem fc_cv_cat (as : Nat → Nat) (v : Value) : (fc_cv as v).category = v.category := by cases v <;> rfl
/-- the locals at the start -/
def fc_arg : List Value → List (Option Value)
  | [] => []
  | v :: r => if v.category = 2 then some v :: none :: fc_arg r else some v :: fc_arg r
theorem fc_arg_lv (as : Nat → Nat) : ∀ (av : List Value) (n j : Nat) (v : Value), (fc_arg av)[j]? = some (some v) → (n + j, fc_cv as v) ∈ lv_args n (av.map (fc_cv as))
  | [], n, j, v, h => by simp [fc_arg] at h
  | w :: r, n, j, v, h => by
    unfold fc_arg at h
    simp only [List.map_cons, lv_args, fc_cv_cat]
    by_cases hc : w.category = 2
    · rw [if_pos hc] at h ⊢
      match j, h with
      | 0, h => simp at h; subst h; simp
      | 1, h => simp at h
      | j + 2, h =>
        have ih := fc_arg_lv as r (n + 2) j v (by simpa using h)
        rw [show n + (j + 2) = n + 2 + j by omega]
        exact List.mem_cons_of_mem _ ih
    · rw [if_neg hc] at h ⊢
      match j, h with
      | 0, h => simp at h; subst h; simp
      | j + 1, h =>
        have ih := fc_arg_lv as r (n + 1) j v (by simpa using h)
        rw [show n + (j + 1) = n + 1 + j by omega]
        exact List.mem_cons_of_mem _ ih
theorem fc_lv_arg {as : Nat → Nat} {av : List Value} {ls : Array Slot} {n k : Nat} (h : lv_has ls n (lv_args 0 (av.map (fc_cv as)))) : lv_has ls n (fc_lv as (fc_arg av ++ List.replicate k none)) := by
  refine ⟨h.1, h.2.1, fun x hx => ?_⟩
  obtain ⟨v, h1, h2⟩ := fc_lv_of hx
  have h1 : (fc_arg av)[x.1]? = some (some v) := by
    rw [List.getElem?_append] at h1
    split at h1
    · exact h1
    · rw [List.getElem?_replicate] at h1
      split at h1 <;> simp at h1
  have h3 := fc_arg_lv as av 0 x.1 v h1
  rw [Nat.zero_add] at h3
  rw [h2]
  exact h.2.2 _ h3
theorem fc_sl_len (as : Nat → Nat) : ∀ av : List Value, (lg_sl (av.map (fc_cv as))).length = (fc_arg av).length
  | [] => rfl
  | v :: r => by
    have ih := fc_sl_len as r
    unfold lg_sl at ih ⊢
    simp only [List.map_cons, List.flatMap_cons, List.length_append, fc_cv_cat, fc_arg]
    by_cases hc : v.category = 2
    · simp only [if_pos hc, List.length_cons, List.length_nil]; omega
    · simp only [if_neg hc, List.length_cons, List.length_nil]; omega
theorem fc_own {β : Nat → ClassId} {as : Nat → Nat} {sh : fc_Sh} {I : fc_I} {P : fc_P} {D : va_G} {A : Nat → Prop} {U : State} {H0 H : Heap} {locs : List Loc} (h : fc_W β D A as sh I P U H) (hS : va_S A H0 H locs) (hA : ∀ q, H0.size ≤ q → A q) : ∀ q, va_A (fc_w β as sh I P) H.size q → A q := by
  intro q hq
  rcases hq with ⟨k, e, hk⟩ | hq
  · exact h.2.1.2 k (q, e) hk
  · exact hA q (Nat.le_trans hS.1 hq)
set_option maxHeartbeats 4000000 in
/-- a contract out of a walk from the entry -/
theorem fc_C.of {m : fc_MI} {d nb zb : Nat} {av : List Value} {sh : fc_Sh} {I : fc_I} {P : fc_P} {Q : fc_Q} (hy : plainName m.1.cls = true ∧ m.2.2.2.2 = none) (hl : (fc_arg av).length ≤ m.2.2.1) {ls : List (Option Value)} (hls : fc_arg av ++ List.replicate (m.2.2.1 - (fc_arg av).length) none = ls) (h : fc_T m d nb zb 0 ls [] sh I P Q) : fc_C m d nb zb av sh I P Q := by
  intro h1000 l β D as sz
  subst hls
  refine Met.ofW (cc := m.2.1) (maxL := m.2.2.1) (ret := m.2.2.2.1) hy.1 rfl ?_
  intro p e s mm args below meth c s₁ B hml hv
  obtain ⟨rfl, hsz, hW, hE⟩ := hv
  subst hsz
  have hts := atoms_spec (ws := Cond.code m.1 m.2.1 m.2.2.1 m.2.2.2.1 :: fc_tbl) B.pre
  have hown : s.vm.findClass m.1.cls = some mm.cls := findClass_of_methodNamed B.named
  have hin : meth.name = m.1.name := (name_of_methodNamed B.named B.method).1
  have hWA : fc_W β D (va_A (fc_w β as sh I P) s.heap.size) as sh I P s s.heap := ⟨hW.1, hW.2.1.self, hW.2.2⟩
  have hlocks := B.notSynchronized
  have hret := B.returns
  have hl2 := lv_entry (av.map (fc_cv as)) (n := m.2.2.1) (by rw [fc_sl_len]; exact hl)
  rw [lg_entry_eq]
  generalize (lg_sl (av.map (fc_cv as)) ++ List.replicate (m.2.2.1 - (lg_sl (av.map (fc_cv as))).length) Slot.unset).toArray = lsA at hl2 ⊢
  refine h p l e _ s mm _ below meth c β D (va_A (fc_w β as sh I P) s.heap.size) as s.heap [] 0 0 nb zb lsA _ ⟨B.exec, B.bytes, hml, hown, fun w hw => hts w (List.mem_cons_of_mem _ hw), fun z => hin.trans z, Nat.le_refl _, Nat.le_refl _, fun q hq => Or.inr hq, hE, fun L xs h => by rw [hy.2] at h; cases h⟩ ⟨by omega, by omega, Nat.le_refl _, Nat.le_refl _⟩ h1000 hWA va_S.rf (fc_lv_arg hl2) ?_
  intro pc' lsA' v sh' I' P' as' H' locs' cells' slots' hr hQ hn hn2 hx hc hs hW' hS'
  refine W.widen (k := nb) (n := zb) hc hs ?_
  have key : ∀ (o : Outcome) (t : State), o = .returned (v.map (fc_cv as')) → t.heap = H' → s.WarmedH t.vm → fc_Qc β D as sh.length (va_A (fc_w β as sh I P) s.heap.size) Q (av.map (fc_cv as)).toArray s o t := by
    intro o t ho ht hwm
    subst ht
    exact ⟨⟨v, sh', I', P', as', ho, hQ, hn, hn2, hx, hW'.alike hwm.alike⟩, hS'.F rfl⟩
  rcases hr with ⟨x, ty, rfl, h1, h2, h3⟩ | ⟨x, rfl, h1, h3⟩ | ⟨rfl, h1, h3⟩
  · exact W.zret B.exec B.bytes (hret.trans h1) h2 (fun t ht hwm => key _ t rfl ht hwm) hS'.2.2 h3
  · exact W.lret B.exec B.bytes (hret.trans h1) (fun t ht hwm => key _ t rfl ht hwm) hS'.2.2 h3
  · exact W.vret B.exec B.bytes (hret.trans h1) (fun t ht hwm => key _ t rfl ht hwm) hS'.2.2 h3
