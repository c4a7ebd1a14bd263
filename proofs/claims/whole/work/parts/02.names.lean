def va_AOA (ty : FieldType) (U : State) : Prop := (Cond.arrayOver (.array ty)).before #[] U = true
theorem va_AOA.use {ty : FieldType} {A : Array Value} {U : State} (h : va_AOA ty U) : (Cond.arrayOver (.array ty)).before A U = true := h
/-! ===== BEGIN words of one list among another's, by their places ===== -/
theorem goodIn_r {big : List Cond} (ws : List Cond) (ps : List Nat) (hp : ws = ps.filterMap (fun i => big[i]?)) (h : ws.all goodWord = true) : GoodIn big ws := by
  intro w hw
  have h1 := List.all_eq_true.mp h w hw
  rw [hp] at hw
  obtain ⟨i, -, hi⟩ := List.mem_filterMap.mp hw
  have hm : w ∈ big := by first | exact List.mem_of_getElem? hi | exact List.getElem?_mem hi
  exact ⟨hm, good_of_word h1⟩
theorem goodIn_app {big a b : List Cond} (ha : GoodIn big a) (hb : GoodIn big b) : GoodIn big (a ++ b) := fun w h => (List.mem_append.mp h).elim (ha w) (hb w)
theorem goodIn_ca {big a b : List Cond} {c : Cond} (ha : GoodIn big (c :: a)) (hb : GoodIn big b) : GoodIn big (c :: (a ++ b)) := fun w h => (List.mem_cons.mp h).elim (fun e => ha w (List.mem_cons.mpr (Or.inl e))) (fun h => (List.mem_append.mp h).elim (fun h => ha w (List.mem_cons.mpr (Or.inr h))) (hb w))
theorem goodIn_sub {big ws : List Cond} (hm : ∀ w ∈ ws, w ∈ big) (h : ws.all goodWord = true) : GoodIn big ws := fun w hw => ⟨hm w hw, good_of_word (List.all_eq_true.mp h w hw)⟩
/-! ===== END ===== -/

/-! ===== BEGIN new T[n][m]: the outer array a place, the inner ones among the pooled ===== -/
/-- f, but v at every address of l -/
def vr_up {α : Type} (f : Nat → α) (l : List Nat) (v : α) : Nat → α := fun a => if a ∈ l then v else f a
theorem vr_up_in {α : Type} {f : Nat → α} {l : List Nat} {v : α} {a : Nat} (h : a ∈ l) : vr_up f l v a = v := if_pos h
theorem vr_up_ne {α : Type} {f : Nat → α} {l : List Nat} {v : α} {a : Nat} (h : a ∉ l) : vr_up f l v a = f a := if_neg h
theorem vr_rows {L l : List Nat} {f : Nat → va_E} {e : va_E} (h : ∀ a, a ∈ l → a ∉ L) : va_pl L f ++ l.map (fun a => (a, e)) = va_pl (L ++ l) (vr_up f l e) := by
  unfold va_pl
  rw [List.map_append]
  congr 1
  · apply List.map_congr_left
    intro a ha
    rw [vr_up_ne (fun q => h a q ha)]
  · apply List.map_congr_left
    intro a ha
    rw [vr_up_in ha]
theorem vr_lay {X rows : va_W} {x : Nat × va_E} {pl : va_W} {D : va_G} {cl : List vw_C} {H : Heap} (hP : va_P D cl (((X ++ pl) ++ [x]) ++ rows) H) : va_P D cl ((X ++ [x]) ++ (pl ++ rows)) H := by
  rw [List.append_assoc (X ++ pl)] at hP
  have h := va_P.swap hP
  rw [← List.append_assoc X] at h
  have h2 := va_P.swap h
  rw [List.append_assoc (X ++ [x])] at h2
  exact h2
theorem vr_layD {X rows : va_W} {x : Nat × va_E} {pl : va_W} {A : Nat → Prop} (hD : va_D A (((X ++ pl) ++ [x]) ++ rows)) : va_D A ((X ++ [x]) ++ (pl ++ rows)) := by
  rw [List.append_assoc (X ++ pl)] at hD
  have h := va_D.swap hD
  rw [← List.append_assoc X] at h
  have h2 := va_D.swap h
  rw [List.append_assoc (X ++ [x])] at h2
  exact h2
theorem vr_outer (c : ClassId) (N h0 : Nat) : ∀ i : Nat, Jvm.Free.Multi.outerC c N h0 i = arrV c N (fun j => va_rf (if j < i then some (h0 + 1 + j) else none))
  | 0 => by
    show ({ cls := c, slots := Array.replicate N .null, vm := .none } : Cell) = _
    rw [arrV_new]
    refine congrArg (arrV c N) (funext fun j => ?_)
    simp [va_rf]
  | i + 1 => by
    show (Jvm.Free.Multi.outerC c N h0 i).setSlot i (.ref (h0 + 1 + i)) = _
    rw [vr_outer c N h0 i, arrV_store]
    refine congrArg (arrV c N) (funext fun j => ?_)
    by_cases e : j = i
    · subst e
      simp [updV, va_rf]
    · by_cases h : j < i
      · simp [updV, e, h, Nat.lt_succ_of_lt h]
      · simp [updV, e, h, show ¬ j < i + 1 by omega]
section VGM
variable {p : Program} {l : Launch} {e : Env} {R : Room} {s : State} {m : MethodId} {args : Array Value} {below : List Frame} {meth : Method} {c : Code} {H : Heap} {locs : List Loc} {cells slots : Nat} {Q : State → Prop}
variable {cc : ByteArray} {pc : Nat} {ls : Array Slot} {rest : List Value} {D : va_G} {cl : List vw_C} {A : Nat → Prop} {a : Nat} {tys : List (ClassId × FieldType)} {ws : va_W} {H0 : Heap}
theorem va_mna {X : va_W} {L : List Nat} {f : Nat → va_E} {cc : ByteArray} (hexec : p.tables.exec = Jvm.exec) (hb : c.code = cc) {own : String} {index : Nat} {ty : FieldType} {cy : ClassId} (hown : s.vm.findClass own = some m.cls) (hclink : (Cond.classLink own index ("[" ++ (FieldType.array ty).toString)).before args s = true) (hover : va_AOA ty s) (harr : (Cond.arrayClass ty).before args s = true) (hcy : s.vm.findClass (FieldType.array ty).toString = some cy)
    (hK : va_K D cl tys s) (hP : va_P D cl (X ++ va_pl L f) H) (hD : va_D A (X ++ va_pl L f)) (hS : va_S A H0 H locs) (hA : ∀ q, H0.size ≤ q → A q) {n k : Int32} {N' K' : Nat} {z : vp_A} (hn : ¬ n < 0) (hk : ¬ k < 0) (hN : n.toNatClampNeg = N') (hM : k.toNatClampNeg = K')
    (hb1 : N' * 4 ≤ 536870912) (hb2 : K' * componentBytes ty ≤ 536870912) (hb3 : K' ≤ 536870912) (hdf : fits ty (defaultValue ty) = true) (hdd : (defaultValue ty).isDefault = true) (hcells : cells + (1 + N') ≤ R.cells) (hslots : slots + (N' + N' * K') ≤ R.slots) (hz : ∀ c : ClassId, Jvm.Free.Multi.innerC c K' (defaultValue ty) = vp_cell c z) (hdg : decode cc pc = .ok (.multianewarray index 2, 4))
    (kk : ∀ (q : Nat) (r : Nat → Nat) (cA : ClassId) (H1 : Heap), (∀ i j : Nat, i < N' → j < N' → r i = r j → i = j) → (∀ i : Nat, i < N' → r i ∉ L) → va_K D cl (tys ++ [(cA, .array ty)]) s →
      va_P D cl ((X ++ [(q, .inl (cA, N', .inr (.inr (.inr (.inr (fun i => if i < N' then some (r i) else none))))))]) ++ va_pl (L ++ (List.range N').map r) (vr_up f ((List.range N').map r) (.inl (cy, z)))) H1 → va_D A ((X ++ [(q, .inl (cA, N', .inr (.inr (.inr (.inr (fun i => if i < N' then some (r i) else none))))))]) ++ va_pl (L ++ (List.range N').map r) (vr_up f ((List.range N').map r) (.inl (cy, z)))) → va_S A H0 H1 locs →
      W p l e R s m args below meth c H1 locs (cells + 1 + N') (slots + N' + N' * K') Q (F0 m (pc + 4) ls (.ref q :: rest))) : W p l e R s m args below meth c H locs cells slots Q (F0 m pc ls (.int k :: .int n :: rest)) := by
  subst hN
  subst hM
  intro T hT Xs
  obtain ⟨vm₁, cA, comp, -, fA, fC, hO, -, X', step⟩ := Xs.multianewarray2F hexec hown hclink (va_AOA.use hover) harr (g := F0 m pc ls (.int k :: .int n :: rest)) rfl (by rw [hb]; exact hdg) rfl hn hk hb1 hb2 hb3 hdf hdd hcells hslots
  have ec : some cy = some comp := hcy.symm.trans fC
  cases ec
  generalize hF : Jvm.Free.Multi.fill (T.setVm vm₁) cA cy n.toNatClampNeg k.toNatClampNeg (defaultValue ty) n.toNatClampNeg = F at X' step
  have hTh : (T.setVm vm₁).heap = H := hT
  obtain ⟨f1, f2, -, -⟩ := Jvm.Free.Multi.fill_facts (T.setVm vm₁) cA cy n.toNatClampNeg k.toNatClampNeg (defaultValue ty) n.toNatClampNeg
  rw [hF, hTh] at f1 f2
  have hold : ∀ x : Nat, x < H.size → F.heap[x]? = H[x]? := fun x hx => by
    have := Jvm.Free.Multi.fill_old (T.setVm vm₁) cA cy n.toNatClampNeg k.toNatClampNeg (defaultValue ty) (a := x) (by rw [hTh]; exact hx) n.toNatClampNeg
    rw [hF, hTh] at this
    exact this
  have hrow : ∀ j : Nat, j < n.toNatClampNeg → F.heap[H.size + 1 + j]? = some (vp_cell cy z) := fun j hj => by
    have := Jvm.Free.Multi.fill_inner (T.setVm vm₁) cA cy n.toNatClampNeg k.toNatClampNeg (defaultValue ty) n.toNatClampNeg j hj
    rw [hF, hTh, hz] at this
    exact this
  have hout : Jvm.Free.Multi.outerC cA n.toNatClampNeg H.size n.toNatClampNeg = vp_cell cA (n.toNatClampNeg, .inr (.inr (.inr (.inr (fun i => if i < n.toNatClampNeg then some (H.size + 1 + i) else none))))) := by
    rw [vp_cell_q]
    exact vr_outer cA n.toNatClampNeg H.size n.toNatClampNeg
  rw [hout] at f2
  have hlt : ∀ a, a ∈ L → a < H.size := fun a ha => by
    obtain ⟨k9, hk9⟩ := va_pl_get (X := X) (f := f) ha
    exact (hP k9 _ hk9).lt
  have hnl : ∀ i : Nat, i < n.toNatClampNeg → H.size + 1 + i ∉ L := fun i _ h => by
    have := hlt _ h
    omega
  have hnm : ∀ a, a ∈ (List.range n.toNatClampNeg).map (fun i => H.size + 1 + i) → a ∉ L := fun a ha h => by
    obtain ⟨i, -, rfl⟩ := List.mem_map.mp ha
    have := hlt _ h
    omega
  have hP0 : va_P D cl (X ++ va_pl L f) F.heap := hP.kept (fun k9 x hx => hold x.1 ((hP k9 x hx).lt))
  have hP1 : va_P D cl ((X ++ va_pl L f) ++ [(H.size, .inl (cA, n.toNatClampNeg, .inr (.inr (.inr (.inr (fun i => if i < n.toNatClampNeg then some (H.size + 1 + i) else none))))))]) F.heap := hP0.app (fun k9 x hx => by
    have h0 : k9 < 1 := (List.getElem?_eq_some_iff.mp hx).1
    rw [show k9 = 0 by omega] at hx
    cases hx
    exact f2)
  have hP2 : va_P D cl (((X ++ va_pl L f) ++ [(H.size, .inl (cA, n.toNatClampNeg, .inr (.inr (.inr (.inr (fun i => if i < n.toNatClampNeg then some (H.size + 1 + i) else none))))))]) ++ ((List.range n.toNatClampNeg).map (fun i => H.size + 1 + i)).map (fun a => (a, .inl (cy, z)))) F.heap := hP1.app (fun k9 x hx => by
    obtain ⟨a, ha, rfl⟩ := List.mem_map.mp (List.mem_of_getElem? hx)
    obtain ⟨i, hi, rfl⟩ := List.mem_map.mp ha
    exact hrow i (List.mem_range.mp hi))
  have hD2 : va_D A (((X ++ va_pl L f) ++ [(H.size, .inl (cA, n.toNatClampNeg, .inr (.inr (.inr (.inr (fun i => if i < n.toNatClampNeg then some (H.size + 1 + i) else none))))))]) ++ ((List.range n.toNatClampNeg).map (fun i => H.size + 1 + i)).map (fun a => (a, .inl (cy, z)))) := by
    have hD1 := hD.push (e := .inl (cA, n.toNatClampNeg, .inr (.inr (.inr (.inr (fun i => if i < n.toNatClampNeg then some (H.size + 1 + i) else none)))))) hP rfl (hA _ hS.1)
    generalize hW1 : (X ++ va_pl L f) ++ [(H.size, .inl (cA, n.toNatClampNeg, .inr (.inr (.inr (.inr (fun i => if i < n.toNatClampNeg then some (H.size + 1 + i) else none))))))] = W1 at hD1 hP1 ⊢
    have hle : ∀ (k9 : Nat) (x : Nat × va_E), W1[k9]? = some x → x.1 ≤ H.size := fun k9 x hx => by
      rw [← hW1] at hx
      by_cases hl : k9 < (X ++ va_pl L f).length
      · rw [List.getElem?_append_left hl] at hx
        exact Nat.le_of_lt ((hP k9 x hx).lt)
      · rw [List.getElem?_append_right (by omega)] at hx
        have h0 : k9 - (X ++ va_pl L f).length < 1 := (List.getElem?_eq_some_iff.mp hx).1
        rw [show k9 - (X ++ va_pl L f).length = 0 by omega] at hx
        cases hx
        exact Nat.le_refl _
    have hr : ∀ (k9 : Nat) (x : Nat × va_E), (((List.range n.toNatClampNeg).map (fun i => H.size + 1 + i)).map (fun a => ((a, .inl (cy, z)) : Nat × va_E)))[k9]? = some x → x.1 = H.size + 1 + k9 := fun k9 x hx => by
      rw [List.getElem?_map, List.getElem?_map] at hx
      by_cases h9 : k9 < n.toNatClampNeg
      · rw [List.getElem?_range h9] at hx
        cases hx
        rfl
      · have hn0 : (List.range n.toNatClampNeg)[k9]? = none := List.getElem?_eq_none (by rw [List.length_range]; omega)
        rw [hn0] at hx
        cases hx
    refine ⟨fun i j x y hi hj hxy => ?_, fun k9 x hx => ?_⟩
    · by_cases h1 : i < W1.length <;> by_cases h2 : j < W1.length
      · rw [List.getElem?_append_left h1] at hi
        rw [List.getElem?_append_left h2] at hj
        exact hD1.1 i j x y hi hj hxy
      · rw [List.getElem?_append_left h1] at hi
        rw [List.getElem?_append_right (by omega)] at hj
        have := hle _ _ hi
        have := hr _ _ hj
        omega
      · rw [List.getElem?_append_right (by omega)] at hi
        rw [List.getElem?_append_left h2] at hj
        have := hle _ _ hj
        have := hr _ _ hi
        omega
      · rw [List.getElem?_append_right (by omega)] at hi hj
        have := hr _ _ hi
        have := hr _ _ hj
        omega
    · by_cases h1 : k9 < W1.length
      · rw [List.getElem?_append_left h1] at hx
        exact hD1.2 k9 x hx
      · rw [List.getElem?_append_right (by omega)] at hx
        have := hr _ _ hx
        exact hA _ (by have := hS.1; omega)
  have hAr : ArrOfT s cA (.array ty) := fun N9 z9 => by
    obtain ⟨-, k9, hk9, cm9, hkk9⟩ := (hO 0 0 0).1
    exact ⟨(fun q hq => by cases hq), k9, hk9, cm9, hkk9⟩
  have hK2 : va_K D cl (tys ++ [(cA, .array ty)]) s := ⟨hK.1, fun k9 x hx => by
    by_cases hl : k9 < tys.length
    · rw [List.getElem?_append_left hl] at hx
      exact hK.2 k9 x hx
    · rw [List.getElem?_append_right (by omega)] at hx
      have h0 : k9 - tys.length < 1 := (List.getElem?_eq_some_iff.mp hx).1
      rw [show k9 - tys.length = 0 by omega] at hx
      cases hx
      exact ⟨hAr, fA⟩⟩
  obtain ⟨t, a1, b1⟩ := kk H.size (fun i => H.size + 1 + i) cA F.heap (fun i j _ _ h => by have h9 : H.size + 1 + i = H.size + 1 + j := h; omega) hnl hK2 (by rw [← vr_rows hnm]; exact vr_lay hP2) (by rw [← vr_rows hnm]; exact vr_layD hD2) ⟨by rw [f1]; have := hS.1; omega, fun x h1 h2 => (hold x (Nat.lt_of_lt_of_le h1 hS.1)).trans (hS.2.1 x h1 h2), hS.2.2⟩ F rfl X'
  refine ⟨t, step t ?_, b1⟩
  have e : T.heap.size = H.size := by rw [hT]
  rw [e]
  exact a1
end VGM
/-! ===== END ===== -/

def RX0 : String := "FloodCity$Book"
def TX0 : u_T := fun k => match k with
  | 0 => ("FloodCity$Book", "tape", "[B", true)
  | 1 => ("FloodCity$Book", "codes", "[[I", true)
  | 2 => ("FloodCity$Book", "heedEnd", "[I", true)
  | 3 => ("FloodCity$Book", "stopEnd", "[I", true)
  | 4 => ("FloodCity$Book", "stack", "[I", true)
  | 5 => ("FloodCity$Book", "reader", "LFloodCity$Reader;", true)
  | 6 => ("FloodCity$Book", "tapeSize", "I", false)
  | 7 => ("FloodCity$Book", "count", "I", false)
  | _ => ("FloodCity$Book", "rule", "I", false)
def tyX0 : Nat → FieldType := fun k => match k with
  | 0 => .array .byte
  | 1 => .array (.array .int)
  | 2 => .array .int
  | 3 => .array .int
  | 4 => .array .int
  | 5 => .object "FloodCity$Reader"
  | 6 => .int
  | 7 => .int
  | _ => .int
theorem nmX0 : ∀ a, a < 9 → ∀ b, b < 9 → a ≠ b → (TX0 a).2.1 ≠ (TX0 b).2.1 := by decide +kernel
theorem tyX0_ok : ∀ k, k < 9 → parseFieldDescriptor (TX0 k).2.2.1 = some (tyX0 k) := by decide +kernel
abbrev cX0_init : ByteArray := prog_2_method_1_code
def yX0_init : MethodName := ⟨RX0, "<init>", "()V"⟩
abbrev cX0_write : ByteArray := prog_2_method_2_code
def yX0_write : MethodName := ⟨RX0, "write", "(Ljava/lang/String;)V"⟩
abbrev cX0_append : ByteArray := prog_2_method_3_code
def yX0_append : MethodName := ⟨RX0, "append", "(IJ)I"⟩
abbrev cX0_learn : ByteArray := prog_2_method_4_code
def yX0_learn : MethodName := ⟨RX0, "learn", "()I"⟩
abbrev cX0_worth : ByteArray := prog_2_method_5_code
def yX0_worth : MethodName := ⟨RX0, "worth", "(I[I)I"⟩
abbrev cX0_joined : ByteArray := prog_2_method_6_code
def yX0_joined : MethodName := ⟨RX0, "joined", "(III)I"⟩
def RX1 : String := "FloodCity$Buses"
def TX1 : u_T := fun k => match k with
  | 0 => ("FloodCity$Buses", "zone", "[I", true)
  | 1 => ("FloodCity$Buses", "shelter", "[I", true)
  | 2 => ("FloodCity$Buses", "seats", "[I", true)
  | 3 => ("FloodCity$Buses", "trip", "[I", true)
  | _ => ("FloodCity$Buses", "count", "I", false)
def tyX1 : Nat → FieldType := fun k => match k with
  | 0 => .array .int
  | 1 => .array .int
  | 2 => .array .int
  | 3 => .array .int
  | _ => .int
theorem nmX1 : ∀ a, a < 5 → ∀ b, b < 5 → a ≠ b → (TX1 a).2.1 ≠ (TX1 b).2.1 := by decide +kernel
theorem tyX1_ok : ∀ k, k < 5 → parseFieldDescriptor (TX1 k).2.2.1 = some (tyX1 k) := by decide +kernel
abbrev cX1_init : ByteArray := prog_3_method_1_code
def yX1_init : MethodName := ⟨RX1, "<init>", "()V"⟩
abbrev cX1_hire : ByteArray := prog_3_method_2_code
def yX1_hire : MethodName := ⟨RX1, "hire", "(IIII)I"⟩
def RX2 : String := "FloodCity$Folk"
def TX2 : u_T := fun k => match k with
  | 0 => ("FloodCity$Folk", "home", "[I", true)
  | 1 => ("FloodCity$Folk", "crowd", "[I", true)
  | 2 => ("FloodCity$Folk", "ill", "[I", true)
  | 3 => ("FloodCity$Folk", "call", "[I", true)
  | 4 => ("FloodCity$Folk", "room", "[I", true)
  | 5 => ("FloodCity$Folk", "sheltered", "[I", true)
  | 6 => ("FloodCity$Folk", "riders", "[I", true)
  | 7 => ("FloodCity$Folk", "tripOver", "[I", true)
  | 8 => ("FloodCity$Folk", "out", "I", false)
  | _ => ("FloodCity$Folk", "now", "I", false)
def tyX2 : Nat → FieldType := fun k => match k with
  | 0 => .array .int
  | 1 => .array .int
  | 2 => .array .int
  | 3 => .array .int
  | 4 => .array .int
  | 5 => .array .int
  | 6 => .array .int
  | 7 => .array .int
  | 8 => .int
  | _ => .int
theorem nmX2 : ∀ a, a < 10 → ∀ b, b < 10 → a ≠ b → (TX2 a).2.1 ≠ (TX2 b).2.1 := by decide +kernel
theorem tyX2_ok : ∀ k, k < 10 → parseFieldDescriptor (TX2 k).2.2.1 = some (tyX2 k) := by decide +kernel
abbrev cX2_init : ByteArray := prog_4_method_1_code
def yX2_init : MethodName := ⟨RX2, "<init>", "()V"⟩
abbrev cX2_become : ByteArray := prog_4_method_2_code
def yX2_become : MethodName := ⟨RX2, "become", "(LFloodCity$Folk;)V"⟩
abbrev cX2_isCalled : ByteArray := prog_4_method_3_code
def yX2_isCalled : MethodName := ⟨RX2, "isCalled", "(I)Z"⟩
def RX3 : String := "FloodCity$Forecast"
def TX3 : u_T := fun k => match k with
  | 0 => ("FloodCity$Forecast", "town", "LFloodCity$Town;", true)
  | 1 => ("FloodCity$Forecast", "storm", "LFloodCity$Storm;", true)
  | 2 => ("FloodCity$Forecast", "folk", "LFloodCity$Folk;", true)
  | 3 => ("FloodCity$Forecast", "hours", "LFloodCity$Hours;", true)
  | 4 => ("FloodCity$Forecast", "trial", "LFloodCity$Folk;", true)
  | 5 => ("FloodCity$Forecast", "delay", "[I", true)
  | 6 => ("FloodCity$Forecast", "bestDelay", "[I", true)
  | _ => ("FloodCity$Forecast", "sought", "[I", true)
def tyX3 : Nat → FieldType := fun k => match k with
  | 0 => .object "FloodCity$Town"
  | 1 => .object "FloodCity$Storm"
  | 2 => .object "FloodCity$Folk"
  | 3 => .object "FloodCity$Hours"
  | 4 => .object "FloodCity$Folk"
  | 5 => .array .int
  | 6 => .array .int
  | _ => .array .int
theorem nmX3 : ∀ a, a < 8 → ∀ b, b < 8 → a ≠ b → (TX3 a).2.1 ≠ (TX3 b).2.1 := by decide +kernel
theorem tyX3_ok : ∀ k, k < 8 → parseFieldDescriptor (TX3 k).2.2.1 = some (tyX3 k) := by decide +kernel
abbrev cX3_init : ByteArray := prog_5_method_1_code
def yX3_init : MethodName := ⟨RX3, "<init>", "(LFloodCity$Town;LFloodCity$Storm;LFloodCity$Folk;LFloodCity$Hours;)V"⟩
abbrev cX3_foreseen : ByteArray := prog_5_method_2_code
def yX3_foreseen : MethodName := ⟨RX3, "foreseen", "(I)I"⟩
abbrev cX3_settled : ByteArray := prog_5_method_3_code
def yX3_settled : MethodName := ⟨RX3, "settled", "(I)I"⟩
abbrev cX3_search : ByteArray := prog_5_method_4_code
def yX3_search : MethodName := ⟨RX3, "search", "(I)J"⟩
abbrev cX3_plan : ByteArray := prog_5_method_5_code
def yX3_plan : MethodName := ⟨RX3, "plan", "(II)I"⟩
abbrev cX3_worst : ByteArray := prog_5_method_6_code
def yX3_worst : MethodName := ⟨RX3, "worst", "(I)I"⟩
def RX4 : String := "FloodCity$Hours"
def TX4 : u_T := fun k => match k with
  | 0 => ("FloodCity$Hours", "town", "LFloodCity$Town;", true)
  | 1 => ("FloodCity$Hours", "roads", "LFloodCity$Roads;", true)
  | 2 => ("FloodCity$Hours", "buses", "LFloodCity$Buses;", true)
  | 3 => ("FloodCity$Hours", "storm", "LFloodCity$Storm;", true)
  | 4 => ("FloodCity$Hours", "book", "LFloodCity$Book;", true)
  | 5 => ("FloodCity$Hours", "facts", "[I", true)
  | _ => ("FloodCity$Hours", "moving", "[I", true)
def tyX4 : Nat → FieldType := fun k => match k with
  | 0 => .object "FloodCity$Town"
  | 1 => .object "FloodCity$Roads"
  | 2 => .object "FloodCity$Buses"
  | 3 => .object "FloodCity$Storm"
  | 4 => .object "FloodCity$Book"
  | 5 => .array .int
  | _ => .array .int
theorem nmX4 : ∀ a, a < 7 → ∀ b, b < 7 → a ≠ b → (TX4 a).2.1 ≠ (TX4 b).2.1 := by decide +kernel
theorem tyX4_ok : ∀ k, k < 7 → parseFieldDescriptor (TX4 k).2.2.1 = some (tyX4 k) := by decide +kernel
abbrev cX4_init : ByteArray := prog_6_method_1_code
def yX4_init : MethodName := ⟨RX4, "<init>", "(LFloodCity$Town;LFloodCity$Roads;LFloodCity$Buses;LFloodCity$Storm;LFloodCity$Book;)V"⟩
abbrev cX4_isWet : ByteArray := prog_6_method_2_code
def yX4_isWet : MethodName := ⟨RX4, "isWet", "(III)Z"⟩
abbrev cX4_openFlow : ByteArray := prog_6_method_3_code
def yX4_openFlow : MethodName := ⟨RX4, "openFlow", "(III)I"⟩
abbrev cX4_standInWater : ByteArray := prog_6_method_4_code
def yX4_standInWater : MethodName := ⟨RX4, "standInWater", "(LFloodCity$Folk;II)I"⟩
abbrev cX4_gather : ByteArray := prog_6_method_5_code
def yX4_gather : MethodName := ⟨RX4, "gather", "(LFloodCity$Folk;II)V"⟩
abbrev cX4_goBy : ByteArray := prog_6_method_6_code
def yX4_goBy : MethodName := ⟨RX4, "goBy", "(LFloodCity$Folk;I)V"⟩
abbrev cX4_setOut : ByteArray := prog_6_method_7_code
def yX4_setOut : MethodName := ⟨RX4, "setOut", "(LFloodCity$Folk;I)V"⟩
abbrev cX4_chooseMoving : ByteArray := prog_6_method_8_code
def yX4_chooseMoving : MethodName := ⟨RX4, "chooseMoving", "(LFloodCity$Folk;I)V"⟩
abbrev cX4_move : ByteArray := prog_6_method_9_code
def yX4_move : MethodName := ⟨RX4, "move", "(LFloodCity$Folk;)V"⟩
abbrev cX4_board : ByteArray := prog_6_method_10_code
def yX4_board : MethodName := ⟨RX4, "board", "(LFloodCity$Folk;I)V"⟩
abbrev cX4_freeBuses : ByteArray := prog_6_method_11_code
def yX4_freeBuses : MethodName := ⟨RX4, "freeBuses", "(LFloodCity$Folk;)V"⟩
def RX5 : String := "FloodCity$Reader"
def TX5 : u_T := fun k => match k with
  | 0 => ("FloodCity$Reader", "tape", "[B", true)
  | 1 => ("FloodCity$Reader", "codes", "[I", false)
  | 2 => ("FloodCity$Reader", "length", "I", false)
  | 3 => ("FloodCity$Reader", "heedEnd", "I", false)
  | 4 => ("FloodCity$Reader", "size", "I", false)
  | 5 => ("FloodCity$Reader", "place", "I", false)
  | 6 => ("FloodCity$Reader", "behind", "I", false)
  | 7 => ("FloodCity$Reader", "token", "I", false)
  | 8 => ("FloodCity$Reader", "value", "I", false)
  | _ => ("FloodCity$Reader", "fault", "I", false)
def tyX5 : Nat → FieldType := fun k => match k with
  | 0 => .array .byte
  | 1 => .array .int
  | 2 => .int
  | 3 => .int
  | 4 => .int
  | 5 => .int
  | 6 => .int
  | 7 => .int
  | 8 => .int
  | _ => .int
theorem nmX5 : ∀ a, a < 10 → ∀ b, b < 10 → a ≠ b → (TX5 a).2.1 ≠ (TX5 b).2.1 := by decide +kernel
theorem tyX5_ok : ∀ k, k < 10 → parseFieldDescriptor (TX5 k).2.2.1 = some (tyX5 k) := by decide +kernel
abbrev cX5_init : ByteArray := prog_7_method_1_code
def yX5_init : MethodName := ⟨RX5, "<init>", "([B)V"⟩
abbrev cX5_read : ByteArray := prog_7_method_2_code
def yX5_read : MethodName := ⟨RX5, "read", "(I[I)I"⟩
abbrev cX5_expect : ByteArray := prog_7_method_3_code
def yX5_expect : MethodName := ⟨RX5, "expect", "(I)V"⟩
abbrev cX5_fail : ByteArray := prog_7_method_4_code
def yX5_fail : MethodName := ⟨RX5, "fail", "()V"⟩
abbrev cX5_put : ByteArray := prog_7_method_5_code
def yX5_put : MethodName := ⟨RX5, "put", "(I)V"⟩
abbrev cX5_readLevel : ByteArray := prog_7_method_6_code
def yX5_readLevel : MethodName := ⟨RX5, "readLevel", "(II)V"⟩
abbrev cX5_readOpened : ByteArray := prog_7_method_7_code
def yX5_readOpened : MethodName := ⟨RX5, "readOpened", "(II)V"⟩
abbrev cX5_readLeaf : ByteArray := prog_7_method_8_code
def yX5_readLeaf : MethodName := ⟨RX5, "readLeaf", "()V"⟩
abbrev cX5_joinLevel : ByteArray := prog_7_method_9_code
def yX5_joinLevel : MethodName := ⟨RX5, "joinLevel", "(I)I"⟩
abbrev cX5_nextToken : ByteArray := prog_7_method_10_code
def yX5_nextToken : MethodName := ⟨RX5, "nextToken", "()V"⟩
abbrev cX5_takeWord : ByteArray := prog_7_method_11_code
def yX5_takeWord : MethodName := ⟨RX5, "takeWord", "()V"⟩
abbrev cX5_spells : ByteArray := prog_7_method_12_code
def yX5_spells : MethodName := ⟨RX5, "spells", "(Ljava/lang/String;)Z"⟩
abbrev cX5_takeNumber : ByteArray := prog_7_method_13_code
def yX5_takeNumber : MethodName := ⟨RX5, "takeNumber", "()V"⟩
abbrev cX5_isLetter : ByteArray := prog_7_method_14_code
def yX5_isLetter : MethodName := ⟨RX5, "isLetter", "(I)Z"⟩
abbrev cX5_isDigit : ByteArray := prog_7_method_15_code
def yX5_isDigit : MethodName := ⟨RX5, "isDigit", "(I)Z"⟩
abbrev cX5_isSign : ByteArray := prog_7_method_16_code
def yX5_isSign : MethodName := ⟨RX5, "isSign", "(I)Z"⟩
def RX6 : String := "FloodCity$Roads"
def TX6 : u_T := fun k => match k with
  | 0 => ("FloodCity$Roads", "kind", "[I", true)
  | 1 => ("FloodCity$Roads", "from", "[I", true)
  | 2 => ("FloodCity$Roads", "to", "[I", true)
  | 3 => ("FloodCity$Roads", "flow", "[I", true)
  | 4 => ("FloodCity$Roads", "turned", "[I", true)
  | _ => ("FloodCity$Roads", "count", "I", false)
def tyX6 : Nat → FieldType := fun k => match k with
  | 0 => .array .int
  | 1 => .array .int
  | 2 => .array .int
  | 3 => .array .int
  | 4 => .array .int
  | _ => .int
theorem nmX6 : ∀ a, a < 6 → ∀ b, b < 6 → a ≠ b → (TX6 a).2.1 ≠ (TX6 b).2.1 := by decide +kernel
theorem tyX6_ok : ∀ k, k < 6 → parseFieldDescriptor (TX6 k).2.2.1 = some (tyX6 k) := by decide +kernel
abbrev cX6_init : ByteArray := prog_8_method_1_code
def yX6_init : MethodName := ⟨RX6, "<init>", "()V"⟩
abbrev cX6_build : ByteArray := prog_8_method_2_code
def yX6_build : MethodName := ⟨RX6, "build", "(IIII)I"⟩
abbrev cX6_isOfKind : ByteArray := prog_8_method_3_code
def yX6_isOfKind : MethodName := ⟨RX6, "isOfKind", "(II)Z"⟩
abbrev cX6_canTake : ByteArray := prog_8_method_4_code
def yX6_canTake : MethodName := ⟨RX6, "canTake", "(III)I"⟩
def RX7 : String := "FloodCity$Sheets"
def TX7 : u_T := fun k => match k with
  | 0 => ("FloodCity$Sheets", "items", "[[I", true)
  | 1 => ("FloodCity$Sheets", "sort", "[I", true)
  | _ => ("FloodCity$Sheets", "size", "[I", true)
def tyX7 : Nat → FieldType := fun k => match k with
  | 0 => .array (.array .int)
  | 1 => .array .int
  | _ => .array .int
theorem nmX7 : ∀ a, a < 3 → ∀ b, b < 3 → a ≠ b → (TX7 a).2.1 ≠ (TX7 b).2.1 := by decide +kernel
theorem tyX7_ok : ∀ k, k < 3 → parseFieldDescriptor (TX7 k).2.2.1 = some (tyX7 k) := by decide +kernel
abbrev cX7_init : ByteArray := prog_9_method_1_code
def yX7_init : MethodName := ⟨RX7, "<init>", "()V"⟩
abbrev cX7_lay : ByteArray := prog_9_method_2_code
def yX7_lay : MethodName := ⟨RX7, "lay", "(III)V"⟩
abbrev cX7_write : ByteArray := prog_9_method_3_code
def yX7_write : MethodName := ⟨RX7, "write", "(III)V"⟩
abbrev cX7_holds : ByteArray := prog_9_method_4_code
def yX7_holds : MethodName := ⟨RX7, "holds", "(III)Z"⟩
def RX8 : String := "FloodCity$Storm"
def TX8 : u_T := fun k => match k with
  | 0 => ("FloodCity$Storm", "isLikely", "[Z", true)
  | 1 => ("FloodCity$Storm", "water", "[[I", true)
  | 2 => ("FloodCity$Storm", "wind", "[[I", true)
  | 3 => ("FloodCity$Storm", "newsTrack", "[I", true)
  | 4 => ("FloodCity$Storm", "newsFrom", "[I", true)
  | 5 => ("FloodCity$Storm", "newsTo", "[I", true)
  | 6 => ("FloodCity$Storm", "newsWater", "[I", true)
  | 7 => ("FloodCity$Storm", "newsWind", "[I", true)
  | 8 => ("FloodCity$Storm", "newsHour", "[I", true)
  | 9 => ("FloodCity$Storm", "count", "I", false)
  | 10 => ("FloodCity$Storm", "truth", "I", false)
  | _ => ("FloodCity$Storm", "lastHour", "I", false)
def tyX8 : Nat → FieldType := fun k => match k with
  | 0 => .array .boolean
  | 1 => .array (.array .int)
  | 2 => .array (.array .int)
  | 3 => .array .int
  | 4 => .array .int
  | 5 => .array .int
  | 6 => .array .int
  | 7 => .array .int
  | 8 => .array .int
  | 9 => .int
  | 10 => .int
  | _ => .int
theorem nmX8 : ∀ a, a < 12 → ∀ b, b < 12 → a ≠ b → (TX8 a).2.1 ≠ (TX8 b).2.1 := by decide +kernel
theorem tyX8_ok : ∀ k, k < 12 → parseFieldDescriptor (TX8 k).2.2.1 = some (tyX8 k) := by decide +kernel
abbrev cX8_init : ByteArray := prog_10_method_1_code
def yX8_init : MethodName := ⟨RX8, "<init>", "()V"⟩
abbrev cX8_hear : ByteArray := prog_10_method_2_code
def yX8_hear : MethodName := ⟨RX8, "hear", "(IIIIII)I"⟩
abbrev cX8_waterKnown : ByteArray := prog_10_method_3_code
def yX8_waterKnown : MethodName := ⟨RX8, "waterKnown", "(III)I"⟩
abbrev cX8_windKnown : ByteArray := prog_10_method_4_code
def yX8_windKnown : MethodName := ⟨RX8, "windKnown", "(III)I"⟩
abbrev cX8_wasDanger : ByteArray := prog_10_method_5_code
def yX8_wasDanger : MethodName := ⟨RX8, "wasDanger", "(II)Z"⟩
abbrev cX8_teller : ByteArray := prog_10_method_6_code
def yX8_teller : MethodName := ⟨RX8, "teller", "(III)I"⟩
def RX9 : String := "FloodCity$Town"
def TX9 : u_T := fun k => match k with
  | 0 => ("FloodCity$Town", "height", "[I", true)
  | 1 => ("FloodCity$Town", "way", "[I", true)
  | 2 => ("FloodCity$Town", "zones", "I", false)
  | _ => ("FloodCity$Town", "shelters", "I", false)
def tyX9 : Nat → FieldType := fun k => match k with
  | 0 => .array .int
  | 1 => .array .int
  | 2 => .int
  | _ => .int
theorem nmX9 : ∀ a, a < 4 → ∀ b, b < 4 → a ≠ b → (TX9 a).2.1 ≠ (TX9 b).2.1 := by decide +kernel
theorem tyX9_ok : ∀ k, k < 4 → parseFieldDescriptor (TX9 k).2.2.1 = some (tyX9 k) := by decide +kernel
abbrev cX9_init : ByteArray := prog_11_method_1_code
def yX9_init : MethodName := ⟨RX9, "<init>", "()V"⟩
def RX10 : String := "FloodCity"
def TX10 : u_T := fun k => match k with
  | 0 => ("FloodCity", "town", "LFloodCity$Town;", true)
  | 1 => ("FloodCity", "roads", "LFloodCity$Roads;", true)
  | 2 => ("FloodCity", "buses", "LFloodCity$Buses;", true)
  | 3 => ("FloodCity", "storm", "LFloodCity$Storm;", true)
  | 4 => ("FloodCity", "book", "LFloodCity$Book;", true)
  | 5 => ("FloodCity", "folk", "LFloodCity$Folk;", true)
  | 6 => ("FloodCity", "hours", "LFloodCity$Hours;", true)
  | 7 => ("FloodCity", "forecast", "LFloodCity$Forecast;", true)
  | _ => ("FloodCity", "sheets", "LFloodCity$Sheets;", true)
def tyX10 : Nat → FieldType := fun k => match k with
  | 0 => .object "FloodCity$Town"
  | 1 => .object "FloodCity$Roads"
  | 2 => .object "FloodCity$Buses"
  | 3 => .object "FloodCity$Storm"
  | 4 => .object "FloodCity$Book"
  | 5 => .object "FloodCity$Folk"
  | 6 => .object "FloodCity$Hours"
  | 7 => .object "FloodCity$Forecast"
  | _ => .object "FloodCity$Sheets"
theorem nmX10 : ∀ a, a < 9 → ∀ b, b < 9 → a ≠ b → (TX10 a).2.1 ≠ (TX10 b).2.1 := by decide +kernel
theorem tyX10_ok : ∀ k, k < 9 → parseFieldDescriptor (TX10 k).2.2.1 = some (tyX10 k) := by decide +kernel
abbrev cX10_init : ByteArray := prog_1_method_1_code
def yX10_init : MethodName := ⟨RX10, "<init>", "()V"⟩
abbrev cX10_zone : ByteArray := prog_1_method_2_code
def yX10_zone : MethodName := ⟨RX10, "zone", "(III)I"⟩
abbrev cX10_shelter : ByteArray := prog_1_method_3_code
def yX10_shelter : MethodName := ⟨RX10, "shelter", "(I)I"⟩
abbrev cX10_road : ByteArray := prog_1_method_4_code
def yX10_road : MethodName := ⟨RX10, "road", "(IIII)I"⟩
abbrev cX10_use : ByteArray := prog_1_method_5_code
def yX10_use : MethodName := ⟨RX10, "use", "(I)I"⟩
abbrev cX10_turn : ByteArray := prog_1_method_6_code
def yX10_turn : MethodName := ⟨RX10, "turn", "(I)I"⟩
abbrev cX10_bus : ByteArray := prog_1_method_7_code
def yX10_bus : MethodName := ⟨RX10, "bus", "(IIII)I"⟩
abbrev cX10_zoneTold : ByteArray := prog_1_method_8_code
def yX10_zoneTold : MethodName := ⟨RX10, "zoneTold", "(II)I"⟩
abbrev cX10_shelterTold : ByteArray := prog_1_method_9_code
def yX10_shelterTold : MethodName := ⟨RX10, "shelterTold", "(II)I"⟩
abbrev cX10_roadTold : ByteArray := prog_1_method_10_code
def yX10_roadTold : MethodName := ⟨RX10, "roadTold", "(II)I"⟩
abbrev cX10_busTold : ByteArray := prog_1_method_11_code
def yX10_busTold : MethodName := ⟨RX10, "busTold", "(II)I"⟩
abbrev cX10_end : ByteArray := prog_1_method_12_code
def yX10_end : MethodName := ⟨RX10, "end", "(I)I"⟩
abbrev cX10_likely : ByteArray := prog_1_method_13_code
def yX10_likely : MethodName := ⟨RX10, "likely", "(II)I"⟩
abbrev cX10_truth : ByteArray := prog_1_method_14_code
def yX10_truth : MethodName := ⟨RX10, "truth", "(I)I"⟩
abbrev cX10_news : ByteArray := prog_1_method_15_code
def yX10_news : MethodName := ⟨RX10, "news", "(IIIII)I"⟩
abbrev cX10_known : ByteArray := prog_1_method_16_code
def yX10_known : MethodName := ⟨RX10, "known", "(IIII)I"⟩
abbrev cX10_feed : ByteArray := prog_1_method_17_code
def yX10_feed : MethodName := ⟨RX10, "feed", "(IJ)I"⟩
abbrev cX10_text : ByteArray := prog_1_method_18_code
def yX10_text : MethodName := ⟨RX10, "text", "()I"⟩
abbrev cX10_force : ByteArray := prog_1_method_19_code
def yX10_force : MethodName := ⟨RX10, "force", "(I)I"⟩
abbrev cX10_says : ByteArray := prog_1_method_20_code
def yX10_says : MethodName := ⟨RX10, "says", "(II)J"⟩
abbrev cX10_call : ByteArray := prog_1_method_21_code
def yX10_call : MethodName := ⟨RX10, "call", "(I)I"⟩
abbrev cX10_good : ByteArray := prog_1_method_22_code
def yX10_good : MethodName := ⟨RX10, "good", "(I)I"⟩
abbrev cX10_pass : ByteArray := prog_1_method_23_code
def yX10_pass : MethodName := ⟨RX10, "pass", "(I)I"⟩
abbrev cX10_inWater : ByteArray := prog_1_method_24_code
def yX10_inWater : MethodName := ⟨RX10, "inWater", "()I"⟩
abbrev cX10_foresee : ByteArray := prog_1_method_25_code
def yX10_foresee : MethodName := ⟨RX10, "foresee", "(IJ)J"⟩
abbrev cX10_best : ByteArray := prog_1_method_26_code
def yX10_best : MethodName := ⟨RX10, "best", "(I)J"⟩
abbrev cX10_bestCall : ByteArray := prog_1_method_27_code
def yX10_bestCall : MethodName := ⟨RX10, "bestCall", "(I)I"⟩
abbrev cX10_count : ByteArray := prog_1_method_28_code
def yX10_count : MethodName := ⟨RX10, "count", "(I)I"⟩
abbrev cX10_sheet : ByteArray := prog_1_method_29_code
def yX10_sheet : MethodName := ⟨RX10, "sheet", "(III)I"⟩
abbrev cX10_cell : ByteArray := prog_1_method_30_code
def yX10_cell : MethodName := ⟨RX10, "cell", "(III)I"⟩
abbrev cX10_copy : ByteArray := prog_1_method_31_code
def yX10_copy : MethodName := ⟨RX10, "copy", "(IIIII)I"⟩
abbrev cX10_newsRow : ByteArray := prog_1_method_32_code
def yX10_newsRow : MethodName := ⟨RX10, "newsRow", "(IIIII)I"⟩
abbrev cX10_taken : ByteArray := prog_1_method_33_code
def yX10_taken : MethodName := ⟨RX10, "taken", "(II)I"⟩
abbrev cX10_isOutside : ByteArray := prog_1_method_34_code
def yX10_isOutside : MethodName := ⟨RX10, "isOutside", "(III)Z"⟩
abbrev cX10_isNoTrack : ByteArray := prog_1_method_35_code
def yX10_isNoTrack : MethodName := ⟨RX10, "isNoTrack", "(I)Z"⟩
abbrev cX10_isNoSheet : ByteArray := prog_1_method_36_code
def yX10_isNoSheet : MethodName := ⟨RX10, "isNoSheet", "(I)Z"⟩
abbrev cX10_isNoZone : ByteArray := prog_1_method_37_code
def yX10_isNoZone : MethodName := ⟨RX10, "isNoZone", "(I)Z"⟩
abbrev cX10_isNoShelter : ByteArray := prog_1_method_38_code
def yX10_isNoShelter : MethodName := ⟨RX10, "isNoShelter", "(I)Z"⟩
abbrev cX10_isNoRoad : ByteArray := prog_1_method_39_code
def yX10_isNoRoad : MethodName := ⟨RX10, "isNoRoad", "(I)Z"⟩
abbrev cX10_isNoGoal : ByteArray := prog_1_method_40_code
def yX10_isNoGoal : MethodName := ⟨RX10, "isNoGoal", "(I)Z"⟩
abbrev cX10_sum : ByteArray := prog_1_method_41_code
def yX10_sum : MethodName := ⟨RX10, "sum", "([I)I"⟩
def RX11 : String := "FloodCityModel"
def TX11 : u_T := fun k => match k with
  | 0 => ("FloodCityModel", "now", "I", false)
  | 1 => ("FloodCityModel", "end", "I", false)
  | 2 => ("FloodCityModel", "zones", "I", false)
  | 3 => ("FloodCityModel", "height", "[I", true)
  | 4 => ("FloodCityModel", "home", "[I", true)
  | 5 => ("FloodCityModel", "onWay", "[I", true)
  | 6 => ("FloodCityModel", "ill", "[I", true)
  | 7 => ("FloodCityModel", "called", "[I", true)
  | 8 => ("FloodCityModel", "wayOf", "[I", true)
  | 9 => ("FloodCityModel", "shelters", "I", false)
  | 10 => ("FloodCityModel", "room", "[I", true)
  | 11 => ("FloodCityModel", "inside", "[I", true)
  | 12 => ("FloodCityModel", "keptFor", "[I", true)
  | 13 => ("FloodCityModel", "roads", "I", false)
  | 14 => ("FloodCityModel", "kindOf", "[I", true)
  | 15 => ("FloodCityModel", "from", "[I", true)
  | 16 => ("FloodCityModel", "to", "[I", true)
  | 17 => ("FloodCityModel", "flow", "[I", true)
  | 18 => ("FloodCityModel", "turned", "[I", true)
  | 19 => ("FloodCityModel", "buses", "I", false)
  | 20 => ("FloodCityModel", "busZone", "[I", true)
  | 21 => ("FloodCityModel", "busShelter", "[I", true)
  | 22 => ("FloodCityModel", "seats", "[I", true)
  | 23 => ("FloodCityModel", "trip", "[I", true)
  | 24 => ("FloodCityModel", "over", "[I", true)
  | 25 => ("FloodCityModel", "riding", "[I", true)
  | 26 => ("FloodCityModel", "out", "I", false)
  | 27 => ("FloodCityModel", "likely", "[I", true)
  | 28 => ("FloodCityModel", "truth", "I", false)
  | 29 => ("FloodCityModel", "newsMany", "I", false)
  | 30 => ("FloodCityModel", "newsTrack", "[I", true)
  | 31 => ("FloodCityModel", "newsFrom", "[I", true)
  | 32 => ("FloodCityModel", "newsTo", "[I", true)
  | 33 => ("FloodCityModel", "newsWater", "[I", true)
  | 34 => ("FloodCityModel", "newsWind", "[I", true)
  | 35 => ("FloodCityModel", "newsIn", "[I", true)
  | 36 => ("FloodCityModel", "water", "[I", true)
  | 37 => ("FloodCityModel", "wind", "[I", true)
  | 38 => ("FloodCityModel", "tape", "[B", true)
  | 39 => ("FloodCityModel", "taped", "I", false)
  | 40 => ("FloodCityModel", "texts", "I", false)
  | 41 => ("FloodCityModel", "rule", "I", false)
  | 42 => ("FloodCityModel", "codes", "[I", true)
  | 43 => ("FloodCityModel", "codeMany", "[I", true)
  | 44 => ("FloodCityModel", "at", "I", false)
  | 45 => ("FloodCityModel", "token", "I", false)
  | 46 => ("FloodCityModel", "worth", "I", false)
  | 47 => ("FloodCityModel", "place", "I", false)
  | 48 => ("FloodCityModel", "letters", "[C", true)
  | 49 => ("FloodCityModel", "begins", "[I", true)
  | 50 => ("FloodCityModel", "waits", "[I", true)
  | 51 => ("FloodCityModel", "waiting", "I", false)
  | 52 => ("FloodCityModel", "open", "I", false)
  | 53 => ("FloodCityModel", "depth", "I", false)
  | 54 => ("FloodCityModel", "compared", "[Z", true)
  | 55 => ("FloodCityModel", "codeAt", "I", false)
  | 56 => ("FloodCityModel", "made", "I", false)
  | 57 => ("FloodCityModel", "stack", "[I", true)
  | 58 => ("FloodCityModel", "coming", "[I", true)
  | 59 => ("FloodCityModel", "homeWas", "[I", true)
  | 60 => ("FloodCityModel", "onWayWas", "[I", true)
  | 61 => ("FloodCityModel", "illWas", "[I", true)
  | 62 => ("FloodCityModel", "calledWas", "[I", true)
  | 63 => ("FloodCityModel", "insideWas", "[I", true)
  | 64 => ("FloodCityModel", "keptWas", "[I", true)
  | 65 => ("FloodCityModel", "overWas", "[I", true)
  | 66 => ("FloodCityModel", "ridingWas", "[I", true)
  | 67 => ("FloodCityModel", "outWas", "I", false)
  | 68 => ("FloodCityModel", "nowWas", "I", false)
  | 69 => ("FloodCityModel", "told", "[I", true)
  | 70 => ("FloodCityModel", "bestTold", "[I", true)
  | 71 => ("FloodCityModel", "sorts", "[I", true)
  | 72 => ("FloodCityModel", "sizes", "[I", true)
  | 73 => ("FloodCityModel", "items", "[I", true)
  | _ => ("FloodCityModel", "moved", "[I", true)
def tyX11 : Nat → FieldType := fun k => match k with
  | 0 => .int
  | 1 => .int
  | 2 => .int
  | 3 => .array .int
  | 4 => .array .int
  | 5 => .array .int
  | 6 => .array .int
  | 7 => .array .int
  | 8 => .array .int
  | 9 => .int
  | 10 => .array .int
  | 11 => .array .int
  | 12 => .array .int
  | 13 => .int
  | 14 => .array .int
  | 15 => .array .int
  | 16 => .array .int
  | 17 => .array .int
  | 18 => .array .int
  | 19 => .int
  | 20 => .array .int
  | 21 => .array .int
  | 22 => .array .int
  | 23 => .array .int
  | 24 => .array .int
  | 25 => .array .int
  | 26 => .int
  | 27 => .array .int
  | 28 => .int
  | 29 => .int
  | 30 => .array .int
  | 31 => .array .int
  | 32 => .array .int
  | 33 => .array .int
  | 34 => .array .int
  | 35 => .array .int
  | 36 => .array .int
  | 37 => .array .int
  | 38 => .array .byte
  | 39 => .int
  | 40 => .int
  | 41 => .int
  | 42 => .array .int
  | 43 => .array .int
  | 44 => .int
  | 45 => .int
  | 46 => .int
  | 47 => .int
  | 48 => .array .char
  | 49 => .array .int
  | 50 => .array .int
  | 51 => .int
  | 52 => .int
  | 53 => .int
  | 54 => .array .boolean
  | 55 => .int
  | 56 => .int
  | 57 => .array .int
  | 58 => .array .int
  | 59 => .array .int
  | 60 => .array .int
  | 61 => .array .int
  | 62 => .array .int
  | 63 => .array .int
  | 64 => .array .int
  | 65 => .array .int
  | 66 => .array .int
  | 67 => .int
  | 68 => .int
  | 69 => .array .int
  | 70 => .array .int
  | 71 => .array .int
  | 72 => .array .int
  | 73 => .array .int
  | _ => .array .int
theorem nmX11 : ∀ a, a < 75 → ∀ b, b < 75 → a ≠ b → (TX11 a).2.1 ≠ (TX11 b).2.1 := by decide +kernel
theorem tyX11_ok : ∀ k, k < 75 → parseFieldDescriptor (TX11 k).2.2.1 = some (tyX11 k) := by decide +kernel
abbrev cX11_isIn : ByteArray := prog_13_method_1_code
def yX11_isIn : MethodName := ⟨RX11, "isIn", "(JJJ)Z"⟩
abbrev cX11_isZone : ByteArray := prog_13_method_2_code
def yX11_isZone : MethodName := ⟨RX11, "isZone", "(I)Z"⟩
abbrev cX11_isShelter : ByteArray := prog_13_method_3_code
def yX11_isShelter : MethodName := ⟨RX11, "isShelter", "(I)Z"⟩
abbrev cX11_isRoad : ByteArray := prog_13_method_4_code
def yX11_isRoad : MethodName := ⟨RX11, "isRoad", "(I)Z"⟩
abbrev cX11_isBus : ByteArray := prog_13_method_5_code
def yX11_isBus : MethodName := ⟨RX11, "isBus", "(I)Z"⟩
abbrev cX11_zone : ByteArray := prog_13_method_6_code
def yX11_zone : MethodName := ⟨RX11, "zone", "(III)I"⟩
abbrev cX11_shelter : ByteArray := prog_13_method_7_code
def yX11_shelter : MethodName := ⟨RX11, "shelter", "(I)I"⟩
abbrev cX11_isGoal : ByteArray := prog_13_method_8_code
def yX11_isGoal : MethodName := ⟨RX11, "isGoal", "(I)Z"⟩
abbrev cX11_road : ByteArray := prog_13_method_9_code
def yX11_road : MethodName := ⟨RX11, "road", "(IIII)I"⟩
abbrev cX11_use : ByteArray := prog_13_method_10_code
def yX11_use : MethodName := ⟨RX11, "use", "(I)I"⟩
abbrev cX11_turn : ByteArray := prog_13_method_11_code
def yX11_turn : MethodName := ⟨RX11, "turn", "(I)I"⟩
abbrev cX11_bus : ByteArray := prog_13_method_12_code
def yX11_bus : MethodName := ⟨RX11, "bus", "(IIII)I"⟩
abbrev cX11_zoneTold : ByteArray := prog_13_method_13_code
def yX11_zoneTold : MethodName := ⟨RX11, "zoneTold", "(II)I"⟩
abbrev cX11_roomLeft : ByteArray := prog_13_method_14_code
def yX11_roomLeft : MethodName := ⟨RX11, "roomLeft", "(I)I"⟩
abbrev cX11_shelterTold : ByteArray := prog_13_method_15_code
def yX11_shelterTold : MethodName := ⟨RX11, "shelterTold", "(II)I"⟩
abbrev cX11_roadTold : ByteArray := prog_13_method_16_code
def yX11_roadTold : MethodName := ⟨RX11, "roadTold", "(II)I"⟩
abbrev cX11_busTold : ByteArray := prog_13_method_17_code
def yX11_busTold : MethodName := ⟨RX11, "busTold", "(II)I"⟩
abbrev cX11_isWet : ByteArray := prog_13_method_18_code
def yX11_isWet : MethodName := ⟨RX11, "isWet", "(III)Z"⟩
abbrev cX11_end : ByteArray := prog_13_method_19_code
def yX11_end : MethodName := ⟨RX11, "end", "(I)I"⟩
abbrev cX11_isTrack : ByteArray := prog_13_method_20_code
def yX11_isTrack : MethodName := ⟨RX11, "isTrack", "(I)Z"⟩
abbrev cX11_likely : ByteArray := prog_13_method_21_code
def yX11_likely : MethodName := ⟨RX11, "likely", "(II)I"⟩
abbrev cX11_truth : ByteArray := prog_13_method_22_code
def yX11_truth : MethodName := ⟨RX11, "truth", "(I)I"⟩
abbrev cX11_news : ByteArray := prog_13_method_23_code
def yX11_news : MethodName := ⟨RX11, "news", "(IIIII)I"⟩
abbrev cX11_knownOf : ByteArray := prog_13_method_24_code
def yX11_knownOf : MethodName := ⟨RX11, "knownOf", "(IIIZ)I"⟩
abbrev cX11_known : ByteArray := prog_13_method_25_code
def yX11_known : MethodName := ⟨RX11, "known", "(IIII)I"⟩
abbrev cX11_feed : ByteArray := prog_13_method_26_code
def yX11_feed : MethodName := ⟨RX11, "feed", "(IJ)I"⟩
abbrev cX11_isLetter : ByteArray := prog_13_method_27_code
def yX11_isLetter : MethodName := ⟨RX11, "isLetter", "(I)Z"⟩
abbrev cX11_isDigit : ByteArray := prog_13_method_28_code
def yX11_isDigit : MethodName := ⟨RX11, "isDigit", "(I)Z"⟩
abbrev cX11_readWord : ByteArray := prog_13_method_29_code
def yX11_readWord : MethodName := ⟨RX11, "readWord", "()V"⟩
abbrev cX11_readNumber : ByteArray := prog_13_method_30_code
def yX11_readNumber : MethodName := ⟨RX11, "readNumber", "()V"⟩
abbrev cX11_next : ByteArray := prog_13_method_31_code
def yX11_next : MethodName := ⟨RX11, "next", "()V"⟩
abbrev cX11_isSign : ByteArray := prog_13_method_32_code
def yX11_isSign : MethodName := ⟨RX11, "isSign", "(I)Z"⟩
abbrev cX11_isKey : ByteArray := prog_13_method_33_code
def yX11_isKey : MethodName := ⟨RX11, "isKey", "(I)Z"⟩
abbrev cX11_emit : ByteArray := prog_13_method_34_code
def yX11_emit : MethodName := ⟨RX11, "emit", "(I)V"⟩
abbrev cX11_rank : ByteArray := prog_13_method_35_code
def yX11_rank : MethodName := ⟨RX11, "rank", "(I)I"⟩
abbrev cX11_doAll : ByteArray := prog_13_method_36_code
def yX11_doAll : MethodName := ⟨RX11, "doAll", "(I)V"⟩
abbrev cX11_await : ByteArray := prog_13_method_37_code
def yX11_await : MethodName := ⟨RX11, "await", "(I)V"⟩
abbrev cX11_between : ByteArray := prog_13_method_38_code
def yX11_between : MethodName := ⟨RX11, "between", "()Z"⟩
abbrev cX11_closes : ByteArray := prog_13_method_39_code
def yX11_closes : MethodName := ⟨RX11, "closes", "()Z"⟩
abbrev cX11_ahead : ByteArray := prog_13_method_40_code
def yX11_ahead : MethodName := ⟨RX11, "ahead", "(Z)Z"⟩
abbrev cX11_readE : ByteArray := prog_13_method_41_code
def yX11_readE : MethodName := ⟨RX11, "readE", "(I)Z"⟩
abbrev cX11_readAll : ByteArray := prog_13_method_42_code
def yX11_readAll : MethodName := ⟨RX11, "readAll", "(I)I"⟩
abbrev cX11_text : ByteArray := prog_13_method_43_code
def yX11_text : MethodName := ⟨RX11, "text", "()I"⟩
abbrev cX11_force : ByteArray := prog_13_method_44_code
def yX11_force : MethodName := ⟨RX11, "force", "(I)I"⟩
abbrev cX11_nameOf : ByteArray := prog_13_method_45_code
def yX11_nameOf : MethodName := ⟨RX11, "nameOf", "(IIII)I"⟩
abbrev cX11_done : ByteArray := prog_13_method_46_code
def yX11_done : MethodName := ⟨RX11, "done", "(III)I"⟩
abbrev cX11_worthOf : ByteArray := prog_13_method_47_code
def yX11_worthOf : MethodName := ⟨RX11, "worthOf", "(IIII)I"⟩
abbrev cX11_says : ByteArray := prog_13_method_48_code
def yX11_says : MethodName := ⟨RX11, "says", "(II)J"⟩
abbrev cX11_init : ByteArray := prog_13_method_49_code
def yX11_init : MethodName := ⟨RX11, "<init>", "()V"⟩
abbrev cX11_call : ByteArray := prog_13_method_50_code
def yX11_call : MethodName := ⟨RX11, "call", "(I)I"⟩
abbrev cX11_wasWet : ByteArray := prog_13_method_51_code
def yX11_wasWet : MethodName := ⟨RX11, "wasWet", "(III)Z"⟩
abbrev cX11_good : ByteArray := prog_13_method_52_code
def yX11_good : MethodName := ⟨RX11, "good", "(I)I"⟩
abbrev cX11_canTake : ByteArray := prog_13_method_53_code
def yX11_canTake : MethodName := ⟨RX11, "canTake", "(III)I"⟩
abbrev cX11_leave : ByteArray := prog_13_method_54_code
def yX11_leave : MethodName := ⟨RX11, "leave", "(I)V"⟩
abbrev cX11_move : ByteArray := prog_13_method_55_code
def yX11_move : MethodName := ⟨RX11, "move", "(I)V"⟩
abbrev cX11_ride : ByteArray := prog_13_method_56_code
def yX11_ride : MethodName := ⟨RX11, "ride", "(I)V"⟩
abbrev cX11_step : ByteArray := prog_13_method_57_code
def yX11_step : MethodName := ⟨RX11, "step", "(I)V"⟩
abbrev cX11_pass : ByteArray := prog_13_method_58_code
def yX11_pass : MethodName := ⟨RX11, "pass", "(I)I"⟩
abbrev cX11_inWaterOf : ByteArray := prog_13_method_59_code
def yX11_inWaterOf : MethodName := ⟨RX11, "inWaterOf", "(I)I"⟩
abbrev cX11_inWater : ByteArray := prog_13_method_60_code
def yX11_inWater : MethodName := ⟨RX11, "inWater", "()I"⟩
abbrev cX11_keepAll : ByteArray := prog_13_method_61_code
def yX11_keepAll : MethodName := ⟨RX11, "keepAll", "()V"⟩
abbrev cX11_bringBack : ByteArray := prog_13_method_62_code
def yX11_bringBack : MethodName := ⟨RX11, "bringBack", "()V"⟩
abbrev cX11_played : ByteArray := prog_13_method_63_code
def yX11_played : MethodName := ⟨RX11, "played", "(I)I"⟩
abbrev cX11_takeCalls : ByteArray := prog_13_method_64_code
def yX11_takeCalls : MethodName := ⟨RX11, "takeCalls", "(J)Z"⟩
abbrev cX11_foresee : ByteArray := prog_13_method_65_code
def yX11_foresee : MethodName := ⟨RX11, "foresee", "(IJ)J"⟩
abbrev cX11_worst : ByteArray := prog_13_method_66_code
def yX11_worst : MethodName := ⟨RX11, "worst", "()I"⟩
abbrev cX11_mayAsk : ByteArray := prog_13_method_67_code
def yX11_mayAsk : MethodName := ⟨RX11, "mayAsk", "(I)Z"⟩
abbrev cX11_choose : ByteArray := prog_13_method_68_code
def yX11_choose : MethodName := ⟨RX11, "choose", "(III)I"⟩
abbrev cX11_countBits : ByteArray := prog_13_method_69_code
def yX11_countBits : MethodName := ⟨RX11, "countBits", "(I)I"⟩
abbrev cX11_best : ByteArray := prog_13_method_70_code
def yX11_best : MethodName := ⟨RX11, "best", "(I)J"⟩
abbrev cX11_bestCall : ByteArray := prog_13_method_71_code
def yX11_bestCall : MethodName := ⟨RX11, "bestCall", "(I)I"⟩
abbrev cX11_sumOf : ByteArray := prog_13_method_72_code
def yX11_sumOf : MethodName := ⟨RX11, "sumOf", "([II)I"⟩
abbrev cX11_count : ByteArray := prog_13_method_73_code
def yX11_count : MethodName := ⟨RX11, "count", "(I)I"⟩
abbrev cX11_isSheet : ByteArray := prog_13_method_74_code
def yX11_isSheet : MethodName := ⟨RX11, "isSheet", "(I)Z"⟩
abbrev cX11_sheet : ByteArray := prog_13_method_75_code
def yX11_sheet : MethodName := ⟨RX11, "sheet", "(III)I"⟩
abbrev cX11_cutTo : ByteArray := prog_13_method_76_code
def yX11_cutTo : MethodName := ⟨RX11, "cutTo", "(II)I"⟩
abbrev cX11_cell : ByteArray := prog_13_method_77_code
def yX11_cell : MethodName := ⟨RX11, "cell", "(III)I"⟩
abbrev cX11_copy : ByteArray := prog_13_method_78_code
def yX11_copy : MethodName := ⟨RX11, "copy", "(IIIII)I"⟩
abbrev cX11_newsRow : ByteArray := prog_13_method_79_code
def yX11_newsRow : MethodName := ⟨RX11, "newsRow", "(IIIII)I"⟩
abbrev cX11_taken : ByteArray := prog_13_method_80_code
def yX11_taken : MethodName := ⟨RX11, "taken", "(II)I"⟩
def RJx145de : String := "java/io/Serializable"
def TJx145de : u_T := fun k => match k with
  | _ => ("", "", "", false)
def tyJx145de : Nat → FieldType := fun k => match k with
  | _ => .int
theorem nmJx145de : ∀ a, a < 0 → ∀ b, b < 0 → a ≠ b → (TJx145de a).2.1 ≠ (TJx145de b).2.1 := by decide +kernel
theorem tyJx145de_ok : ∀ k, k < 0 → parseFieldDescriptor (TJx145de k).2.2.1 = some (tyJx145de k) := by decide +kernel
def RJx9f9b0 : String := "java/lang/CharSequence"
def TJx9f9b0 : u_T := fun k => match k with
  | _ => ("", "", "", false)
def tyJx9f9b0 : Nat → FieldType := fun k => match k with
  | _ => .int
theorem nmJx9f9b0 : ∀ a, a < 0 → ∀ b, b < 0 → a ≠ b → (TJx9f9b0 a).2.1 ≠ (TJx9f9b0 b).2.1 := by decide +kernel
theorem tyJx9f9b0_ok : ∀ k, k < 0 → parseFieldDescriptor (TJx9f9b0 k).2.2.1 = some (tyJx9f9b0 k) := by decide +kernel
def RJxb160c : String := "java/lang/Comparable"
def TJxb160c : u_T := fun k => match k with
  | _ => ("", "", "", false)
def tyJxb160c : Nat → FieldType := fun k => match k with
  | _ => .int
theorem nmJxb160c : ∀ a, a < 0 → ∀ b, b < 0 → a ≠ b → (TJxb160c a).2.1 ≠ (TJxb160c b).2.1 := by decide +kernel
theorem tyJxb160c_ok : ∀ k, k < 0 → parseFieldDescriptor (TJxb160c k).2.2.1 = some (tyJxb160c k) := by decide +kernel
def RJ6 : String := "java/lang/Integer"
def TJ6 : u_T := fun k => match k with
  | _ => ("", "", "", false)
def tyJ6 : Nat → FieldType := fun k => match k with
  | _ => .int
theorem nmJ6 : ∀ a, a < 0 → ∀ b, b < 0 → a ≠ b → (TJ6 a).2.1 ≠ (TJ6 b).2.1 := by decide +kernel
theorem tyJ6_ok : ∀ k, k < 0 → parseFieldDescriptor (TJ6 k).2.2.1 = some (tyJ6 k) := by decide +kernel
abbrev cJ6_bitCount_0f7a4 : ByteArray := prog_14_method_49_code
def yJ6_bitCount_0f7a4 : MethodName := ⟨RJ6, "bitCount", "(I)I"⟩
def RJ9 : String := "java/lang/Math"
def TJ9 : u_T := fun k => match k with
  | _ => ("", "", "", false)
def tyJ9 : Nat → FieldType := fun k => match k with
  | _ => .int
theorem nmJ9 : ∀ a, a < 0 → ∀ b, b < 0 → a ≠ b → (TJ9 a).2.1 ≠ (TJ9 b).2.1 := by decide +kernel
theorem tyJ9_ok : ∀ k, k < 0 → parseFieldDescriptor (TJ9 k).2.2.1 = some (tyJ9 k) := by decide +kernel
abbrev cJ9_max_7cf53 : ByteArray := prog_15_method_65_code
def yJ9_max_7cf53 : MethodName := ⟨RJ9, "max", "(II)I"⟩
abbrev cJ9_min_7cf53 : ByteArray := prog_15_method_69_code
def yJ9_min_7cf53 : MethodName := ⟨RJ9, "min", "(II)I"⟩
def RJ0 : String := "java/lang/String"
def TJ0 : u_T := fun k => match k with
  | _ => ("", "", "", false)
def tyJ0 : Nat → FieldType := fun k => match k with
  | _ => .int
theorem nmJ0 : ∀ a, a < 0 → ∀ b, b < 0 → a ≠ b → (TJ0 a).2.1 ≠ (TJ0 b).2.1 := by decide +kernel
theorem tyJ0_ok : ∀ k, k < 0 → parseFieldDescriptor (TJ0 k).2.2.1 = some (tyJ0 k) := by decide +kernel
abbrev cJ0_length_8abf5 : ByteArray := prog_16_method_54_code
def yJ0_length_8abf5 : MethodName := ⟨RJ0, "length", "()I"⟩
abbrev cJ0_charAt_5068e : ByteArray := prog_16_method_56_code
def yJ0_charAt_5068e : MethodName := ⟨RJ0, "charAt", "(I)C"⟩
abbrev cJ0_coder_7d493 : ByteArray := prog_16_method_152_code
def yJ0_coder_7d493 : MethodName := ⟨RJ0, "coder", "()B"⟩
abbrev cJ0_isLatin1_aae02 : ByteArray := prog_16_method_154_code
def yJ0_isLatin1_aae02 : MethodName := ⟨RJ0, "isLatin1", "()Z"⟩
abbrev cJ0_checkIndex_df160 : ByteArray := prog_16_method_155_code
def yJ0_checkIndex_df160 : MethodName := ⟨RJ0, "checkIndex", "(II)V"⟩
def RJ1 : String := "java/lang/StringLatin1"
def TJ1 : u_T := fun k => match k with
  | _ => ("", "", "", false)
def tyJ1 : Nat → FieldType := fun k => match k with
  | _ => .int
theorem nmJ1 : ∀ a, a < 0 → ∀ b, b < 0 → a ≠ b → (TJ1 a).2.1 ≠ (TJ1 b).2.1 := by decide +kernel
theorem tyJ1_ok : ∀ k, k < 0 → parseFieldDescriptor (TJ1 k).2.2.1 = some (tyJ1 k) := by decide +kernel
abbrev cJ1_charAt_3b067 : ByteArray := prog_17_method_2_code
def yJ1_charAt_3b067 : MethodName := ⟨RJ1, "charAt", "([BI)C"⟩
def RJ2 : String := "java/lang/StringUTF16"
def TJ2 : u_T := fun k => match k with
  | _ => ("", "", "", false)
def tyJ2 : Nat → FieldType := fun k => match k with
  | _ => .int
theorem nmJ2 : ∀ a, a < 0 → ∀ b, b < 0 → a ≠ b → (TJ2 a).2.1 ≠ (TJ2 b).2.1 := by decide +kernel
theorem tyJ2_ok : ∀ k, k < 0 → parseFieldDescriptor (TJ2 k).2.2.1 = some (tyJ2 k) := by decide +kernel
abbrev cJ2_getChar_3b067 : ByteArray := prog_18_method_5_code
def yJ2_getChar_3b067 : MethodName := ⟨RJ2, "getChar", "([BI)C"⟩
abbrev cJ2_length_9d52b : ByteArray := prog_18_method_6_code
def yJ2_length_9d52b : MethodName := ⟨RJ2, "length", "([B)I"⟩
abbrev cJ2_charAt_3b067 : ByteArray := prog_18_method_83_code
def yJ2_charAt_3b067 : MethodName := ⟨RJ2, "charAt", "([BI)C"⟩
abbrev cJ2_checkIndex_2214a : ByteArray := prog_18_method_91_code
def yJ2_checkIndex_2214a : MethodName := ⟨RJ2, "checkIndex", "(I[B)V"⟩
def RJ10 : String := "java/lang/System"
def TJ10 : u_T := fun k => match k with
  | _ => ("", "", "", false)
def tyJ10 : Nat → FieldType := fun k => match k with
  | _ => .int
theorem nmJ10 : ∀ a, a < 0 → ∀ b, b < 0 → a ≠ b → (TJ10 a).2.1 ≠ (TJ10 b).2.1 := by decide +kernel
theorem tyJ10_ok : ∀ k, k < 0 → parseFieldDescriptor (TJ10 k).2.2.1 = some (tyJ10 k) := by decide +kernel
def RJxfd54e : String := "java/lang/constant/Constable"
def TJxfd54e : u_T := fun k => match k with
  | _ => ("", "", "", false)
def tyJxfd54e : Nat → FieldType := fun k => match k with
  | _ => .int
theorem nmJxfd54e : ∀ a, a < 0 → ∀ b, b < 0 → a ≠ b → (TJxfd54e a).2.1 ≠ (TJxfd54e b).2.1 := by decide +kernel
theorem tyJxfd54e_ok : ∀ k, k < 0 → parseFieldDescriptor (TJxfd54e k).2.2.1 = some (tyJxfd54e k) := by decide +kernel
def RJx3cf43 : String := "java/lang/constant/ConstantDesc"
def TJx3cf43 : u_T := fun k => match k with
  | _ => ("", "", "", false)
def tyJx3cf43 : Nat → FieldType := fun k => match k with
  | _ => .int
theorem nmJx3cf43 : ∀ a, a < 0 → ∀ b, b < 0 → a ≠ b → (TJx3cf43 a).2.1 ≠ (TJx3cf43 b).2.1 := by decide +kernel
theorem tyJx3cf43_ok : ∀ k, k < 0 → parseFieldDescriptor (TJx3cf43 k).2.2.1 = some (tyJx3cf43 k) := by decide +kernel
def RJ7 : String := "java/util/Arrays"
def TJ7 : u_T := fun k => match k with
  | _ => ("", "", "", false)
def tyJ7 : Nat → FieldType := fun k => match k with
  | _ => .int
theorem nmJ7 : ∀ a, a < 0 → ∀ b, b < 0 → a ≠ b → (TJ7 a).2.1 ≠ (TJ7 b).2.1 := by decide +kernel
theorem tyJ7_ok : ∀ k, k < 0 → parseFieldDescriptor (TJ7 k).2.2.1 = some (tyJ7 k) := by decide +kernel
abbrev cJ7_fill_53178 : ByteArray := prog_20_method_103_code
def yJ7_fill_53178 : MethodName := ⟨RJ7, "fill", "([II)V"⟩
def RJ3 : String := "jdk/internal/util/Preconditions"
def TJ3 : u_T := fun k => match k with
  | _ => ("", "", "", false)
def tyJ3 : Nat → FieldType := fun k => match k with
  | _ => .int
theorem nmJ3 : ∀ a, a < 0 → ∀ b, b < 0 → a ≠ b → (TJ3 a).2.1 ≠ (TJ3 b).2.1 := by decide +kernel
theorem tyJ3_ok : ∀ k, k < 0 → parseFieldDescriptor (TJ3 k).2.2.1 = some (tyJ3 k) := by decide +kernel
abbrev cJ3_checkIndex_8e157 : ByteArray := prog_21_method_11_code
def yJ3_checkIndex_8e157 : MethodName := ⟨RJ3, "checkIndex", "(IILjava/util/function/BiFunction;)I"⟩
def RL : String := "FloodCityLaw"
abbrev cL_law : ByteArray := code
def yL_law : MethodName := ⟨RL, "law", "([I)Z"⟩
