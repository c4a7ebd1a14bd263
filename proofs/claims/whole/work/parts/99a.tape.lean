/-! ===== a token depends on the tape below its end alone ===== -/
theorem rn_eq {C D : Nat → Bool} {n : Nat} (h : ∀ k, k < n → C k = D k) : ∀ m p, rn C n m p = rn D n m p
  | 0, _ => rfl
  | m + 1, p => by
    unfold rn
    by_cases c : p < n
    · rw [h p c, rn_eq h m (p + 1)]
    · rw [if_neg (fun z => c z.1), if_neg (fun z => c z.1)]
theorem isBl_eq {T T' : Nat → Int32} {k : Nat} (h : T k = T' k) : isBl T k = isBl T' k := by
  unfold isBl
  rw [h]
theorem isLe_eq {T T' : Nat → Int32} {k : Nat} (h : T k = T' k) : isLe T k = isLe T' k := by
  unfold isLe
  rw [h]
theorem isDi_eq {T T' : Nat → Int32} {k : Nat} (h : T k = T' k) : isDi T k = isDi T' k := by
  unfold isDi
  rw [h]
theorem all_eq {f g : Nat → Bool} : ∀ l : List Nat, (∀ i ∈ l, f i = g i) → l.all f = l.all g
  | [], _ => rfl
  | a :: l, h => by
    rw [List.all_cons, List.all_cons, h a List.mem_cons_self, all_eq l (fun i hi => h i (List.mem_cons_of_mem _ hi))]
theorem weq_eq {T T' : Nat → Int32} {p len k : Nat} (h : ∀ i, i < len → T (p + i) = T' (p + i)) : weq T p len k = weq T' p len k := by
  unfold weq
  rw [all_eq (List.range len) (f := fun i => decide (T (p + i) = (fc_byt.getD k []).getD i 0)) (g := fun i => decide (T' (p + i) = (fc_byt.getD k []).getD i 0)) (fun i hi => by
    show decide (T (p + i) = _) = decide (T' (p + i) = _)
    rw [h i (List.mem_range.mp hi)])]
theorem wid_eq {T T' : Nat → Int32} {p len : Nat} (h : ∀ i, i < len → T (p + i) = T' (p + i)) : wid T p len = wid T' p len := by
  unfold wid
  simp only [weq_eq h]
theorem nvC_eq {T T' : Nat → Int32} {p : Nat} : ∀ j, (∀ i, i < j → T (p + i) = T' (p + i)) → nvC T p j = nvC T' p j
  | 0, _ => rfl
  | j + 1, h => by
    unfold nvC
    rw [nvC_eq j (fun i hi => h i (Nat.lt_succ_of_lt hi)), h j (Nat.lt_succ_self j)]
theorem tkB_eq {T T' : Nat → Int32} {n p : Nat} (h : ∀ k, k < n → T k = T' k) : tkB T n p = tkB T' n p := rn_eq (fun k hk => isBl_eq (h k hk)) _ _
theorem tkE_eq {T T' : Nat → Int32} {n b : Nat} (h : ∀ k, k < n → T k = T' k) : tkE T n b = tkE T' n b := by
  unfold tkE
  by_cases c : n ≤ b
  · rw [if_pos c, if_pos c]
  · rw [if_neg c, if_neg c, isLe_eq (h b (by omega)), isDi_eq (h b (by omega)), rn_eq (fun k hk => isLe_eq (h k hk)), rn_eq (fun k hk => isDi_eq (h k hk))]
theorem tk_eq {T T' : Nat → Int32} {n b : Nat} (h : ∀ k, k < n → T k = T' k) (hb : b ≤ n) : tk T n b = tk T' n b := by
  obtain ⟨e1, e2⟩ := tkE_b (T := T) hb
  unfold tk
  rw [← tkE_eq h]
  have hw : wid T b (tkE T n b - b) = wid T' b (tkE T n b - b) := wid_eq (fun i hi => h _ (by omega))
  have hv : nvC T b (tkE T n b - b) = nvC T' b (tkE T n b - b) := nvC_eq _ (fun i hi => h _ (by omega))
  by_cases c : n ≤ b
  · rw [if_pos c, if_pos c]
  · rw [if_neg c, if_neg c, hw, hv, isLe_eq (h b (by omega)), isDi_eq (h b (by omega)), h b (by omega)]
theorem nT_eq {T T' : Nat → Int32} {n p : Nat} (h : ∀ k, k < n → T k = T' k) (hp : p ≤ n) : nB T n p = nB T' n p ∧ nE T n p = nE T' n p ∧ nT T n p = nT T' n p := by
  obtain ⟨_, b2⟩ := tkB_b (T := T) hp
  have e := tkB_eq (p := p) h
  unfold nB nE nT
  rw [← e]
  exact ⟨rfl, tkE_eq h, tk_eq h b2⟩
