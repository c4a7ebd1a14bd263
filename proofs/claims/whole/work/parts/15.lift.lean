/-! ===== the pure run beside the walk: what a method gives, out of its own bytecode ===== -/
abbrev fq_l {α γ : Type} (e : α) (k : α → Option γ) : Option γ := k e
def fq_g {γ : Type} (N : Nat) (i : Int32) (k : Option γ) : Option γ := if 0 ≤ i.toInt ∧ i.toInt < (N : Int) then k else none
def fq_z {γ : Type} (x : Int32) (k : Option γ) : Option γ := if x.toInt = 0 ∨ x.toInt = 1 then k else none
def fq_b {α γ : Type} (o : Option (α × fc_I)) (k : α → fc_I → Option γ) : Option γ := match o with
  | some (a, I) => k a I
  | none => none
def fq_u {γ : Type} (o : Option fc_I) (k : fc_I → Option γ) : Option γ := match o with
  | some I => k I
  | none => none
def fq_v {α γ : Type} (o : Option α) (k : α → Option γ) : Option γ := match o with
  | some a => k a
  | none => none
def fq_c {γ : Type} (N0 N1 : Nat) (sp dp n : Int32) (k : Option γ) : Option γ := if 0 ≤ sp.toInt ∧ 0 ≤ dp.toInt ∧ 0 ≤ n.toInt ∧ cn sp + cn n ≤ N0 ∧ cn dp + cn n ≤ N1 then k else none
abbrev imin (x y : Int32) : Int32 := if y < x then y else x
abbrev imax (x y : Int32) : Int32 := if x < y then y else x
theorem fq_gs {γ : Type} {N : Nat} {i : Int32} {k : Option γ} {o : γ} (h : fq_g N i k = some o) : (0 ≤ i.toInt ∧ i.toInt < (N : Int)) ∧ k = some o := by
  unfold fq_g at h
  by_cases c : 0 ≤ i.toInt ∧ i.toInt < (N : Int)
  · rw [if_pos c] at h; exact ⟨c, h⟩
  · rw [if_neg c] at h; cases h
theorem fq_gp {γ : Type} {N : Nat} {i : Int32} {k : Option γ} (h : 0 ≤ i.toInt ∧ i.toInt < (N : Int)) : fq_g N i k = k := if_pos h
theorem fq_zs {γ : Type} {x : Int32} {k : Option γ} {o : γ} (h : fq_z x k = some o) : (x.toInt = 0 ∨ x.toInt = 1) ∧ k = some o := by
  unfold fq_z at h
  by_cases c : x.toInt = 0 ∨ x.toInt = 1
  · rw [if_pos c] at h; exact ⟨c, h⟩
  · rw [if_neg c] at h; cases h
theorem fq_zp {γ : Type} {x : Int32} {k : Option γ} (h : x.toInt = 0 ∨ x.toInt = 1) : fq_z x k = k := if_pos h
theorem fq_bs {α γ : Type} {o : Option (α × fc_I)} {k : α → fc_I → Option γ} {x : γ} (h : fq_b o k = some x) : ∃ a I, o = some (a, I) ∧ k a I = some x := by
  cases o with
  | none => cases h
  | some q => exact ⟨q.1, q.2, rfl, h⟩
theorem fq_us {γ : Type} {o : Option fc_I} {k : fc_I → Option γ} {x : γ} (h : fq_u o k = some x) : ∃ I, o = some I ∧ k I = some x := by
  cases o with
  | none => cases h
  | some q => exact ⟨q, rfl, h⟩
theorem fq_vs {α γ : Type} {o : Option α} {k : α → Option γ} {x : γ} (h : fq_v o k = some x) : ∃ a, o = some a ∧ k a = some x := by
  cases o with
  | none => cases h
  | some q => exact ⟨q, rfl, h⟩
theorem fq_cs {γ : Type} {N0 N1 : Nat} {sp dp n : Int32} {k : Option γ} {o : γ} (h : fq_c N0 N1 sp dp n k = some o) : (0 ≤ sp.toInt ∧ 0 ≤ dp.toInt ∧ 0 ≤ n.toInt ∧ cn sp + cn n ≤ N0 ∧ cn dp + cn n ≤ N1) ∧ k = some o := by
  unfold fq_c at h
  by_cases c : 0 ≤ sp.toInt ∧ 0 ≤ dp.toInt ∧ 0 ≤ n.toInt ∧ cn sp + cn n ≤ N0 ∧ cn dp + cn n ≤ N1
  · rw [if_pos c] at h; exact ⟨c, h⟩
  · rw [if_neg c] at h; cases h
theorem fq_cp {γ : Type} {N0 N1 : Nat} {sp dp n : Int32} {k : Option γ} (h : 0 ≤ sp.toInt ∧ 0 ≤ dp.toInt ∧ 0 ≤ n.toInt ∧ cn sp + cn n ≤ N0 ∧ cn dp + cn n ≤ N1) : fq_c N0 N1 sp dp n k = k := if_pos h
theorem fq_is {γ : Type} {c : Prop} [Decidable c] {A B : Option γ} {o : γ} (h : (if c then A else B) = some o) : (c ∧ A = some o) ∨ (¬ c ∧ B = some o) := by
  by_cases e : c
  · rw [if_pos e] at h; exact Or.inl ⟨e, h⟩
  · rw [if_neg e] at h; exact Or.inr ⟨e, h⟩
theorem fq_nz {x : Int32} (h : x.toInt = 0 ∨ x.toInt = 1) : narrow .boolean (.int x) = .int x := by
  rcases h with h | h
  · rw [show x = 0 from Int32.toInt_inj.mp h]; rfl
  · rw [show x = 1 from Int32.toInt_inj.mp h]; rfl
/-- fewer locals known -/
def fc_le : List (Option Value) → List (Option Value) → Prop
  | [], _ => True
  | none :: r, _ :: s => fc_le r s
  | some v :: r, b :: s => b = some v ∧ fc_le r s
  | _ :: _, [] => False
theorem fc_le_at : ∀ (a b : List (Option Value)), fc_le a b → ∀ (i : Nat) (v : Value), a[i]? = some (some v) → b[i]? = some (some v)
  | [], _, _, i, v, h => by simp at h
  | none :: r, b :: s, q, i, v, h => by
    cases i with
    | zero => simp at h
    | succ i => simpa using fc_le_at r s q i v (by simpa using h)
  | some w :: r, b :: s, q, i, v, h => by
    obtain ⟨q1, q2⟩ := q
    cases i with
    | zero => simp at h; subst h; simp [q1]
    | succ i => simpa using fc_le_at r s q2 i v (by simpa using h)
  | none :: _, [], q, _, _, _ => by cases q
  | some _ :: _, [], q, _, _, _ => by cases q
/-- the part of the world that the texts' readers see -/
def fc_v (v : Nat) : Prop := 34 ≤ v ∧ v ≤ 39
def fc_wd (sh : fc_Sh) (P : fc_P) (v : Nat) : Prop := (∀ c, 31 ≤ c → c < 45 → sh[c]? = fc_SH[c]?) ∧ ∀ c, 31 ≤ c → c < 45 → ∀ k, P c k = fc_PT v c k
theorem wd_full {v : Nat} (_ : fc_v v) : fc_wd fc_SH (fc_PT v) v := ⟨fun _ _ _ => rfl, fun _ _ _ _ => rfl⟩
theorem PT_set {v w : Nat} : fc_wP (fc_PT v) 43 1 w = fc_PT w := by
  funext c k
  unfold fc_wP
  by_cases h : c = 43 ∧ k = 1
  · rw [if_pos h, h.1, h.2]; rfl
  · rw [if_neg h]
    by_cases hc : c = 43
    · subst hc
      have hk : ¬ k = 1 := fun z => h ⟨rfl, z⟩
      match k with
      | 0 => rfl
      | 1 => exact absurd rfl hk
      | k + 2 => simp [fc_PT]
    · unfold fc_PT
      split <;> first | rfl | exact absurd rfl hc
theorem wd_set {sh : fc_Sh} {P : fc_P} {v w : Nat} (h : fc_wd sh P v) (_ : fc_v w) : fc_wd sh (fc_wP P 43 1 w) w := ⟨h.1, fun c h1 h2 k => by
  rw [← PT_set (v := v)]
  unfold fc_wP
  rw [h.2 c h1 h2]⟩
theorem ws_31 {sh : fc_Sh} {P : fc_P} {v : Nat} (h : fc_wd sh P v) : sh[31]? = some (10, 9) := (h.1 31 (by decide) (by decide)).trans sh_31
theorem ws_32 {sh : fc_Sh} {P : fc_P} {v : Nat} (h : fc_wd sh P v) : sh[32]? = some (1, 160) := (h.1 32 (by decide) (by decide)).trans sh_32
theorem ws_33 {sh : fc_Sh} {P : fc_P} {v : Nat} (h : fc_wd sh P v) : sh[33]? = some (4, 6) := (h.1 33 (by decide) (by decide)).trans sh_33
theorem ws_34 {sh : fc_Sh} {P : fc_P} {v : Nat} (h : fc_wd sh P v) : sh[34]? = some (0, 160) := (h.1 34 (by decide) (by decide)).trans sh_34
theorem ws_35 {sh : fc_Sh} {P : fc_P} {v : Nat} (h : fc_wd sh P v) : sh[35]? = some (0, 160) := (h.1 35 (by decide) (by decide)).trans sh_35
theorem ws_36 {sh : fc_Sh} {P : fc_P} {v : Nat} (h : fc_wd sh P v) : sh[36]? = some (0, 160) := (h.1 36 (by decide) (by decide)).trans sh_36
theorem ws_37 {sh : fc_Sh} {P : fc_P} {v : Nat} (h : fc_wd sh P v) : sh[37]? = some (0, 160) := (h.1 37 (by decide) (by decide)).trans sh_37
theorem ws_38 {sh : fc_Sh} {P : fc_P} {v : Nat} (h : fc_wd sh P v) : sh[38]? = some (0, 160) := (h.1 38 (by decide) (by decide)).trans sh_38
theorem ws_39 {sh : fc_Sh} {P : fc_P} {v : Nat} (h : fc_wd sh P v) : sh[39]? = some (0, 160) := (h.1 39 (by decide) (by decide)).trans sh_39
theorem ws_40 {sh : fc_Sh} {P : fc_P} {v : Nat} (h : fc_wd sh P v) : sh[40]? = some (0, 6) := (h.1 40 (by decide) (by decide)).trans sh_40
theorem ws_41 {sh : fc_Sh} {P : fc_P} {v : Nat} (h : fc_wd sh P v) : sh[41]? = some (0, 6) := (h.1 41 (by decide) (by decide)).trans sh_41
theorem ws_42 {sh : fc_Sh} {P : fc_P} {v : Nat} (h : fc_wd sh P v) : sh[42]? = some (0, 160) := (h.1 42 (by decide) (by decide)).trans sh_42
theorem ws_43 {sh : fc_Sh} {P : fc_P} {v : Nat} (h : fc_wd sh P v) : sh[43]? = some (15, 10) := (h.1 43 (by decide) (by decide)).trans sh_43
theorem ws_44 {sh : fc_Sh} {P : fc_P} {v : Nat} (h : fc_wd sh P v) : sh[44]? = some (0, 0) := (h.1 44 (by decide) (by decide)).trans sh_44
theorem wp_31_0 {sh : fc_Sh} {P : fc_P} {v : Nat} (h : fc_wd sh P v) : P 31 0 = some 32 := (h.2 31 (by decide) (by decide) 0).trans pt_31_0
theorem wp_31_1 {sh : fc_Sh} {P : fc_P} {v : Nat} (h : fc_wd sh P v) : P 31 1 = some 33 := (h.2 31 (by decide) (by decide) 1).trans pt_31_1
theorem wp_31_2 {sh : fc_Sh} {P : fc_P} {v : Nat} (h : fc_wd sh P v) : P 31 2 = some 40 := (h.2 31 (by decide) (by decide) 2).trans pt_31_2
theorem wp_31_3 {sh : fc_Sh} {P : fc_P} {v : Nat} (h : fc_wd sh P v) : P 31 3 = some 41 := (h.2 31 (by decide) (by decide) 3).trans pt_31_3
theorem wp_31_4 {sh : fc_Sh} {P : fc_P} {v : Nat} (h : fc_wd sh P v) : P 31 4 = some 42 := (h.2 31 (by decide) (by decide) 4).trans pt_31_4
theorem wp_31_5 {sh : fc_Sh} {P : fc_P} {v : Nat} (h : fc_wd sh P v) : P 31 5 = some 43 := (h.2 31 (by decide) (by decide) 5).trans pt_31_5
theorem wp_43_0 {sh : fc_Sh} {P : fc_P} {v : Nat} (h : fc_wd sh P v) : P 43 0 = some 32 := (h.2 43 (by decide) (by decide) 0).trans pt_43_0
theorem wp_43_1 {sh : fc_Sh} {P : fc_P} {v : Nat} (h : fc_wd sh P v) : P 43 1 = some v := (h.2 43 (by decide) (by decide) 1).trans pt_43_1
theorem ws_v {sh : fc_Sh} {P : fc_P} {v : Nat} (h : fc_wd sh P v) (hv : fc_v v) : sh[v]? = some (0, 160) := by
  obtain ⟨h3, _⟩ := h
  obtain ⟨h1, h2⟩ := hv
  rw [h3 v (by omega) (by omega)]
  rcases (show v = 34 ∨ v = 35 ∨ v = 36 ∨ v = 37 ∨ v = 38 ∨ v = 39 by omega) with rfl | rfl | rfl | rfl | rfl | rfl <;> rfl
theorem cn_lt {i : Int32} {N : Nat} (h : 0 ≤ i.toInt ∧ i.toInt < (N : Int)) : cn i < N := by
  have := cn_int h.1
  omega
theorem wq_33 {sh : fc_Sh} {P : fc_P} {v : Nat} {i : Int32} (h : fc_wd sh P v) (b : 0 ≤ i.toInt ∧ i.toInt < ((6 : Nat) : Int)) : P 33 (cn i) = some (34 + cn i) := by
  rw [h.2 33 (by decide) (by decide)]
  have := cn_lt b
  generalize cn i = j at *
  rcases (show j = 0 ∨ j = 1 ∨ j = 2 ∨ j = 3 ∨ j = 4 ∨ j = 5 by omega) with rfl | rfl | rfl | rfl | rfl | rfl <;> rfl
theorem wv_33 {i : Int32} (b : 0 ≤ i.toInt ∧ i.toInt < ((6 : Nat) : Int)) : fc_v (34 + cn i) := by
  have := cn_lt b
  exact ⟨by omega, by omega⟩
theorem wr_33 {sh : fc_Sh} {P : fc_P} {v : Nat} {i : Int32} (h : fc_wd sh P v) (b : 0 ≤ i.toInt ∧ i.toInt < ((6 : Nat) : Int)) : sh[34 + cn i]? = some (0, 160) := ws_v (wd_set h (wv_33 b)) (wv_33 b)
theorem pa_17 {v : Nat} {i : Int32} (b : 0 ≤ i.toInt ∧ i.toInt < ((3 : Nat) : Int)) : fc_PT v 17 (cn i) = some (18 + cn i) := by
  have := cn_lt b
  generalize cn i = j at *
  rcases (show j = 0 ∨ j = 1 ∨ j = 2 by omega) with rfl | rfl | rfl <;> rfl
theorem sa_17 {i : Int32} (b : 0 ≤ i.toInt ∧ i.toInt < ((3 : Nat) : Int)) : fc_SH[18 + cn i]? = some (0, 61) := by
  have := cn_lt b
  generalize cn i = j at *
  rcases (show j = 0 ∨ j = 1 ∨ j = 2 by omega) with rfl | rfl | rfl <;> rfl
theorem pa_21 {v : Nat} {i : Int32} (b : 0 ≤ i.toInt ∧ i.toInt < ((3 : Nat) : Int)) : fc_PT v 21 (cn i) = some (22 + cn i) := by
  have := cn_lt b
  generalize cn i = j at *
  rcases (show j = 0 ∨ j = 1 ∨ j = 2 by omega) with rfl | rfl | rfl <;> rfl
theorem sa_21 {i : Int32} (b : 0 ≤ i.toInt ∧ i.toInt < ((3 : Nat) : Int)) : fc_SH[22 + cn i]? = some (0, 61) := by
  have := cn_lt b
  generalize cn i = j at *
  rcases (show j = 0 ∨ j = 1 ∨ j = 2 by omega) with rfl | rfl | rfl <;> rfl
theorem pa_71 {v : Nat} {i : Int32} (b : 0 ≤ i.toInt ∧ i.toInt < ((4 : Nat) : Int)) : fc_PT v 71 (cn i) = some (72 + cn i) := by
  have := cn_lt b
  generalize cn i = j at *
  rcases (show j = 0 ∨ j = 1 ∨ j = 2 ∨ j = 3 by omega) with rfl | rfl | rfl | rfl <;> rfl
theorem sa_71 {i : Int32} (b : 0 ≤ i.toInt ∧ i.toInt < ((4 : Nat) : Int)) : fc_SH[72 + cn i]? = some (0, 40) := by
  have := cn_lt b
  generalize cn i = j at *
  rcases (show j = 0 ∨ j = 1 ∨ j = 2 ∨ j = 3 by omega) with rfl | rfl | rfl | rfl <;> rfl
theorem shf_0 {f : Nat} (h : f = 45 ∨ f = 58) : fc_SH[f]? = some (12, 10) := by rcases h with rfl | rfl <;> rfl
theorem shf_1 {f : Nat} (h : f = 45 ∨ f = 58) : fc_SH[f + 1]? = some (0, 6) := by rcases h with rfl | rfl <;> rfl
theorem shf_2 {f : Nat} (h : f = 45 ∨ f = 58) : fc_SH[f + 2]? = some (0, 6) := by rcases h with rfl | rfl <;> rfl
theorem shf_3 {f : Nat} (h : f = 45 ∨ f = 58) : fc_SH[f + 3]? = some (0, 6) := by rcases h with rfl | rfl <;> rfl
theorem shf_4 {f : Nat} (h : f = 45 ∨ f = 58) : fc_SH[f + 4]? = some (0, 6) := by rcases h with rfl | rfl <;> rfl
theorem shf_5 {f : Nat} (h : f = 45 ∨ f = 58) : fc_SH[f + 5]? = some (0, 3) := by rcases h with rfl | rfl <;> rfl
theorem shf_6 {f : Nat} (h : f = 45 ∨ f = 58) : fc_SH[f + 6]? = some (0, 3) := by rcases h with rfl | rfl <;> rfl
theorem shf_7 {f : Nat} (h : f = 45 ∨ f = 58) : fc_SH[f + 7]? = some (0, 4) := by rcases h with rfl | rfl <;> rfl
theorem shf_8 {f : Nat} (h : f = 45 ∨ f = 58) : fc_SH[f + 8]? = some (0, 4) := by rcases h with rfl | rfl <;> rfl
theorem ptf_0 {f v : Nat} (h : f = 45 ∨ f = 58) : fc_PT v f 0 = some (f + 1) := by rcases h with rfl | rfl <;> rfl
theorem ptf_1 {f v : Nat} (h : f = 45 ∨ f = 58) : fc_PT v f 1 = some (f + 2) := by rcases h with rfl | rfl <;> rfl
theorem ptf_2 {f v : Nat} (h : f = 45 ∨ f = 58) : fc_PT v f 2 = some (f + 3) := by rcases h with rfl | rfl <;> rfl
theorem ptf_3 {f v : Nat} (h : f = 45 ∨ f = 58) : fc_PT v f 3 = some (f + 4) := by rcases h with rfl | rfl <;> rfl
theorem ptf_4 {f v : Nat} (h : f = 45 ∨ f = 58) : fc_PT v f 4 = some (f + 5) := by rcases h with rfl | rfl <;> rfl
theorem ptf_5 {f v : Nat} (h : f = 45 ∨ f = 58) : fc_PT v f 5 = some (f + 6) := by rcases h with rfl | rfl <;> rfl
theorem ptf_6 {f v : Nat} (h : f = 45 ∨ f = 58) : fc_PT v f 6 = some (f + 7) := by rcases h with rfl | rfl <;> rfl
theorem ptf_7 {f v : Nat} (h : f = 45 ∨ f = 58) : fc_PT v f 7 = some (f + 8) := by rcases h with rfl | rfl <;> rfl
section FK
variable {m : fc_MI} {d nb zb pc : Nat} {ls : List (Option Value)} {st : List Value} {sh : fc_Sh} {I : fc_I} {P : fc_P} {Q : fc_Q} {γ : Type} {A B K : Option γ} {o : γ}
theorem ft_forget {ls' : List (Option Value)} (h : fc_le ls' ls) (k : fc_T m d nb zb pc ls' st sh I P Q) : fc_T m d nb zb pc ls st sh I P Q := fun p l e R s mm args below meth c β D A as H locs cells slots Nt Zt lsA QF C hb h1 hW hS hl hF => k p l e R s mm args below meth c β D A as H locs cells slots Nt Zt lsA QF C hb h1 hW hS ⟨hl.1, hl.2.1, fun x hx => by
  obtain ⟨v, q1, q2⟩ := fc_lv_of hx
  rw [q2]
  exact hl.2.2 _ (fc_lv_mem (fc_le_at _ _ h _ _ q1))⟩ hF
theorem fk_iinc {i : Nat} {n : Int} {x c : Int32} (hd : decode m.2.1 pc = .ok (.iinc i n, 3)) (h : ls[i]? = some (some (.int x))) (hn : i < m.2.2.1) (he : Int32.ofInt n = c) (k : fc_T m d nb zb (pc + 3) (fc_st1 ls i (.int (x + c))) st sh I P Q) : fc_T m d nb zb pc ls st sh I P Q := by
  subst he
  exact ft_iinc hd h hn k
theorem fk_icmp_eq {x y : Int32} {off : Int} {tgt : Nat} (hd : decode m.2.1 pc = .ok (.if_icmp .eq off, 3)) (ht : (pc : Int) + off = (tgt : Int)) (hf : (if x.toInt = y.toInt then A else B) = some o) (kt : A = some o → fc_T m d nb zb tgt ls st sh I P Q) (kf : B = some o → fc_T m d nb zb (pc + 3) ls st sh I P Q) : fc_T m d nb zb pc ls (.int y :: .int x :: st) sh I P Q := fj_icmp_eq hd ht (fun z => kt (by first | (rw [if_pos z] at hf; exact hf) | (rw [if_neg z] at hf; exact hf) | (rw [if_neg (Int.not_lt.mpr z)] at hf; exact hf))) (fun z => kf (by first | (rw [if_pos z] at hf; exact hf) | (rw [if_neg z] at hf; exact hf) | (rw [if_neg (Int.not_lt.mpr z)] at hf; exact hf)))
theorem fk_if_eq {x : Int32} {off : Int} {tgt : Nat} (hd : decode m.2.1 pc = .ok (.ifCond .eq off, 3)) (ht : (pc : Int) + off = (tgt : Int)) (hf : (if x.toInt = 0 then A else B) = some o) (kt : A = some o → fc_T m d nb zb tgt ls st sh I P Q) (kf : B = some o → fc_T m d nb zb (pc + 3) ls st sh I P Q) : fc_T m d nb zb pc ls (.int x :: st) sh I P Q := fj_if_eq hd ht (fun z => kt (by first | (rw [if_pos z] at hf; exact hf) | (rw [if_neg z] at hf; exact hf) | (rw [if_neg (Int.not_lt.mpr z)] at hf; exact hf))) (fun z => kf (by first | (rw [if_pos z] at hf; exact hf) | (rw [if_neg z] at hf; exact hf) | (rw [if_neg (Int.not_lt.mpr z)] at hf; exact hf)))
theorem fk_icmp_ne {x y : Int32} {off : Int} {tgt : Nat} (hd : decode m.2.1 pc = .ok (.if_icmp .ne off, 3)) (ht : (pc : Int) + off = (tgt : Int)) (hf : (if x.toInt = y.toInt then A else B) = some o) (kt : B = some o → fc_T m d nb zb tgt ls st sh I P Q) (kf : A = some o → fc_T m d nb zb (pc + 3) ls st sh I P Q) : fc_T m d nb zb pc ls (.int y :: .int x :: st) sh I P Q := fj_icmp_ne hd ht (fun z => kt (by first | (rw [if_pos z] at hf; exact hf) | (rw [if_neg z] at hf; exact hf) | (rw [if_neg (Int.not_lt.mpr z)] at hf; exact hf))) (fun z => kf (by first | (rw [if_pos z] at hf; exact hf) | (rw [if_neg z] at hf; exact hf) | (rw [if_neg (Int.not_lt.mpr z)] at hf; exact hf)))
theorem fk_if_ne {x : Int32} {off : Int} {tgt : Nat} (hd : decode m.2.1 pc = .ok (.ifCond .ne off, 3)) (ht : (pc : Int) + off = (tgt : Int)) (hf : (if x.toInt = 0 then A else B) = some o) (kt : B = some o → fc_T m d nb zb tgt ls st sh I P Q) (kf : A = some o → fc_T m d nb zb (pc + 3) ls st sh I P Q) : fc_T m d nb zb pc ls (.int x :: st) sh I P Q := fj_if_ne hd ht (fun z => kt (by first | (rw [if_pos z] at hf; exact hf) | (rw [if_neg z] at hf; exact hf) | (rw [if_neg (Int.not_lt.mpr z)] at hf; exact hf))) (fun z => kf (by first | (rw [if_pos z] at hf; exact hf) | (rw [if_neg z] at hf; exact hf) | (rw [if_neg (Int.not_lt.mpr z)] at hf; exact hf)))
theorem fk_icmp_lt {x y : Int32} {off : Int} {tgt : Nat} (hd : decode m.2.1 pc = .ok (.if_icmp .lt off, 3)) (ht : (pc : Int) + off = (tgt : Int)) (hf : (if x.toInt < y.toInt then A else B) = some o) (kt : A = some o → fc_T m d nb zb tgt ls st sh I P Q) (kf : B = some o → fc_T m d nb zb (pc + 3) ls st sh I P Q) : fc_T m d nb zb pc ls (.int y :: .int x :: st) sh I P Q := fj_icmp_lt hd ht (fun z => kt (by first | (rw [if_pos z] at hf; exact hf) | (rw [if_neg z] at hf; exact hf) | (rw [if_neg (Int.not_lt.mpr z)] at hf; exact hf))) (fun z => kf (by first | (rw [if_pos z] at hf; exact hf) | (rw [if_neg z] at hf; exact hf) | (rw [if_neg (Int.not_lt.mpr z)] at hf; exact hf)))
theorem fk_if_lt {x : Int32} {off : Int} {tgt : Nat} (hd : decode m.2.1 pc = .ok (.ifCond .lt off, 3)) (ht : (pc : Int) + off = (tgt : Int)) (hf : (if x.toInt < 0 then A else B) = some o) (kt : A = some o → fc_T m d nb zb tgt ls st sh I P Q) (kf : B = some o → fc_T m d nb zb (pc + 3) ls st sh I P Q) : fc_T m d nb zb pc ls (.int x :: st) sh I P Q := fj_if_lt hd ht (fun z => kt (by first | (rw [if_pos z] at hf; exact hf) | (rw [if_neg z] at hf; exact hf) | (rw [if_neg (Int.not_lt.mpr z)] at hf; exact hf))) (fun z => kf (by first | (rw [if_pos z] at hf; exact hf) | (rw [if_neg z] at hf; exact hf) | (rw [if_neg (Int.not_lt.mpr z)] at hf; exact hf)))
theorem fk_icmp_ge {x y : Int32} {off : Int} {tgt : Nat} (hd : decode m.2.1 pc = .ok (.if_icmp .ge off, 3)) (ht : (pc : Int) + off = (tgt : Int)) (hf : (if x.toInt < y.toInt then A else B) = some o) (kt : B = some o → fc_T m d nb zb tgt ls st sh I P Q) (kf : A = some o → fc_T m d nb zb (pc + 3) ls st sh I P Q) : fc_T m d nb zb pc ls (.int y :: .int x :: st) sh I P Q := fj_icmp_ge hd ht (fun z => kt (by first | (rw [if_pos z] at hf; exact hf) | (rw [if_neg z] at hf; exact hf) | (rw [if_neg (Int.not_lt.mpr z)] at hf; exact hf))) (fun z => kf (by first | (rw [if_pos z] at hf; exact hf) | (rw [if_neg z] at hf; exact hf) | (rw [if_neg (Int.not_lt.mpr z)] at hf; exact hf)))
theorem fk_if_ge {x : Int32} {off : Int} {tgt : Nat} (hd : decode m.2.1 pc = .ok (.ifCond .ge off, 3)) (ht : (pc : Int) + off = (tgt : Int)) (hf : (if x.toInt < 0 then A else B) = some o) (kt : B = some o → fc_T m d nb zb tgt ls st sh I P Q) (kf : A = some o → fc_T m d nb zb (pc + 3) ls st sh I P Q) : fc_T m d nb zb pc ls (.int x :: st) sh I P Q := fj_if_ge hd ht (fun z => kt (by first | (rw [if_pos z] at hf; exact hf) | (rw [if_neg z] at hf; exact hf) | (rw [if_neg (Int.not_lt.mpr z)] at hf; exact hf))) (fun z => kf (by first | (rw [if_pos z] at hf; exact hf) | (rw [if_neg z] at hf; exact hf) | (rw [if_neg (Int.not_lt.mpr z)] at hf; exact hf)))
theorem fk_icmp_gt {x y : Int32} {off : Int} {tgt : Nat} (hd : decode m.2.1 pc = .ok (.if_icmp .gt off, 3)) (ht : (pc : Int) + off = (tgt : Int)) (hf : (if y.toInt < x.toInt then A else B) = some o) (kt : A = some o → fc_T m d nb zb tgt ls st sh I P Q) (kf : B = some o → fc_T m d nb zb (pc + 3) ls st sh I P Q) : fc_T m d nb zb pc ls (.int y :: .int x :: st) sh I P Q := fj_icmp_gt hd ht (fun z => kt (by first | (rw [if_pos z] at hf; exact hf) | (rw [if_neg z] at hf; exact hf) | (rw [if_neg (Int.not_lt.mpr z)] at hf; exact hf))) (fun z => kf (by first | (rw [if_pos z] at hf; exact hf) | (rw [if_neg z] at hf; exact hf) | (rw [if_neg (Int.not_lt.mpr z)] at hf; exact hf)))
theorem fk_if_gt {x : Int32} {off : Int} {tgt : Nat} (hd : decode m.2.1 pc = .ok (.ifCond .gt off, 3)) (ht : (pc : Int) + off = (tgt : Int)) (hf : (if 0 < x.toInt then A else B) = some o) (kt : A = some o → fc_T m d nb zb tgt ls st sh I P Q) (kf : B = some o → fc_T m d nb zb (pc + 3) ls st sh I P Q) : fc_T m d nb zb pc ls (.int x :: st) sh I P Q := fj_if_gt hd ht (fun z => kt (by first | (rw [if_pos z] at hf; exact hf) | (rw [if_neg z] at hf; exact hf) | (rw [if_neg (Int.not_lt.mpr z)] at hf; exact hf))) (fun z => kf (by first | (rw [if_pos z] at hf; exact hf) | (rw [if_neg z] at hf; exact hf) | (rw [if_neg (Int.not_lt.mpr z)] at hf; exact hf)))
theorem fk_icmp_le {x y : Int32} {off : Int} {tgt : Nat} (hd : decode m.2.1 pc = .ok (.if_icmp .le off, 3)) (ht : (pc : Int) + off = (tgt : Int)) (hf : (if y.toInt < x.toInt then A else B) = some o) (kt : B = some o → fc_T m d nb zb tgt ls st sh I P Q) (kf : A = some o → fc_T m d nb zb (pc + 3) ls st sh I P Q) : fc_T m d nb zb pc ls (.int y :: .int x :: st) sh I P Q := fj_icmp_le hd ht (fun z => kt (by first | (rw [if_pos z] at hf; exact hf) | (rw [if_neg z] at hf; exact hf) | (rw [if_neg (Int.not_lt.mpr z)] at hf; exact hf))) (fun z => kf (by first | (rw [if_pos z] at hf; exact hf) | (rw [if_neg z] at hf; exact hf) | (rw [if_neg (Int.not_lt.mpr z)] at hf; exact hf)))
theorem fk_if_le {x : Int32} {off : Int} {tgt : Nat} (hd : decode m.2.1 pc = .ok (.ifCond .le off, 3)) (ht : (pc : Int) + off = (tgt : Int)) (hf : (if 0 < x.toInt then A else B) = some o) (kt : B = some o → fc_T m d nb zb tgt ls st sh I P Q) (kf : A = some o → fc_T m d nb zb (pc + 3) ls st sh I P Q) : fc_T m d nb zb pc ls (.int x :: st) sh I P Q := fj_if_le hd ht (fun z => kt (by first | (rw [if_pos z] at hf; exact hf) | (rw [if_neg z] at hf; exact hf) | (rw [if_neg (Int.not_lt.mpr z)] at hf; exact hf))) (fun z => kf (by first | (rw [if_pos z] at hf; exact hf) | (rw [if_neg z] at hf; exact hf) | (rw [if_neg (Int.not_lt.mpr z)] at hf; exact hf)))
theorem fk_iald {c N : Nat} {i : Int32} (hs : sh[c]? = some (0, N)) (hf : fq_g N i K = some o) (hd : decode m.2.1 pc = .ok (.iaload, 1)) (kk : K = some o → fc_T m d nb zb (pc + 1) ls (.int (I c (cn i)) :: st) sh I P Q) : fc_T m d nb zb pc ls (.int i :: .ref c :: st) sh I P Q := ft_iald hs (vp_in_iff.mpr (fq_gs hf).1) hd (kk (fq_gs hf).2)
theorem fk_bald {c N : Nat} {i : Int32} (hs : sh[c]? = some (1, N)) (hf : fq_g N i K = some o) (hd : decode m.2.1 pc = .ok (.baload, 1)) (kk : K = some o → fc_T m d nb zb (pc + 1) ls (.int (I c (cn i)) :: st) sh I P Q) : fc_T m d nb zb pc ls (.int i :: .ref c :: st) sh I P Q := ft_bald hs (vp_in_iff.mpr (fq_gs hf).1) hd (kk (fq_gs hf).2)
theorem fk_zald {c N : Nat} {i : Int32} (hs : sh[c]? = some (2, N)) (hf : fq_g N i K = some o) (hd : decode m.2.1 pc = .ok (.baload, 1)) (kk : K = some o → fc_T m d nb zb (pc + 1) ls (.int (I c (cn i)) :: st) sh I P Q) : fc_T m d nb zb pc ls (.int i :: .ref c :: st) sh I P Q := ft_zald hs (vp_in_iff.mpr (fq_gs hf).1) hd (kk (fq_gs hf).2)
theorem fk_cald {c N : Nat} {i : Int32} (hs : sh[c]? = some (3, N)) (hf : fq_g N i K = some o) (hd : decode m.2.1 pc = .ok (.caload, 1)) (kk : K = some o → fc_T m d nb zb (pc + 1) ls (.int (I c (cn i)) :: st) sh I P Q) : fc_T m d nb zb pc ls (.int i :: .ref c :: st) sh I P Q := ft_cald hs (vp_in_iff.mpr (fq_gs hf).1) hd (kk (fq_gs hf).2)
theorem fk_iast {c N : Nat} {i x : Int32} (hs : sh[c]? = some (0, N)) (hf : fq_g N i K = some o) (hd : decode m.2.1 pc = .ok (.iastore, 1)) (kk : K = some o → fc_T m d nb zb (pc + 1) ls st sh (fc_wI I c (cn i) x) P Q) : fc_T m d nb zb pc ls (.int x :: .int i :: .ref c :: st) sh I P Q := ft_iast hs (vp_in_iff.mpr (fq_gs hf).1) rfl hd (kk (fq_gs hf).2)
theorem fk_bast {c N : Nat} {i x : Int32} (hs : sh[c]? = some (1, N)) (hf : fq_g N i K = some o) (hd : decode m.2.1 pc = .ok (.bastore, 1)) (kk : K = some o → fc_T m d nb zb (pc + 1) ls st sh (fc_wI I c (cn i) (vp_nar .byte x)) P Q) : fc_T m d nb zb pc ls (.int x :: .int i :: .ref c :: st) sh I P Q := ft_bast hs (vp_in_iff.mpr (fq_gs hf).1) rfl hd (kk (fq_gs hf).2)
theorem fk_zast {c N : Nat} {i x : Int32} (hs : sh[c]? = some (2, N)) (hf : fq_g N i K = some o) (hd : decode m.2.1 pc = .ok (.bastore, 1)) (kk : K = some o → fc_T m d nb zb (pc + 1) ls st sh (fc_wI I c (cn i) (vp_nar .boolean x)) P Q) : fc_T m d nb zb pc ls (.int x :: .int i :: .ref c :: st) sh I P Q := ft_zast hs (vp_in_iff.mpr (fq_gs hf).1) rfl hd (kk (fq_gs hf).2)
theorem fk_cast {c N : Nat} {i x : Int32} (hs : sh[c]? = some (3, N)) (hf : fq_g N i K = some o) (hd : decode m.2.1 pc = .ok (.castore, 1)) (kk : K = some o → fc_T m d nb zb (pc + 1) ls st sh (fc_wI I c (cn i) (vp_nar .char x)) P Q) : fc_T m d nb zb pc ls (.int x :: .int i :: .ref c :: st) sh I P Q := ft_cast hs (vp_in_iff.mpr (fq_gs hf).1) rfl hd (kk (fq_gs hf).2)
theorem fk_kabI {i : Int32} (hf : fq_g 6 i K = some o) (hd : decode m.2.1 pc = .ok (.iaload, 1)) (kk : K = some o → fc_T m d nb zb (pc + 1) ls (.int (fc_kab.getD (cn i) 0) :: st) sh I P Q) : fc_T m d nb zb pc ls (.int i :: .ref (1000 + 100) :: st) sh I P Q := ft_kabI (vp_in_iff.mpr (fq_gs hf).1) hd (kk (fq_gs hf).2)
theorem fk_aald {c N w : Nat} {i : Int32} (hs : sh[c]? = some (4, N)) (hf : fq_g N i K = some o) (hv : (0 ≤ i.toInt ∧ i.toInt < (N : Int)) → P c (cn i) = some w) (hd : decode m.2.1 pc = .ok (.aaload, 1)) (kk : (0 ≤ i.toInt ∧ i.toInt < (N : Int)) → K = some o → fc_T m d nb zb (pc + 1) ls (.ref w :: st) sh I P Q) : fc_T m d nb zb pc ls (.int i :: .ref c :: st) sh I P Q := ft_aald hs (vp_in_iff.mpr (fq_gs hf).1) (hv (fq_gs hf).1) hd (kk (fq_gs hf).1 (fq_gs hf).2)
theorem fk_copy {c0 c1 N0 N1 idx : Nat} {sp dp n : Int32} (hw : Cond.methodLink m.1.cls idx arraycopyName ∈ fc_tbl ∧ Cond.native arraycopyName ∈ fc_tbl ∧ Cond.static arraycopyName ∈ fc_tbl ∧ Cond.initialized "java/lang/System" ∈ fc_tbl) (hs0 : sh[c0]? = some (0, N0)) (hs1 : sh[c1]? = some (0, N1)) (hf : fq_c N0 N1 sp dp n K = some o) (hst : (st.map fun v => v.category).sum ≤ 8) (hd : decode m.2.1 pc = .ok (.invokestatic idx, 3)) (kk : K = some o → fc_T m (d + 1) nb zb (pc + 3) ls st sh (fc_cpI I c0 c1 (cn sp) (cn dp) (cn n)) P Q) : fc_T m (d + 1) nb zb pc ls (.int n :: .int dp :: .ref c1 :: .int sp :: .ref c0 :: st) sh I P Q := by
  obtain ⟨⟨h1, h2, h3, h4, h5⟩, hk⟩ := fq_cs hf
  exact ft_copy hw hs0 hs1 (by simp only [Int32.lt_iff_toInt_lt, Int32.toInt_zero]; omega) (by simp only [Int32.lt_iff_toInt_lt, Int32.toInt_zero]; omega) (by simp only [Int32.lt_iff_toInt_lt, Int32.toInt_zero]; omega) h4 h5 hst hd (kk hk)
theorem fk_reti {x r : Int32} {J : fc_I} {ty : FieldType} (hf : (some (x, I) : Option (Int32 × fc_I)) = some (r, J)) (hd : decode m.2.1 pc = .ok (.ireturn, 1)) (hr : m.2.2.2.1 = some ty) (hn : narrow ty (.int x) = .int x) : fc_T m d nb zb pc ls [.int x] sh I P (fc_Qi sh (fun r' I' P' => r' = r ∧ I' = J ∧ P' = P)) := ft_reti hd hr hn (by cases hf; exact ⟨rfl, rfl, rfl⟩)
theorem fk_retp {x r : Int32} {ty : FieldType} (hf : (some x : Option Int32) = some r) (hd : decode m.2.1 pc = .ok (.ireturn, 1)) (hr : m.2.2.2.1 = some ty) (hn : narrow ty (.int x) = .int x) : fc_T m d nb zb pc ls [.int x] sh I P (fc_Qi sh (fun r' I' P' => r' = r ∧ I' = I ∧ P' = P)) := ft_reti hd hr hn (by cases hf; exact ⟨rfl, rfl, rfl⟩)
theorem fk_retL {x r : Int32} {J : fc_I} {ty : FieldType} {Pp : fc_P → Prop} (hf : (some (x, I) : Option (Int32 × fc_I)) = some (r, J)) (hp : Pp P) (hd : decode m.2.1 pc = .ok (.ireturn, 1)) (hr : m.2.2.2.1 = some ty) (hn : narrow ty (.int x) = .int x) : fc_T m d nb zb pc ls [.int x] sh I P (fc_Qi sh (fun r' I' P' => r' = r ∧ I' = J ∧ Pp P')) := ft_reti hd hr hn (by cases hf; exact ⟨rfl, rfl, hp⟩)
theorem fk_retl {x r : Int64} {J : fc_I} (hf : (some (x, I) : Option (Int64 × fc_I)) = some (r, J)) (hd : decode m.2.1 pc = .ok (.lreturn, 1)) (hr : m.2.2.2.1 = some .long) : fc_T m d nb zb pc ls [.long x] sh I P (fc_Ql sh (fun r' I' P' => r' = r ∧ I' = J ∧ P' = P)) := ft_retl hd hr (by cases hf; exact ⟨rfl, rfl, rfl⟩)
theorem fk_retv {J : fc_I} (hf : (some I : Option fc_I) = some J) (hd : decode m.2.1 pc = .ok (.return_, 1)) (hr : m.2.2.2.1 = none) : fc_T m d nb zb pc ls [] sh I P (fc_Qv sh (fun I' P' => I' = J ∧ P' = P)) := ft_retv hd hr (by cases hf; exact ⟨rfl, rfl⟩)
end FK
def lpm0 { γ : Type} (B : (fc_I → Option γ) → fc_I → Option γ) : Nat → fc_I → Option γ
  | 0 => fun _ => none
  | n + 1 => B (lpm0 B n)
theorem lpm0_T { γ : Type} {B : (fc_I → Option γ) → fc_I → Option γ} {TT : fc_I → Prop} {o : γ} (h : ∀ (k : fc_I → Option γ), (∀ (I : fc_I), k I = some o → TT I) → ∀ (I : fc_I), B k I = some o → TT I) : ∀ (n : Nat) (I : fc_I), lpm0 B n I = some o → TT I
  | 0, I, q => by cases q
  | n + 1, I, q => h _ (lpm0_T h n) I q
theorem lpm0_S { γ : Type} {B : (fc_I → Option γ) → fc_I → Option γ} (μ : fc_I → Nat) (inv : fc_I → Prop) (sp : fc_I → Option γ) (h : ∀ (k : fc_I → Option γ) (I : fc_I), inv I → (∀ (I' : fc_I), inv I' → μ I' < μ I → k I' = sp I') → B k I = sp I) : ∀ (n : Nat) (I : fc_I), inv I → μ I < n → lpm0 B n I = sp I
  | 0, I, _, q => absurd q (Nat.not_lt_zero _)
  | n + 1, I, hi, q => h _ I hi (fun I' hi' hl => lpm0_S μ inv sp h n I' hi' (Nat.lt_of_lt_of_le hl (Nat.le_of_lt_succ q)))
def lpp1 {t0 γ : Type} (B : (t0 → Option γ) → t0 → Option γ) : Nat → t0 → Option γ
  | 0 => fun _ => none
  | n + 1 => B (lpp1 B n)
theorem lpp1_T {t0 γ : Type} {B : (t0 → Option γ) → t0 → Option γ} {TT : t0 → Prop} {o : γ} (h : ∀ (k : t0 → Option γ), (∀ (x0 : t0), k x0 = some o → TT x0) → ∀ (x0 : t0), B k x0 = some o → TT x0) : ∀ (n : Nat) (x0 : t0), lpp1 B n x0 = some o → TT x0
  | 0, x0, q => by cases q
  | n + 1, x0, q => h _ (lpp1_T h n) x0 q
theorem lpp1_S {t0 γ : Type} {B : (t0 → Option γ) → t0 → Option γ} (μ : t0 → Nat) (inv : t0 → Prop) (sp : t0 → Option γ) (h : ∀ (k : t0 → Option γ) (x0 : t0), inv x0 → (∀ (x0' : t0), inv x0' → μ x0' < μ x0 → k x0' = sp x0') → B k x0 = sp x0) : ∀ (n : Nat) (x0 : t0), inv x0 → μ x0 < n → lpp1 B n x0 = sp x0
  | 0, x0, _, q => absurd q (Nat.not_lt_zero _)
  | n + 1, x0, hi, q => h _ x0 hi (fun x0' hi' hl => lpp1_S μ inv sp h n x0' hi' (Nat.lt_of_lt_of_le hl (Nat.le_of_lt_succ q)))
def lpm1 {t0 γ : Type} (B : (t0 → fc_I → Option γ) → t0 → fc_I → Option γ) : Nat → t0 → fc_I → Option γ
  | 0 => fun _ _ => none
  | n + 1 => B (lpm1 B n)
theorem lpm1_T {t0 γ : Type} {B : (t0 → fc_I → Option γ) → t0 → fc_I → Option γ} {TT : t0 → fc_I → Prop} {o : γ} (h : ∀ (k : t0 → fc_I → Option γ), (∀ (x0 : t0) (I : fc_I), k x0 I = some o → TT x0 I) → ∀ (x0 : t0) (I : fc_I), B k x0 I = some o → TT x0 I) : ∀ (n : Nat) (x0 : t0) (I : fc_I), lpm1 B n x0 I = some o → TT x0 I
  | 0, x0, I, q => by cases q
  | n + 1, x0, I, q => h _ (lpm1_T h n) x0 I q
theorem lpm1_S {t0 γ : Type} {B : (t0 → fc_I → Option γ) → t0 → fc_I → Option γ} (μ : t0 → fc_I → Nat) (inv : t0 → fc_I → Prop) (sp : t0 → fc_I → Option γ) (h : ∀ (k : t0 → fc_I → Option γ) (x0 : t0) (I : fc_I), inv x0 I → (∀ (x0' : t0) (I' : fc_I), inv x0' I' → μ x0' I' < μ x0 I → k x0' I' = sp x0' I') → B k x0 I = sp x0 I) : ∀ (n : Nat) (x0 : t0) (I : fc_I), inv x0 I → μ x0 I < n → lpm1 B n x0 I = sp x0 I
  | 0, x0, I, _, q => absurd q (Nat.not_lt_zero _)
  | n + 1, x0, I, hi, q => h _ x0 I hi (fun x0' I' hi' hl => lpm1_S μ inv sp h n x0' I' hi' (Nat.lt_of_lt_of_le hl (Nat.le_of_lt_succ q)))
def lpp2 {t0 t1 γ : Type} (B : (t0 → t1 → Option γ) → t0 → t1 → Option γ) : Nat → t0 → t1 → Option γ
  | 0 => fun _ _ => none
  | n + 1 => B (lpp2 B n)
theorem lpp2_T {t0 t1 γ : Type} {B : (t0 → t1 → Option γ) → t0 → t1 → Option γ} {TT : t0 → t1 → Prop} {o : γ} (h : ∀ (k : t0 → t1 → Option γ), (∀ (x0 : t0) (x1 : t1), k x0 x1 = some o → TT x0 x1) → ∀ (x0 : t0) (x1 : t1), B k x0 x1 = some o → TT x0 x1) : ∀ (n : Nat) (x0 : t0) (x1 : t1), lpp2 B n x0 x1 = some o → TT x0 x1
  | 0, x0, x1, q => by cases q
  | n + 1, x0, x1, q => h _ (lpp2_T h n) x0 x1 q
theorem lpp2_S {t0 t1 γ : Type} {B : (t0 → t1 → Option γ) → t0 → t1 → Option γ} (μ : t0 → t1 → Nat) (inv : t0 → t1 → Prop) (sp : t0 → t1 → Option γ) (h : ∀ (k : t0 → t1 → Option γ) (x0 : t0) (x1 : t1), inv x0 x1 → (∀ (x0' : t0) (x1' : t1), inv x0' x1' → μ x0' x1' < μ x0 x1 → k x0' x1' = sp x0' x1') → B k x0 x1 = sp x0 x1) : ∀ (n : Nat) (x0 : t0) (x1 : t1), inv x0 x1 → μ x0 x1 < n → lpp2 B n x0 x1 = sp x0 x1
  | 0, x0, x1, _, q => absurd q (Nat.not_lt_zero _)
  | n + 1, x0, x1, hi, q => h _ x0 x1 hi (fun x0' x1' hi' hl => lpp2_S μ inv sp h n x0' x1' hi' (Nat.lt_of_lt_of_le hl (Nat.le_of_lt_succ q)))
def lpm2 {t0 t1 γ : Type} (B : (t0 → t1 → fc_I → Option γ) → t0 → t1 → fc_I → Option γ) : Nat → t0 → t1 → fc_I → Option γ
  | 0 => fun _ _ _ => none
  | n + 1 => B (lpm2 B n)
theorem lpm2_T {t0 t1 γ : Type} {B : (t0 → t1 → fc_I → Option γ) → t0 → t1 → fc_I → Option γ} {TT : t0 → t1 → fc_I → Prop} {o : γ} (h : ∀ (k : t0 → t1 → fc_I → Option γ), (∀ (x0 : t0) (x1 : t1) (I : fc_I), k x0 x1 I = some o → TT x0 x1 I) → ∀ (x0 : t0) (x1 : t1) (I : fc_I), B k x0 x1 I = some o → TT x0 x1 I) : ∀ (n : Nat) (x0 : t0) (x1 : t1) (I : fc_I), lpm2 B n x0 x1 I = some o → TT x0 x1 I
  | 0, x0, x1, I, q => by cases q
  | n + 1, x0, x1, I, q => h _ (lpm2_T h n) x0 x1 I q
theorem lpm2_S {t0 t1 γ : Type} {B : (t0 → t1 → fc_I → Option γ) → t0 → t1 → fc_I → Option γ} (μ : t0 → t1 → fc_I → Nat) (inv : t0 → t1 → fc_I → Prop) (sp : t0 → t1 → fc_I → Option γ) (h : ∀ (k : t0 → t1 → fc_I → Option γ) (x0 : t0) (x1 : t1) (I : fc_I), inv x0 x1 I → (∀ (x0' : t0) (x1' : t1) (I' : fc_I), inv x0' x1' I' → μ x0' x1' I' < μ x0 x1 I → k x0' x1' I' = sp x0' x1' I') → B k x0 x1 I = sp x0 x1 I) : ∀ (n : Nat) (x0 : t0) (x1 : t1) (I : fc_I), inv x0 x1 I → μ x0 x1 I < n → lpm2 B n x0 x1 I = sp x0 x1 I
  | 0, x0, x1, I, _, q => absurd q (Nat.not_lt_zero _)
  | n + 1, x0, x1, I, hi, q => h _ x0 x1 I hi (fun x0' x1' I' hi' hl => lpm2_S μ inv sp h n x0' x1' I' hi' (Nat.lt_of_lt_of_le hl (Nat.le_of_lt_succ q)))
def lpp3 {t0 t1 t2 γ : Type} (B : (t0 → t1 → t2 → Option γ) → t0 → t1 → t2 → Option γ) : Nat → t0 → t1 → t2 → Option γ
  | 0 => fun _ _ _ => none
  | n + 1 => B (lpp3 B n)
theorem lpp3_T {t0 t1 t2 γ : Type} {B : (t0 → t1 → t2 → Option γ) → t0 → t1 → t2 → Option γ} {TT : t0 → t1 → t2 → Prop} {o : γ} (h : ∀ (k : t0 → t1 → t2 → Option γ), (∀ (x0 : t0) (x1 : t1) (x2 : t2), k x0 x1 x2 = some o → TT x0 x1 x2) → ∀ (x0 : t0) (x1 : t1) (x2 : t2), B k x0 x1 x2 = some o → TT x0 x1 x2) : ∀ (n : Nat) (x0 : t0) (x1 : t1) (x2 : t2), lpp3 B n x0 x1 x2 = some o → TT x0 x1 x2
  | 0, x0, x1, x2, q => by cases q
  | n + 1, x0, x1, x2, q => h _ (lpp3_T h n) x0 x1 x2 q
theorem lpp3_S {t0 t1 t2 γ : Type} {B : (t0 → t1 → t2 → Option γ) → t0 → t1 → t2 → Option γ} (μ : t0 → t1 → t2 → Nat) (inv : t0 → t1 → t2 → Prop) (sp : t0 → t1 → t2 → Option γ) (h : ∀ (k : t0 → t1 → t2 → Option γ) (x0 : t0) (x1 : t1) (x2 : t2), inv x0 x1 x2 → (∀ (x0' : t0) (x1' : t1) (x2' : t2), inv x0' x1' x2' → μ x0' x1' x2' < μ x0 x1 x2 → k x0' x1' x2' = sp x0' x1' x2') → B k x0 x1 x2 = sp x0 x1 x2) : ∀ (n : Nat) (x0 : t0) (x1 : t1) (x2 : t2), inv x0 x1 x2 → μ x0 x1 x2 < n → lpp3 B n x0 x1 x2 = sp x0 x1 x2
  | 0, x0, x1, x2, _, q => absurd q (Nat.not_lt_zero _)
  | n + 1, x0, x1, x2, hi, q => h _ x0 x1 x2 hi (fun x0' x1' x2' hi' hl => lpp3_S μ inv sp h n x0' x1' x2' hi' (Nat.lt_of_lt_of_le hl (Nat.le_of_lt_succ q)))
def lpm3 {t0 t1 t2 γ : Type} (B : (t0 → t1 → t2 → fc_I → Option γ) → t0 → t1 → t2 → fc_I → Option γ) : Nat → t0 → t1 → t2 → fc_I → Option γ
  | 0 => fun _ _ _ _ => none
  | n + 1 => B (lpm3 B n)
theorem lpm3_T {t0 t1 t2 γ : Type} {B : (t0 → t1 → t2 → fc_I → Option γ) → t0 → t1 → t2 → fc_I → Option γ} {TT : t0 → t1 → t2 → fc_I → Prop} {o : γ} (h : ∀ (k : t0 → t1 → t2 → fc_I → Option γ), (∀ (x0 : t0) (x1 : t1) (x2 : t2) (I : fc_I), k x0 x1 x2 I = some o → TT x0 x1 x2 I) → ∀ (x0 : t0) (x1 : t1) (x2 : t2) (I : fc_I), B k x0 x1 x2 I = some o → TT x0 x1 x2 I) : ∀ (n : Nat) (x0 : t0) (x1 : t1) (x2 : t2) (I : fc_I), lpm3 B n x0 x1 x2 I = some o → TT x0 x1 x2 I
  | 0, x0, x1, x2, I, q => by cases q
  | n + 1, x0, x1, x2, I, q => h _ (lpm3_T h n) x0 x1 x2 I q
theorem lpm3_S {t0 t1 t2 γ : Type} {B : (t0 → t1 → t2 → fc_I → Option γ) → t0 → t1 → t2 → fc_I → Option γ} (μ : t0 → t1 → t2 → fc_I → Nat) (inv : t0 → t1 → t2 → fc_I → Prop) (sp : t0 → t1 → t2 → fc_I → Option γ) (h : ∀ (k : t0 → t1 → t2 → fc_I → Option γ) (x0 : t0) (x1 : t1) (x2 : t2) (I : fc_I), inv x0 x1 x2 I → (∀ (x0' : t0) (x1' : t1) (x2' : t2) (I' : fc_I), inv x0' x1' x2' I' → μ x0' x1' x2' I' < μ x0 x1 x2 I → k x0' x1' x2' I' = sp x0' x1' x2' I') → B k x0 x1 x2 I = sp x0 x1 x2 I) : ∀ (n : Nat) (x0 : t0) (x1 : t1) (x2 : t2) (I : fc_I), inv x0 x1 x2 I → μ x0 x1 x2 I < n → lpm3 B n x0 x1 x2 I = sp x0 x1 x2 I
  | 0, x0, x1, x2, I, _, q => absurd q (Nat.not_lt_zero _)
  | n + 1, x0, x1, x2, I, hi, q => h _ x0 x1 x2 I hi (fun x0' x1' x2' I' hi' hl => lpm3_S μ inv sp h n x0' x1' x2' I' hi' (Nat.lt_of_lt_of_le hl (Nat.le_of_lt_succ q)))
def lpp4 {t0 t1 t2 t3 γ : Type} (B : (t0 → t1 → t2 → t3 → Option γ) → t0 → t1 → t2 → t3 → Option γ) : Nat → t0 → t1 → t2 → t3 → Option γ
  | 0 => fun _ _ _ _ => none
  | n + 1 => B (lpp4 B n)
theorem lpp4_T {t0 t1 t2 t3 γ : Type} {B : (t0 → t1 → t2 → t3 → Option γ) → t0 → t1 → t2 → t3 → Option γ} {TT : t0 → t1 → t2 → t3 → Prop} {o : γ} (h : ∀ (k : t0 → t1 → t2 → t3 → Option γ), (∀ (x0 : t0) (x1 : t1) (x2 : t2) (x3 : t3), k x0 x1 x2 x3 = some o → TT x0 x1 x2 x3) → ∀ (x0 : t0) (x1 : t1) (x2 : t2) (x3 : t3), B k x0 x1 x2 x3 = some o → TT x0 x1 x2 x3) : ∀ (n : Nat) (x0 : t0) (x1 : t1) (x2 : t2) (x3 : t3), lpp4 B n x0 x1 x2 x3 = some o → TT x0 x1 x2 x3
  | 0, x0, x1, x2, x3, q => by cases q
  | n + 1, x0, x1, x2, x3, q => h _ (lpp4_T h n) x0 x1 x2 x3 q
theorem lpp4_S {t0 t1 t2 t3 γ : Type} {B : (t0 → t1 → t2 → t3 → Option γ) → t0 → t1 → t2 → t3 → Option γ} (μ : t0 → t1 → t2 → t3 → Nat) (inv : t0 → t1 → t2 → t3 → Prop) (sp : t0 → t1 → t2 → t3 → Option γ) (h : ∀ (k : t0 → t1 → t2 → t3 → Option γ) (x0 : t0) (x1 : t1) (x2 : t2) (x3 : t3), inv x0 x1 x2 x3 → (∀ (x0' : t0) (x1' : t1) (x2' : t2) (x3' : t3), inv x0' x1' x2' x3' → μ x0' x1' x2' x3' < μ x0 x1 x2 x3 → k x0' x1' x2' x3' = sp x0' x1' x2' x3') → B k x0 x1 x2 x3 = sp x0 x1 x2 x3) : ∀ (n : Nat) (x0 : t0) (x1 : t1) (x2 : t2) (x3 : t3), inv x0 x1 x2 x3 → μ x0 x1 x2 x3 < n → lpp4 B n x0 x1 x2 x3 = sp x0 x1 x2 x3
  | 0, x0, x1, x2, x3, _, q => absurd q (Nat.not_lt_zero _)
  | n + 1, x0, x1, x2, x3, hi, q => h _ x0 x1 x2 x3 hi (fun x0' x1' x2' x3' hi' hl => lpp4_S μ inv sp h n x0' x1' x2' x3' hi' (Nat.lt_of_lt_of_le hl (Nat.le_of_lt_succ q)))
def lpm4 {t0 t1 t2 t3 γ : Type} (B : (t0 → t1 → t2 → t3 → fc_I → Option γ) → t0 → t1 → t2 → t3 → fc_I → Option γ) : Nat → t0 → t1 → t2 → t3 → fc_I → Option γ
  | 0 => fun _ _ _ _ _ => none
  | n + 1 => B (lpm4 B n)
theorem lpm4_T {t0 t1 t2 t3 γ : Type} {B : (t0 → t1 → t2 → t3 → fc_I → Option γ) → t0 → t1 → t2 → t3 → fc_I → Option γ} {TT : t0 → t1 → t2 → t3 → fc_I → Prop} {o : γ} (h : ∀ (k : t0 → t1 → t2 → t3 → fc_I → Option γ), (∀ (x0 : t0) (x1 : t1) (x2 : t2) (x3 : t3) (I : fc_I), k x0 x1 x2 x3 I = some o → TT x0 x1 x2 x3 I) → ∀ (x0 : t0) (x1 : t1) (x2 : t2) (x3 : t3) (I : fc_I), B k x0 x1 x2 x3 I = some o → TT x0 x1 x2 x3 I) : ∀ (n : Nat) (x0 : t0) (x1 : t1) (x2 : t2) (x3 : t3) (I : fc_I), lpm4 B n x0 x1 x2 x3 I = some o → TT x0 x1 x2 x3 I
  | 0, x0, x1, x2, x3, I, q => by cases q
  | n + 1, x0, x1, x2, x3, I, q => h _ (lpm4_T h n) x0 x1 x2 x3 I q
theorem lpm4_S {t0 t1 t2 t3 γ : Type} {B : (t0 → t1 → t2 → t3 → fc_I → Option γ) → t0 → t1 → t2 → t3 → fc_I → Option γ} (μ : t0 → t1 → t2 → t3 → fc_I → Nat) (inv : t0 → t1 → t2 → t3 → fc_I → Prop) (sp : t0 → t1 → t2 → t3 → fc_I → Option γ) (h : ∀ (k : t0 → t1 → t2 → t3 → fc_I → Option γ) (x0 : t0) (x1 : t1) (x2 : t2) (x3 : t3) (I : fc_I), inv x0 x1 x2 x3 I → (∀ (x0' : t0) (x1' : t1) (x2' : t2) (x3' : t3) (I' : fc_I), inv x0' x1' x2' x3' I' → μ x0' x1' x2' x3' I' < μ x0 x1 x2 x3 I → k x0' x1' x2' x3' I' = sp x0' x1' x2' x3' I') → B k x0 x1 x2 x3 I = sp x0 x1 x2 x3 I) : ∀ (n : Nat) (x0 : t0) (x1 : t1) (x2 : t2) (x3 : t3) (I : fc_I), inv x0 x1 x2 x3 I → μ x0 x1 x2 x3 I < n → lpm4 B n x0 x1 x2 x3 I = sp x0 x1 x2 x3 I
  | 0, x0, x1, x2, x3, I, _, q => absurd q (Nat.not_lt_zero _)
  | n + 1, x0, x1, x2, x3, I, hi, q => h _ x0 x1 x2 x3 I hi (fun x0' x1' x2' x3' I' hi' hl => lpm4_S μ inv sp h n x0' x1' x2' x3' I' hi' (Nat.lt_of_lt_of_le hl (Nat.le_of_lt_succ q)))
def lpp5 {t0 t1 t2 t3 t4 γ : Type} (B : (t0 → t1 → t2 → t3 → t4 → Option γ) → t0 → t1 → t2 → t3 → t4 → Option γ) : Nat → t0 → t1 → t2 → t3 → t4 → Option γ
  | 0 => fun _ _ _ _ _ => none
  | n + 1 => B (lpp5 B n)
theorem lpp5_T {t0 t1 t2 t3 t4 γ : Type} {B : (t0 → t1 → t2 → t3 → t4 → Option γ) → t0 → t1 → t2 → t3 → t4 → Option γ} {TT : t0 → t1 → t2 → t3 → t4 → Prop} {o : γ} (h : ∀ (k : t0 → t1 → t2 → t3 → t4 → Option γ), (∀ (x0 : t0) (x1 : t1) (x2 : t2) (x3 : t3) (x4 : t4), k x0 x1 x2 x3 x4 = some o → TT x0 x1 x2 x3 x4) → ∀ (x0 : t0) (x1 : t1) (x2 : t2) (x3 : t3) (x4 : t4), B k x0 x1 x2 x3 x4 = some o → TT x0 x1 x2 x3 x4) : ∀ (n : Nat) (x0 : t0) (x1 : t1) (x2 : t2) (x3 : t3) (x4 : t4), lpp5 B n x0 x1 x2 x3 x4 = some o → TT x0 x1 x2 x3 x4
  | 0, x0, x1, x2, x3, x4, q => by cases q
  | n + 1, x0, x1, x2, x3, x4, q => h _ (lpp5_T h n) x0 x1 x2 x3 x4 q
theorem lpp5_S {t0 t1 t2 t3 t4 γ : Type} {B : (t0 → t1 → t2 → t3 → t4 → Option γ) → t0 → t1 → t2 → t3 → t4 → Option γ} (μ : t0 → t1 → t2 → t3 → t4 → Nat) (inv : t0 → t1 → t2 → t3 → t4 → Prop) (sp : t0 → t1 → t2 → t3 → t4 → Option γ) (h : ∀ (k : t0 → t1 → t2 → t3 → t4 → Option γ) (x0 : t0) (x1 : t1) (x2 : t2) (x3 : t3) (x4 : t4), inv x0 x1 x2 x3 x4 → (∀ (x0' : t0) (x1' : t1) (x2' : t2) (x3' : t3) (x4' : t4), inv x0' x1' x2' x3' x4' → μ x0' x1' x2' x3' x4' < μ x0 x1 x2 x3 x4 → k x0' x1' x2' x3' x4' = sp x0' x1' x2' x3' x4') → B k x0 x1 x2 x3 x4 = sp x0 x1 x2 x3 x4) : ∀ (n : Nat) (x0 : t0) (x1 : t1) (x2 : t2) (x3 : t3) (x4 : t4), inv x0 x1 x2 x3 x4 → μ x0 x1 x2 x3 x4 < n → lpp5 B n x0 x1 x2 x3 x4 = sp x0 x1 x2 x3 x4
  | 0, x0, x1, x2, x3, x4, _, q => absurd q (Nat.not_lt_zero _)
  | n + 1, x0, x1, x2, x3, x4, hi, q => h _ x0 x1 x2 x3 x4 hi (fun x0' x1' x2' x3' x4' hi' hl => lpp5_S μ inv sp h n x0' x1' x2' x3' x4' hi' (Nat.lt_of_lt_of_le hl (Nat.le_of_lt_succ q)))
def lpm5 {t0 t1 t2 t3 t4 γ : Type} (B : (t0 → t1 → t2 → t3 → t4 → fc_I → Option γ) → t0 → t1 → t2 → t3 → t4 → fc_I → Option γ) : Nat → t0 → t1 → t2 → t3 → t4 → fc_I → Option γ
  | 0 => fun _ _ _ _ _ _ => none
  | n + 1 => B (lpm5 B n)
theorem lpm5_T {t0 t1 t2 t3 t4 γ : Type} {B : (t0 → t1 → t2 → t3 → t4 → fc_I → Option γ) → t0 → t1 → t2 → t3 → t4 → fc_I → Option γ} {TT : t0 → t1 → t2 → t3 → t4 → fc_I → Prop} {o : γ} (h : ∀ (k : t0 → t1 → t2 → t3 → t4 → fc_I → Option γ), (∀ (x0 : t0) (x1 : t1) (x2 : t2) (x3 : t3) (x4 : t4) (I : fc_I), k x0 x1 x2 x3 x4 I = some o → TT x0 x1 x2 x3 x4 I) → ∀ (x0 : t0) (x1 : t1) (x2 : t2) (x3 : t3) (x4 : t4) (I : fc_I), B k x0 x1 x2 x3 x4 I = some o → TT x0 x1 x2 x3 x4 I) : ∀ (n : Nat) (x0 : t0) (x1 : t1) (x2 : t2) (x3 : t3) (x4 : t4) (I : fc_I), lpm5 B n x0 x1 x2 x3 x4 I = some o → TT x0 x1 x2 x3 x4 I
  | 0, x0, x1, x2, x3, x4, I, q => by cases q
  | n + 1, x0, x1, x2, x3, x4, I, q => h _ (lpm5_T h n) x0 x1 x2 x3 x4 I q
theorem lpm5_S {t0 t1 t2 t3 t4 γ : Type} {B : (t0 → t1 → t2 → t3 → t4 → fc_I → Option γ) → t0 → t1 → t2 → t3 → t4 → fc_I → Option γ} (μ : t0 → t1 → t2 → t3 → t4 → fc_I → Nat) (inv : t0 → t1 → t2 → t3 → t4 → fc_I → Prop) (sp : t0 → t1 → t2 → t3 → t4 → fc_I → Option γ) (h : ∀ (k : t0 → t1 → t2 → t3 → t4 → fc_I → Option γ) (x0 : t0) (x1 : t1) (x2 : t2) (x3 : t3) (x4 : t4) (I : fc_I), inv x0 x1 x2 x3 x4 I → (∀ (x0' : t0) (x1' : t1) (x2' : t2) (x3' : t3) (x4' : t4) (I' : fc_I), inv x0' x1' x2' x3' x4' I' → μ x0' x1' x2' x3' x4' I' < μ x0 x1 x2 x3 x4 I → k x0' x1' x2' x3' x4' I' = sp x0' x1' x2' x3' x4' I') → B k x0 x1 x2 x3 x4 I = sp x0 x1 x2 x3 x4 I) : ∀ (n : Nat) (x0 : t0) (x1 : t1) (x2 : t2) (x3 : t3) (x4 : t4) (I : fc_I), inv x0 x1 x2 x3 x4 I → μ x0 x1 x2 x3 x4 I < n → lpm5 B n x0 x1 x2 x3 x4 I = sp x0 x1 x2 x3 x4 I
  | 0, x0, x1, x2, x3, x4, I, _, q => absurd q (Nat.not_lt_zero _)
  | n + 1, x0, x1, x2, x3, x4, I, hi, q => h _ x0 x1 x2 x3 x4 I hi (fun x0' x1' x2' x3' x4' I' hi' hl => lpm5_S μ inv sp h n x0' x1' x2' x3' x4' I' hi' (Nat.lt_of_lt_of_le hl (Nat.le_of_lt_succ q)))
def lpp6 {t0 t1 t2 t3 t4 t5 γ : Type} (B : (t0 → t1 → t2 → t3 → t4 → t5 → Option γ) → t0 → t1 → t2 → t3 → t4 → t5 → Option γ) : Nat → t0 → t1 → t2 → t3 → t4 → t5 → Option γ
  | 0 => fun _ _ _ _ _ _ => none
  | n + 1 => B (lpp6 B n)
theorem lpp6_T {t0 t1 t2 t3 t4 t5 γ : Type} {B : (t0 → t1 → t2 → t3 → t4 → t5 → Option γ) → t0 → t1 → t2 → t3 → t4 → t5 → Option γ} {TT : t0 → t1 → t2 → t3 → t4 → t5 → Prop} {o : γ} (h : ∀ (k : t0 → t1 → t2 → t3 → t4 → t5 → Option γ), (∀ (x0 : t0) (x1 : t1) (x2 : t2) (x3 : t3) (x4 : t4) (x5 : t5), k x0 x1 x2 x3 x4 x5 = some o → TT x0 x1 x2 x3 x4 x5) → ∀ (x0 : t0) (x1 : t1) (x2 : t2) (x3 : t3) (x4 : t4) (x5 : t5), B k x0 x1 x2 x3 x4 x5 = some o → TT x0 x1 x2 x3 x4 x5) : ∀ (n : Nat) (x0 : t0) (x1 : t1) (x2 : t2) (x3 : t3) (x4 : t4) (x5 : t5), lpp6 B n x0 x1 x2 x3 x4 x5 = some o → TT x0 x1 x2 x3 x4 x5
  | 0, x0, x1, x2, x3, x4, x5, q => by cases q
  | n + 1, x0, x1, x2, x3, x4, x5, q => h _ (lpp6_T h n) x0 x1 x2 x3 x4 x5 q
theorem lpp6_S {t0 t1 t2 t3 t4 t5 γ : Type} {B : (t0 → t1 → t2 → t3 → t4 → t5 → Option γ) → t0 → t1 → t2 → t3 → t4 → t5 → Option γ} (μ : t0 → t1 → t2 → t3 → t4 → t5 → Nat) (inv : t0 → t1 → t2 → t3 → t4 → t5 → Prop) (sp : t0 → t1 → t2 → t3 → t4 → t5 → Option γ) (h : ∀ (k : t0 → t1 → t2 → t3 → t4 → t5 → Option γ) (x0 : t0) (x1 : t1) (x2 : t2) (x3 : t3) (x4 : t4) (x5 : t5), inv x0 x1 x2 x3 x4 x5 → (∀ (x0' : t0) (x1' : t1) (x2' : t2) (x3' : t3) (x4' : t4) (x5' : t5), inv x0' x1' x2' x3' x4' x5' → μ x0' x1' x2' x3' x4' x5' < μ x0 x1 x2 x3 x4 x5 → k x0' x1' x2' x3' x4' x5' = sp x0' x1' x2' x3' x4' x5') → B k x0 x1 x2 x3 x4 x5 = sp x0 x1 x2 x3 x4 x5) : ∀ (n : Nat) (x0 : t0) (x1 : t1) (x2 : t2) (x3 : t3) (x4 : t4) (x5 : t5), inv x0 x1 x2 x3 x4 x5 → μ x0 x1 x2 x3 x4 x5 < n → lpp6 B n x0 x1 x2 x3 x4 x5 = sp x0 x1 x2 x3 x4 x5
  | 0, x0, x1, x2, x3, x4, x5, _, q => absurd q (Nat.not_lt_zero _)
  | n + 1, x0, x1, x2, x3, x4, x5, hi, q => h _ x0 x1 x2 x3 x4 x5 hi (fun x0' x1' x2' x3' x4' x5' hi' hl => lpp6_S μ inv sp h n x0' x1' x2' x3' x4' x5' hi' (Nat.lt_of_lt_of_le hl (Nat.le_of_lt_succ q)))
def lpm6 {t0 t1 t2 t3 t4 t5 γ : Type} (B : (t0 → t1 → t2 → t3 → t4 → t5 → fc_I → Option γ) → t0 → t1 → t2 → t3 → t4 → t5 → fc_I → Option γ) : Nat → t0 → t1 → t2 → t3 → t4 → t5 → fc_I → Option γ
  | 0 => fun _ _ _ _ _ _ _ => none
  | n + 1 => B (lpm6 B n)
theorem lpm6_T {t0 t1 t2 t3 t4 t5 γ : Type} {B : (t0 → t1 → t2 → t3 → t4 → t5 → fc_I → Option γ) → t0 → t1 → t2 → t3 → t4 → t5 → fc_I → Option γ} {TT : t0 → t1 → t2 → t3 → t4 → t5 → fc_I → Prop} {o : γ} (h : ∀ (k : t0 → t1 → t2 → t3 → t4 → t5 → fc_I → Option γ), (∀ (x0 : t0) (x1 : t1) (x2 : t2) (x3 : t3) (x4 : t4) (x5 : t5) (I : fc_I), k x0 x1 x2 x3 x4 x5 I = some o → TT x0 x1 x2 x3 x4 x5 I) → ∀ (x0 : t0) (x1 : t1) (x2 : t2) (x3 : t3) (x4 : t4) (x5 : t5) (I : fc_I), B k x0 x1 x2 x3 x4 x5 I = some o → TT x0 x1 x2 x3 x4 x5 I) : ∀ (n : Nat) (x0 : t0) (x1 : t1) (x2 : t2) (x3 : t3) (x4 : t4) (x5 : t5) (I : fc_I), lpm6 B n x0 x1 x2 x3 x4 x5 I = some o → TT x0 x1 x2 x3 x4 x5 I
  | 0, x0, x1, x2, x3, x4, x5, I, q => by cases q
  | n + 1, x0, x1, x2, x3, x4, x5, I, q => h _ (lpm6_T h n) x0 x1 x2 x3 x4 x5 I q
theorem lpm6_S {t0 t1 t2 t3 t4 t5 γ : Type} {B : (t0 → t1 → t2 → t3 → t4 → t5 → fc_I → Option γ) → t0 → t1 → t2 → t3 → t4 → t5 → fc_I → Option γ} (μ : t0 → t1 → t2 → t3 → t4 → t5 → fc_I → Nat) (inv : t0 → t1 → t2 → t3 → t4 → t5 → fc_I → Prop) (sp : t0 → t1 → t2 → t3 → t4 → t5 → fc_I → Option γ) (h : ∀ (k : t0 → t1 → t2 → t3 → t4 → t5 → fc_I → Option γ) (x0 : t0) (x1 : t1) (x2 : t2) (x3 : t3) (x4 : t4) (x5 : t5) (I : fc_I), inv x0 x1 x2 x3 x4 x5 I → (∀ (x0' : t0) (x1' : t1) (x2' : t2) (x3' : t3) (x4' : t4) (x5' : t5) (I' : fc_I), inv x0' x1' x2' x3' x4' x5' I' → μ x0' x1' x2' x3' x4' x5' I' < μ x0 x1 x2 x3 x4 x5 I → k x0' x1' x2' x3' x4' x5' I' = sp x0' x1' x2' x3' x4' x5' I') → B k x0 x1 x2 x3 x4 x5 I = sp x0 x1 x2 x3 x4 x5 I) : ∀ (n : Nat) (x0 : t0) (x1 : t1) (x2 : t2) (x3 : t3) (x4 : t4) (x5 : t5) (I : fc_I), inv x0 x1 x2 x3 x4 x5 I → μ x0 x1 x2 x3 x4 x5 I < n → lpm6 B n x0 x1 x2 x3 x4 x5 I = sp x0 x1 x2 x3 x4 x5 I
  | 0, x0, x1, x2, x3, x4, x5, I, _, q => absurd q (Nat.not_lt_zero _)
  | n + 1, x0, x1, x2, x3, x4, x5, I, hi, q => h _ x0 x1 x2 x3 x4 x5 I hi (fun x0' x1' x2' x3' x4' x5' I' hi' hl => lpm6_S μ inv sp h n x0' x1' x2' x3' x4' x5' I' hi' (Nat.lt_of_lt_of_le hl (Nat.le_of_lt_succ q)))
def lpp7 {t0 t1 t2 t3 t4 t5 t6 γ : Type} (B : (t0 → t1 → t2 → t3 → t4 → t5 → t6 → Option γ) → t0 → t1 → t2 → t3 → t4 → t5 → t6 → Option γ) : Nat → t0 → t1 → t2 → t3 → t4 → t5 → t6 → Option γ
  | 0 => fun _ _ _ _ _ _ _ => none
  | n + 1 => B (lpp7 B n)
theorem lpp7_T {t0 t1 t2 t3 t4 t5 t6 γ : Type} {B : (t0 → t1 → t2 → t3 → t4 → t5 → t6 → Option γ) → t0 → t1 → t2 → t3 → t4 → t5 → t6 → Option γ} {TT : t0 → t1 → t2 → t3 → t4 → t5 → t6 → Prop} {o : γ} (h : ∀ (k : t0 → t1 → t2 → t3 → t4 → t5 → t6 → Option γ), (∀ (x0 : t0) (x1 : t1) (x2 : t2) (x3 : t3) (x4 : t4) (x5 : t5) (x6 : t6), k x0 x1 x2 x3 x4 x5 x6 = some o → TT x0 x1 x2 x3 x4 x5 x6) → ∀ (x0 : t0) (x1 : t1) (x2 : t2) (x3 : t3) (x4 : t4) (x5 : t5) (x6 : t6), B k x0 x1 x2 x3 x4 x5 x6 = some o → TT x0 x1 x2 x3 x4 x5 x6) : ∀ (n : Nat) (x0 : t0) (x1 : t1) (x2 : t2) (x3 : t3) (x4 : t4) (x5 : t5) (x6 : t6), lpp7 B n x0 x1 x2 x3 x4 x5 x6 = some o → TT x0 x1 x2 x3 x4 x5 x6
  | 0, x0, x1, x2, x3, x4, x5, x6, q => by cases q
  | n + 1, x0, x1, x2, x3, x4, x5, x6, q => h _ (lpp7_T h n) x0 x1 x2 x3 x4 x5 x6 q
theorem lpp7_S {t0 t1 t2 t3 t4 t5 t6 γ : Type} {B : (t0 → t1 → t2 → t3 → t4 → t5 → t6 → Option γ) → t0 → t1 → t2 → t3 → t4 → t5 → t6 → Option γ} (μ : t0 → t1 → t2 → t3 → t4 → t5 → t6 → Nat) (inv : t0 → t1 → t2 → t3 → t4 → t5 → t6 → Prop) (sp : t0 → t1 → t2 → t3 → t4 → t5 → t6 → Option γ) (h : ∀ (k : t0 → t1 → t2 → t3 → t4 → t5 → t6 → Option γ) (x0 : t0) (x1 : t1) (x2 : t2) (x3 : t3) (x4 : t4) (x5 : t5) (x6 : t6), inv x0 x1 x2 x3 x4 x5 x6 → (∀ (x0' : t0) (x1' : t1) (x2' : t2) (x3' : t3) (x4' : t4) (x5' : t5) (x6' : t6), inv x0' x1' x2' x3' x4' x5' x6' → μ x0' x1' x2' x3' x4' x5' x6' < μ x0 x1 x2 x3 x4 x5 x6 → k x0' x1' x2' x3' x4' x5' x6' = sp x0' x1' x2' x3' x4' x5' x6') → B k x0 x1 x2 x3 x4 x5 x6 = sp x0 x1 x2 x3 x4 x5 x6) : ∀ (n : Nat) (x0 : t0) (x1 : t1) (x2 : t2) (x3 : t3) (x4 : t4) (x5 : t5) (x6 : t6), inv x0 x1 x2 x3 x4 x5 x6 → μ x0 x1 x2 x3 x4 x5 x6 < n → lpp7 B n x0 x1 x2 x3 x4 x5 x6 = sp x0 x1 x2 x3 x4 x5 x6
  | 0, x0, x1, x2, x3, x4, x5, x6, _, q => absurd q (Nat.not_lt_zero _)
  | n + 1, x0, x1, x2, x3, x4, x5, x6, hi, q => h _ x0 x1 x2 x3 x4 x5 x6 hi (fun x0' x1' x2' x3' x4' x5' x6' hi' hl => lpp7_S μ inv sp h n x0' x1' x2' x3' x4' x5' x6' hi' (Nat.lt_of_lt_of_le hl (Nat.le_of_lt_succ q)))
def lpm7 {t0 t1 t2 t3 t4 t5 t6 γ : Type} (B : (t0 → t1 → t2 → t3 → t4 → t5 → t6 → fc_I → Option γ) → t0 → t1 → t2 → t3 → t4 → t5 → t6 → fc_I → Option γ) : Nat → t0 → t1 → t2 → t3 → t4 → t5 → t6 → fc_I → Option γ
  | 0 => fun _ _ _ _ _ _ _ _ => none
  | n + 1 => B (lpm7 B n)
theorem lpm7_T {t0 t1 t2 t3 t4 t5 t6 γ : Type} {B : (t0 → t1 → t2 → t3 → t4 → t5 → t6 → fc_I → Option γ) → t0 → t1 → t2 → t3 → t4 → t5 → t6 → fc_I → Option γ} {TT : t0 → t1 → t2 → t3 → t4 → t5 → t6 → fc_I → Prop} {o : γ} (h : ∀ (k : t0 → t1 → t2 → t3 → t4 → t5 → t6 → fc_I → Option γ), (∀ (x0 : t0) (x1 : t1) (x2 : t2) (x3 : t3) (x4 : t4) (x5 : t5) (x6 : t6) (I : fc_I), k x0 x1 x2 x3 x4 x5 x6 I = some o → TT x0 x1 x2 x3 x4 x5 x6 I) → ∀ (x0 : t0) (x1 : t1) (x2 : t2) (x3 : t3) (x4 : t4) (x5 : t5) (x6 : t6) (I : fc_I), B k x0 x1 x2 x3 x4 x5 x6 I = some o → TT x0 x1 x2 x3 x4 x5 x6 I) : ∀ (n : Nat) (x0 : t0) (x1 : t1) (x2 : t2) (x3 : t3) (x4 : t4) (x5 : t5) (x6 : t6) (I : fc_I), lpm7 B n x0 x1 x2 x3 x4 x5 x6 I = some o → TT x0 x1 x2 x3 x4 x5 x6 I
  | 0, x0, x1, x2, x3, x4, x5, x6, I, q => by cases q
  | n + 1, x0, x1, x2, x3, x4, x5, x6, I, q => h _ (lpm7_T h n) x0 x1 x2 x3 x4 x5 x6 I q
theorem lpm7_S {t0 t1 t2 t3 t4 t5 t6 γ : Type} {B : (t0 → t1 → t2 → t3 → t4 → t5 → t6 → fc_I → Option γ) → t0 → t1 → t2 → t3 → t4 → t5 → t6 → fc_I → Option γ} (μ : t0 → t1 → t2 → t3 → t4 → t5 → t6 → fc_I → Nat) (inv : t0 → t1 → t2 → t3 → t4 → t5 → t6 → fc_I → Prop) (sp : t0 → t1 → t2 → t3 → t4 → t5 → t6 → fc_I → Option γ) (h : ∀ (k : t0 → t1 → t2 → t3 → t4 → t5 → t6 → fc_I → Option γ) (x0 : t0) (x1 : t1) (x2 : t2) (x3 : t3) (x4 : t4) (x5 : t5) (x6 : t6) (I : fc_I), inv x0 x1 x2 x3 x4 x5 x6 I → (∀ (x0' : t0) (x1' : t1) (x2' : t2) (x3' : t3) (x4' : t4) (x5' : t5) (x6' : t6) (I' : fc_I), inv x0' x1' x2' x3' x4' x5' x6' I' → μ x0' x1' x2' x3' x4' x5' x6' I' < μ x0 x1 x2 x3 x4 x5 x6 I → k x0' x1' x2' x3' x4' x5' x6' I' = sp x0' x1' x2' x3' x4' x5' x6' I') → B k x0 x1 x2 x3 x4 x5 x6 I = sp x0 x1 x2 x3 x4 x5 x6 I) : ∀ (n : Nat) (x0 : t0) (x1 : t1) (x2 : t2) (x3 : t3) (x4 : t4) (x5 : t5) (x6 : t6) (I : fc_I), inv x0 x1 x2 x3 x4 x5 x6 I → μ x0 x1 x2 x3 x4 x5 x6 I < n → lpm7 B n x0 x1 x2 x3 x4 x5 x6 I = sp x0 x1 x2 x3 x4 x5 x6 I
  | 0, x0, x1, x2, x3, x4, x5, x6, I, _, q => absurd q (Nat.not_lt_zero _)
  | n + 1, x0, x1, x2, x3, x4, x5, x6, I, hi, q => h _ x0 x1 x2 x3 x4 x5 x6 I hi (fun x0' x1' x2' x3' x4' x5' x6' I' hi' hl => lpm7_S μ inv sp h n x0' x1' x2' x3' x4' x5' x6' I' hi' (Nat.lt_of_lt_of_le hl (Nat.le_of_lt_succ q)))
