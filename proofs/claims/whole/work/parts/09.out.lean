/-! ===== what is outside the world: texts, a static row, the law's script ===== -/
section OUT
variable {m : fc_MI} {d nb zb pc : Nat} {ls : List (Option Value)} {st : List Value} {sh : fc_Sh} {I : fc_I} {P : fc_P} {Q : fc_Q}
theorem ft_ldcS {idx k : Nat} {tx : String} (hq : (m.1.cls, idx, tx, k) ∈ fc_strs) (hd : decode m.2.1 pc = .ok (.ldc idx, 2)) (kk : fc_T m d nb zb (pc + 2) ls (.ref (1000 + k) :: st) sh I P Q) : fc_T m d nb zb pc ls st sh I P Q := fun p l e R s mm args below meth cd β D A as H locs cells slots Nt Zt lsA QF C hb h1 hW hS hl hF => by
  obtain ⟨hx, hbb, hml, hown, hts, hnm, hfr, hlo, hA, hE, hscr⟩ := id C
  exact va_ldcS hx hbb hown (hE.2.1 _ hq) hd (kk p l e R s mm args below meth cd β D A as H locs cells slots Nt Zt lsA QF C hb h1 hW hS hl hF)
theorem ft_strV {idx k : Nat} (hk : k < 12) (hw : Cond.fieldLink m.1.cls idx "java/lang/String" "value" "[B" ∈ fc_tbl) (hd : decode m.2.1 pc = .ok (.getfield idx, 3)) (kk : fc_T m d nb zb (pc + 3) ls (.ref (1000 + (200 + k)) :: st) sh I P Q) : fc_T m d nb zb pc ls (.ref (1000 + k) :: st) sh I P Q := fun p l e R s mm args below meth cd β D A as H locs cells slots Nt Zt lsA QF C hb h1 hW hS hl hF => by
  obtain ⟨hx, hbb, hml, hown, hts, hnm, hfr, hlo, hA, hE, hscr⟩ := id C
  exact vk_getf hx hbb (hE.1.1 k hk).2.2.1 hS hown (hts _ hw) (fun x h => h) hd (kk p l e R s mm args below meth cd β D A as H locs cells slots Nt Zt lsA QF C hb h1 hW hS hl hF)
theorem ft_strC {idx k : Nat} (hk : k < 12) (hw : Cond.fieldLink m.1.cls idx "java/lang/String" "coder" "B" ∈ fc_tbl) (hd : decode m.2.1 pc = .ok (.getfield idx, 3)) (kk : fc_T m d nb zb (pc + 3) ls (.int 0 :: st) sh I P Q) : fc_T m d nb zb pc ls (.ref (1000 + k) :: st) sh I P Q := fun p l e R s mm args below meth cd β D A as H locs cells slots Nt Zt lsA QF C hb h1 hW hS hl hF => by
  obtain ⟨hx, hbb, hml, hown, hts, hnm, hfr, hlo, hA, hE, hscr⟩ := id C
  exact vk_getf hx hbb (hE.1.1 k hk).2.1 hS hown (hts _ hw) (fun x h => h) hd (kk p l e R s mm args below meth cd β D A as H locs cells slots Nt Zt lsA QF C hb h1 hW hS hl hF)
theorem ft_strL {k : Nat} {v : Int32} (hk : k < 12) (hv : Int32.ofNat (fc_len.getD k 0) = v) (hd : decode m.2.1 pc = .ok (.arraylength, 1)) (kk : fc_T m d nb zb (pc + 1) ls (.int v :: st) sh I P Q) : fc_T m d nb zb pc ls (.ref (1000 + (200 + k)) :: st) sh I P Q := fun p l e R s mm args below meth cd β D A as H locs cells slots Nt Zt lsA QF C hb h1 hW hS hl hF => by
  obtain ⟨hx, hbb, hml, hown, hts, hnm, hfr, hlo, hA, hE, hscr⟩ := id C
  exact va_tlen hx hbb (hE.1.1 k hk).2.2.2 hS hv hd (kk p l e R s mm args below meth cd β D A as H locs cells slots Nt Zt lsA QF C hb h1 hW hS hl hF)
theorem ft_strB {k : Nat} {i : Int32} (hk : k < 12) (hi : vp_in i (fc_len.getD k 0)) (hd : decode m.2.1 pc = .ok (.baload, 1)) (kk : fc_T m d nb zb (pc + 1) ls (.int ((fc_byt.getD k []).getD (cn i) 0) :: st) sh I P Q) : fc_T m d nb zb pc ls (.int i :: .ref (1000 + (200 + k)) :: st) sh I P Q := fun p l e R s mm args below meth cd β D A as H locs cells slots Nt Zt lsA QF C hb h1 hW hS hl hF => by
  obtain ⟨hx, hbb, hml, hown, hts, hnm, hfr, hlo, hA, hE, hscr⟩ := id C
  exact va_tb hx hbb (hE.1.1 k hk).2.2.2 hS hi rfl hd (kk p l e R s mm args below meth cd β D A as H locs cells slots Nt Zt lsA QF C hb h1 hW hS hl hF)
theorem ft_compact {idx : Nat} (hw : Cond.fieldLink m.1.cls idx "java/lang/String" "COMPACT_STRINGS" "Z" ∈ fc_tbl) (hd : decode m.2.1 pc = .ok (.getstatic idx, 3)) (kk : fc_T m d nb zb (pc + 3) ls (.int 1 :: st) sh I P Q) : fc_T m d nb zb pc ls st sh I P Q := fun p l e R s mm args below meth cd β D A as H locs cells slots Nt Zt lsA QF C hb h1 hW hS hl hF => by
  obtain ⟨hx, hbb, hml, hown, hts, hnm, hfr, hlo, hA, hE, hscr⟩ := id C
  exact va_gets hx hbb hE.2.2.2.2.1 hS hown (hts _ hw) (fun x h => h) hd (kk p l e R s mm args below meth cd β D A as H locs cells slots Nt Zt lsA QF C hb h1 hW hS hl hF)
theorem ft_fmt {idx : Nat} (hw : Cond.fieldLink m.1.cls idx "jdk/internal/util/Preconditions" "SIOOBE_FORMATTER" "Ljava/util/function/BiFunction;" ∈ fc_tbl) (hd : decode m.2.1 pc = .ok (.getstatic idx, 3)) (kk : ∀ v : Value, v = .null ∨ v = .ref 1300 → fc_T m d nb zb (pc + 3) ls (v :: st) sh I P Q) : fc_T m d nb zb pc ls st sh I P Q := fun p l e R s mm args below meth cd β D A as H locs cells slots Nt Zt lsA QF C hb h1 hW hS hl hF => by
  obtain ⟨hx, hbb, hml, hown, hts, hnm, hfr, hlo, hA, hE, hscr⟩ := id C
  rcases hE.2.2.2.2.2.1 with hZ | hZ
  · exact va_gets hx hbb hZ hS hown (hts _ hw) (fun x h => h) hd (kk .null (Or.inl rfl) p l e R s mm args below meth cd β D A as H locs cells slots Nt Zt lsA QF C hb h1 hW hS hl hF)
  · exact va_gets hx hbb hZ hS hown (hts _ hw) (fun x h => h) hd (kk (.ref 1300) (Or.inr rfl) p l e R s mm args below meth cd β D A as H locs cells slots Nt Zt lsA QF C hb h1 hW hS hl hF)
theorem ft_kab {idx : Nat} (hm : m.1.cls = "FloodCity$Roads" ∧ idx = 31) (hd : decode m.2.1 pc = .ok (.getstatic idx, 3)) (kk : fc_T m d nb zb (pc + 3) ls (.ref (1000 + 100) :: st) sh I P Q) : fc_T m d nb zb pc ls st sh I P Q := fun p l e R s mm args below meth cd β D A as H locs cells slots Nt Zt lsA QF C hb h1 hW hS hl hF => by
  obtain ⟨hx, hbb, hml, hown, hts, hnm, hfr, hlo, hA, hE, hscr⟩ := id C
  obtain ⟨hm1, rfl⟩ := hm
  rw [hm1] at hown
  exact va_getsN hx hbb hE.2.2.1 hS hown (va_Nw.use rfl hE.2.2.2.2.2.2.2.1) (fun x h => h) hd (kk p l e R s mm args below meth cd β D A as H locs cells slots Nt Zt lsA QF C hb h1 hW hS hl hF)
theorem ft_kabI {i : Int32} (hi : vp_in i 6) (hd : decode m.2.1 pc = .ok (.iaload, 1)) (kk : fc_T m d nb zb (pc + 1) ls (.int (fc_kab.getD (cn i) 0) :: st) sh I P Q) : fc_T m d nb zb pc ls (.int i :: .ref (1000 + 100) :: st) sh I P Q := fun p l e R s mm args below meth cd β D A as H locs cells slots Nt Zt lsA QF C hb h1 hW hS hl hF => by
  obtain ⟨hx, hbb, hml, hown, hts, hnm, hfr, hlo, hA, hE, hscr⟩ := id C
  exact va_ti hx hbb hE.2.2.2.1 hS hi rfl hd (kk p l e R s mm args below meth cd β D A as H locs cells slots Nt Zt lsA QF C hb h1 hW hS hl hF)
theorem ft_sld {i : Int32} {L : Nat} {xs : Nat → Int32} (hm : m.2.2.2.2 = some (L, xs)) (hi : vp_in i L) (hd : decode m.2.1 pc = .ok (.iaload, 1)) (kk : fc_T m d nb zb (pc + 1) ls (.int (xs (cn i)) :: st) sh I P Q) : fc_T m d nb zb pc ls (.int i :: .ref (1000 + 400) :: st) sh I P Q := fun p l e R s mm args below meth cd β D A as H locs cells slots Nt Zt lsA QF C hb h1 hW hS hl hF => by
  obtain ⟨hx, hbb, hml, hown, hts, hnm, hfr, hlo, hA, hE, hscr⟩ := id C
  obtain ⟨z1, z2, z3⟩ := hscr L xs hm
  exact va_sld hx hbb z1 z2 z3 hS hi hd (kk p l e R s mm args below meth cd β D A as H locs cells slots Nt Zt lsA QF C hb h1 hW hS hl hF)
theorem ft_slen {L : Nat} {xs : Nat → Int32} {v : Int32} (hm : m.2.2.2.2 = some (L, xs)) (hv : Int32.ofNat L = v) (hd : decode m.2.1 pc = .ok (.arraylength, 1)) (kk : fc_T m d nb zb (pc + 1) ls (.int v :: st) sh I P Q) : fc_T m d nb zb pc ls (.ref (1000 + 400) :: st) sh I P Q := fun p l e R s mm args below meth cd β D A as H locs cells slots Nt Zt lsA QF C hb h1 hW hS hl hF => by
  obtain ⟨hx, hbb, hml, hown, hts, hnm, hfr, hlo, hA, hE, hscr⟩ := id C
  obtain ⟨z1, z2, z3⟩ := hscr L xs hm
  subst hv
  exact va_slen hx hbb z1 z2 z3 hS hd (kk p l e R s mm args below meth cd β D A as H locs cells slots Nt Zt lsA QF C hb h1 hW hS hl hF)
end OUT
