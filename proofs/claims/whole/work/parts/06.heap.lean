abbrev cn (x : Int32) : Nat := x.toNatClampNeg
set_option maxRecDepth 100000 in
theorem in_X0 : ∀ w ∈ u_ws RX0 TX0 9, w ∈ fc_tbl := fun w h => List.mem_filter.mpr ⟨(goodIn_r (big := lw_tbl) (u_ws RX0 TX0 9) [294, 296, 298, 300, 302, 304, 306, 308, 310] rfl (by decide +kernel) w h).1, List.all_eq_true.mp (show (u_ws RX0 TX0 9).all goodWord = true by decide +kernel) w h⟩
set_option maxRecDepth 100000 in
theorem in_X1 : ∀ w ∈ u_ws RX1 TX1 5, w ∈ fc_tbl := fun w h => List.mem_filter.mpr ⟨(goodIn_r (big := lw_tbl) (u_ws RX1 TX1 5) [171, 173, 175, 177, 179] rfl (by decide +kernel) w h).1, List.all_eq_true.mp (show (u_ws RX1 TX1 5).all goodWord = true by decide +kernel) w h⟩
set_option maxRecDepth 100000 in
theorem in_X2 : ∀ w ∈ u_ws RX2 TX2 10, w ∈ fc_tbl := fun w h => List.mem_filter.mpr ⟨(goodIn_r (big := lw_tbl) (u_ws RX2 TX2 10) [478, 480, 482, 484, 486, 488, 490, 492, 494, 496] rfl (by decide +kernel) w h).1, List.all_eq_true.mp (show (u_ws RX2 TX2 10).all goodWord = true by decide +kernel) w h⟩
set_option maxRecDepth 100000 in
theorem in_X3 : ∀ w ∈ u_ws RX3 TX3 8, w ∈ fc_tbl := fun w h => List.mem_filter.mpr ⟨(goodIn_r (big := lw_tbl) (u_ws RX3 TX3 8) [547, 549, 551, 553, 555, 557, 559, 561] rfl (by decide +kernel) w h).1, List.all_eq_true.mp (show (u_ws RX3 TX3 8).all goodWord = true by decide +kernel) w h⟩
set_option maxRecDepth 100000 in
theorem in_X4 : ∀ w ∈ u_ws RX4 TX4 7, w ∈ fc_tbl := fun w h => List.mem_filter.mpr ⟨(goodIn_r (big := lw_tbl) (u_ws RX4 TX4 7) [513, 515, 517, 519, 521, 523, 525] rfl (by decide +kernel) w h).1, List.all_eq_true.mp (show (u_ws RX4 TX4 7).all goodWord = true by decide +kernel) w h⟩
set_option maxRecDepth 100000 in
theorem in_X5 : ∀ w ∈ u_ws RX5 TX5 10, w ∈ fc_tbl := fun w h => List.mem_filter.mpr ⟨(goodIn_r (big := lw_tbl) (u_ws RX5 TX5 10) [260, 262, 264, 266, 268, 270, 272, 274, 276, 278] rfl (by decide +kernel) w h).1, List.all_eq_true.mp (show (u_ws RX5 TX5 10).all goodWord = true by decide +kernel) w h⟩
set_option maxRecDepth 100000 in
theorem in_X6 : ∀ w ∈ u_ws RX6 TX6 6, w ∈ fc_tbl := fun w h => List.mem_filter.mpr ⟨(goodIn_r (big := lw_tbl) (u_ws RX6 TX6 6) [141, 143, 145, 147, 149, 151] rfl (by decide +kernel) w h).1, List.all_eq_true.mp (show (u_ws RX6 TX6 6).all goodWord = true by decide +kernel) w h⟩
set_option maxRecDepth 100000 in
theorem in_X7 : ∀ w ∈ u_ws RX7 TX7 3, w ∈ fc_tbl := fun w h => List.mem_filter.mpr ⟨(goodIn_r (big := lw_tbl) (u_ws RX7 TX7 3) [578, 580, 582] rfl (by decide +kernel) w h).1, List.all_eq_true.mp (show (u_ws RX7 TX7 3).all goodWord = true by decide +kernel) w h⟩
set_option maxRecDepth 100000 in
theorem in_X8 : ∀ w ∈ u_ws RX8 TX8 12, w ∈ fc_tbl := fun w h => List.mem_filter.mpr ⟨(goodIn_r (big := lw_tbl) (u_ws RX8 TX8 12) [209, 211, 213, 215, 217, 219, 221, 223, 225, 227, 229, 231] rfl (by decide +kernel) w h).1, List.all_eq_true.mp (show (u_ws RX8 TX8 12).all goodWord = true by decide +kernel) w h⟩
set_option maxRecDepth 100000 in
theorem in_X9 : ∀ w ∈ u_ws RX9 TX9 4, w ∈ fc_tbl := fun w h => List.mem_filter.mpr ⟨(goodIn_r (big := lw_tbl) (u_ws RX9 TX9 4) [110, 112, 114, 116] rfl (by decide +kernel) w h).1, List.all_eq_true.mp (show (u_ws RX9 TX9 4).all goodWord = true by decide +kernel) w h⟩
set_option maxRecDepth 100000 in
theorem in_X10 : ∀ w ∈ u_ws RX10 TX10 9, w ∈ fc_tbl := fun w h => List.mem_filter.mpr ⟨(goodIn_r (big := lw_tbl) (u_ws RX10 TX10 9) [594, 596, 598, 600, 602, 604, 606, 608, 610] rfl (by decide +kernel) w h).1, List.all_eq_true.mp (show (u_ws RX10 TX10 9).all goodWord = true by decide +kernel) w h⟩
set_option maxRecDepth 100000 in
theorem in_X11 : ∀ w ∈ u_ws RX11 TX11 75, w ∈ fc_tbl := fun w h => List.mem_filter.mpr ⟨(goodIn_r (big := lw_tbl) (u_ws RX11 TX11 75) [1218, 1220, 1222, 1224, 1226, 1228, 1230, 1232, 1234, 1236, 1238, 1240, 1242, 1244, 1246, 1248, 1250, 1252, 1254, 1256, 1258, 1260, 1262, 1264, 1266, 1268, 1270, 1272, 1274, 1276, 1278, 1280, 1282, 1284, 1286, 1288, 1290, 1292, 1294, 1296, 1298, 1300, 1302, 1304, 1306, 1308, 1310, 1312, 1314, 1316, 1318, 1320, 1322, 1324, 1326, 1328, 1330, 1332, 1334, 1336, 1338, 1340, 1342, 1344, 1346, 1348, 1350, 1352, 1354, 1356, 1358, 1360, 1362, 1364, 1366] rfl (by decide +kernel) w h).1, List.all_eq_true.mp (show (u_ws RX11 TX11 75).all goodWord = true by decide +kernel) w h⟩
theorem fc_in : ∀ (ci : Nat) (q : vw_C), fc_cl[ci]? = some q → ∀ w ∈ u_ws q.1 q.2.1 q.2.2, w ∈ fc_tbl := by
  intro ci q h
  match ci, h with
  | 0, h => cases h; exact in_X0
  | 1, h => cases h; exact in_X1
  | 2, h => cases h; exact in_X2
  | 3, h => cases h; exact in_X3
  | 4, h => cases h; exact in_X4
  | 5, h => cases h; exact in_X5
  | 6, h => cases h; exact in_X6
  | 7, h => cases h; exact in_X7
  | 8, h => cases h; exact in_X8
  | 9, h => cases h; exact in_X9
  | 10, h => cases h; exact in_X10
  | 11, h => cases h; exact in_X11
  | n + 12, h => simp [fc_cl] at h
theorem fc_nm : ∀ (ci : Nat) (q : vw_C), fc_cl[ci]? = some q → (∀ a, a < q.2.2 → ∀ b, b < q.2.2 → a ≠ b → (q.2.1 a).2.1 ≠ (q.2.1 b).2.1) ∧ ∀ k, k < q.2.2 → parseFieldDescriptor (q.2.1 k).2.2.1 = some (fc_ty ci k) := by
  intro ci q h
  match ci, h with
  | 0, h => cases h; exact ⟨nmX0, tyX0_ok⟩
  | 1, h => cases h; exact ⟨nmX1, tyX1_ok⟩
  | 2, h => cases h; exact ⟨nmX2, tyX2_ok⟩
  | 3, h => cases h; exact ⟨nmX3, tyX3_ok⟩
  | 4, h => cases h; exact ⟨nmX4, tyX4_ok⟩
  | 5, h => cases h; exact ⟨nmX5, tyX5_ok⟩
  | 6, h => cases h; exact ⟨nmX6, tyX6_ok⟩
  | 7, h => cases h; exact ⟨nmX7, tyX7_ok⟩
  | 8, h => cases h; exact ⟨nmX8, tyX8_ok⟩
  | 9, h => cases h; exact ⟨nmX9, tyX9_ok⟩
  | 10, h => cases h; exact ⟨nmX10, tyX10_ok⟩
  | 11, h => cases h; exact ⟨nmX11, tyX11_ok⟩
  | n + 12, h => simp [fc_cl] at h

def fc_wI (I : fc_I) (c k : Nat) (v : Int32) : fc_I := fun c' k' => if c' = c ∧ k' = k then v else I c' k'
def fc_wP (P : fc_P) (c k : Nat) (v : Nat) : fc_P := fun c' k' => if c' = c ∧ k' = k then some v else P c' k'
theorem fc_wI_c {I : fc_I} {c k : Nat} {v : Int32} : fc_wI I c k v c = upd (I c) k v := by
  funext j
  simp [fc_wI, upd]
theorem fc_wI_ne {I : fc_I} {c k : Nat} {v : Int32} {c' : Nat} (h : c' ≠ c) : fc_wI I c k v c' = I c' := by
  funext j
  simp [fc_wI, h]
theorem fc_wP_ne {P : fc_P} {c k : Nat} {v : Nat} {c' : Nat} (h : c' ≠ c) : fc_wP P c k v c' = P c' := by
  funext j
  simp [fc_wP, h]
theorem fc_cell_o {β : Nat → ClassId} {as : Nat → Nat} {I : fc_I} {P : fc_P} {c ci N : Nat} : fc_cell β as I P c (10 + ci, N) = .inr (ci, (List.range N).map (fun k => fc_fv as I P c ci k)) := by
  unfold fc_cell
  rw [if_neg (by omega), if_neg (by omega), show 10 + ci - 10 = ci by omega]
theorem fc_cell_a {β : Nat → ClassId} {as : Nat → Nat} {I : fc_I} {P : fc_P} {c t N : Nat} (h : t < 4) : fc_cell β as I P c (t, N) = .inl (β t, N, .inl (I c)) := by
  unfold fc_cell
  rw [if_pos h]
theorem fc_cell_r {β : Nat → ClassId} {as : Nat → Nat} {I : fc_I} {P : fc_P} {c N : Nat} : fc_cell β as I P c (4, N) = .inl (β 4, N, .inr (.inr (.inr (.inr (fun j => (P c j).map as))))) := by
  unfold fc_cell
  rw [if_neg (by omega), if_pos (by omega)]
/-- the link of a field's instruction: class ci, slot k -/
def fc_fl (own : String) (idx ci k : Nat) : Prop := ∃ q : vw_C, fc_cl[ci]? = some q ∧ k < q.2.2 ∧ (q.2.1 k).1 = q.1 ∧ Cond.fieldLink own idx q.1 (q.2.1 k).2.1 (q.2.1 k).2.2.1 ∈ fc_tbl
section HEAP
variable {m : fc_MI} {d nb zb pc : Nat} {ls : List (Option Value)} {st : List Value} {sh : fc_Sh} {I : fc_I} {P : fc_P} {Q : fc_Q}
theorem ft_getI {ci k idx c N : Nat} (hf : fc_fl m.1.cls idx ci k) (hr : fc_isR (fc_ty ci k) = false) (hs : sh[c]? = some (10 + ci, N)) (hk : k < N) (hd : decode m.2.1 pc = .ok (.getfield idx, 3)) (kk : fc_T m d nb zb (pc + 3) ls (.int (I c k) :: st) sh I P Q) : fc_T m d nb zb pc ls (.ref c :: st) sh I P Q := fun p l e R s mm args below meth cd β D A as H locs cells slots Nt Zt lsA QF C hb h1 hW hS hl hF => by
  obtain ⟨q, hc, hkq, hq1, hlk⟩ := hf
  have he := fc_w_at (β := β) (as := as) (I := I) (P := P) hs
  rw [fc_cell_o] at he
  refine va_get C.1 C.2.1 C.2.2.2.2.1 (fc_in ci q hc) C.2.2.2.1 hW.2.2 hW.1 c he hc k hkq (C.2.2.2.2.1 _ hlk) (fun x h => by rw [hq1] at h; exact h) (v := .int (I c k)) ?_ hd (kk p l e R s mm args below meth cd β D A as H locs cells slots Nt Zt lsA QF C hb h1 hW hS hl hF)
  simp [hk, fc_fv, hr]
theorem ft_getR {ci k idx c N v : Nat} (hf : fc_fl m.1.cls idx ci k) (hr : fc_isR (fc_ty ci k) = true) (hs : sh[c]? = some (10 + ci, N)) (hk : k < N) (hv : P c k = some v) (hd : decode m.2.1 pc = .ok (.getfield idx, 3)) (kk : fc_T m d nb zb (pc + 3) ls (.ref v :: st) sh I P Q) : fc_T m d nb zb pc ls (.ref c :: st) sh I P Q := fun p l e R s mm args below meth cd β D A as H locs cells slots Nt Zt lsA QF C hb h1 hW hS hl hF => by
  obtain ⟨q, hc, hkq, hq1, hlk⟩ := hf
  have he := fc_w_at (β := β) (as := as) (I := I) (P := P) hs
  rw [fc_cell_o] at he
  refine va_get C.1 C.2.1 C.2.2.2.2.1 (fc_in ci q hc) C.2.2.2.1 hW.2.2 hW.1 c he hc k hkq (C.2.2.2.2.1 _ hlk) (fun x h => by rw [hq1] at h; exact h) (v := .ref (as v)) ?_ hd (kk p l e R s mm args below meth cd β D A as H locs cells slots Nt Zt lsA QF C hb h1 hW hS hl hF)
  simp [hk, fc_fv, hr, hv, va_rf]
theorem fc_fs_I {as : Nat → Nat} {I : fc_I} {P : fc_P} {c ci N k : Nat} {x : Int32} (hr : fc_isR (fc_ty ci k) = false) : ((List.range N).map (fun j => fc_fv as I P c ci j)).set k (.int x) = (List.range N).map (fun j => fc_fv as (fc_wI I c k x) P c ci j) := by
  apply List.ext_getElem?
  intro i
  rw [List.getElem?_set]
  by_cases e : k = i
  · subst e
    rw [if_pos rfl]
    by_cases hk : k < N
    · simp [hk, fc_fv, hr, fc_wI]
    · simp [hk]
  · rw [if_neg e]
    by_cases hi : i < N
    · have e2 : ¬ i = k := fun z => e z.symm
      simp [hi, fc_fv, fc_wI, e2]
    · simp [hi]
theorem fc_fs_R {as : Nat → Nat} {I : fc_I} {P : fc_P} {c ci N k v : Nat} (hr : fc_isR (fc_ty ci k) = true) : ((List.range N).map (fun j => fc_fv as I P c ci j)).set k (.ref (as v)) = (List.range N).map (fun j => fc_fv as I (fc_wP P c k v) c ci j) := by
  apply List.ext_getElem?
  intro i
  rw [List.getElem?_set]
  by_cases e : k = i
  · subst e
    rw [if_pos rfl]
    by_cases hk : k < N
    · simp [hk, fc_fv, hr, fc_wP, va_rf]
    · simp [hk]
  · rw [if_neg e]
    by_cases hi : i < N
    · have e2 : ¬ i = k := fun z => e z.symm
      simp [hi, fc_fv, fc_wP, e2]
    · simp [hi]
theorem ft_putI {ci k idx c N : Nat} {x : Int32} (hf : fc_fl m.1.cls idx ci k) (hr : fc_ty ci k = .int) (hnf : ∀ q, fc_cl[ci]? = some q → (q.2.1 k).2.2.2 = false) (hs : sh[c]? = some (10 + ci, N)) (hk : k < N) (hd : decode m.2.1 pc = .ok (.putfield idx, 3)) (kk : fc_T m d nb zb (pc + 3) ls st sh (fc_wI I c k x) P Q) : fc_T m d nb zb pc ls (.int x :: .ref c :: st) sh I P Q := fun p l e R s mm args below meth cd β D A as H locs cells slots Nt Zt lsA QF C hb h1 hW hS hl hF => by
  obtain ⟨q, hc, hkq, hq1, hlk⟩ := hf
  have he := fc_w_at (β := β) (as := as) (I := I) (P := P) hs
  rw [fc_cell_o] at he
  obtain ⟨hnm, hty⟩ := fc_nm ci q hc
  have hR : fc_isR (fc_ty ci k) = false := by rw [hr]; rfl
  refine va_put C.1 C.2.1 C.2.2.2.2.1 (fc_in ci q hc) (fc_ty ci) hty hnm C.2.2.2.1 hW.2.2 hW.1 hW.2.1 hS c he hc k hkq (C.2.2.2.2.1 _ hlk) (fun x h => by rw [hq1] at h; exact h) (hnf q hc) (v := .int x) (hty k hkq) (by rw [hr]; rfl) (by rw [hr]; rfl) (by simpa using hk) hd (fun H1 locs1 hP1 hD1 hS1 => ?_)
  have e1 : (fc_w β as sh I P).set c (as c, .inr (ci, ((List.range N).map (fun j => fc_fv as I P c ci j)).set k (.int x))) = fc_w β as sh (fc_wI I c k x) P := by
    rw [fc_fs_I hR, ← fc_cell_o (β := β), fc_w_set hs (fun c' h => fc_wI_ne h) (fun c' h => rfl)]
  rw [e1] at hP1 hD1
  exact kk p l e R s mm args below meth cd β D A as H1 locs1 cells slots Nt Zt lsA QF C hb h1 ⟨hP1, hD1, hW.2.2⟩ hS1 hl hF
theorem fc_ok.put {sh : fc_Sh} {P : fc_P} {c k v : Nat} (h : fc_ok sh P) (hv : v < sh.length) : fc_ok sh (fc_wP P c k v) := by
  refine ⟨h.1, fun c' j w hw => ?_⟩
  unfold fc_wP at hw
  split at hw
  · cases hw; exact hv
  · exact h.2 c' j w hw
theorem fc_nar_R {t : FieldType} {a : Nat} (h : fc_isR t = true) : narrow t (.ref a) = .ref a ∧ fits t (.ref a) = true := by
  cases t <;> first | (simp [fc_isR] at h; done) | exact ⟨rfl, rfl⟩
theorem ft_putR {ci k idx c N v : Nat} (hf : fc_fl m.1.cls idx ci k) (hr : fc_isR (fc_ty ci k) = true) (hnf : ∀ q, fc_cl[ci]? = some q → (q.2.1 k).2.2.2 = false) (hs : sh[c]? = some (10 + ci, N)) (hk : k < N) (hv : v < sh.length) (hd : decode m.2.1 pc = .ok (.putfield idx, 3)) (kk : fc_T m d nb zb (pc + 3) ls st sh I (fc_wP P c k v) Q) : fc_T m d nb zb pc ls (.ref v :: .ref c :: st) sh I P Q := fun p l e R s mm args below meth cd β D A as H locs cells slots Nt Zt lsA QF C hb h1 hW hS hl hF => by
  obtain ⟨q, hc, hkq, hq1, hlk⟩ := hf
  have he := fc_w_at (β := β) (as := as) (I := I) (P := P) hs
  rw [fc_cell_o] at he
  obtain ⟨hnm, hty⟩ := fc_nm ci q hc
  refine va_put C.1 C.2.1 C.2.2.2.2.1 (fc_in ci q hc) (fc_ty ci) hty hnm C.2.2.2.1 hW.2.2 hW.1 hW.2.1 hS c he hc k hkq (C.2.2.2.2.1 _ hlk) (fun x h => by rw [hq1] at h; exact h) (hnf q hc) (v := .ref (as v)) (hty k hkq) (fc_nar_R hr).1 (fc_nar_R hr).2 (by simpa using hk) hd (fun H1 locs1 hP1 hD1 hS1 => ?_)
  have e1 : (fc_w β as sh I P).set c (as c, .inr (ci, ((List.range N).map (fun j => fc_fv as I P c ci j)).set k (.ref (as v)))) = fc_w β as sh I (fc_wP P c k v) := by
    rw [fc_fs_R hr, ← fc_cell_o (β := β), fc_w_set hs (fun c' h => rfl) (fun c' h => fc_wP_ne h)]
  rw [e1] at hP1 hD1
  exact kk p l e R s mm args below meth cd β D A as H1 locs1 cells slots Nt Zt lsA QF C hb (h1.put hv) ⟨hP1, hD1, hW.2.2⟩ hS1 hl hF
theorem ft_putRF {ci k idx c N v : Nat} (hf : fc_fl m.1.cls idx ci k) (hr : fc_isR (fc_ty ci k) = true) (hnf : ∀ q, fc_cl[ci]? = some q → (q.2.1 k).2.2.2 = true ∧ q.1 = m.1.cls) (hin : m.1.name = "<init>") (hs : sh[c]? = some (10 + ci, N)) (hk : k < N) (hv : v < sh.length) (hd : decode m.2.1 pc = .ok (.putfield idx, 3)) (kk : fc_T m d nb zb (pc + 3) ls st sh I (fc_wP P c k v) Q) : fc_T m d nb zb pc ls (.ref v :: .ref c :: st) sh I P Q := fun p l e R s mm args below meth cd β D A as H locs cells slots Nt Zt lsA QF C hb h1 hW hS hl hF => by
  obtain ⟨q, hc, hkq, hq1, hlk⟩ := hf
  have he := fc_w_at (β := β) (as := as) (I := I) (P := P) hs
  rw [fc_cell_o] at he
  obtain ⟨hnm, hty⟩ := fc_nm ci q hc
  refine va_putF C.1 C.2.1 C.2.2.2.2.1 (fc_in ci q hc) (fc_ty ci) hty hnm C.2.2.2.1 hW.2.2 hW.1 hW.2.1 hS c he hc k hkq (C.2.2.2.2.1 _ hlk) (fun x h => by rw [hq1] at h; exact h) (hnf q hc).1 (C.2.2.2.2.2.1 hin) (hq1.trans (hnf q hc).2) (v := .ref (as v)) (hty k hkq) (fc_nar_R hr).1 (fc_nar_R hr).2 (by simpa using hk) hd (fun H1 locs1 hP1 hD1 hS1 => ?_)
  have e1 : (fc_w β as sh I P).set c (as c, .inr (ci, ((List.range N).map (fun j => fc_fv as I P c ci j)).set k (.ref (as v)))) = fc_w β as sh I (fc_wP P c k v) := by
    rw [fc_fs_R hr, ← fc_cell_o (β := β), fc_w_set hs (fun c' h => rfl) (fun c' h => fc_wP_ne h)]
  rw [e1] at hP1 hD1
  exact kk p l e R s mm args below meth cd β D A as H1 locs1 cells slots Nt Zt lsA QF C hb (h1.put hv) ⟨hP1, hD1, hW.2.2⟩ hS1 hl hF

theorem ft_iald {c N : Nat} {i : Int32} (hs : sh[c]? = some (0, N)) (hi : vp_in i N) (hd : decode m.2.1 pc = .ok (.iaload, 1)) (kk : fc_T m d nb zb (pc + 1) ls (.int (I c (cn i)) :: st) sh I P Q) : fc_T m d nb zb pc ls (.int i :: .ref c :: st) sh I P Q := fun p l e R s mm args below meth cd β D A as H locs cells slots Nt Zt lsA QF C hb h1 hW hS hl hF => by
  have he := fc_w_at (β := β) (as := as) (I := I) (P := P) hs
  rw [fc_cell_a (by decide)] at he
  exact va_iald C.1 C.2.1 hW.2.2 hW.1 c 0 he rfl hi hd (kk p l e R s mm args below meth cd β D A as H locs cells slots Nt Zt lsA QF C hb h1 hW hS hl hF)
theorem ft_bald {c N : Nat} {i : Int32} (hs : sh[c]? = some (1, N)) (hi : vp_in i N) (hd : decode m.2.1 pc = .ok (.baload, 1)) (kk : fc_T m d nb zb (pc + 1) ls (.int (I c (cn i)) :: st) sh I P Q) : fc_T m d nb zb pc ls (.int i :: .ref c :: st) sh I P Q := fun p l e R s mm args below meth cd β D A as H locs cells slots Nt Zt lsA QF C hb h1 hW hS hl hF => by
  have he := fc_w_at (β := β) (as := as) (I := I) (P := P) hs
  rw [fc_cell_a (by decide)] at he
  exact va_bald C.1 C.2.1 hW.2.2 hW.1 c 1 he rfl hi hd (kk p l e R s mm args below meth cd β D A as H locs cells slots Nt Zt lsA QF C hb h1 hW hS hl hF)
theorem ft_zald {c N : Nat} {i : Int32} (hs : sh[c]? = some (2, N)) (hi : vp_in i N) (hd : decode m.2.1 pc = .ok (.baload, 1)) (kk : fc_T m d nb zb (pc + 1) ls (.int (I c (cn i)) :: st) sh I P Q) : fc_T m d nb zb pc ls (.int i :: .ref c :: st) sh I P Q := fun p l e R s mm args below meth cd β D A as H locs cells slots Nt Zt lsA QF C hb h1 hW hS hl hF => by
  have he := fc_w_at (β := β) (as := as) (I := I) (P := P) hs
  rw [fc_cell_a (by decide)] at he
  exact va_zald C.1 C.2.1 hW.2.2 hW.1 c 2 he rfl hi hd (kk p l e R s mm args below meth cd β D A as H locs cells slots Nt Zt lsA QF C hb h1 hW hS hl hF)
theorem ft_cald {c N : Nat} {i : Int32} (hs : sh[c]? = some (3, N)) (hi : vp_in i N) (hd : decode m.2.1 pc = .ok (.caload, 1)) (kk : fc_T m d nb zb (pc + 1) ls (.int (I c (cn i)) :: st) sh I P Q) : fc_T m d nb zb pc ls (.int i :: .ref c :: st) sh I P Q := fun p l e R s mm args below meth cd β D A as H locs cells slots Nt Zt lsA QF C hb h1 hW hS hl hF => by
  have he := fc_w_at (β := β) (as := as) (I := I) (P := P) hs
  rw [fc_cell_a (by decide)] at he
  exact va_cald C.1 C.2.1 hW.2.2 hW.1 c 3 he rfl hi hd (kk p l e R s mm args below meth cd β D A as H locs cells slots Nt Zt lsA QF C hb h1 hW hS hl hF)
theorem ft_iast {c N : Nat} {i x y : Int32} (hs : sh[c]? = some (0, N)) (hi : vp_in i N) (hy : x = y) (hd : decode m.2.1 pc = .ok (.iastore, 1)) (kk : fc_T m d nb zb (pc + 1) ls st sh (fc_wI I c (cn i) y) P Q) : fc_T m d nb zb pc ls (.int x :: .int i :: .ref c :: st) sh I P Q := fun p l e R s mm args below meth cd β D A as H locs cells slots Nt Zt lsA QF C hb h1 hW hS hl hF => by
  subst hy
  have he := fc_w_at (β := β) (as := as) (I := I) (P := P) hs
  rw [fc_cell_a (by decide)] at he
  refine va_iast C.1 C.2.1 hW.2.2 hW.1 hW.2.1 hS c 0 he rfl hi hd (fun H1 locs1 hP1 hD1 hS1 => ?_)
  rw [← fc_wI_c, ← fc_cell_a (β := β) (as := as) (P := P) (by decide : 0 < 4), fc_w_set hs (fun c' h => fc_wI_ne h) (fun c' h => rfl)] at hP1 hD1
  exact kk p l e R s mm args below meth cd β D A as H1 locs1 cells slots Nt Zt lsA QF C hb h1 ⟨hP1, hD1, hW.2.2⟩ hS1 hl hF
theorem ft_bast {c N : Nat} {i x y : Int32} (hs : sh[c]? = some (1, N)) (hi : vp_in i N) (hy : (vp_nar .byte x) = y) (hd : decode m.2.1 pc = .ok (.bastore, 1)) (kk : fc_T m d nb zb (pc + 1) ls st sh (fc_wI I c (cn i) y) P Q) : fc_T m d nb zb pc ls (.int x :: .int i :: .ref c :: st) sh I P Q := fun p l e R s mm args below meth cd β D A as H locs cells slots Nt Zt lsA QF C hb h1 hW hS hl hF => by
  subst hy
  have he := fc_w_at (β := β) (as := as) (I := I) (P := P) hs
  rw [fc_cell_a (by decide)] at he
  refine va_bast C.1 C.2.1 hW.2.2 hW.1 hW.2.1 hS c 1 he rfl hi hd (fun H1 locs1 hP1 hD1 hS1 => ?_)
  rw [← fc_wI_c, ← fc_cell_a (β := β) (as := as) (P := P) (by decide : 1 < 4), fc_w_set hs (fun c' h => fc_wI_ne h) (fun c' h => rfl)] at hP1 hD1
  exact kk p l e R s mm args below meth cd β D A as H1 locs1 cells slots Nt Zt lsA QF C hb h1 ⟨hP1, hD1, hW.2.2⟩ hS1 hl hF
theorem ft_zast {c N : Nat} {i x y : Int32} (hs : sh[c]? = some (2, N)) (hi : vp_in i N) (hy : (vp_nar .boolean x) = y) (hd : decode m.2.1 pc = .ok (.bastore, 1)) (kk : fc_T m d nb zb (pc + 1) ls st sh (fc_wI I c (cn i) y) P Q) : fc_T m d nb zb pc ls (.int x :: .int i :: .ref c :: st) sh I P Q := fun p l e R s mm args below meth cd β D A as H locs cells slots Nt Zt lsA QF C hb h1 hW hS hl hF => by
  subst hy
  have he := fc_w_at (β := β) (as := as) (I := I) (P := P) hs
  rw [fc_cell_a (by decide)] at he
  refine va_zast C.1 C.2.1 hW.2.2 hW.1 hW.2.1 hS c 2 he rfl hi hd (fun H1 locs1 hP1 hD1 hS1 => ?_)
  rw [← fc_wI_c, ← fc_cell_a (β := β) (as := as) (P := P) (by decide : 2 < 4), fc_w_set hs (fun c' h => fc_wI_ne h) (fun c' h => rfl)] at hP1 hD1
  exact kk p l e R s mm args below meth cd β D A as H1 locs1 cells slots Nt Zt lsA QF C hb h1 ⟨hP1, hD1, hW.2.2⟩ hS1 hl hF
theorem ft_cast {c N : Nat} {i x y : Int32} (hs : sh[c]? = some (3, N)) (hi : vp_in i N) (hy : (vp_nar .char x) = y) (hd : decode m.2.1 pc = .ok (.castore, 1)) (kk : fc_T m d nb zb (pc + 1) ls st sh (fc_wI I c (cn i) y) P Q) : fc_T m d nb zb pc ls (.int x :: .int i :: .ref c :: st) sh I P Q := fun p l e R s mm args below meth cd β D A as H locs cells slots Nt Zt lsA QF C hb h1 hW hS hl hF => by
  subst hy
  have he := fc_w_at (β := β) (as := as) (I := I) (P := P) hs
  rw [fc_cell_a (by decide)] at he
  refine va_cast C.1 C.2.1 hW.2.2 hW.1 hW.2.1 hS c 3 he rfl hi hd (fun H1 locs1 hP1 hD1 hS1 => ?_)
  rw [← fc_wI_c, ← fc_cell_a (β := β) (as := as) (P := P) (by decide : 3 < 4), fc_w_set hs (fun c' h => fc_wI_ne h) (fun c' h => rfl)] at hP1 hD1
  exact kk p l e R s mm args below meth cd β D A as H1 locs1 cells slots Nt Zt lsA QF C hb h1 ⟨hP1, hD1, hW.2.2⟩ hS1 hl hF
theorem ft_aald {c N v : Nat} {i : Int32} (hs : sh[c]? = some (4, N)) (hi : vp_in i N) (hv : P c (cn i) = some v) (hd : decode m.2.1 pc = .ok (.aaload, 1)) (kk : fc_T m d nb zb (pc + 1) ls (.ref v :: st) sh I P Q) : fc_T m d nb zb pc ls (.int i :: .ref c :: st) sh I P Q := fun p l e R s mm args below meth cd β D A as H locs cells slots Nt Zt lsA QF C hb h1 hW hS hl hF => by
  have he := fc_w_at (β := β) (as := as) (I := I) (P := P) hs
  rw [fc_cell_r] at he
  have hlt : i.toNatClampNeg < N := Nat.not_le.mp fun q => hi (Or.inr q)
  exact W.aald (v := .ref (as v)) (ty := .array .int) C.1 C.2.1 (hW.1 c _ he) ((hW.2.2.2 4 _ rfl).1 N (fun j => va_rf ((P c j).map as))) rfl (fun q => by cases q) (by show ¬ (i < 0 ∨ (arrV _ _ _).slots.size ≤ _); rw [arrV_size]; exact hi) (by show (arrV _ _ _).slots[_]? = _; rw [arrV_read _ _ hlt]; show some (va_rf ((P c i.toNatClampNeg).map as)) = _; rw [hv]; rfl) rfl rfl hd (kk p l e R s mm args below meth cd β D A as H locs cells slots Nt Zt lsA QF C hb h1 hW hS hl hF)
theorem ft_alen {c t N : Nat} {v : Int32} (hs : sh[c]? = some (t, N)) (ht : t < 4) (hv : Int32.ofNat N = v) (hd : decode m.2.1 pc = .ok (.arraylength, 1)) (kk : fc_T m d nb zb (pc + 1) ls (.int v :: st) sh I P Q) : fc_T m d nb zb pc ls (.ref c :: st) sh I P Q := fun p l e R s mm args below meth cd β D A as H locs cells slots Nt Zt lsA QF C hb h1 hW hS hl hF => by
  have he := fc_w_at (β := β) (as := as) (I := I) (P := P) hs
  rw [fc_cell_a ht] at he
  have hk := kk p l e R s mm args below meth cd β D A as H locs cells slots Nt Zt lsA QF C hb h1 hW hS hl hF
  match t, ht with
  | 0, _ => exact va_alen C.1 C.2.1 hW.2.2 hW.1 c 0 he rfl hv hd hk
  | 1, _ => exact va_alen C.1 C.2.1 hW.2.2 hW.1 c 1 he rfl hv hd hk
  | 2, _ => exact va_alen C.1 C.2.1 hW.2.2 hW.1 c 2 he rfl hv hd hk
  | 3, _ => exact va_alen C.1 C.2.1 hW.2.2 hW.1 c 3 he rfl hv hd hk
def fc_cpI (I : fc_I) (c0 c1 sp dp n : Nat) : fc_I := fun c' k => if c' = c1 then va_cpy (I c0) (I c1) sp dp n k else I c' k
/-- System.arraycopy over ints -/
theorem ft_copy {c0 c1 N0 N1 idx : Nat} {sp dp n : Int32} (hw : Cond.methodLink m.1.cls idx arraycopyName ∈ fc_tbl ∧ Cond.native arraycopyName ∈ fc_tbl ∧ Cond.static arraycopyName ∈ fc_tbl ∧ Cond.initialized "java/lang/System" ∈ fc_tbl) (hs0 : sh[c0]? = some (0, N0)) (hs1 : sh[c1]? = some (0, N1)) (h1 : ¬ sp < 0) (h2 : ¬ dp < 0) (h3 : ¬ n < 0) (h4 : cn sp + cn n ≤ N0) (h5 : cn dp + cn n ≤ N1) (hst : (st.map fun v => v.category).sum ≤ 8) (hd : decode m.2.1 pc = .ok (.invokestatic idx, 3)) (kk : fc_T m (d + 1) nb zb (pc + 3) ls st sh (fc_cpI I c0 c1 (cn sp) (cn dp) (cn n)) P Q) : fc_T m (d + 1) nb zb pc ls (.int n :: .int dp :: .ref c1 :: .int sp :: .ref c0 :: st) sh I P Q := fun p l e R s mm args below meth cd β D A as H locs cells slots Nt Zt lsA QF C hb h1' hW hS hl hF => by
  have he0 := fc_w_at (β := β) (as := as) (I := I) (P := P) hs0
  have he1 := fc_w_at (β := β) (as := as) (I := I) (P := P) hs1
  rw [fc_cell_a (by decide)] at he0 he1
  have hc : ((st.map (fc_cv as)).map fun v => v.category).sum ≤ 8 := by rw [List.map_map, show ((fun v : Value => v.category) ∘ fc_cv as) = (fun v => v.category) from funext (fc_cv_cat as)]; exact hst
  obtain ⟨hx, hbb, hml, hown, hts, hnm, hfr, hlo, hA, hE, hscr⟩ := id C
  refine va_copyi hx hbb (hml.trans hl.1.symm) hown (hts _ hw.1) (hts _ hw.2.1) (hts _ hw.2.2.1) (hts _ hw.2.2.2) hW.2.2 hW.1 hW.2.1 hS c0 c1 0 0 he0 he1 rfl rfl rfl h1 h2 h3 h4 h5 (fun i _ => rfl) (by omega) ?_ hd (fun H1 locs1 hP1 hD1 hS1 => ?_)
  · have e : nativeFrameWords "java/lang/System" "arraycopy" 5 ≤ 40 := by decide +kernel
    omega
  · have e1 : va_cpy (I c0) (I c1) sp.toNatClampNeg dp.toNatClampNeg n.toNatClampNeg = fc_cpI I c0 c1 sp.toNatClampNeg dp.toNatClampNeg n.toNatClampNeg c1 := by
      funext k
      simp [fc_cpI]
    rw [e1, ← fc_cell_a (β := β) (as := as) (P := P) (by decide : 0 < 4), fc_w_set hs1 (fun c' h => by funext k; simp [fc_cpI, h]) (fun c' h => rfl)] at hP1 hD1
    exact kk p l e R s mm args below meth cd β D A as H1 locs1 cells slots Nt Zt lsA QF C hb h1' ⟨hP1, hD1, hW.2.2⟩ hS1 hl hF
theorem fc_cat8 {as : Nat → Nat} {st : List Value} (h : (st.map fun v => v.category).sum ≤ 8) : ((st.map (fc_cv as)).map fun v => v.category).sum ≤ 8 := by
  rw [List.map_map, show ((fun v : Value => v.category) ∘ fc_cv as) = (fun v => v.category) from funext (fc_cv_cat as)]; exact h
theorem ft_mmax {idx : Nat} {x y : Int32} (hw : Cond.methodLink m.1.cls idx Lib.Math.max.name ∈ fc_tbl ∧ Cond.static Lib.Math.max.name ∈ fc_tbl ∧ Cond.initialized "java/lang/Math" ∈ fc_tbl ∧ Cond.code Lib.Math.max.name Lib.Math.max.code 2 (some .int) ∈ fc_tbl) (hst : (st.map fun v => v.category).sum ≤ 8) (hd : decode m.2.1 pc = .ok (.invokestatic idx, 3)) (kk : fc_T m (d + 1) nb zb (pc + 3) ls (.int (if x < y then y else x) :: st) sh I P Q) : fc_T m (d + 1) nb zb pc ls (.int y :: .int x :: st) sh I P Q := fun p l e R s mm args below meth cd β D A as H locs cells slots Nt Zt lsA QF C hb h1 hW hS hl hF => by
  have hc := fc_cat8 (as := as) hst
  obtain ⟨hx, hbb, hml, hown, hts, hnm, hfr, hlo, hA, hE, hscr⟩ := id C
  exact va_mmax hx hbb (hml.trans hl.1.symm) hown (hts _ hw.1) (hts _ hw.2.1) (hts _ hw.2.2.1) (hts _ hw.2.2.2) (by omega) (by omega) (by omega) (by omega) hd (kk p l e R s mm args below meth cd β D A as H locs cells slots Nt Zt lsA QF C hb h1 hW hS hl hF)
theorem ft_mmin {idx : Nat} {x y : Int32} (hw : Cond.methodLink m.1.cls idx Lib.Math.min.name ∈ fc_tbl ∧ Cond.static Lib.Math.min.name ∈ fc_tbl ∧ Cond.initialized "java/lang/Math" ∈ fc_tbl ∧ Cond.code Lib.Math.min.name Lib.Math.min.code 2 (some .int) ∈ fc_tbl) (hst : (st.map fun v => v.category).sum ≤ 8) (hd : decode m.2.1 pc = .ok (.invokestatic idx, 3)) (kk : fc_T m (d + 1) nb zb (pc + 3) ls (.int (if y < x then y else x) :: st) sh I P Q) : fc_T m (d + 1) nb zb pc ls (.int y :: .int x :: st) sh I P Q := fun p l e R s mm args below meth cd β D A as H locs cells slots Nt Zt lsA QF C hb h1 hW hS hl hF => by
  have hc := fc_cat8 (as := as) hst
  obtain ⟨hx, hbb, hml, hown, hts, hnm, hfr, hlo, hA, hE, hscr⟩ := id C
  exact va_mmin hx hbb (hml.trans hl.1.symm) hown (hts _ hw.1) (hts _ hw.2.1) (hts _ hw.2.2.1) (hts _ hw.2.2.2) (by omega) (by omega) (by omega) (by omega) hd (kk p l e R s mm args below meth cd β D A as H locs cells slots Nt Zt lsA QF C hb h1 hW hS hl hF)
theorem ft_objInit {idx a : Nat} (hw : Cond.methodLink m.1.cls idx objectInit ∈ fc_tbl ∧ Cond.instanceMethod objectInit ∈ fc_tbl ∧ Cond.code objectInit ⟨#[0xb1]⟩ 1 none ∈ fc_tbl) (hst : (st.map fun v => v.category).sum ≤ 8) (hd : decode m.2.1 pc = .ok (.invokespecial idx, 3)) (kk : fc_T m (d + 1) nb zb (pc + 3) ls st sh I P Q) : fc_T m (d + 1) nb zb pc ls (.ref a :: st) sh I P Q := fun p l e R s mm args below meth cd β D A as H locs cells slots Nt Zt lsA QF C hb h1 hW hS hl hF => by
  have hc := fc_cat8 (as := as) hst
  obtain ⟨hx, hbb, hml, hown, hts, hnm, hfr, hlo, hA, hE, hscr⟩ := id C
  exact W.objInit hx hbb hown (hts _ hw.1) (hts _ hw.2.1) (hts _ hw.2.2) rfl (hl.1.trans hml.symm) rfl hd (by omega) (by show 2 * 0 + _ + 12 ≤ _; omega) (kk p l e R s mm args below meth cd β D A as H locs cells slots Nt Zt lsA QF C hb h1 hW hS hl hF)
end HEAP
