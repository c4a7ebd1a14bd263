abbrev I00 : fc_I := fun _ _ => 0
abbrev P00 : fc_P := fun _ _ => none
def cI_2 (J : fc_I) : fc_I := cI_k_X11_init (fc_zI (cI_1 J) 78)
def cP_2 (w : Nat) : fc_P := cP_k_X11_init (fc_zP (cP_1 (fc_zP P00 0) w) 78)
set_option maxHeartbeats 4000000 in
set_option maxRecDepth 100000 in
theorem pw_0 {w : Nat} : ∀ k, k < 9 → cP_2 w 0 k = fc_PT w 0 k := by
  intro k hk
  rcases (show k = 0 ∨ k = 1 ∨ k = 2 ∨ k = 3 ∨ k = 4 ∨ k = 5 ∨ k = 6 ∨ k = 7 ∨ k = 8 by omega) with rfl | rfl | rfl | rfl | rfl | rfl | rfl | rfl | rfl <;> rfl
set_option maxHeartbeats 4000000 in
set_option maxRecDepth 100000 in
theorem pw_1 {w : Nat} : ∀ k, k < 4 → cP_2 w 1 k = fc_PT w 1 k := by
  intro k hk
  rcases (show k = 0 ∨ k = 1 ∨ k = 2 ∨ k = 3 by omega) with rfl | rfl | rfl | rfl <;> rfl
set_option maxHeartbeats 4000000 in
set_option maxRecDepth 100000 in
theorem pw_4 {w : Nat} : ∀ k, k < 6 → cP_2 w 4 k = fc_PT w 4 k := by
  intro k hk
  rcases (show k = 0 ∨ k = 1 ∨ k = 2 ∨ k = 3 ∨ k = 4 ∨ k = 5 by omega) with rfl | rfl | rfl | rfl | rfl | rfl <;> rfl
set_option maxHeartbeats 4000000 in
set_option maxRecDepth 100000 in
theorem pw_10 {w : Nat} : ∀ k, k < 5 → cP_2 w 10 k = fc_PT w 10 k := by
  intro k hk
  rcases (show k = 0 ∨ k = 1 ∨ k = 2 ∨ k = 3 ∨ k = 4 by omega) with rfl | rfl | rfl | rfl | rfl <;> rfl
set_option maxHeartbeats 4000000 in
set_option maxRecDepth 100000 in
theorem pw_15 {w : Nat} : ∀ k, k < 12 → cP_2 w 15 k = fc_PT w 15 k := by
  intro k hk
  rcases (show k = 0 ∨ k = 1 ∨ k = 2 ∨ k = 3 ∨ k = 4 ∨ k = 5 ∨ k = 6 ∨ k = 7 ∨ k = 8 ∨ k = 9 ∨ k = 10 ∨ k = 11 by omega) with rfl | rfl | rfl | rfl | rfl | rfl | rfl | rfl | rfl | rfl | rfl | rfl <;> rfl
set_option maxHeartbeats 4000000 in
set_option maxRecDepth 100000 in
theorem pw_31 {w : Nat} : ∀ k, k < 9 → cP_2 w 31 k = fc_PT w 31 k := by
  intro k hk
  rcases (show k = 0 ∨ k = 1 ∨ k = 2 ∨ k = 3 ∨ k = 4 ∨ k = 5 ∨ k = 6 ∨ k = 7 ∨ k = 8 by omega) with rfl | rfl | rfl | rfl | rfl | rfl | rfl | rfl | rfl <;> rfl
set_option maxHeartbeats 4000000 in
set_option maxRecDepth 100000 in
theorem pw_43 {w : Nat} : ∀ k, k < 10 → cP_2 w 43 k = fc_PT w 43 k := by
  intro k hk
  rcases (show k = 0 ∨ k = 1 ∨ k = 2 ∨ k = 3 ∨ k = 4 ∨ k = 5 ∨ k = 6 ∨ k = 7 ∨ k = 8 ∨ k = 9 by omega) with rfl | rfl | rfl | rfl | rfl | rfl | rfl | rfl | rfl | rfl <;> rfl
set_option maxHeartbeats 4000000 in
set_option maxRecDepth 100000 in
theorem pw_45 {w : Nat} : ∀ k, k < 10 → cP_2 w 45 k = fc_PT w 45 k := by
  intro k hk
  rcases (show k = 0 ∨ k = 1 ∨ k = 2 ∨ k = 3 ∨ k = 4 ∨ k = 5 ∨ k = 6 ∨ k = 7 ∨ k = 8 ∨ k = 9 by omega) with rfl | rfl | rfl | rfl | rfl | rfl | rfl | rfl | rfl | rfl <;> rfl
set_option maxHeartbeats 4000000 in
set_option maxRecDepth 100000 in
theorem pw_54 {w : Nat} : ∀ k, k < 7 → cP_2 w 54 k = fc_PT w 54 k := by
  intro k hk
  rcases (show k = 0 ∨ k = 1 ∨ k = 2 ∨ k = 3 ∨ k = 4 ∨ k = 5 ∨ k = 6 by omega) with rfl | rfl | rfl | rfl | rfl | rfl | rfl <;> rfl
set_option maxHeartbeats 4000000 in
set_option maxRecDepth 100000 in
theorem pw_57 {w : Nat} : ∀ k, k < 8 → cP_2 w 57 k = fc_PT w 57 k := by
  intro k hk
  rcases (show k = 0 ∨ k = 1 ∨ k = 2 ∨ k = 3 ∨ k = 4 ∨ k = 5 ∨ k = 6 ∨ k = 7 by omega) with rfl | rfl | rfl | rfl | rfl | rfl | rfl | rfl <;> rfl
set_option maxHeartbeats 4000000 in
set_option maxRecDepth 100000 in
theorem pw_58 {w : Nat} : ∀ k, k < 10 → cP_2 w 58 k = fc_PT w 58 k := by
  intro k hk
  rcases (show k = 0 ∨ k = 1 ∨ k = 2 ∨ k = 3 ∨ k = 4 ∨ k = 5 ∨ k = 6 ∨ k = 7 ∨ k = 8 ∨ k = 9 by omega) with rfl | rfl | rfl | rfl | rfl | rfl | rfl | rfl | rfl | rfl <;> rfl
set_option maxHeartbeats 4000000 in
set_option maxRecDepth 100000 in
theorem pw_70 {w : Nat} : ∀ k, k < 3 → cP_2 w 70 k = fc_PT w 70 k := by
  intro k hk
  rcases (show k = 0 ∨ k = 1 ∨ k = 2 by omega) with rfl | rfl | rfl <;> rfl
set_option maxHeartbeats 4000000 in
set_option maxRecDepth 100000 in
theorem pw_78 {w : Nat} : ∀ k, k < 75 → cP_2 w 78 k = fc_PT w 78 k := by
  intro k hk
  rcases (show k = 0 ∨ k = 1 ∨ k = 2 ∨ k = 3 ∨ k = 4 ∨ k = 5 ∨ k = 6 ∨ k = 7 ∨ k = 8 ∨ k = 9 ∨ k = 10 ∨ k = 11 ∨ k = 12 ∨ k = 13 ∨ k = 14 ∨ k = 15 ∨ k = 16 ∨ k = 17 ∨ k = 18 ∨ k = 19 ∨ k = 20 ∨ k = 21 ∨ k = 22 ∨ k = 23 ∨ k = 24 ∨ k = 25 ∨ k = 26 ∨ k = 27 ∨ k = 28 ∨ k = 29 ∨ k = 30 ∨ k = 31 ∨ k = 32 ∨ k = 33 ∨ k = 34 ∨ k = 35 ∨ k = 36 ∨ k = 37 ∨ k = 38 ∨ k = 39 ∨ k = 40 ∨ k = 41 ∨ k = 42 ∨ k = 43 ∨ k = 44 ∨ k = 45 ∨ k = 46 ∨ k = 47 ∨ k = 48 ∨ k = 49 ∨ k = 50 ∨ k = 51 ∨ k = 52 ∨ k = 53 ∨ k = 54 ∨ k = 55 ∨ k = 56 ∨ k = 57 ∨ k = 58 ∨ k = 59 ∨ k = 60 ∨ k = 61 ∨ k = 62 ∨ k = 63 ∨ k = 64 ∨ k = 65 ∨ k = 66 ∨ k = 67 ∨ k = 68 ∨ k = 69 ∨ k = 70 ∨ k = 71 ∨ k = 72 ∨ k = 73 ∨ k = 74 by omega) with rfl | rfl | rfl | rfl | rfl | rfl | rfl | rfl | rfl | rfl | rfl | rfl | rfl | rfl | rfl | rfl | rfl | rfl | rfl | rfl | rfl | rfl | rfl | rfl | rfl | rfl | rfl | rfl | rfl | rfl | rfl | rfl | rfl | rfl | rfl | rfl | rfl | rfl | rfl | rfl | rfl | rfl | rfl | rfl | rfl | rfl | rfl | rfl | rfl | rfl | rfl | rfl | rfl | rfl | rfl | rfl | rfl | rfl | rfl | rfl | rfl | rfl | rfl | rfl | rfl | rfl | rfl | rfl | rfl | rfl | rfl | rfl | rfl | rfl | rfl <;> rfl
set_option maxHeartbeats 4000000 in
set_option maxRecDepth 100000 in
theorem pw_17 {w : Nat} : ∀ k, cP_2 w 17 k = fc_PT w 17 k := by
  intro k
  have e : cP_2 w 17 k = if k < 3 then some (17 + 1 + k) else none := rfl
  rw [e]
  by_cases hk : k < 3
  · rw [if_pos hk]
    rcases (show k = 0 ∨ k = 1 ∨ k = 2 by omega) with rfl | rfl | rfl <;> rfl
  · rw [if_neg hk]
    obtain ⟨j, rfl⟩ : ∃ j, k = j + 3 := ⟨k - 3, by omega⟩
    simp [fc_PT]
set_option maxHeartbeats 4000000 in
set_option maxRecDepth 100000 in
theorem pw_21 {w : Nat} : ∀ k, cP_2 w 21 k = fc_PT w 21 k := by
  intro k
  have e : cP_2 w 21 k = if k < 3 then some (21 + 1 + k) else none := rfl
  rw [e]
  by_cases hk : k < 3
  · rw [if_pos hk]
    rcases (show k = 0 ∨ k = 1 ∨ k = 2 by omega) with rfl | rfl | rfl <;> rfl
  · rw [if_neg hk]
    obtain ⟨j, rfl⟩ : ∃ j, k = j + 3 := ⟨k - 3, by omega⟩
    simp [fc_PT]
set_option maxHeartbeats 4000000 in
set_option maxRecDepth 100000 in
theorem pw_33 {w : Nat} : ∀ k, cP_2 w 33 k = fc_PT w 33 k := by
  intro k
  have e : cP_2 w 33 k = if k < 6 then some (33 + 1 + k) else none := rfl
  rw [e]
  by_cases hk : k < 6
  · rw [if_pos hk]
    rcases (show k = 0 ∨ k = 1 ∨ k = 2 ∨ k = 3 ∨ k = 4 ∨ k = 5 by omega) with rfl | rfl | rfl | rfl | rfl | rfl <;> rfl
  · rw [if_neg hk]
    obtain ⟨j, rfl⟩ : ∃ j, k = j + 6 := ⟨k - 6, by omega⟩
    simp [fc_PT]
set_option maxHeartbeats 4000000 in
set_option maxRecDepth 100000 in
theorem pw_71 {w : Nat} : ∀ k, cP_2 w 71 k = fc_PT w 71 k := by
  intro k
  have e : cP_2 w 71 k = if k < 4 then some (71 + 1 + k) else none := rfl
  rw [e]
  by_cases hk : k < 4
  · rw [if_pos hk]
    rcases (show k = 0 ∨ k = 1 ∨ k = 2 ∨ k = 3 by omega) with rfl | rfl | rfl | rfl <;> rfl
  · rw [if_neg hk]
    obtain ⟨j, rfl⟩ : ∃ j, k = j + 4 := ⟨k - 4, by omega⟩
    simp [fc_PT]
/-- references that agree where the shape has any -/
def fc_Pq (sh : fc_Sh) (P P' : fc_P) : Prop := ∀ c q, sh[c]? = some q → (10 ≤ q.1 → ∀ k, k < q.2 → P c k = P' c k) ∧ (4 ≤ q.1 → q.1 < 10 → ∀ k, P c k = P' c k)
theorem fc_w_P {β : Nat → ClassId} {as : Nat → Nat} {sh : fc_Sh} {I : fc_I} {P P' : fc_P} (h : fc_Pq sh P P') : fc_w β as sh I P = fc_w β as sh I P' := by
  apply List.ext_getElem?
  intro i
  simp only [fc_w, List.getElem?_mapIdx]
  cases hs : sh[i]? with
  | none => rfl
  | some q =>
    obtain ⟨h1, h2⟩ := h i q hs
    simp only [Option.map_some]
    congr 2
    unfold fc_cell
    by_cases c1 : q.1 < 4
    · rw [if_pos c1, if_pos c1]
    · rw [if_neg c1, if_neg c1]
      by_cases c2 : q.1 < 10
      · rw [if_pos c2, if_pos c2]
        have e : (fun j => (P i j).map as) = (fun j => (P' i j).map as) := funext fun j => by rw [h2 (by omega) c2 j]
        rw [e]
      · rw [if_neg c2, if_neg c2]
        congr 2
        apply List.map_congr_left
        intro k hk
        have hk := List.mem_range.mp hk
        simp only [fc_fv]
        rw [h1 (by omega) k hk]
theorem ft_P {m : fc_MI} {d nb zb pc : Nat} {ls : List (Option Value)} {st : List Value} {sh : fc_Sh} {I : fc_I} {P P' : fc_P} {Q : fc_Q} (h : fc_Pq sh P P') (hok : fc_ok sh P') (k : fc_T m d nb zb pc ls st sh I P' Q) : fc_T m d nb zb pc ls st sh I P Q := fun p l e R s mm args below meth c β D A as H locs cells slots Nt Zt lsA QF C hb h1 hW hS hl hF => by
  refine k p l e R s mm args below meth c β D A as H locs cells slots Nt Zt lsA QF C hb hok ?_ hS hl hF
  obtain ⟨a1, a2, a3⟩ := hW
  rw [fc_w_P h] at a1 a2
  exact ⟨a1, a2, a3⟩
set_option maxHeartbeats 4000000 in
set_option maxRecDepth 100000 in
theorem pq_2 {w : Nat} : fc_Pq fc_SH (cP_2 w) (fc_PT w) := by
  intro c q h
  have hc : c < 131 := (List.getElem?_eq_some_iff.mp h).1
  rcases (show c = 0 ∨ c = 1 ∨ c = 2 ∨ c = 3 ∨ c = 4 ∨ c = 5 ∨ c = 6 ∨ c = 7 ∨ c = 8 ∨ c = 9 ∨ c = 10 ∨ c = 11 ∨ c = 12 ∨ c = 13 ∨ c = 14 ∨ c = 15 ∨ c = 16 ∨ c = 17 ∨ c = 18 ∨ c = 19 ∨ c = 20 ∨ c = 21 ∨ c = 22 ∨ c = 23 ∨ c = 24 ∨ c = 25 ∨ c = 26 ∨ c = 27 ∨ c = 28 ∨ c = 29 ∨ c = 30 ∨ c = 31 ∨ c = 32 ∨ c = 33 ∨ c = 34 ∨ c = 35 ∨ c = 36 ∨ c = 37 ∨ c = 38 ∨ c = 39 ∨ c = 40 ∨ c = 41 ∨ c = 42 ∨ c = 43 ∨ c = 44 ∨ c = 45 ∨ c = 46 ∨ c = 47 ∨ c = 48 ∨ c = 49 ∨ c = 50 ∨ c = 51 ∨ c = 52 ∨ c = 53 ∨ c = 54 ∨ c = 55 ∨ c = 56 ∨ c = 57 ∨ c = 58 ∨ c = 59 ∨ c = 60 ∨ c = 61 ∨ c = 62 ∨ c = 63 ∨ c = 64 ∨ c = 65 ∨ c = 66 ∨ c = 67 ∨ c = 68 ∨ c = 69 ∨ c = 70 ∨ c = 71 ∨ c = 72 ∨ c = 73 ∨ c = 74 ∨ c = 75 ∨ c = 76 ∨ c = 77 ∨ c = 78 ∨ c = 79 ∨ c = 80 ∨ c = 81 ∨ c = 82 ∨ c = 83 ∨ c = 84 ∨ c = 85 ∨ c = 86 ∨ c = 87 ∨ c = 88 ∨ c = 89 ∨ c = 90 ∨ c = 91 ∨ c = 92 ∨ c = 93 ∨ c = 94 ∨ c = 95 ∨ c = 96 ∨ c = 97 ∨ c = 98 ∨ c = 99 ∨ c = 100 ∨ c = 101 ∨ c = 102 ∨ c = 103 ∨ c = 104 ∨ c = 105 ∨ c = 106 ∨ c = 107 ∨ c = 108 ∨ c = 109 ∨ c = 110 ∨ c = 111 ∨ c = 112 ∨ c = 113 ∨ c = 114 ∨ c = 115 ∨ c = 116 ∨ c = 117 ∨ c = 118 ∨ c = 119 ∨ c = 120 ∨ c = 121 ∨ c = 122 ∨ c = 123 ∨ c = 124 ∨ c = 125 ∨ c = 126 ∨ c = 127 ∨ c = 128 ∨ c = 129 ∨ c = 130 by omega) with rfl | rfl | rfl | rfl | rfl | rfl | rfl | rfl | rfl | rfl | rfl | rfl | rfl | rfl | rfl | rfl | rfl | rfl | rfl | rfl | rfl | rfl | rfl | rfl | rfl | rfl | rfl | rfl | rfl | rfl | rfl | rfl | rfl | rfl | rfl | rfl | rfl | rfl | rfl | rfl | rfl | rfl | rfl | rfl | rfl | rfl | rfl | rfl | rfl | rfl | rfl | rfl | rfl | rfl | rfl | rfl | rfl | rfl | rfl | rfl | rfl | rfl | rfl | rfl | rfl | rfl | rfl | rfl | rfl | rfl | rfl | rfl | rfl | rfl | rfl | rfl | rfl | rfl | rfl | rfl | rfl | rfl | rfl | rfl | rfl | rfl | rfl | rfl | rfl | rfl | rfl | rfl | rfl | rfl | rfl | rfl | rfl | rfl | rfl | rfl | rfl | rfl | rfl | rfl | rfl | rfl | rfl | rfl | rfl | rfl | rfl | rfl | rfl | rfl | rfl | rfl | rfl | rfl | rfl | rfl | rfl | rfl | rfl | rfl | rfl | rfl | rfl | rfl | rfl | rfl | rfl
  · cases h; exact ⟨fun _ => pw_0, fun _ z => absurd z (by decide)⟩
  · cases h; exact ⟨fun _ => pw_1, fun _ z => absurd z (by decide)⟩
  · cases h; exact ⟨fun z => absurd z (by decide), fun z => absurd z (by decide)⟩
  · cases h; exact ⟨fun z => absurd z (by decide), fun z => absurd z (by decide)⟩
  · cases h; exact ⟨fun _ => pw_4, fun _ z => absurd z (by decide)⟩
  · cases h; exact ⟨fun z => absurd z (by decide), fun z => absurd z (by decide)⟩
  · cases h; exact ⟨fun z => absurd z (by decide), fun z => absurd z (by decide)⟩
  · cases h; exact ⟨fun z => absurd z (by decide), fun z => absurd z (by decide)⟩
  · cases h; exact ⟨fun z => absurd z (by decide), fun z => absurd z (by decide)⟩
  · cases h; exact ⟨fun z => absurd z (by decide), fun z => absurd z (by decide)⟩
  · cases h; exact ⟨fun _ => pw_10, fun _ z => absurd z (by decide)⟩
  · cases h; exact ⟨fun z => absurd z (by decide), fun z => absurd z (by decide)⟩
  · cases h; exact ⟨fun z => absurd z (by decide), fun z => absurd z (by decide)⟩
  · cases h; exact ⟨fun z => absurd z (by decide), fun z => absurd z (by decide)⟩
  · cases h; exact ⟨fun z => absurd z (by decide), fun z => absurd z (by decide)⟩
  · cases h; exact ⟨fun _ => pw_15, fun _ z => absurd z (by decide)⟩
  · cases h; exact ⟨fun z => absurd z (by decide), fun z => absurd z (by decide)⟩
  · cases h; exact ⟨fun z => absurd z (by decide), fun _ _ => pw_17⟩
  · cases h; exact ⟨fun z => absurd z (by decide), fun z => absurd z (by decide)⟩
  · cases h; exact ⟨fun z => absurd z (by decide), fun z => absurd z (by decide)⟩
  · cases h; exact ⟨fun z => absurd z (by decide), fun z => absurd z (by decide)⟩
  · cases h; exact ⟨fun z => absurd z (by decide), fun _ _ => pw_21⟩
  · cases h; exact ⟨fun z => absurd z (by decide), fun z => absurd z (by decide)⟩
  · cases h; exact ⟨fun z => absurd z (by decide), fun z => absurd z (by decide)⟩
  · cases h; exact ⟨fun z => absurd z (by decide), fun z => absurd z (by decide)⟩
  · cases h; exact ⟨fun z => absurd z (by decide), fun z => absurd z (by decide)⟩
  · cases h; exact ⟨fun z => absurd z (by decide), fun z => absurd z (by decide)⟩
  · cases h; exact ⟨fun z => absurd z (by decide), fun z => absurd z (by decide)⟩
  · cases h; exact ⟨fun z => absurd z (by decide), fun z => absurd z (by decide)⟩
  · cases h; exact ⟨fun z => absurd z (by decide), fun z => absurd z (by decide)⟩
  · cases h; exact ⟨fun z => absurd z (by decide), fun z => absurd z (by decide)⟩
  · cases h; exact ⟨fun _ => pw_31, fun _ z => absurd z (by decide)⟩
  · cases h; exact ⟨fun z => absurd z (by decide), fun z => absurd z (by decide)⟩
  · cases h; exact ⟨fun z => absurd z (by decide), fun _ _ => pw_33⟩
  · cases h; exact ⟨fun z => absurd z (by decide), fun z => absurd z (by decide)⟩
  · cases h; exact ⟨fun z => absurd z (by decide), fun z => absurd z (by decide)⟩
  · cases h; exact ⟨fun z => absurd z (by decide), fun z => absurd z (by decide)⟩
  · cases h; exact ⟨fun z => absurd z (by decide), fun z => absurd z (by decide)⟩
  · cases h; exact ⟨fun z => absurd z (by decide), fun z => absurd z (by decide)⟩
  · cases h; exact ⟨fun z => absurd z (by decide), fun z => absurd z (by decide)⟩
  · cases h; exact ⟨fun z => absurd z (by decide), fun z => absurd z (by decide)⟩
  · cases h; exact ⟨fun z => absurd z (by decide), fun z => absurd z (by decide)⟩
  · cases h; exact ⟨fun z => absurd z (by decide), fun z => absurd z (by decide)⟩
  · cases h; exact ⟨fun _ => pw_43, fun _ z => absurd z (by decide)⟩
  · cases h; exact ⟨fun z => absurd z (by decide), fun z => absurd z (by decide)⟩
  · cases h; exact ⟨fun _ => pw_45, fun _ z => absurd z (by decide)⟩
  · cases h; exact ⟨fun z => absurd z (by decide), fun z => absurd z (by decide)⟩
  · cases h; exact ⟨fun z => absurd z (by decide), fun z => absurd z (by decide)⟩
  · cases h; exact ⟨fun z => absurd z (by decide), fun z => absurd z (by decide)⟩
  · cases h; exact ⟨fun z => absurd z (by decide), fun z => absurd z (by decide)⟩
  · cases h; exact ⟨fun z => absurd z (by decide), fun z => absurd z (by decide)⟩
  · cases h; exact ⟨fun z => absurd z (by decide), fun z => absurd z (by decide)⟩
  · cases h; exact ⟨fun z => absurd z (by decide), fun z => absurd z (by decide)⟩
  · cases h; exact ⟨fun z => absurd z (by decide), fun z => absurd z (by decide)⟩
  · cases h; exact ⟨fun _ => pw_54, fun _ z => absurd z (by decide)⟩
  · cases h; exact ⟨fun z => absurd z (by decide), fun z => absurd z (by decide)⟩
  · cases h; exact ⟨fun z => absurd z (by decide), fun z => absurd z (by decide)⟩
  · cases h; exact ⟨fun _ => pw_57, fun _ z => absurd z (by decide)⟩
  · cases h; exact ⟨fun _ => pw_58, fun _ z => absurd z (by decide)⟩
  · cases h; exact ⟨fun z => absurd z (by decide), fun z => absurd z (by decide)⟩
  · cases h; exact ⟨fun z => absurd z (by decide), fun z => absurd z (by decide)⟩
  · cases h; exact ⟨fun z => absurd z (by decide), fun z => absurd z (by decide)⟩
  · cases h; exact ⟨fun z => absurd z (by decide), fun z => absurd z (by decide)⟩
  · cases h; exact ⟨fun z => absurd z (by decide), fun z => absurd z (by decide)⟩
  · cases h; exact ⟨fun z => absurd z (by decide), fun z => absurd z (by decide)⟩
  · cases h; exact ⟨fun z => absurd z (by decide), fun z => absurd z (by decide)⟩
  · cases h; exact ⟨fun z => absurd z (by decide), fun z => absurd z (by decide)⟩
  · cases h; exact ⟨fun z => absurd z (by decide), fun z => absurd z (by decide)⟩
  · cases h; exact ⟨fun z => absurd z (by decide), fun z => absurd z (by decide)⟩
  · cases h; exact ⟨fun z => absurd z (by decide), fun z => absurd z (by decide)⟩
  · cases h; exact ⟨fun _ => pw_70, fun _ z => absurd z (by decide)⟩
  · cases h; exact ⟨fun z => absurd z (by decide), fun _ _ => pw_71⟩
  · cases h; exact ⟨fun z => absurd z (by decide), fun z => absurd z (by decide)⟩
  · cases h; exact ⟨fun z => absurd z (by decide), fun z => absurd z (by decide)⟩
  · cases h; exact ⟨fun z => absurd z (by decide), fun z => absurd z (by decide)⟩
  · cases h; exact ⟨fun z => absurd z (by decide), fun z => absurd z (by decide)⟩
  · cases h; exact ⟨fun z => absurd z (by decide), fun z => absurd z (by decide)⟩
  · cases h; exact ⟨fun z => absurd z (by decide), fun z => absurd z (by decide)⟩
  · cases h; exact ⟨fun _ => pw_78, fun _ z => absurd z (by decide)⟩
  · cases h; exact ⟨fun z => absurd z (by decide), fun z => absurd z (by decide)⟩
  · cases h; exact ⟨fun z => absurd z (by decide), fun z => absurd z (by decide)⟩
  · cases h; exact ⟨fun z => absurd z (by decide), fun z => absurd z (by decide)⟩
  · cases h; exact ⟨fun z => absurd z (by decide), fun z => absurd z (by decide)⟩
  · cases h; exact ⟨fun z => absurd z (by decide), fun z => absurd z (by decide)⟩
  · cases h; exact ⟨fun z => absurd z (by decide), fun z => absurd z (by decide)⟩
  · cases h; exact ⟨fun z => absurd z (by decide), fun z => absurd z (by decide)⟩
  · cases h; exact ⟨fun z => absurd z (by decide), fun z => absurd z (by decide)⟩
  · cases h; exact ⟨fun z => absurd z (by decide), fun z => absurd z (by decide)⟩
  · cases h; exact ⟨fun z => absurd z (by decide), fun z => absurd z (by decide)⟩
  · cases h; exact ⟨fun z => absurd z (by decide), fun z => absurd z (by decide)⟩
  · cases h; exact ⟨fun z => absurd z (by decide), fun z => absurd z (by decide)⟩
  · cases h; exact ⟨fun z => absurd z (by decide), fun z => absurd z (by decide)⟩
  · cases h; exact ⟨fun z => absurd z (by decide), fun z => absurd z (by decide)⟩
  · cases h; exact ⟨fun z => absurd z (by decide), fun z => absurd z (by decide)⟩
  · cases h; exact ⟨fun z => absurd z (by decide), fun z => absurd z (by decide)⟩
  · cases h; exact ⟨fun z => absurd z (by decide), fun z => absurd z (by decide)⟩
  · cases h; exact ⟨fun z => absurd z (by decide), fun z => absurd z (by decide)⟩
  · cases h; exact ⟨fun z => absurd z (by decide), fun z => absurd z (by decide)⟩
  · cases h; exact ⟨fun z => absurd z (by decide), fun z => absurd z (by decide)⟩
  · cases h; exact ⟨fun z => absurd z (by decide), fun z => absurd z (by decide)⟩
  · cases h; exact ⟨fun z => absurd z (by decide), fun z => absurd z (by decide)⟩
  · cases h; exact ⟨fun z => absurd z (by decide), fun z => absurd z (by decide)⟩
  · cases h; exact ⟨fun z => absurd z (by decide), fun z => absurd z (by decide)⟩
  · cases h; exact ⟨fun z => absurd z (by decide), fun z => absurd z (by decide)⟩
  · cases h; exact ⟨fun z => absurd z (by decide), fun z => absurd z (by decide)⟩
  · cases h; exact ⟨fun z => absurd z (by decide), fun z => absurd z (by decide)⟩
  · cases h; exact ⟨fun z => absurd z (by decide), fun z => absurd z (by decide)⟩
  · cases h; exact ⟨fun z => absurd z (by decide), fun z => absurd z (by decide)⟩
  · cases h; exact ⟨fun z => absurd z (by decide), fun z => absurd z (by decide)⟩
  · cases h; exact ⟨fun z => absurd z (by decide), fun z => absurd z (by decide)⟩
  · cases h; exact ⟨fun z => absurd z (by decide), fun z => absurd z (by decide)⟩
  · cases h; exact ⟨fun z => absurd z (by decide), fun z => absurd z (by decide)⟩
  · cases h; exact ⟨fun z => absurd z (by decide), fun z => absurd z (by decide)⟩
  · cases h; exact ⟨fun z => absurd z (by decide), fun z => absurd z (by decide)⟩
  · cases h; exact ⟨fun z => absurd z (by decide), fun z => absurd z (by decide)⟩
  · cases h; exact ⟨fun z => absurd z (by decide), fun z => absurd z (by decide)⟩
  · cases h; exact ⟨fun z => absurd z (by decide), fun z => absurd z (by decide)⟩
  · cases h; exact ⟨fun z => absurd z (by decide), fun z => absurd z (by decide)⟩
  · cases h; exact ⟨fun z => absurd z (by decide), fun z => absurd z (by decide)⟩
  · cases h; exact ⟨fun z => absurd z (by decide), fun z => absurd z (by decide)⟩
  · cases h; exact ⟨fun z => absurd z (by decide), fun z => absurd z (by decide)⟩
  · cases h; exact ⟨fun z => absurd z (by decide), fun z => absurd z (by decide)⟩
  · cases h; exact ⟨fun z => absurd z (by decide), fun z => absurd z (by decide)⟩
  · cases h; exact ⟨fun z => absurd z (by decide), fun z => absurd z (by decide)⟩
  · cases h; exact ⟨fun z => absurd z (by decide), fun z => absurd z (by decide)⟩
  · cases h; exact ⟨fun z => absurd z (by decide), fun z => absurd z (by decide)⟩
  · cases h; exact ⟨fun z => absurd z (by decide), fun z => absurd z (by decide)⟩
  · cases h; exact ⟨fun z => absurd z (by decide), fun z => absurd z (by decide)⟩
  · cases h; exact ⟨fun z => absurd z (by decide), fun z => absurd z (by decide)⟩
  · cases h; exact ⟨fun z => absurd z (by decide), fun z => absurd z (by decide)⟩
  · cases h; exact ⟨fun z => absurd z (by decide), fun z => absurd z (by decide)⟩
set_option maxHeartbeats 4000000 in
set_option maxRecDepth 100000 in
theorem PT_ok {w : Nat} (hv : fc_v w) : fc_ok fc_SH (fc_PT w) := by
  refine ⟨by decide, fun c j v h => ?_⟩
  obtain ⟨h1, h2⟩ := hv
  have hl : fc_SH.length = 131 := rfl
  rw [hl]
  unfold fc_PT at h
  have key : ∀ (l : List (Option Nat)) (j : Nat), (∀ x ∈ l, ∀ v, x = some v → v < 131) → l.getD j none = some v → v < 131 := by
    intro l j hl h
    rw [List.getD_eq_getElem?_getD] at h
    cases e : l[j]? with
    | none => rw [e] at h; cases h
    | some y => rw [e] at h; exact hl y (List.mem_of_getElem? e) v h
  split at h <;> first | (cases h; done) | (refine key _ j ?_ h; intro x hx v hv; simp only [List.mem_cons, List.not_mem_nil, or_false] at hx; (repeat' (rcases hx with rfl | hx)); all_goals (first | (cases hv; done) | (subst hx; cases hv; done) | (cases hv; omega) | (subst hx; cases hv; omega)))
set_option maxHeartbeats 4000000 in
set_option maxRecDepth 100000 in
theorem lw_entry {d L : Nat} {xs : Nat → Int32} {J0 J : fc_I} (hL : L ≤ 3072) (H : Ops) (hw : f_X0_write 0 (cI_0 (fc_zI I00 0)) = some J0) (hl : f_X0_learn J0 = some (0, J)) (hR : Rel (cI_2 J)) : fc_T (Lm L xs) (d + 94) 131 5971 0 [some (.ref (1000 + 400)), none, none, none] [] [] I00 P00 (fc_Qi fc_SH (fun r _ _ => r = 1)) := by
  refine ft_new (nb := 130) (zb := 5962) (ci := 10) (q := (RX10, TX10, 9)) rfl ⟨(fc_b1 21 rfl rfl), (fc_b1 22 rfl rfl), (fc_b1 1 rfl rfl)⟩ hty_10 rfl (by decide) dL_law_0 ?_
  show fc_T _ _ _ _ _ _ (.ref 0 :: _) (fc_SH.take 1) _ _ _
  refine ft_dup dL_law_3 rfl ?_
  refine fc_callI (nb' := 77) (zb' := 2379) (nb := 53) (zb := 3583) (b := 0) (As := []) cf_L_9 (k_X10_init (r := 0) hw hl) rfl (Nat.le_of_ble_eq_true rfl) rfl dL_law_4 (fun v' sh' I' P' q => ?_)
  obtain ⟨rfl, rfl, rfl, w, hv, rfl⟩ := q
  show fc_T _ _ _ _ _ _ _ (fc_SH.take 78) _ _ _
  refine ft_astore_n dL_law_7 (show 1 < 4 by decide) ?_
  refine ft_new (nb := 52) (zb := 3508) (ci := 11) (q := (RX11, TX11, 75)) rfl ⟨(fc_b5 116 rfl rfl), (fc_b4 173 rfl rfl), (fc_b1 17 rfl rfl)⟩ hty_11 rfl (by decide) dL_law_8 ?_
  show fc_T _ _ _ _ _ _ (.ref 78 :: _) (fc_SH.take 79) _ _ _
  refine ft_dup dL_law_11 rfl ?_
  refine fc_callI (nb' := 52) (zb' := 3508) (nb := 0) (zb := 0) (b := 78) (As := []) cf_L_12 k_X11_init rfl (Nat.le_of_ble_eq_true rfl) rfl dL_law_12 (fun v' sh' I' P' q => ?_)
  obtain ⟨rfl, rfl, rfl, rfl⟩ := q
  show fc_T _ _ _ _ _ _ _ fc_SH (cI_2 J) (cP_2 w) _
  refine ft_astore_n dL_law_15 (show 2 < 4 by decide) ?_
  refine ft_iconst (v := 0) dL_law_16 rfl ?_
  refine ft_istore_n dL_law_17 (show 3 < 4 by decide) ?_
  refine ft_P pq_2 (PT_ok hv) ?_
  refine ft_forget (by simp [fc_le, fc_st1, fc_st2, fc_kill]) (lw_loop hL H 4000 0 _ w (by rw [kt_0]; omega) (by rw [kt_0]; omega) (by rw [kt_0]; omega) hR hv)
