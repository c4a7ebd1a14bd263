set_option maxHeartbeats 4000000 in
set_option maxRecDepth 100000 in
theorem whole_open {p : Program} {e : Env} {s : State} {m : MethodId} {below : List Frame} {meth : Method} {c : Code} (l : Launch) {b L : Nat} {xs : Nat → Int32} (hL : L ≤ 3072) (C0 : lw_At p s m meth c b L xs) (hO : Ops) {J0 J : fc_I} (hw : f_X0_write 0 (cI_0 (fc_zI I00 0)) = some J0) (hl0 : f_X0_learn J0 = some (0, J)) (hR : Rel (cI_2 J)) : W p l e room_1 s m #[Value.ref b] below meth c s.heap [] 0 0 (lw_Z below #[Value.ref b] s) (entryFrame m ([Value.ref b] : List Value).toArray 4) := by
  obtain ⟨D, β, ex, hD, hβ, hEnv, eB⟩ := whole_world C0
  obtain ⟨hx, hb, hr, hml, hown, hts, hX, hbl, hlocks, hgv⟩ := C0
  have htf : ∀ w ∈ fc_tbl, w.before #[Value.ref b] s = true := fun w h => hts w (List.mem_filter.mp h).1
  have hl := lv_entry ([.ref b]) (n := 4) (Nat.le_of_ble_eq_true rfl)
  rw [lg_entry_eq]
  generalize (lg_sl ([.ref b]) ++ List.replicate (4 - (lg_sl ([.ref b])).length) Slot.unset).toArray = lsA at hl ⊢
  obtain ⟨as, has⟩ : ∃ as : Nat → Nat, fc_ex as = ex := ⟨fun c => ex (c - 1000), funext fun k => by show ex (1000 + k - 1000) = ex k; rw [show 1000 + k - 1000 = k by omega]⟩
  have hl2 : lv_has lsA 4 (fc_lv as [some (.ref (1000 + 400)), none, none, none]) := by
    have e : fc_lv as [some (.ref (1000 + 400)), none, none, none] = [(0, .ref b)] := by
      have e2 : as (1000 + 400) = b := by rw [show as (1000 + 400) = fc_ex as 400 from rfl, has, eB]
      show [(0, Value.ref (as (1000 + 400)))] = _
      rw [e2]
    rw [e]
    exact hl
  have hm : meth.name = "law" ∨ True := Or.inr trivial
  refine lw_entry (d := 0) (xs := xs) hL hO hw hl0 hR p l e room_1 s m #[Value.ref b] below meth c β D (fun q : Nat => s.heap.size ≤ q) as s.heap [] 0 0 600000 7302250 lsA _ ⟨hx, hb, hml, hown, htf, fun z => absurd (show ("law" : String) = "<init>" from z) (by decide), Nat.le_of_ble_eq_true rfl, Nat.le_of_ble_eq_true rfl, fun q hq => hq, by rw [has]; exact hEnv, fun L' xs' h => ?_⟩ ⟨Nat.le_of_ble_eq_true rfl, Nat.le_of_ble_eq_true rfl, Nat.le_refl _, Nat.le_refl _⟩ ⟨Nat.le_of_ble_eq_true rfl, fun c j v h => by cases h⟩ ⟨fun k q h => by simp [fc_w] at h, ⟨fun i j p q h => by simp [fc_w] at h, fun k q h => by simp [fc_w] at h⟩, hD, hβ⟩ va_S.rf hl2 ?_
  · cases h
    rw [has, eB]
    exact ⟨hX, hbl, Nat.not_le.mpr hbl⟩
  · intro pc' lsA' v sh' I' P' as' H' locs' cells' slots' hret hQ h1 h2 h3 h4 h5 h6 h7
    obtain ⟨-, r, rfl, rfl⟩ := hQ
    rcases hret with ⟨x, ty, q1, q2, q3, q4⟩ | ⟨x, q1, _, _⟩ | ⟨q1, _, _⟩
    · cases q1
      refine va_forget (fun q hq => h7.2.2 q hq) ?_
      refine W.widen (k := 600000) (n := 7302250) h4 h5 ?_
      exact lw_ret hx hb hr hlocks q4
    · cases q1
    · cases q1
