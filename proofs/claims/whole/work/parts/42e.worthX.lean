theorem e_worthX {I : fc_I} {fr to : Int32} {q3 p n : Nat} (fa : Nat → Int32) (hq3 : q3 ≠ 42) (hp : fr.toInt = (p : Int)) (hn : to.toInt = ((p + n : Nat) : Int)) (hn2 : p + n ≤ 160) (hc : cdp (fun k => trc (I q3 (p + k))) n = some 1) (hf : ∀ k, k < 6 → I 55 k = fa k) : ∃ g, f_X0_worth_63 q3 to 4000 0 fr I = some (evv fa (fun k => trc (I q3 (p + k))) n, stc I 42 g) := by
  obtain ⟨F, hF⟩ : ∃ F : Nat → Int32, F = fun k => trc (I q3 (p + k)) := ⟨_, rfl⟩
  have hFk : ∀ k, trc (I q3 (p + k)) = F k := fun k => by rw [hF]
  rw [← hF] at hc ⊢
  obtain ⟨r, h1, h2⟩ := lpm2_R (B := f_X0_worth_63_B q3 to) (p + n) (by omega) (fun m' x J => ∃ m, m' = p + m ∧ x.toInt = ((evd F m : Nat) : Int) ∧ J = stc I 42 (evs fa F (I 42) m)) (fun r => r = (evv fa F n, stc I 42 (evs fa F (I 42) n))) (fun k x i m' J hi hm hP => by
    obtain ⟨m, rfl, hx, rfl⟩ := hP
    obtain ⟨d', hd'⟩ := cdp_le n (m + 1) 1 (by omega) hc
    obtain ⟨d, q1, q2⟩ := cdp_step hd'
    obtain ⟨a1, a2⟩ := cdp_evd m d q1
    rw [a1] at hx
    obtain ⟨x', y1, y2⟩ := stepX (fa := fa) (g := evs fa F (I 42) m) (k := k) hq3 hn hn2 hi (by omega) hx a2 (by rw [hFk]; exact q2) hf
    refine ⟨x', _, ⟨m + 1, by omega, ?_, rfl⟩, ?_⟩
    · rw [(cdp_evd (m + 1) d' hd').1]
      exact y1
    · rw [y2, hFk]
      show _ = k x' (i + 1) (stc I 42 (ev1 fa (F m) (evd F m) (evs fa F (I 42) m)))
      rw [a1]) (fun k x i J hi hP => by
    obtain ⟨m, hm, hx, rfl⟩ := hP
    have : m = n := by omega
    subst this
    refine ⟨_, rfl, ?_⟩
    unfold f_X0_worth_63_B
    rw [if_neg (by omega), fq_gp ⟨by rw [kt_0]; omega, by rw [kt_0]; omega⟩, stc_at]
    rw [show cn (0 : Int32) = 0 from rfl, evs_ind (s' := fun _ => 0) m 1 hc 0 (by omega)]
    rfl) 4000 0 fr p I hp (by omega) (by omega) ⟨0, by omega, kt_0, by show I = stc I 42 (I 42); rw [stc_self]⟩
  subst h1
  exact ⟨_, h2⟩
