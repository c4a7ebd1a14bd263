theorem e_worthM {I : fc_I} {z t h q : Int32} {Q n : Nat} (fa : Nat → Int32) (hq : q.toInt = (Q : Int)) (hQ : Q < 12) (hn : (I 110 Q).toInt = (n : Int)) (hn2 : n ≤ 160) (hc : cdp (fun k => I 109 (160 * Q + k)) n = some 1) (hf : ∀ c : Int32, 0 ≤ c.toInt → c.toInt < 6 → ∀ g, f_X11_nameOf (stc I 115 g) c z t h = some (fa (cn c))) : ∃ g, f_X11_worthOf_16 z t h q 4000 0 0 I = some (evv fa (fun k => I 109 (160 * Q + k)) n, stc I 115 g) := by
  obtain ⟨F, hF⟩ : ∃ F : Nat → Int32, F = fun k => I 109 (160 * Q + k) := ⟨_, rfl⟩
  have hFk : ∀ k, I 109 (160 * Q + k) = F k := fun k => by rw [hF]
  rw [← hF] at hc ⊢
  obtain ⟨r, h1, h2⟩ := lpm2_R (B := f_X11_worthOf_16_B z t h q) n (by omega) (fun m x J => x.toInt = ((evd F m : Nat) : Int) ∧ J = stc I 115 (evs fa F (I 115) m)) (fun r => r = (evv fa F n, stc I 115 (evs fa F (I 115) n))) (fun k x i m J hi hm hP => by
    obtain ⟨hx, rfl⟩ := hP
    obtain ⟨d', hd'⟩ := cdp_le n (m + 1) 1 (by omega) hc
    obtain ⟨d, q1, q2⟩ := cdp_step hd'
    obtain ⟨a1, a2⟩ := cdp_evd m d q1
    rw [a1] at hx
    obtain ⟨x', y1, y2⟩ := stepM (fa := fa) (g := evs fa F (I 115) m) (k := k) hq hQ hn hn2 hi hm hx a2 (by rw [hFk]; exact q2) hf
    refine ⟨x', _, ⟨?_, rfl⟩, ?_⟩
    · rw [(cdp_evd (m + 1) d' hd').1]
      exact y1
    · rw [y2, hFk]
      show _ = k x' (i + 1) (stc I 115 (ev1 fa (F m) (evd F m) (evs fa F (I 115) m)))
      rw [a1]) (fun k x i J hi hP => by
    obtain ⟨hx, rfl⟩ := hP
    refine ⟨_, rfl, ?_⟩
    unfold f_X11_worthOf_16_B
    rw [fq_gp ⟨by omega, by omega⟩, cn_eq hq, stc_ne (by decide), hn, if_neg (by omega), fq_gp ⟨by rw [kt_0]; omega, by rw [kt_0]; omega⟩, stc_at]
    rw [show cn (0 : Int32) = 0 from rfl, evs_ind (s' := fun _ => 0) n 1 hc 0 (by omega)]
    rfl) 4000 0 0 0 I kt_0 (by omega) (by omega) ⟨kt_0, by show I = stc I 115 (I 115); rw [stc_self]⟩
  subst h1
  exact ⟨_, h2⟩
