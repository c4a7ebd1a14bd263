/-- how many of the waiting signs have opened (not, minus) -/
def opn : List Int32 → Int
  | [] => 0
  | h :: w => (if h = 13 ∨ h = 14 then 1 else 0) + opn w
/-- the newest of W stops what is done down to rank x -/
def stops (x : Nat) : List Int32 → Prop
  | [] => True
  | h :: _ => h = 15 ∨ rk h < x
theorem dA_stop {x : Nat} {C : List Int32} {o : Int} : ∀ W, stops x W → dA x W C o = (W, C, o)
  | [], _ => rfl
  | h :: w, q => by
    unfold dA
    exact if_pos q
/-- signs P of rank x or above are done, those before stay -/
theorem dA_P {x : Nat} {W : List Int32} (hW : stops x W) : ∀ (P C : List Int32) (o : Int), (∀ h ∈ P, ¬ h = 15 ∧ x ≤ rk h) → dA x (P ++ W) C o = (W, P.reverse ++ C, o - opn P)
  | [], C, o, _ => by
    show dA x W C o = (W, C, o - 0)
    rw [dA_stop W hW, Int.sub_zero]
  | h :: p, C, o, q => by
    have q1 := q h List.mem_cons_self
    show dA x (h :: (p ++ W)) C o = _
    unfold dA
    rw [if_neg (fun z => by rcases z with z | z; exact q1.1 z; omega), dA_P hW p (h :: C) _ (fun y hy => q y (List.mem_cons_of_mem _ hy))]
    have e1 : p.reverse ++ h :: C = (h :: p).reverse ++ C := by simp
    have e2 : (if h = 13 ∨ h = 14 then o - 1 else o) - opn p = o - opn (h :: p) := by
      have e3 : opn (h :: p) = (if h = 13 ∨ h = 14 then 1 else 0) + opn p := rfl
      rw [e3]
      by_cases c : h = 13 ∨ h = 14
      · rw [if_pos c, if_pos c]
        omega
      · rw [if_neg c, if_neg c]
        omega
    rw [e1, e2]
