/-! new objects -/
theorem tb_z0 (t : Nat) : (0 : Int32).toNatClampNeg.testBit t = false := by
  rw [show (0 : Int32).toNatClampNeg = 0 from rfl, Nat.zero_testBit]
theorem isN_0 {b : Nat} (h : 0 < b) : isN (fun _ => 0) b := fun _ => ⟨rfl, h⟩
theorem isB_0 : isB (fun _ => 0) := fun _ => show (0 : Int32) = b2i (bz 0) by decide
theorem Inv_new : Inv (fun _ => 0) V0C A0C (fun _ => 0) (fun _ => 0) A0M := by
  refine ⟨⟨rfl, rfl, rfl, by decide, by decide, by decide⟩, ⟨rfl, rfl⟩, ?_, ?_, ?_, ⟨?_, ?_, ?_⟩, ?_, ?_, ?_⟩
  · intro j hj
    rcases (show j = 0 ∨ j = 1 ∨ j = 2 ∨ j = 3 ∨ j = 4 by omega) with h | h | h | h | h <;> subst h <;> decide
  · intro j hj; exact absurd hj (Nat.not_lt_zero j)
  · intro a c
    refine ⟨?_, ?_⟩
    · show (0 : Int32).toNatClampNeg.testBit c = _
      rw [tb_z0, decide_eq_false (Nat.not_lt_zero a)]; rfl
    · show (0 : Int32).toNatClampNeg.testBit c = _
      rw [tb_z0, decide_eq_false (Nat.not_lt_zero a)]; rfl
  · intro t ht; exact absurd ht (Nat.not_lt_zero t)
  · intro t
    show Nat.testBit 0 t = _ ∧ Nat.testBit 0 t = _
    rw [Nat.zero_testBit, decide_eq_false (Nat.not_lt_zero t)]; exact ⟨rfl, rfl⟩
  · intro t u
    show (0 : Int32).toNatClampNeg.testBit u = _
    rw [tb_z0, decide_eq_false (Nat.not_lt_zero t)]; rfl
  · intro k hk
    left
    rcases (show k = 0 ∨ k = 1 ∨ k = 2 ∨ k = 3 by omega) with h | h | h | h <;> subst h <;> decide
  · exact ⟨by decide, by decide, by decide, by decide, by decide, isN_0 (by decide), isN_0 (by decide), isN_0 (by decide), isN_0 (by decide)⟩
  · exact ⟨by decide, by decide, by decide, fun t => vp_in_nI (n := 0) (N := 10) (by decide) (by decide), isB_0, isB_0, isB_0⟩
