/-! bits set in rows -/
theorem orBit {f : Nat → Int32} {w i b : Nat} (hf : isN f (2 ^ w)) (hw : w ≤ 30) (hb : b < w) : isN (upd f i (f i ||| nI (2 ^ b))) (2 ^ w) ∧ ∀ a c, (upd f i (f i ||| nI (2 ^ b)) a).toNatClampNeg.testBit c = ((f a).toNatClampNeg.testBit c || (decide (a = i) && decide (b = c))) := by
  have hlt : (f i).toNatClampNeg ||| 2 ^ b < 2 ^ w := or_lt (hf i).2 (Nat.pow_lt_pow_right (by omega) hb)
  have h31 : 2 ^ w ≤ 2 ^ 30 := Nat.pow_le_pow_right (by omega) hw
  have e : f i ||| nI (2 ^ b) = nI ((f i).toNatClampNeg ||| 2 ^ b) := by
    have e1 := (hf i).1
    generalize (f i).toNatClampNeg = m at *
    rw [e1, fa_or]
  have et : (f i ||| nI (2 ^ b)).toNatClampNeg = (f i).toNatClampNeg ||| 2 ^ b := by rw [e, nI_clamp (by omega)]
  constructor
  · intro a
    by_cases h : a = i
    · subst h; rw [pk_us, et]; exact ⟨e, hlt⟩
    · rw [pk_un h]; exact hf a
  · intro a c
    by_cases h : a = i
    · subst h; rw [pk_us, et, tb_or1]; simp
    · rw [pk_un h]; simp [h]
section THR
variable {N M : Nat → Nat} {V U : Nat → Int32} {A B : Nat → Nat → Int32}
theorem x3add_L1 {h0 s0 p0 f0 : Int32} {b0 : Bool} (hT : N 1 < 16) {I : Nat → Bool} : ∀ (n k : Nat) (C : Nat → Nat → Int32), k + n ≤ N 1 → isN (C 15) 65536 → (∀ j, s_X3_haveInnerPointInCommon N V C j (N 1) = I j) →
    (∀ p, p ≠ 15 → s_X3_add_L1 N V A h0 s0 p0 f0 b0 n k C p = C p) ∧ isN (s_X3_add_L1 N V A h0 s0 p0 f0 b0 n k C 15) 65536 ∧ ∀ a c, (s_X3_add_L1 N V A h0 s0 p0 f0 b0 n k C 15 a).toNatClampNeg.testBit c = ((C 15 a).toNatClampNeg.testBit c || ((decide (k ≤ a) && decide (a < k + n) && decide (c = N 1) && I a) || (decide (a = N 1) && (decide (k ≤ c) && decide (c < k + n) && I c))))
  | 0, k, C, _, hC, _ => by
    rw [s_X3_add_L1]
    refine ⟨fun _ _ => rfl, hC, fun a c => ?_⟩
    have z : ∀ x : Nat, (decide (k ≤ x) && decide (x < k + 0)) = false := fun x => by
      by_cases h : k ≤ x
      · rw [decide_eq_false (show ¬ x < k + 0 by omega), Bool.and_false]
      · rw [decide_eq_false h, Bool.false_and]
    rw [z a, z c]
    simp
  | n + 1, k, C, hk, hC, hI => by
    rw [s_X3_add_L1, hI k]
    have ea : ∀ x : Nat, x ≠ k → (decide (k + 1 ≤ x) && decide (x < k + 1 + n)) = (decide (k ≤ x) && decide (x < k + (n + 1))) := fun x hx => by
      congr 1 <;> apply decide_eq_decide.mpr <;> omega
    have ek : (decide (k ≤ k) && decide (k < k + (n + 1))) = true := by simp
    have ek2 : (decide (k + 1 ≤ k) && decide (k < k + 1 + n)) = false := by rw [decide_eq_false (show ¬ k + 1 ≤ k by omega), Bool.false_and]
    cases hIk : I k with
    | false =>
      rw [if_neg (by decide)]
      obtain ⟨h1, h2, h3⟩ := x3add_L1 (h0 := h0) (s0 := s0) (p0 := p0) (f0 := f0) (b0 := b0) hT (I := I) n (k + 1) C (by omega) hC hI
      refine ⟨h1, h2, fun a c => ?_⟩
      rw [h3 a c]
      congr 1
      congr 1
      · by_cases h : a = k
        · subst h; rw [ek, ek2, hIk]; simp
        · rw [ea a h]
      · by_cases h : c = k
        · subst h; rw [ek, ek2, hIk]; simp
        · rw [ea c h]
    | true =>
      rw [if_pos rfl]
      obtain ⟨b1, b2⟩ := orBit (f := C 15) (w := 16) (i := k) (b := N 1) hC (by omega) hT
      obtain ⟨c1, c2⟩ := orBit (f := upd (C 15) k (C 15 k ||| nI (2 ^ N 1))) (w := 16) (i := N 1) (b := k) b1 (by omega) (by omega)
      obtain ⟨h1, h2, h3⟩ := x3add_L1 (h0 := h0) (s0 := s0) (p0 := p0) (f0 := f0) (b0 := b0) hT (I := I) n (k + 1) (va_up (va_up C 15 (upd (C 15) k (C 15 k ||| nI (2 ^ (N 1))))) 15 (upd ((va_up C 15 (upd (C 15) k (C 15 k ||| nI (2 ^ (N 1))))) 15) (N 1) ((va_up C 15 (upd (C 15) k (C 15 k ||| nI (2 ^ (N 1))))) 15 (N 1) ||| nI (2 ^ k)))) (by omega) c1 (fun j => hI j)
      refine ⟨fun p hp => by rw [h1 p hp, va_up_o _ _ hp, va_up_o _ _ hp], h2, fun a c => ?_⟩
      rw [h3 a c]
      have e15 : ∀ x, (va_up (va_up C 15 (upd (C 15) k (C 15 k ||| nI (2 ^ (N 1))))) 15 (upd ((va_up C 15 (upd (C 15) k (C 15 k ||| nI (2 ^ (N 1))))) 15) (N 1) ((va_up C 15 (upd (C 15) k (C 15 k ||| nI (2 ^ (N 1))))) 15 (N 1) ||| nI (2 ^ k)))) 15 x = upd (upd (C 15) k (C 15 k ||| nI (2 ^ N 1))) (N 1) (upd (C 15) k (C 15 k ||| nI (2 ^ N 1)) (N 1) ||| nI (2 ^ k)) x := fun x => rfl
      rw [e15, c2, b2, Bool.or_assoc, Bool.or_assoc]
      congr 1
      have hkT : k ≠ N 1 := by omega
      by_cases h : a = k
      · subst h
        rw [ek, ek2, hIk, decide_eq_false hkT]
        have : decide (N 1 = c) = decide (c = N 1) := by apply decide_eq_decide.mpr; omega
        rw [this]; simp
      · rw [ea a h, decide_eq_false h]
        by_cases h2 : c = k
        · subst h2; rw [ek, ek2, hIk]; simp [Bool.or_comm]
        · rw [ea c h2, decide_eq_false (show ¬ k = c from fun e => h2 e.symm)]; simp
end THR
