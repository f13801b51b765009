section CRS
variable {A B : Nat → Nat → Int32}
theorem cr_self (B : Nat → Nat → Int32) (t : Nat) : crB B t t = false := by
  unfold crB s_X5_doCross; rw [if_pos rfl]
theorem cr_symm {t u : Nat} (ht : thOk A B t) (hu : thOk A B u) : crB B t u = crB B u t := by
  obtain ⟨-, x4, x5, x6⟩ := ht
  obtain ⟨-, y4, y5, y6⟩ := hu
  unfold crB s_X5_doCross
  by_cases hne : nI t = nI u
  · rw [if_pos hne, if_pos hne.symm]
  · have hne2 : ¬ nI u = nI t := fun e => hne e.symm
    rw [if_neg hne, if_neg hne2, crossI, crossI]
    generalize B 7 t = h at *
    generalize B 7 u = k at *
    generalize B 9 t = p at *
    generalize B 9 u = q at *
    generalize B 3 (B 8 t).toNatClampNeg = f at *
    generalize B 3 (B 8 u).toNatClampNeg = g at *
    obtain ⟨n1, -, -, n4⟩ := geo_nums (h := h) (k := k) (f := f) (g := g) (p := p) (q := q) x4 y4 x6 y6 x5 y5
    obtain ⟨m1, -, -, m4⟩ := geo_nums (h := k) (k := h) (f := g) (g := f) (p := q) (q := p) y4 x4 y6 x6 y5 x5
    rw [n1, n4, m1, m4]
    have em : (if p.toInt ≤ q.toInt then p.toInt else q.toInt) = (if q.toInt ≤ p.toInt then q.toInt else p.toInt) := by
      split <;> split <;> omega
    rw [em]
    generalize (if q.toInt ≤ p.toInt then q.toInt else p.toInt) = m
    have e : m * ((g.toInt - k.toInt) * p.toInt - q.toInt * (f.toInt - h.toInt)) + (k.toInt - h.toInt) * q.toInt * p.toInt = -(m * ((f.toInt - h.toInt) * q.toInt - p.toInt * (g.toInt - k.toInt)) + (h.toInt - k.toInt) * p.toInt * q.toInt) := by
      have e1 : (g.toInt - k.toInt) * p.toInt - q.toInt * (f.toInt - h.toInt) = -((f.toInt - h.toInt) * q.toInt - p.toInt * (g.toInt - k.toInt)) := by
        rw [Int.mul_comm (g.toInt - k.toInt), Int.mul_comm q.toInt]; omega
      have e2 : (k.toInt - h.toInt) * q.toInt * p.toInt = -((h.toInt - k.toInt) * p.toInt * q.toInt) := by
        rw [show k.toInt - h.toInt = -(h.toInt - k.toInt) by omega, Int.neg_mul, Int.neg_mul, Int.mul_assoc, Int.mul_comm q.toInt, ← Int.mul_assoc]
      rw [e1, e2, Int.mul_neg]; omega
    rw [e]
    generalize m * ((f.toInt - h.toInt) * q.toInt - p.toInt * (g.toInt - k.toInt)) + (h.toInt - k.toInt) * p.toInt * q.toInt = ab
    apply decide_eq_decide.mpr
    omega
end CRS
