/-! two threads: the ship's sides and the model's below and above -/
theorem abs_mul {x y X Y : Int} (hx : -X ≤ x ∧ x ≤ X) (hy : -Y ≤ y ∧ y ≤ Y) : -(X * Y) ≤ x * y ∧ x * y ≤ X * Y := by
  have h1 : x.natAbs ≤ X.natAbs := by omega
  have h2 : y.natAbs ≤ Y.natAbs := by omega
  have h3 : (x * y).natAbs ≤ (X * Y).natAbs := by
    rw [Int.natAbs_mul, Int.natAbs_mul]; exact Nat.mul_le_mul h1 h2
  have h4 : 0 ≤ X * Y := Int.mul_nonneg (by omega) (by omega)
  omega
theorem mulB {x y : Int32} (X Y : Int) (hx : -X ≤ x.toInt ∧ x.toInt ≤ X) (hy : -Y ≤ y.toInt ∧ y.toInt ≤ Y) (hb : X * Y ≤ 2147483647) : (x * y).toInt = x.toInt * y.toInt ∧ -(X * Y) ≤ x.toInt * y.toInt ∧ x.toInt * y.toInt ≤ X * Y := by
  have h := abs_mul hx hy
  exact ⟨fb_mulI (by omega) (by omega), h.1, h.2⟩
theorem sgn_mul {p x : Int} (hp : 0 < p) : (p * x < 0 ↔ x < 0) ∧ (p * x = 0 ↔ x = 0) ∧ (0 < p * x ↔ 0 < x) := by
  rcases Int.lt_trichotomy x 0 with h | h | h
  · have := Int.mul_neg_of_pos_of_neg hp h
    refine ⟨⟨fun _ => h, fun _ => this⟩, ⟨fun e => by omega, fun e => by omega⟩, ⟨fun e => by omega, fun e => by omega⟩⟩
  · subst h
    rw [Int.mul_zero]
    refine ⟨⟨fun e => e, fun e => e⟩, ⟨fun e => e, fun e => e⟩, ⟨fun e => e, fun e => e⟩⟩
  · have := Int.mul_pos hp h
    refine ⟨⟨fun e => by omega, fun e => by omega⟩, ⟨fun e => by omega, fun e => by omega⟩, ⟨fun _ => h, fun _ => this⟩⟩
/-- the two tests say the same of whole numbers: dl = h - k, w = (f - h) q - p (g - k) -/
theorem geo_core {p q dl w : Int} (hp : 0 < p) (hq : 0 < q) : ((dl = 0 ∧ w + p * dl = 0) ∨ (((p * dl < 0 ∧ 0 < w + p * dl) ∨ (0 < p * dl ∧ w + p * dl < 0)) ∧ ((-(q * dl) < 0 ∧ 0 < -(w + q * dl)) ∨ (0 < -(q * dl) ∧ -(w + q * dl) < 0)))) ↔ ((dl = 0 ∧ (if q ≤ p then q else p) * w + dl * p * q = 0) ∨ (dl < 0 ∧ 0 < (if q ≤ p then q else p) * w + dl * p * q) ∨ (0 < dl ∧ (if q ≤ p then q else p) * w + dl * p * q < 0)) := by
  have sp := sgn_mul (p := p) (x := dl) hp
  have sq := sgn_mul (p := q) (x := dl) hq
  by_cases c : q ≤ p
  · rw [if_pos c]
    have e : q * w + dl * p * q = q * (w + p * dl) := by
      rw [Int.mul_add, Int.mul_comm q (p * dl), Int.mul_comm p dl]
    rw [e]
    have s := sgn_mul (p := q) (x := w + p * dl) hq
    rw [s.1, s.2.1, s.2.2]
    rcases Int.lt_trichotomy dl 0 with h | h | h
    · have hm : p * dl ≤ q * dl := by
        have := Int.mul_le_mul_of_nonpos_right c (Int.le_of_lt h); exact this
      have h1 := sp.1.mpr h
      have h2 := sq.1.mpr h
      omega
    · subst h; rw [Int.mul_zero] at *; rw [Int.mul_zero]; omega
    · have hm : q * dl ≤ p * dl := Int.mul_le_mul_of_nonneg_right c (Int.le_of_lt h)
      have h1 := sp.2.2.mpr h
      have h2 := sq.2.2.mpr h
      omega
  · rw [if_neg c]
    have e : p * w + dl * p * q = p * (w + q * dl) := by
      rw [Int.mul_add, Int.mul_comm dl p, Int.mul_assoc, Int.mul_comm dl q]
    rw [e]
    have s := sgn_mul (p := p) (x := w + q * dl) hp
    rw [s.1, s.2.1, s.2.2]
    rcases Int.lt_trichotomy dl 0 with h | h | h
    · have hm : q * dl ≤ p * dl := Int.mul_le_mul_of_nonpos_right (by omega) (Int.le_of_lt h)
      have h1 := sp.1.mpr h
      have h2 := sq.1.mpr h
      omega
    · subst h; rw [Int.mul_zero] at *; rw [Int.mul_zero]; omega
    · have hm : p * dl ≤ q * dl := Int.mul_le_mul_of_nonneg_right (by omega) (Int.le_of_lt h)
      have h1 := sp.2.2.mpr h
      have h2 := sq.2.2.mpr h
      omega
