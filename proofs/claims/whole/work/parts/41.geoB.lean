theorem apartI (a b : Int32) : s_X3_areApart a b = decide ((a.toInt < 0 ∧ 0 < b.toInt) ∨ (0 < a.toInt ∧ b.toInt < 0)) := by
  unfold s_X3_areApart
  simp only [Int32.le_iff_toInt_le, Int32.lt_iff_toInt_lt, show (0 : Int32).toInt = 0 from rfl]
  repeat' split
  all_goals first | exact (decide_eq_false (by omega)).symm | exact (decide_eq_true (by omega)).symm
theorem i32_z {x : Int32} : x = 0 ↔ x.toInt = 0 := ⟨fun h => by rw [h]; rfl, fun h => Int32.toInt_inj.mp h⟩
theorem crossI (dl ab : Int32) : (if dl = 0 then if ab = 0 then true else if 0 ≤ dl then if dl ≤ 0 then false else if 0 ≤ ab then false else true else if 0 < ab then true else if dl ≤ 0 then false else if 0 ≤ ab then false else true else if 0 ≤ dl then if dl ≤ 0 then false else if 0 ≤ ab then false else true else if 0 < ab then true else if dl ≤ 0 then false else if 0 ≤ ab then false else true) = decide ((dl.toInt = 0 ∧ ab.toInt = 0) ∨ (dl.toInt < 0 ∧ 0 < ab.toInt) ∨ (0 < dl.toInt ∧ ab.toInt < 0)) := by
  simp only [Int32.le_iff_toInt_le, Int32.lt_iff_toInt_lt, i32_z, show (0 : Int32).toInt = 0 from rfl]
  repeat' split
  all_goals first | exact (decide_eq_false (by omega)).symm | exact (decide_eq_true (by omega)).symm
theorem lesserI (a b : Int32) : (s_X5_lesser a b).toInt = if b.toInt ≤ a.toInt then b.toInt else a.toInt := by
  unfold s_X5_lesser
  by_cases h : b ≤ a
  · rw [if_pos h, if_pos (by rw [Int32.le_iff_toInt_le] at h; exact h)]
  · rw [if_neg h, if_neg (by rw [Int32.le_iff_toInt_le] at h; exact h)]
/-- the numbers of two threads: their sides and the model's below and above as whole numbers -/
theorem geo_nums {h k f g p q : Int32} (hh : -20 ≤ h.toInt ∧ h.toInt ≤ 120) (hk : -20 ≤ k.toInt ∧ k.toInt ≤ 120) (hf : 0 ≤ f.toInt ∧ f.toInt ≤ 100) (hg : 0 ≤ g.toInt ∧ g.toInt ≤ 100) (hp : 1 ≤ p.toInt ∧ p.toInt ≤ 60) (hq : 1 ≤ q.toInt ∧ q.toInt ≤ 60) :
    (h - k).toInt = h.toInt - k.toInt ∧ (((f - h) * (0 : Int32)) - (p * (k - h))).toInt = p.toInt * (h.toInt - k.toInt) ∧ (((f - h) * q) - (p * (g - h))).toInt = (f.toInt - h.toInt) * q.toInt - p.toInt * (g.toInt - k.toInt) + p.toInt * (h.toInt - k.toInt) ∧ ((((h - k) * p) * q + ((f - h) * s_X5_lesser p q) * q) - ((g - k) * s_X5_lesser p q) * p).toInt = (if q.toInt ≤ p.toInt then q.toInt else p.toInt) * ((f.toInt - h.toInt) * q.toInt - p.toInt * (g.toInt - k.toInt)) + (h.toInt - k.toInt) * p.toInt * q.toInt := by
  have e1 : (h - k).toInt = h.toInt - k.toInt := fb_subI (by omega) (by omega)
  have e2 : (k - h).toInt = k.toInt - h.toInt := fb_subI (by omega) (by omega)
  have e3 : (f - h).toInt = f.toInt - h.toInt := fb_subI (by omega) (by omega)
  have e4 : (g - h).toInt = g.toInt - h.toInt := fb_subI (by omega) (by omega)
  have e5 : (g - k).toInt = g.toInt - k.toInt := fb_subI (by omega) (by omega)
  have em := lesserI p q
  have hm : 1 ≤ (s_X5_lesser p q).toInt ∧ (s_X5_lesser p q).toInt ≤ 60 := by rw [em]; split <;> omega
  refine ⟨e1, ?_, ?_, ?_⟩
  · obtain ⟨m1, m2, m3⟩ := mulB (x := p) (y := k - h) 60 140 (by omega) (by omega) (by decide)
    rw [Int32.mul_zero, fb_subI (by rw [m1, show (0 : Int32).toInt = 0 from rfl]; omega) (by rw [m1, show (0 : Int32).toInt = 0 from rfl]; omega), m1, e2, show (0 : Int32).toInt = 0 from rfl]
    rw [show h.toInt - k.toInt = -(k.toInt - h.toInt) by omega, Int.mul_neg]; omega
  · obtain ⟨m1, m2, m3⟩ := mulB (x := f - h) (y := q) 120 60 (by omega) (by omega) (by decide)
    obtain ⟨n1, n2, n3⟩ := mulB (x := p) (y := g - h) 60 120 (by omega) (by omega) (by decide)
    rw [fb_subI (by rw [m1, n1]; omega) (by rw [m1, n1]; omega), m1, n1, e3, e4]
    have : p.toInt * (g.toInt - h.toInt) = p.toInt * (g.toInt - k.toInt) - p.toInt * (h.toInt - k.toInt) := by
      rw [← Int.mul_sub]; congr 1; omega
    rw [this]; omega
  · obtain ⟨m1, m2, m3⟩ := mulB (x := h - k) (y := p) 140 60 (by omega) (by omega) (by decide)
    obtain ⟨n1, n2, n3⟩ := mulB (x := (h - k) * p) (y := q) (140 * 60) 60 (by omega) (by omega) (by decide)
    obtain ⟨a1, a2, a3⟩ := mulB (x := f - h) (y := s_X5_lesser p q) 120 60 (by omega) (by omega) (by decide)
    obtain ⟨b1, b2, b3⟩ := mulB (x := (f - h) * s_X5_lesser p q) (y := q) (120 * 60) 60 (by omega) (by omega) (by decide)
    obtain ⟨c1, c2, c3⟩ := mulB (x := g - k) (y := s_X5_lesser p q) 120 60 (by omega) (by omega) (by decide)
    obtain ⟨d1, d2, d3⟩ := mulB (x := (g - k) * s_X5_lesser p q) (y := p) (120 * 60) 60 (by omega) (by omega) (by decide)
    have s1 : (((h - k) * p) * q + ((f - h) * s_X5_lesser p q) * q).toInt = (((h - k) * p) * q).toInt + (((f - h) * s_X5_lesser p q) * q).toInt := fb_addI (by omega) (by omega)
    rw [fb_subI (by omega) (by omega), s1, n1, b1, d1, m1, a1, c1, e1, e3, e5, em]
    generalize (if q.toInt ≤ p.toInt then q.toInt else p.toInt) = m
    rw [Int.mul_sub m, show (f.toInt - h.toInt) * m * q.toInt = m * ((f.toInt - h.toInt) * q.toInt) by rw [Int.mul_comm (f.toInt - h.toInt) m, Int.mul_assoc], show (g.toInt - k.toInt) * m * p.toInt = m * (p.toInt * (g.toInt - k.toInt)) by rw [Int.mul_comm (g.toInt - k.toInt) m, Int.mul_assoc, Int.mul_comm (g.toInt - k.toInt)]]
    omega
section GEO
variable {N M : Nat → Nat} {V U : Nat → Int32} {A B : Nat → Nat → Int32}
/-- what is told of a thread on both sides -/
def thOk (A B : Nat → Nat → Int32) (t : Nat) : Prop := (A 11 t = B 7 t ∧ A 13 t = B 9 t ∧ A 14 t = B 3 (B 8 t).toNatClampNeg) ∧ (-20 ≤ (B 7 t).toInt ∧ (B 7 t).toInt ≤ 120) ∧ (1 ≤ (B 9 t).toInt ∧ (B 9 t).toInt ≤ 60) ∧ (0 ≤ (B 3 (B 8 t).toNatClampNeg).toInt ∧ (B 3 (B 8 t).toNatClampNeg).toInt ≤ 100)
theorem inner_cr {t u : Nat} (ht : thOk A B t) (hu : thOk A B u) (hne : ¬ nI t = nI u) : s_X3_haveInnerPointInCommon N V A t u = crB B t u := by
  obtain ⟨⟨x1, x2, x3⟩, x4, x5, x6⟩ := ht
  obtain ⟨⟨y1, y2, y3⟩, y4, y5, y6⟩ := hu
  unfold s_X3_haveInnerPointInCommon crB s_X5_doCross s_X3_sideOf
  rw [if_neg hne, crossI, apartI, apartI, x1, x2, x3, y1, y2, y3]
  generalize B 7 t = h at *
  generalize B 7 u = k at *
  generalize B 9 t = p at *
  generalize B 9 u = q at *
  generalize B 3 (B 8 t).toNatClampNeg = f at *
  generalize B 3 (B 8 u).toNatClampNeg = g at *
  obtain ⟨n1, n2, n3, n4⟩ := geo_nums (h := h) (k := k) (f := f) (g := g) (p := p) (q := q) x4 y4 x6 y6 x5 y5
  obtain ⟨m1, m2, m3, -⟩ := geo_nums (h := k) (k := h) (f := g) (g := f) (p := q) (q := p) y4 x4 y6 x6 y5 x5
  have core := geo_core (p := p.toInt) (q := q.toInt) (dl := h.toInt - k.toInt) (w := (f.toInt - h.toInt) * q.toInt - p.toInt * (g.toInt - k.toInt)) (by omega) (by omega)
  have z1 : q.toInt * (k.toInt - h.toInt) = -(q.toInt * (h.toInt - k.toInt)) := by
    rw [← Int.mul_neg]; congr 1; omega
  have z2 : (g.toInt - k.toInt) * p.toInt - q.toInt * (f.toInt - h.toInt) + q.toInt * (k.toInt - h.toInt) = -((f.toInt - h.toInt) * q.toInt - p.toInt * (g.toInt - k.toInt) + q.toInt * (h.toInt - k.toInt)) := by
    rw [z1, Int.mul_comm (g.toInt - k.toInt) p.toInt, Int.mul_comm q.toInt (f.toInt - h.toInt)]; omega
  rw [n1, n2, n3, n4, m2, m3, z2, z1]
  have d0 : (((f - h) * (0 : Int32)) - (p * (k - h))) = 0 ↔ h.toInt - k.toInt = 0 := by
    rw [i32_z, n2]; exact (sgn_mul (by omega)).2.1
  have d1 : (((f - h) * q) - (p * (g - h))) = 0 ↔ (f.toInt - h.toInt) * q.toInt - p.toInt * (g.toInt - k.toInt) + p.toInt * (h.toInt - k.toInt) = 0 := by
    rw [i32_z, n3]
  refine Bool.eq_iff_iff.mpr (Iff.trans ?_ (Iff.trans core decide_eq_true_iff.symm))
  by_cases c0 : (((f - h) * (0 : Int32)) - (p * (k - h))) = 0
  · have c0' := d0.mp c0
    rw [if_pos c0]
    by_cases c1 : (((f - h) * q) - (p * (g - h))) = 0
    · rw [if_pos c1]; exact ⟨fun _ => Or.inl ⟨c0', d1.mp c1⟩, fun _ => rfl⟩
    · rw [if_neg c1]
      have c1' := fun e => c1 (d1.mpr e)
      split
      · rename_i a1
        split
        · rename_i a2
          rw [decide_eq_true_iff] at a1 a2
          exact ⟨fun _ => Or.inr ⟨a1, a2⟩, fun _ => rfl⟩
        · rename_i a2
          rw [decide_eq_true_iff] at a2
          exact ⟨fun e => (by cases e), fun e => e.elim (fun e => absurd e.2 c1') (fun e => absurd e.2 a2)⟩
      · rename_i a1
        rw [decide_eq_true_iff] at a1
        exact ⟨fun e => (by cases e), fun e => e.elim (fun e => absurd e.2 c1') (fun e => absurd e.1 a1)⟩
  · have c0' := fun e => c0 (d0.mpr e)
    rw [if_neg c0]
    split
    · rename_i a1
      split
      · rename_i a2
        rw [decide_eq_true_iff] at a1 a2
        exact ⟨fun _ => Or.inr ⟨a1, a2⟩, fun _ => rfl⟩
      · rename_i a2
        rw [decide_eq_true_iff] at a2
        exact ⟨fun e => (by cases e), fun e => e.elim (fun e => absurd e.1 c0') (fun e => absurd e.2 a2)⟩
    · rename_i a1
      rw [decide_eq_true_iff] at a1
      exact ⟨fun e => (by cases e), fun e => e.elim (fun e => absurd e.1 c0') (fun e => absurd e.1 a1)⟩
end GEO
