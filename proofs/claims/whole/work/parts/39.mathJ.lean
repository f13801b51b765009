section IVJ
variable {N M : Nat → Nat} {V U : Nat → Int32} {A B : Nat → Nat → Int32}
theorem copy_L1 {x i o j n0 : Int32} : ∀ (n k : Nat) (C : Nat → Nat → Int32), (∀ p, p ≠ 17 → s_X5_copy_L1 M U B x i o j n0 n k C p = C p) ∧ ∀ m, s_X5_copy_L1 M U B x i o j n0 n k C 17 m = if k ≤ m ∧ m < k + n then C 16 (50 * x.toNatClampNeg + i.toNatClampNeg + m) else C 17 m
  | 0, k, C => by
    rw [s_X5_copy_L1]
    exact ⟨fun _ _ => rfl, fun m => by rw [if_neg (by omega)]⟩
  | n + 1, k, C => by
    rw [s_X5_copy_L1]
    obtain ⟨h1, h2⟩ := copy_L1 (x := x) (i := i) (o := o) (j := j) (n0 := n0) n (k + 1) (va_up C 17 (upd (C 17) k (C 16 (((50 * x.toNatClampNeg) + i.toNatClampNeg) + k))))
    refine ⟨fun p hp => by rw [h1 p hp, va_up_o _ _ hp], fun m => ?_⟩
    rw [h2 m, show va_up C 17 (upd (C 17) k (C 16 (((50 * x.toNatClampNeg) + i.toNatClampNeg) + k))) 16 = C 16 from rfl, show va_up C 17 (upd (C 17) k (C 16 (((50 * x.toNatClampNeg) + i.toNatClampNeg) + k))) 17 = upd (C 17) k (C 16 (((50 * x.toNatClampNeg) + i.toNatClampNeg) + k)) from rfl]
    by_cases e : m = k
    · subst e
      rw [pk_us, if_neg (c := m + 1 ≤ m ∧ m < m + 1 + n) (by omega), if_pos (c := m ≤ m ∧ m < m + (n + 1)) (by omega)]
    · rw [pk_un e]
      by_cases c : k ≤ m ∧ m < k + (n + 1)
      · rw [if_pos c, if_pos (by omega)]
      · rw [if_neg c, if_neg (by omega)]
theorem copy_L2 {x i o j n0 : Int32} : ∀ (n k : Nat) (C : Nat → Nat → Int32), (∀ p, p ≠ 16 → s_X5_copy_L2 M U B x i o j n0 n k C p = C p) ∧ ∀ m, s_X5_copy_L2 M U B x i o j n0 n k C 16 m = if 50 * o.toNatClampNeg + j.toNatClampNeg + k ≤ m ∧ m < 50 * o.toNatClampNeg + j.toNatClampNeg + k + n then C 17 (m - (50 * o.toNatClampNeg + j.toNatClampNeg)) else C 16 m
  | 0, k, C => by
    rw [s_X5_copy_L2]
    exact ⟨fun _ _ => rfl, fun m => by rw [if_neg (by omega)]⟩
  | n + 1, k, C => by
    rw [s_X5_copy_L2]
    obtain ⟨h1, h2⟩ := copy_L2 (x := x) (i := i) (o := o) (j := j) (n0 := n0) n (k + 1) (va_up C 16 (upd (C 16) (((50 * o.toNatClampNeg) + j.toNatClampNeg) + k) (C 17 k)))
    refine ⟨fun p hp => by rw [h1 p hp, va_up_o _ _ hp], fun m => ?_⟩
    rw [h2 m, show va_up C 16 (upd (C 16) (((50 * o.toNatClampNeg) + j.toNatClampNeg) + k) (C 17 k)) 16 = upd (C 16) (((50 * o.toNatClampNeg) + j.toNatClampNeg) + k) (C 17 k) from rfl, show va_up C 16 (upd (C 16) (((50 * o.toNatClampNeg) + j.toNatClampNeg) + k) (C 17 k)) 17 = C 17 from rfl]
    generalize 50 * o.toNatClampNeg + j.toNatClampNeg = b
    by_cases e : m = b + k
    · subst e
      rw [pk_us, if_neg (c := b + (k + 1) ≤ b + k ∧ b + k < b + (k + 1) + n) (by omega), if_pos (c := b + k ≤ b + k ∧ b + k < b + k + (n + 1)) (by omega), show b + k - b = k by omega]
    · rw [pk_un e]
      by_cases c : b + k ≤ m ∧ m < b + k + (n + 1)
      · rw [if_pos c, if_pos (by omega)]
      · rw [if_neg c, if_neg (by omega)]
theorem beyondI (i n all : Int32) : s_X5_isBeyond i n.toInt64 all = !decide (0 ≤ i.toInt ∧ 0 ≤ n.toInt ∧ i.toInt + n.toInt ≤ all.toInt) := by
  have ri := fb_rng i
  have rn := fb_rng n
  unfold s_X5_isBeyond
  have ea : (i.toInt64 + n.toInt64).toInt = i.toInt + n.toInt := by rw [fb_addL (by rw [toL, toL]; omega) (by rw [toL, toL]; omega), toL, toL]
  by_cases h1 : i < 0
  · rw [if_pos h1]; rw [Int32.lt_iff_toInt_lt, show (0 : Int32).toInt = 0 from rfl] at h1; rw [decide_eq_false (by omega)]; rfl
  · rw [if_neg h1]
    rw [Int32.lt_iff_toInt_lt, show (0 : Int32).toInt = 0 from rfl] at h1
    by_cases h2 : lg_cmp n.toInt64 0 < 0
    · rw [if_pos h2]; rw [lg_cmp_lt, Int64.lt_iff_toInt_lt, toL, show (0 : Int64).toInt = 0 from rfl] at h2; rw [decide_eq_false (by omega)]; rfl
    · rw [if_neg h2]
      rw [lg_cmp_lt, Int64.lt_iff_toInt_lt, toL, show (0 : Int64).toInt = 0 from rfl] at h2
      by_cases h3 : lg_cmp (i.toInt64 + n.toInt64) all.toInt64 ≤ 0
      · rw [if_pos h3]; rw [lg_cmp_le, Int64.le_iff_toInt_le, ea, toL] at h3; rw [decide_eq_true (by omega)]; rfl
      · rw [if_neg h3]; rw [lg_cmp_le, Int64.le_iff_toInt_le, ea, toL] at h3; rw [decide_eq_false (by omega)]; rfl
theorem copy_eq (iv : Inv N V A M U B) (x i o j n : Int32) : Same (s_X4_copy N V A x i o j n) (s_X5_copy M U B x i o j n) := by
  have okv := okV_0 iv.okV 0
  have ivf := iv.setFault 0
  have hHf : IH (va_up V 0 0) A B := ivf.2.2.2.2.2.2.1
  unfold s_X4_copy s_X5_copy
  rw [noSheet_is (N := N) (V := va_up V 0 0) (A := A) x, noSheet_is (N := N) (V := va_up V 0 0) (A := A) o, ite3, ite3]
  refine same_if (fun h1 => ?_) (fun _ => ⟨rfl, ivf⟩)
  refine same_if (fun h2 => ?_) (fun _ => ⟨rfl, ivf⟩)
  obtain ⟨hk, -⟩ := isSheet_t h1
  obtain ⟨ho, -⟩ := isSheet_t h2
  by_cases c1 : B 14 x.toNatClampNeg < 0
  · rw [if_pos ((sh_not hHf hk).mpr c1), if_pos c1]; exact ⟨rfl, iv.setFault2 1 0⟩
  · rw [if_neg (fun h => c1 ((sh_not hHf hk).mp h)), if_neg c1]
    by_cases c2 : B 14 o.toNatClampNeg < 0
    · rw [if_pos ((sh_not hHf ho).mpr c2), if_neg (fun h => i32_nlt.mpr h c2)]; exact ⟨rfl, iv.setFault2 1 0⟩
    · rw [if_neg (fun h => c2 ((sh_not hHf ho).mp h)), if_pos (i32_nlt.mp c2)]
      rw [Int32.lt_iff_toInt_lt, show (0 : Int32).toInt = 0 from rfl] at c1 c2
      have fk := hHf _ hk
      have fo := hHf _ ho
      rcases fk with ⟨-, -, h⟩ | ⟨a1, a2, a3, a4, a5⟩
      · rw [h] at c1; exact absurd (show (-1 : Int32).toInt < 0 by decide) c1
      · rcases fo with ⟨-, -, h⟩ | ⟨b1, b2, b3, b4, b5⟩
        · rw [h] at c2; exact absurd (show (-1 : Int32).toInt < 0 by decide) c2
        · rw [a2, b2]
          refine same_if (fun _ => ?_) (fun _ => ⟨rfl, iv.setFault2 2 0⟩)
          rw [hasCellsI (okv _ hk), hasCellsI (okv _ ho), a3, b3, beyondI, beyondI, ite3, ite3]
          refine same_if (fun d1 => ?_) (fun _ => ⟨rfl, iv.setFault2 3 0⟩)
          refine same_if (fun d2 => ?_) (fun _ => ⟨rfl, iv.setFault2 3 0⟩)
          rw [decide_eq_true_iff] at d1 d2
          obtain ⟨i1, i2⟩ := nI_tn (n := 51) d1.1 (by omega) (by omega)
          obtain ⟨j1, j2⟩ := nI_tn (n := 51) d2.1 (by omega) (by omega)
          obtain ⟨n1, n2⟩ := nI_tn (n := 51) d1.2.1 (by omega) (by omega)
          have i3 : i.toInt = (i.toNatClampNeg : Int) := by rw [← nI_toInt (n := i.toNatClampNeg) (by omega), i2]
          have j3 : j.toInt = (j.toNatClampNeg : Int) := by rw [← nI_toInt (n := j.toNatClampNeg) (by omega), j2]
          have n3 : n.toInt = (n.toNatClampNeg : Int) := by rw [← nI_toInt (n := n.toNatClampNeg) (by omega), n2]
          refine ⟨n2.symm, ?_⟩
          obtain ⟨p1, p2⟩ := copy_L1 (M := M) (U := U) (B := B) (x := x) (i := i) (o := o) (j := j) (n0 := n) n.toNatClampNeg 0 B
          obtain ⟨q1, q2⟩ := copy_L2 (M := M) (U := U) (B := B) (x := x) (i := i) (o := o) (j := j) (n0 := n) n.toNatClampNeg 0 (s_X5_copy_L1 M U B x i o j n n.toNatClampNeg 0 B)
          show Inv N (va_up V 0 0) (va_up A (18 + 2 * o.toNatClampNeg) (va_cpy (A (18 + 2 * x.toNatClampNeg)) (A (18 + 2 * o.toNatClampNeg)) i.toNatClampNeg j.toNatClampNeg n.toNatClampNeg)) M (va_up U 0 0) (s_X5_copy_L2 M U B x i o j n n.toNatClampNeg 0 (s_X5_copy_L1 M U B x i o j n n.toNatClampNeg 0 B))
          generalize s_X5_copy_L2 M U B x i o j n n.toNatClampNeg 0 (s_X5_copy_L1 M U B x i o j n n.toNatClampNeg 0 B) = C at q1 q2 ⊢
          generalize s_X5_copy_L1 M U B x i o j n n.toNatClampNeg 0 B = C1 at p1 p2 q1 q2
          generalize x.toNatClampNeg = kx at *
          generalize o.toNatClampNeg = ko at *
          generalize i.toNatClampNeg = ki at *
          generalize j.toNatClampNeg = kj at *
          generalize n.toNatClampNeg = kn at *
          refine iv.sheets ⟨rfl, iv.2.1.2⟩ (fun p hp => va_up_o _ _ (by omega)) (fun p hp => by rw [q1 p (by omega), p1 p (by omega)]) ?_
          intro t ht
          have c14 : C 14 = B 14 := by rw [q1 14 (by decide), p1 14 (by decide)]
          have c15 : C 15 = B 15 := by rw [q1 15 (by decide), p1 15 (by decide)]
          rw [c14, c15]
          rcases hHf t ht with h | ⟨t1, t2, t3, t4, t5⟩
          · exact Or.inl h
          · refine Or.inr ⟨t1, t2, t3, t4, fun m hm => ?_⟩
            rw [q2, p1 16 (by decide)]
            by_cases e : t = ko
            · subst e
              rw [show va_up A (18 + 2 * t) (va_cpy (A (18 + 2 * kx)) (A (18 + 2 * t)) ki kj kn) (18 + 2 * t) = va_cpy (A (18 + 2 * kx)) (A (18 + 2 * t)) ki kj kn from if_pos rfl]
              by_cases g : kj ≤ m ∧ m < kj + kn
              · rw [pk_cpy_in g.1 g.2, if_pos (by omega), p2, if_pos (by omega), a5 _ (by omega)]
                congr 1; omega
              · rw [pk_cpy_out (by omega), if_neg (by omega)]; exact t5 m hm
            · rw [va_up_o _ _ (show 18 + 2 * t ≠ 18 + 2 * ko by omega), if_neg (by omega)]
              exact t5 m hm
end IVJ
