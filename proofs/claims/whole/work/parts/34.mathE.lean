section IVQ
variable {N M : Nat → Nat} {V U : Nat → Int32} {A B : Nat → Nat → Int32}
theorem told_L2_ct {w : Int32} : ∀ (n k : Nat) (b d : Int32), s_X5_told_L2 M U B w n k b d = (b + nI (ctF (fun t => !bz (B 10 t)) n k), d + nI (smF (fun t => if bz (B 10 t) then 0 else fb_ct (fun u => !bz (B 10 u) && crB B t u) (M 1)) n k))
  | 0, k, b, d => by rw [s_X5_told_L2, ctF, smF, nI_0, Int32.add_zero, Int32.add_zero]
  | n + 1, k, b, d => by
    rw [s_X5_told_L2, ctF, smF]
    by_cases h1 : bz (B 10 k) = true
    · rw [if_pos h1, if_pos h1, told_L2_ct n]
      simp [h1, Int32.add_zero]
    · have e : s_X5_crossers M U B k = nI (fb_ct (fun u => !bz (B 10 u) && crB B k u) (M 1)) := by
        unfold s_X5_crossers
        rw [cross_L1, ctF_0, Int32.zero_add]
      rw [if_neg h1, if_neg h1, told_L2_ct n, e]
      simp only [h1, Bool.not_false, if_true, if_false]
      rw [Int32.add_assoc, Int32.add_assoc, nI_add, show (1 : Int32) = nI 1 from rfl, nI_add]
      simp
theorem pairs_L1 (hT : M 1 ≤ 16) (hIT : IT (M 0) (M 1) N A B) : ∀ (n k : Nat) (a : Int32), k + n ≤ M 1 → s_X3_wholePairsThatCross_L1 N V A n k a = a + nI (smF (fun t => if bz (B 10 t) then 0 else fb_ct (fun u => !bz (B 10 u) && crB B t u) (M 1)) n k)
  | 0, k, a, _ => by rw [s_X3_wholePairsThatCross_L1, smF, nI_0, Int32.add_zero]
  | n + 1, k, a, h => by
    have l4 := p2_16 (n4_lt hT hIT) hT
    have hk : k < M 1 := by omega
    rw [s_X3_wholePairsThatCross_L1, smF, isIn_tb (by omega) (by omega), (hIT.2.1 k).2]
    by_cases h1 : bz (B 10 k) = true
    · rw [if_neg (by simp [h1]), pairs_L1 hT hIT n _ _ (by omega)]
      simp [h1]
    · have h1' : bz (B 10 k) = false := Bool.eq_false_iff.mpr h1
      have e : nI (s_J6_bitCount_0f7a4 ((A 15 k).toNatClampNeg &&& N 4)) = nI (fb_ct (fun u => !bz (B 10 u) && crB B k u) (M 1)) := by
        rw [show nI (s_J6_bitCount_0f7a4 ((A 15 k).toNatClampNeg &&& N 4)) = s_X5_crossers M V B k from (crossers_pop hT hIT hk).symm]
        unfold s_X5_crossers
        rw [cross_L1, ctF_0, Int32.zero_add]
      rw [if_pos (by simp [h1', hk]), pairs_L1 hT hIT n _ _ (by omega), e]
      simp only [h1', if_false, Bool.false_eq_true]
      rw [Int32.add_assoc, nI_add]
theorem told_eq (iv : Inv N V A M U B) (w : Int32) : s_X4_told N V A w = s_X5_told M U B w := by
  obtain ⟨⟨e0, e1, e2, hn, hT, hU⟩, -, -, hIS, hO, hIT, -, okc, -⟩ := iv
  have hp : 2 ^ M 0 ≤ 1024 := Nat.le_trans (Nat.pow_le_pow_right (by omega) hn) (by decide)
  unfold s_X4_told s_X5_told
  refine ite2 (by rw [e0]) (ite2 (by rw [e1]) (ite2 ?_ (ite2 ?_ (ite2 ?_ (ite2 ?_ rfl)))))
  · rw [e2, count_pop (by omega)]; rfl
  · rw [told_L1_ct hn hT hU _ _ _ (by omega), ctF_0, Int32.zero_add]
    show nI (pop16 _) = _
    have hlt : N 2 &&& s_X3_raised N V A < 2 ^ M 0 := Nat.lt_of_le_of_lt Nat.and_le_left (by rw [e2]; exact hU)
    rw [pop_ct hlt (by omega)]
    refine congrArg nI (fb_ct_cong (fun k hk => ?_))
    rw [Nat.testBit_and, e2, raised_tb e1 hT hIT k (by omega)]
  · rw [told_L2_ct, ctF_0, Int32.zero_add]
    show nI (pop16 _) = nI _
    rw [pop_ct (n4_lt hT hIT) hT]
    refine congrArg nI (fb_ct_cong (fun k hk => ?_))
    rw [(hIT.2.1 k).2]; simp [hk]
  · unfold s_X3_wholePairsThatCross
    rw [e1, pairs_L1 hT hIT (M 1) 0 _ (by omega), told_L2_ct]
/-! the stack -/
def covB (M : Nat → Nat) (B : Nat → Nat → Int32) (s : Nat) (u : Int32) : Bool := !(M 2).testBit s && (decide (loB B s ≤ u) && decide (u < hiB B s))
theorem stack_L1 (iv : Inv N V A M U B) {u d : Int32} : ∀ (n k : Nat) (a : Int32), k + n ≤ M 0 → s_X5_stackAt_L1 M U B u n k (d + a) = d + s_X2_thickAt_L1 N V A u n k a
  | 0, k, a, _ => by rw [s_X5_stackAt_L1, s_X2_thickAt_L1]
  | n + 1, k, a, h => by
    obtain ⟨⟨e0, e1, e2, hn, hT, hU⟩, -, -, hIS, -⟩ := id iv
    have hp : 2 ^ M 0 ≤ 1024 := Nat.le_trans (Nat.pow_le_pow_right (by omega) hn) (by decide)
    have hk : k < M 0 := by omega
    have eu : s_X2_isUp N V A (nI k) = s_X5_isUp M U B (nI (M 2)) (nI k) := by unfold s_X2_isUp; rw [e2]; rfl
    have ef : s_X5_from M U B k = loB B k := rfl
    have et : s_X5_to M U B k = hiB B k := rfl
    rw [s_X5_stackAt_L1, s_X2_thickAt_L1, eu, ef, et, (low_eq hIS hk).1, (low_eq hIS hk).2, Int32.add_zero, stack_L1 iv n _ _ (by omega), Int32.add_assoc, stack_L1 iv n _ _ (by omega), ← (hIS k hk).1.2.2.2.1]
    by_cases h1 : s_X5_isUp M U B (nI (M 2)) (nI k) = true
    · rw [if_pos h1, if_pos h1]
    · rw [if_neg h1, if_neg h1]
      by_cases h2 : u < loB B k
      · rw [if_pos h2, if_pos h2]
      · rw [if_neg h2, if_neg h2]
        by_cases h3 : hiB B k ≤ u
        · rw [if_pos h3, if_pos h3]
        · rw [if_neg h3, if_neg h3]
theorem stackAt_eq (iv : Inv N V A M U B) (u : Int32) : s_X5_stackAt M U B u = A 1 2 + s_X2_thickAt N V A u := by
  obtain ⟨⟨e0, -⟩, -, hR, -⟩ := id iv
  unfold s_X5_stackAt s_X2_thickAt
  have h := stack_L1 iv (u := u) (d := B 1 2) (M 0) 0 0 (by omega)
  rw [Int32.add_zero] at h
  rw [h, e0, (hR 2 (by omega)).1]
theorem withinI (x a b : Int32) : s_X4_isWithin x a b = decide (a.toInt ≤ x.toInt ∧ x.toInt ≤ b.toInt) := by
  unfold s_X4_isWithin
  by_cases h1 : x < a
  · rw [if_pos h1]; rw [Int32.lt_iff_toInt_lt] at h1; exact (decide_eq_false (by omega)).symm
  · rw [if_neg h1]
    rw [Int32.lt_iff_toInt_lt] at h1
    by_cases h2 : b < x
    · rw [if_pos h2]; rw [Int32.lt_iff_toInt_lt] at h2; exact (decide_eq_false (by omega)).symm
    · rw [if_neg h2]; rw [Int32.lt_iff_toInt_lt] at h2; exact (decide_eq_true (by omega)).symm
theorem within_in (x a b : Int32) (a' b' : Int64) (ha : a'.toInt = a.toInt) (hb : b'.toInt = b.toInt) : s_X5_in x.toInt64 a' b' = s_X4_isWithin x a b := by
  rw [withinI, Bool.eq_iff_iff, in_iff, toL, ha, hb, decide_eq_true_iff]
theorem stack_eq (iv : Inv N V A M U B) (u : Int32) : s_X4_stack N V A u = s_X5_stack M U B u := by
  unfold s_X4_stack s_X5_stack
  rw [within_in u (-100) 200 (-100) 200 (by decide) (by decide), stackAt_eq iv]
/-- the sum at u, as a number -/
def tkI (M : Nat → Nat) (B : Nat → Nat → Int32) (u : Int32) : Int := fb_si (fun s => if covB M B s u then (B 5 s).toInt else 0) (M 0)
def siF (f : Nat → Int) : Nat → Nat → Int
  | 0, _ => 0
  | n + 1, k => f k + siF f n (k + 1)
theorem siF_si (f : Nat → Int) : ∀ n k, fb_si f k + siF f n k = fb_si f (k + n)
  | 0, k => Int.add_zero _
  | n + 1, k => by
    rw [siF, show k + (n + 1) = (k + 1) + n by omega, ← siF_si f n (k + 1), fb_si_succ]
    omega
theorem siF_0 (f : Nat → Int) (n : Nat) : siF f n 0 = fb_si f n := by
  have h := siF_si f n 0
  rw [show fb_si f 0 = 0 from rfl, Int.zero_add, Nat.zero_add] at h
  exact h
theorem thick_L1 (iv : Inv N V A M U B) {u : Int32} : ∀ (n k : Nat) (a : Int32), k + n ≤ M 0 → 0 ≤ a.toInt → a.toInt ≤ 9 * k → (s_X2_thickAt_L1 N V A u n k a).toInt = a.toInt + siF (fun s => if covB M B s u then (B 5 s).toInt else 0) n k ∧ 0 ≤ siF (fun s => if covB M B s u then (B 5 s).toInt else 0) n k ∧ siF (fun s => if covB M B s u then (B 5 s).toInt else 0) n k ≤ 9 * n
  | 0, k, a, _, _, _ => by rw [s_X2_thickAt_L1, siF]; omega
  | n + 1, k, a, h, h0, h9 => by
    obtain ⟨⟨e0, e1, e2, hn, hT, hU⟩, -, -, hIS, -⟩ := id iv
    have hp : 2 ^ M 0 ≤ 1024 := Nat.le_trans (Nat.pow_le_pow_right (by omega) hn) (by decide)
    have hk : k < M 0 := by omega
    have eu : s_X2_isUp N V A (nI k) = (M 2).testBit k := by unfold s_X2_isUp; rw [e2, isIn_tb (by omega) (by omega)]
    obtain ⟨⟨-, -, -, e6, -⟩, -, -, -, ht, -⟩ := hIS k hk
    have ih1 := thick_L1 iv (u := u) n (k + 1) a (by omega) h0 (by omega)
    have eadd : (a + A 6 k).toInt = a.toInt + (B 5 k).toInt := by rw [e6]; exact fb_addI (by omega) (by omega)
    have ih2 := thick_L1 iv (u := u) n (k + 1) (a + A 6 k) (by omega) (by omega) (by omega)
    rw [s_X2_thickAt_L1, siF, eu, (low_eq hIS hk).1, (low_eq hIS hk).2]
    unfold covB at *
    by_cases h1 : (M 2).testBit k = true
    · rw [if_pos h1]; simp only [h1, Bool.not_true, Bool.false_and, Bool.false_eq_true, if_false]; omega
    · have h1' : (M 2).testBit k = false := Bool.eq_false_iff.mpr h1
      rw [if_neg h1]
      by_cases h2 : u < loB B k
      · rw [if_pos h2, decide_eq_false (fun h3 => i32_nle.mpr h2 h3)]
        simp only [Bool.false_and, Bool.and_false, Bool.false_eq_true, if_false]; omega
      · rw [if_neg h2, decide_eq_true (i32_nlt.mp h2)]
        by_cases h3 : hiB B k ≤ u
        · rw [if_pos h3, decide_eq_false (fun h4 => i32_nlt.mpr h3 h4)]
          simp only [Bool.and_false, Bool.false_eq_true, if_false]; omega
        · rw [if_neg h3, decide_eq_true (i32_nle.mp h3)]
          simp only [h1', Bool.not_false, Bool.and_self, if_true]; omega
theorem thick_I (iv : Inv N V A M U B) (u : Int32) : (s_X2_thickAt N V A u).toInt = tkI M B u ∧ 0 ≤ tkI M B u ∧ tkI M B u ≤ 90 := by
  obtain ⟨⟨e0, e1, e2, hn, hT, hU⟩, -⟩ := id iv
  have h := thick_L1 iv (u := u) (M 0) 0 0 (by omega) (by decide) (by decide)
  rw [siF_0, show (0 : Int32).toInt = 0 from rfl] at h
  unfold s_X2_thickAt tkI
  rw [e0]
  omega
end IVQ
