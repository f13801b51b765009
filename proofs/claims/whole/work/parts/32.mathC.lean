theorem i32_nle {x y : Int32} : ¬ x ≤ y ↔ y < x := by rw [Int32.le_iff_toInt_le, Int32.lt_iff_toInt_lt]; omega
theorem i32_nlt {x y : Int32} : ¬ x < y ↔ y ≤ x := by rw [Int32.le_iff_toInt_le, Int32.lt_iff_toInt_lt]; omega
theorem neg1_mul (x : Int32) : (-1 : Int32) * x = -x := by rw [Int32.neg_mul, Int32.one_mul]
section IVT
variable {N M : Nat → Nat} {V U : Nat → Int32} {A B : Nat → Nat → Int32}
theorem low_eq {n s : Nat} (h : IS n A B) (hs : s < n) : s_X2_low N V A s = loB B s ∧ s_X2_high N V A s = hiB B s := by
  obtain ⟨⟨-, e4, e5, -, e7⟩, -, hf, hl, -, hw⟩ := h s hs
  unfold s_X2_low s_X2_high loB hiB s_X5_from s_X5_to
  rw [e4, e5, e7]
  rcases hw with hw | hw
  · rw [hw, Int32.one_mul, if_neg (by decide : ¬ (1 : Int32) ≤ 0), if_neg (by decide : ¬ (1 : Int32) ≤ 0)]
    have e := fb_addI (x := B 3 s) (y := B 4 s) (by omega) (by omega)
    constructor
    · rw [if_neg]; rw [Int32.lt_iff_toInt_lt, e]; omega
    · rw [if_pos]; rw [Int32.lt_iff_toInt_lt, e]; omega
  · rw [hw, neg1_mul, if_pos (by decide : (-1 : Int32) ≤ 0), if_pos (by decide : (-1 : Int32) ≤ 0), ← Int32.sub_eq_add_neg]
    have e := fb_subI (x := B 3 s) (y := B 4 s) (by omega) (by omega)
    constructor
    · rw [if_pos]; rw [Int32.lt_iff_toInt_lt, e]; omega
    · rw [if_neg]; rw [Int32.lt_iff_toInt_lt, e]; omega
theorem lo_toInt {n s : Nat} (h : IS n A B) (hs : s < n) : (loB B s).toInt < (hiB B s).toInt ∧ -60 ≤ (loB B s).toInt ∧ (loB B s).toInt ≤ 100 ∧ 0 ≤ (hiB B s).toInt ∧ (hiB B s).toInt ≤ 160 ∧ ((loB B s).toInt = (B 3 s).toInt ∨ (hiB B s).toInt = (B 3 s).toInt) ∧ (hiB B s).toInt - (loB B s).toInt = (B 4 s).toInt := by
  obtain ⟨-, -, hf, hl, -, hw⟩ := h s hs
  unfold loB hiB s_X5_from s_X5_to
  rcases hw with hw | hw
  · rw [hw, if_neg (by decide : ¬ (1 : Int32) ≤ 0), if_neg (by decide : ¬ (1 : Int32) ≤ 0)]
    have e := fb_addI (x := B 3 s) (y := B 4 s) (by omega) (by omega)
    rw [e]; omega
  · rw [hw, if_pos (by decide : (-1 : Int32) ≤ 0), if_pos (by decide : (-1 : Int32) ≤ 0)]
    have e := fb_subI (x := B 3 s) (y := B 4 s) (by omega) (by omega)
    rw [e]; omega
theorem ov_L1 {S s : Nat} (hS : S < 2 ^ 31) : ∀ (n k : Nat) (a : Int32), k + n ≤ 16 → s_X5_overThatLie_L1 M U B (nI S) s n k a = a + nI (ctF (fun t => !S.testBit t && ovB B s t) n k)
  | 0, k, a, _ => by rw [s_X5_overThatLie_L1, ctF, nI_0, Int32.add_zero]
  | n + 1, k, a, h => by
    rw [s_X5_overThatLie_L1, ctF, isUp_tb hS (by omega)]
    by_cases h1 : S.testBit k = true
    · rw [if_pos h1, ov_L1 hS n _ _ (by omega)]
      simp [h1, Int32.add_zero]
    · have h1' : S.testBit k = false := Bool.eq_false_iff.mpr h1
      rw [if_neg h1]
      by_cases h2 : s_X5_isOver M U B s k = true
      · have h3 : ovB B s k = true := h2
        rw [if_pos h2, ov_L1 hS n _ _ (by omega)]
        simp only [h1', h3, Bool.not_false, Bool.and_self, if_true]
        rw [← nI_add, Int32.add_assoc]; rfl
      · have h3 : ovB B s k = false := Bool.eq_false_iff.mpr h2
        rw [if_neg h2, ov_L1 hS n _ _ (by omega)]
        simp [h3, Int32.add_zero]
theorem ov_ct {S s : Nat} (hS : S < 2 ^ 31) (hn : M 0 ≤ 10) : s_X5_overThatLie M U B (nI S) s = nI (fb_ct (fun t => !S.testBit t && ovB B s t) (M 0)) := by
  unfold s_X5_overThatLie
  rw [ov_L1 hS _ _ _ (by omega), ctF_0, Int32.zero_add]
theorem bar_L1 {S s : Nat} (hS : S < 2 ^ 31) : ∀ (n k : Nat) (a : Bool), k + n ≤ 16 → s_X5_isBarred_L1 M U B (nI S) s n k a = (a || anF (fun t => S.testBit t && fwB B s t) n k)
  | 0, k, a, _ => by rw [s_X5_isBarred_L1, anF, Bool.or_false]
  | n + 1, k, a, h => by
    rw [s_X5_isBarred_L1, anF, isUp_tb hS (by omega)]
    cases a with
    | true => rw [if_pos rfl, bar_L1 hS n _ _ (by omega)]; rfl
    | false =>
      rw [if_neg (by decide), Bool.false_or]
      by_cases h1 : S.testBit k = true
      · rw [if_pos h1, h1, Bool.true_and]
        have ef : s_X5_from M U B s = loB B s := rfl
        have et : s_X5_to M U B s = hiB B s := rfl
        rw [ef, et]
        unfold fwB
        by_cases h2 : B 3 k ≤ loB B s
        · rw [if_pos h2, bar_L1 hS n _ _ (by omega), decide_eq_false (fun h3 => i32_nlt.mpr h2 h3)]; rfl
        · rw [if_neg h2, decide_eq_true (i32_nle.mp h2), Bool.true_and]
          by_cases h3 : hiB B s ≤ B 3 k
          · rw [if_pos h3, bar_L1 hS n _ _ (by omega), decide_eq_false (fun h4 => i32_nlt.mpr h3 h4)]; rfl
          · rw [if_neg h3, bar_L1 hS n _ _ (by omega), decide_eq_true (i32_nle.mp h3)]; rfl
      · rw [if_neg h1, bar_L1 hS n _ _ (by omega), Bool.eq_false_iff.mpr h1]; rfl
theorem bar_iff {S s : Nat} (hS : S < 2 ^ 31) (hn : M 0 ≤ 10) : s_X5_isBarred M U B (nI S) s = true ↔ ∃ k, k < M 0 ∧ S.testBit k = true ∧ fwB B s k = true := by
  unfold s_X5_isBarred
  rw [bar_L1 hS _ _ _ (by omega), Bool.false_or, anF_0]
  simp only [Bool.and_eq_true]
/-- the ship's sets: which spars lie over, whose feet are within -/
theorem over_nI (h : okC N A) (s : Nat) : A 8 s = nI (A 8 s).toNatClampNeg ∧ (A 8 s).toNatClampNeg < 1024 := h.2.2.2.2.2.1 s
theorem feet_nI (h : okC N A) (s : Nat) : A 9 s = nI (A 9 s).toNatClampNeg ∧ (A 9 s).toNatClampNeg < 1024 := h.2.2.2.2.2.2.1 s
theorem over_clr {s S : Nat} (hs : s < M 0) (hO : IO (M 0) A B) : nclr (A 8 s).toNatClampNeg S = 0 ↔ fb_ct (fun t => !S.testBit t && ovB B s t) (M 0) = 0 := by
  rw [zero_tb, fb_ct_zero]
  constructor
  · intro h k hk
    have h1 := h k
    rw [nclr_bit, (hO s k).1] at h1
    simp only [hs, hk, decide_true, Bool.true_and] at h1
    rw [Bool.and_comm]; exact h1
  · intro h i
    rw [nclr_bit, (hO s i).1]
    by_cases hi : i < M 0
    · have h1 := h i hi
      simp only [hs, hi, decide_true, Bool.true_and]
      rw [Bool.and_comm]; exact h1
    · simp [hi]
theorem feet_and {s S : Nat} (hs : s < M 0) (hO : IO (M 0) A B) : (A 9 s).toNatClampNeg &&& S = 0 ↔ ¬ ∃ k, k < M 0 ∧ S.testBit k = true ∧ fwB B s k = true := by
  rw [zero_tb]
  constructor
  · rintro h ⟨k, hk, h1, h2⟩
    have h3 := h k
    rw [Nat.testBit_and, (hO s k).2] at h3
    simp [hs, hk, h1, h2] at h3
  · intro h i
    rw [Nat.testBit_and, (hO s i).2]
    by_cases hi : i < M 0
    · cases h1 : S.testBit i with
      | false => simp
      | true =>
        cases h2 : fwB B s i with
        | false => simp
        | true => exact absurd ⟨i, hi, h1, h2⟩ h
    · simp [hi]
theorem nI_le0 {a : Nat} (h : a < 2 ^ 31) : nI a ≤ (0 : Int32) ↔ a = 0 := by
  rw [show (0 : Int32) = nI 0 from rfl, nI_leI h (by decide)]; omega
theorem raised_lt (e1 : N 1 = M 1) (hn : M 0 ≤ 10) (hT : M 1 ≤ 16) (hIT : IT (M 0) (M 1) N A B) : s_X3_raised N V A < 2 ^ M 0 := by
  have key : ∀ (n k a : Nat), k + n ≤ M 1 → a < 2 ^ M 0 → s_X3_raised_L1 N V A n k a < 2 ^ M 0 := by
    intro n
    induction n with
    | zero => intro k a _ ha; rw [s_X3_raised_L1]; exact ha
    | succ n ih =>
      intro k a hk ha
      rw [s_X3_raised_L1]
      have e := hIT.1 k (by omega)
      split
      · refine ih _ _ (by omega) (or_lt ha ?_)
        rw [e.1.2.1]
        exact Nat.pow_lt_pow_right (by omega) e.2.1.2
      · exact ih _ _ (by omega) ha
  unfold s_X3_raised
  exact key _ _ _ (by omega) (Nat.two_pow_pos _)
theorem mayRise_eq (iv : Inv N V A M U B) {S s : Nat} (hS : S < 1024) (hs : s < M 0) : s_X2_mayRise N V A s (nI S) (nI (s_X3_raised N V A)) = s_X5_mayRise M U B (nI S) s := by
  obtain ⟨⟨e0, e1, e2, hn, hT, hU⟩, -, -, hIS, hO, hIT, -, okc, -⟩ := iv
  have hr : s_X3_raised N V A < 2 ^ 31 := Nat.lt_trans (raised_lt e1 hn hT hIT) (Nat.pow_lt_pow_right (by omega) (by omega))
  unfold s_X2_mayRise s_X5_mayRise
  rw [isIn_tb (by omega) (by omega), isIn_tb hr (by omega), isUp_tb (by omega) (by omega), raised_tb e1 hT hIT s (by omega), raisers_ct, ov_ct (by omega) hn, (over_nI okc s).1, nclr_eq, (feet_nI okc s).1, fa_and]
  have hc1 : fb_ct (fun t => decide (B 8 t = nI s) && raB B t) (M 1) ≤ 16 := Nat.le_trans (fb_ct_le _ _) hT
  have hc2 : fb_ct (fun t => !S.testBit t && ovB B s t) (M 0) ≤ 10 := Nat.le_trans (fb_ct_le _ _) hn
  by_cases h1 : S.testBit s = true
  · rw [if_pos h1, if_pos h1]
  · rw [if_neg h1, if_neg h1]
    by_cases h2 : 0 < fb_ct (fun t => decide (B 8 t = nI s) && raB B t) (M 1)
    · have h2n : ¬ nI (fb_ct (fun t => decide (B 8 t = nI s) && raB B t) (M 1)) ≤ (0 : Int32) := fun h => by
        rw [nI_le0 (by omega)] at h; omega
      rw [if_pos (decide_eq_true h2), if_neg h2n]
      have hb2 := (over_nI okc s).2
      have hb3 := (feet_nI okc s).2
      have hle := nclr_le (A 8 s).toNatClampNeg S
      have hle2 : (A 9 s).toNatClampNeg &&& S ≤ (A 9 s).toNatClampNeg := Nat.and_le_left
      by_cases h3 : fb_ct (fun t => !S.testBit t && ovB B s t) (M 0) = 0
      · rw [if_pos ((nI_eq0 (by omega)).mpr ((over_clr hs hO).mpr h3)), if_pos ((nI_eq0 (by omega)).mpr h3)]
        by_cases h4 : ∃ k, k < M 0 ∧ S.testBit k = true ∧ fwB B s k = true
        · rw [if_neg (fun h => (feet_and hs hO).mp ((nI_eq0 (by omega)).mp h) h4), if_pos ((bar_iff (by omega) hn).mpr h4)]
        · rw [if_pos ((nI_eq0 (by omega)).mpr ((feet_and hs hO).mpr h4)), if_neg (fun h => h4 ((bar_iff (by omega) hn).mp h))]
      · rw [if_neg (fun h => h3 ((over_clr hs hO).mp ((nI_eq0 (by omega)).mp h))), if_neg (fun h => h3 ((nI_eq0 (by omega)).mp h))]
    · rw [if_neg (fun h => h2 (of_decide_eq_true h)), if_pos ((nI_le0 (by omega)).mpr (by omega))]
end IVT
