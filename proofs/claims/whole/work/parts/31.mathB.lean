/-! the ship and its model: what holds between their cells -/
def I0 (N M : Nat → Nat) : Prop := N 0 = M 0 ∧ N 1 = M 1 ∧ N 2 = M 2 ∧ M 0 ≤ 10 ∧ M 1 ≤ 16 ∧ M 2 < 2 ^ M 0
def IR (A B : Nat → Nat → Int32) : Prop := ∀ j, j < 5 → A 1 j = B 1 j ∧ 1 ≤ (B 1 j).toInt ∧ (B 1 j).toInt ≤ (gmV j).toInt
def IS (n : Nat) (A B : Nat → Nat → Int32) : Prop := ∀ j, j < n → (A 3 j = B 2 j ∧ A 4 j = B 3 j ∧ A 5 j = B 4 j ∧ A 6 j = B 5 j ∧ A 7 j = B 6 j) ∧ (0 ≤ (B 2 j).toInt ∧ (B 2 j).toInt ≤ 2) ∧ (0 ≤ (B 3 j).toInt ∧ (B 3 j).toInt ≤ 100) ∧ (1 ≤ (B 4 j).toInt ∧ (B 4 j).toInt ≤ 60) ∧ (1 ≤ (B 5 j).toInt ∧ (B 5 j).toInt ≤ 9) ∧ (B 6 j = 1 ∨ B 6 j = -1)
def loB (B : Nat → Nat → Int32) (s : Nat) : Int32 := s_X5_from (fun _ => 0) (fun _ => 0) B s
def hiB (B : Nat → Nat → Int32) (s : Nat) : Int32 := s_X5_to (fun _ => 0) (fun _ => 0) B s
def ovB (B : Nat → Nat → Int32) (a b : Nat) : Bool := s_X5_isOver (fun _ => 0) (fun _ => 0) B a b
def fwB (B : Nat → Nat → Int32) (a b : Nat) : Bool := decide (loB B a < B 3 b) && decide (B 3 b < hiB B a)
def raB (B : Nat → Nat → Int32) (t : Nat) : Bool := s_X5_raises (fun _ => 0) (fun _ => 0) B t
def crB (B : Nat → Nat → Int32) (t u : Nat) : Bool := s_X5_doCross (fun _ => 0) (fun _ => 0) B t u
def IO (n : Nat) (A B : Nat → Nat → Int32) : Prop := ∀ a b : Nat, (A 8 a).toNatClampNeg.testBit b = (decide (a < n) && decide (b < n) && ovB B a b) ∧ (A 9 a).toNatClampNeg.testBit b = (decide (a < n) && decide (b < n) && fwB B a b)
def bhB (B : Nat → Nat → Int32) (t : Nat) : Bool := decide ((B 7 t - B 3 (B 8 t).toNatClampNeg) * B 6 (B 8 t).toNatClampNeg < 0)
def IT (n T : Nat) (N : Nat → Nat) (A B : Nat → Nat → Int32) : Prop := (∀ t, t < T → (A 11 t = B 7 t ∧ A 12 t = B 8 t ∧ A 13 t = B 9 t ∧ A 14 t = B 3 (B 8 t).toNatClampNeg) ∧ (B 8 t = nI (B 8 t).toNatClampNeg ∧ (B 8 t).toNatClampNeg < n) ∧ (-20 ≤ (B 7 t).toInt ∧ (B 7 t).toInt ≤ 120) ∧ (1 ≤ (B 9 t).toInt ∧ (B 9 t).toInt ≤ 60)) ∧ (∀ t, (N 3).testBit t = (decide (t < T) && bhB B t) ∧ (N 4).testBit t = (decide (t < T) && !bz (B 10 t))) ∧ (∀ t u : Nat, (A 15 t).toNatClampNeg.testBit u = (decide (t < T) && decide (u < T) && crB B t u))
def IH (V : Nat → Int32) (A B : Nat → Nat → Int32) : Prop := ∀ k, k < 4 → (V (5 + k) = -1 ∧ V (9 + k) = 0 ∧ B 14 k = -1) ∨ ((0 ≤ (V (5 + k)).toInt ∧ (V (5 + k)).toInt ≤ 2) ∧ V (5 + k) = B 15 k ∧ V (9 + k) = B 14 k ∧ (0 ≤ (B 14 k).toInt ∧ (B 14 k).toInt ≤ 50) ∧ ∀ j : Nat, (j : Int) < (B 14 k).toInt → A (18 + 2 * k) j = B 16 (50 * k + j))
def Inv (N : Nat → Nat) (V : Nat → Int32) (A : Nat → Nat → Int32) (M : Nat → Nat) (U : Nat → Int32) (B : Nat → Nat → Int32) : Prop :=
  I0 N M ∧ (V 0 = U 0 ∧ V 1 = U 1) ∧ IR A B ∧ IS (M 0) A B ∧ IO (M 0) A B ∧ IT (M 0) (M 1) N A B ∧ IH V A B ∧ okC N A ∧ okM M B
theorem i32_tot (x : Int32) : ¬ 0 ≤ x ↔ x < 0 := by
  rw [Int32.le_iff_toInt_le, Int32.lt_iff_toInt_lt]; omega
theorem raB_eq (B : Nat → Nat → Int32) (t : Nat) : raB B t = (!bz (B 10 t) && bhB B t) := by
  unfold raB s_X5_raises bhB
  cases h : bz (B 10 t)
  · simp only [Bool.not_false, Bool.true_and]
    by_cases h2 : 0 ≤ ((B 7 t - B 3 (B 8 t).toNatClampNeg) * B 6 (B 8 t).toNatClampNeg)
    · rw [if_neg (by decide), if_pos h2]
      exact (decide_eq_false (fun h3 => (i32_tot _).mpr h3 h2)).symm
    · rw [if_neg (by decide), if_neg h2]
      exact (decide_eq_true ((i32_tot _).mp h2)).symm
  · rfl
section IVS
variable {N M : Nat → Nat} {V U : Nat → Int32} {A B : Nat → Nat → Int32}
theorem raising_tb (h : IT (M 0) (M 1) N A B) (t : Nat) : (s_X3_raising N V A).testBit t = (decide (t < M 1) && raB B t) := by
  unfold s_X3_raising
  rw [Nat.testBit_and, (h.2.1 t).1, (h.2.1 t).2, raB_eq]
  cases decide (t < M 1) <;> cases bz (B 10 t) <;> cases bhB B t <;> rfl
theorem raisers_L1 {s : Nat} : ∀ (n k : Nat) (a : Int32), s_X5_raisers_L1 M U B s n k a = a + nI (ctF (fun t => decide (B 8 t = nI s) && raB B t) n k)
  | 0, k, a => by rw [s_X5_raisers_L1, ctF, nI_0, Int32.add_zero]
  | n + 1, k, a => by
    rw [s_X5_raisers_L1, ctF]
    have e1 : ∀ x : Bool, x = s_X5_raises M U B k → x = raB B k := fun x h => h
    by_cases h1 : B 8 k = nI s
    · rw [if_pos h1]
      by_cases h2 : s_X5_raises M U B k = true
      · have h3 : raB B k = true := h2
        rw [if_pos h2, raisers_L1 n]
        simp only [h1, h3, decide_true, Bool.and_self, if_true]
        rw [← nI_add, Int32.add_assoc]; rfl
      · have h3 : raB B k = false := Bool.eq_false_iff.mpr h2
        rw [if_neg h2, raisers_L1 n]
        simp [h3, Int32.add_zero]
    · rw [if_neg h1, raisers_L1 n]
      simp [h1, Int32.add_zero]
theorem raisers_ct (s : Nat) : s_X5_raisers M U B s = nI (fb_ct (fun t => decide (B 8 t = nI s) && raB B t) (M 1)) := by
  unfold s_X5_raisers
  rw [raisers_L1, ctF_0, Int32.zero_add]
theorem raisersOf_L1 {s : Int32} : ∀ (n k a i : Nat), (s_X3_raisersOf_L1 N V A s n k a).testBit i = (a.testBit i || (decide (k ≤ i) && decide (i < k + n) && decide (A 12 i = s)))
  | 0, k, a, i => by
    rw [s_X3_raisersOf_L1]
    have : (decide (k ≤ i) && decide (i < k + 0)) = false := by
      by_cases h : k ≤ i
      · first | (simp; done) | (simp; omega)
      · simp [h]
    rw [this]; simp
  | n + 1, k, a, i => by
    rw [s_X3_raisersOf_L1]
    by_cases h1 : A 12 k = s
    · rw [if_pos h1, raisersOf_L1 n, tb_or1]
      by_cases hk : k = i
      · subst hk; simp [h1]
      · have e1 : decide (k + 1 ≤ i) = decide (k ≤ i) := by apply decide_eq_decide.mpr; omega
        have e2 : decide (i < k + 1 + n) = decide (i < k + (n + 1)) := by apply decide_eq_decide.mpr; omega
        rw [e1, e2]; simp [hk]
    · rw [if_neg h1, raisersOf_L1 n]
      by_cases hk : k = i
      · subst hk; simp [h1]
      · have e1 : decide (k + 1 ≤ i) = decide (k ≤ i) := by apply decide_eq_decide.mpr; omega
        have e2 : decide (i < k + 1 + n) = decide (i < k + (n + 1)) := by apply decide_eq_decide.mpr; omega
        rw [e1, e2]
theorem raisersOf_tb (h0 : N 1 = M 1) (h : IT (M 0) (M 1) N A B) (s : Int32) (i : Nat) : (s_X3_raisersOf N V A s).testBit i = (decide (i < M 1) && (decide (B 8 i = s) && raB B i)) := by
  unfold s_X3_raisersOf
  rw [Nat.testBit_and, raisersOf_L1, raising_tb h, h0, Nat.zero_testBit]
  by_cases hi : i < M 1
  · have e := (h.1 i hi).1.2.1
    simp [hi, e]
  · simp [hi]
theorem raisers_pop (h0 : N 1 = M 1) (hT : M 1 ≤ 16) (h : IT (M 0) (M 1) N A B) (s : Nat) : s_X5_raisers M U B s = nI (pop16 (s_X3_raisersOf N V A (nI s))) := by
  rw [raisers_ct]
  have hlt : s_X3_raisersOf N V A (nI s) < 2 ^ M 1 := lt_tb (fun i hi => by rw [raisersOf_tb h0 h]; simp [Nat.not_lt.mpr hi])
  rw [pop_ct hlt hT]
  refine congrArg nI (fb_ct_cong (fun k hk => ?_))
  rw [raisersOf_tb h0 h]; simp [hk]
theorem raised_L1 : ∀ (n k a i : Nat), k + n ≤ 16 → (∀ t, (s_X3_raising N V A).testBit t = true → t < 16) → s_X3_raising N V A < 2 ^ 31 → (s_X3_raised_L1 N V A n k a).testBit i = (a.testBit i || anF (fun t => (s_X3_raising N V A).testBit t && decide ((A 12 t).toNatClampNeg = i)) n k)
  | 0, k, a, i, _, _, _ => by rw [s_X3_raised_L1, anF, Bool.or_false]
  | n + 1, k, a, i, hk, h1, h2 => by
    rw [s_X3_raised_L1, isIn_tb h2 (by omega), anF]
    by_cases h3 : (s_X3_raising N V A).testBit k = true
    · rw [if_pos h3, raised_L1 n _ _ _ (by omega) h1 h2, tb_or1, h3, Bool.true_and, Bool.or_assoc]
    · rw [if_neg h3, raised_L1 n _ _ _ (by omega) h1 h2, Bool.eq_false_iff.mpr h3, Bool.false_and, Bool.false_or]
theorem raised_tb (h0 : N 1 = M 1) (hT : M 1 ≤ 16) (h : IT (M 0) (M 1) N A B) (s : Nat) (hs : s < 2 ^ 31) : (s_X3_raised N V A).testBit s = decide (0 < fb_ct (fun t => decide (B 8 t = nI s) && raB B t) (M 1)) := by
  have hb : ∀ t, (s_X3_raising N V A).testBit t = true → t < 16 := fun t ht => by
    rw [raising_tb h] at ht
    simp at ht; omega
  have hl : s_X3_raising N V A < 2 ^ 31 := lt_tb (fun i hi => by
    cases hc : (s_X3_raising N V A).testBit i with
    | false => rfl
    | true => exact absurd (hb i hc) (by omega))
  unfold s_X3_raised
  rw [raised_L1 _ _ _ _ (by omega) hb hl, Nat.zero_testBit, Bool.false_or, Bool.eq_iff_iff, anF_0, decide_eq_true_iff, fb_ct_pos, h0]
  constructor
  · rintro ⟨j, hj, h3⟩
    rw [raising_tb h] at h3
    simp only [Bool.and_eq_true, decide_eq_true_eq] at h3
    refine ⟨j, hj, ?_⟩
    have e := h.1 j hj
    rw [e.1.2.1] at h3
    simp only [Bool.and_eq_true, decide_eq_true_eq]
    exact ⟨by rw [e.2.1.1, h3.2], h3.1.2⟩
  · rintro ⟨j, hj, h3⟩
    simp only [Bool.and_eq_true, decide_eq_true_eq] at h3
    refine ⟨j, hj, ?_⟩
    have e := h.1 j hj
    rw [raising_tb h]
    simp only [Bool.and_eq_true, decide_eq_true_eq]
    refine ⟨⟨hj, h3.2⟩, ?_⟩
    rw [e.1.2.1, h3.1, nI_clamp hs]
end IVS
