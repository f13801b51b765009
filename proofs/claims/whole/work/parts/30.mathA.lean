/-! numbers and bits -/
theorem sh_bit {S k : Nat} (hS : S < 2 ^ 31) (hk : k < 31) : (nI S >>> (nI k &&& 31)) &&& (1 : Int32) = nI (S / 2 ^ k % 2) := by
  rw [pk_shrN hS _ k (s_l k (by omega)), show (1 : Int32) = nI (2 ^ 1 - 1) from rfl, fa_mask]
theorem nI_eq1 {a : Nat} (h : a < 2 ^ 31) : nI a = (1 : Int32) ↔ a = 1 := nI_eq (b := 1) h (by decide)
theorem nI_eq0 {a : Nat} (h : a < 2 ^ 31) : nI a = (0 : Int32) ↔ a = 0 := nI_eq (b := 0) h (by decide)
theorem tb_dm (n i : Nat) : n.testBit i = decide (n / 2 ^ i % 2 = 1) := Nat.testBit_eq_decide_div_mod_eq
theorem isIn_tb {S k : Nat} (hS : S < 2 ^ 31) (hk : k < 31) : s_X4_isIn (nI S) (nI k) = S.testBit k := by
  unfold s_X4_isIn
  rw [sh_bit hS hk, tb_dm]
  have h : S / 2 ^ k % 2 < 2 := Nat.mod_lt _ (by omega)
  by_cases h1 : S / 2 ^ k % 2 = 1
  · rw [if_pos ((nI_eq1 (by omega)).mpr h1)]; simp [h1]
  · rw [if_neg (fun e => h1 ((nI_eq1 (by omega)).mp e))]; simp [h1]
theorem isUp_tb {M : Nat → Nat} {U : Nat → Int32} {B : Nat → Nat → Int32} {S k : Nat} (hS : S < 2 ^ 31) (hk : k < 31) : s_X5_isUp M U B (nI S) (nI k) = S.testBit k := by
  rw [← isIn_tb hS hk]; rfl
/-- how many of the n numbers from k on -/
def ctF (p : Nat → Bool) : Nat → Nat → Nat
  | 0, _ => 0
  | n + 1, k => (if p k then 1 else 0) + ctF p n (k + 1)
theorem ctF_ct (p : Nat → Bool) : ∀ n k, fb_ct p k + ctF p n k = fb_ct p (k + n)
  | 0, k => rfl
  | n + 1, k => by
    rw [ctF, show k + (n + 1) = (k + 1) + n by omega, ← ctF_ct p n (k + 1), fb_ct_succ]
    omega
theorem ctF_0 (p : Nat → Bool) (n : Nat) : ctF p n 0 = fb_ct p n := by
  have h := ctF_ct p n 0
  rw [show fb_ct p 0 = 0 from rfl, Nat.zero_add, Nat.zero_add] at h
  exact h
/-- whether some of the n numbers from k on -/
def anF (p : Nat → Bool) : Nat → Nat → Bool
  | 0, _ => false
  | n + 1, k => p k || anF p n (k + 1)
theorem anF_iff (p : Nat → Bool) : ∀ n k, anF p n k = true ↔ ∃ j, k ≤ j ∧ j < k + n ∧ p j = true
  | 0, k => by
    constructor
    · intro h; cases h
    · rintro ⟨j, h1, h2, -⟩; omega
  | n + 1, k => by
    rw [anF, Bool.or_eq_true, anF_iff p n (k + 1)]
    constructor
    · rintro (h | ⟨j, h1, h2, h3⟩)
      · exact ⟨k, Nat.le_refl k, by omega, h⟩
      · exact ⟨j, by omega, by omega, h3⟩
    · rintro ⟨j, h1, h2, h3⟩
      by_cases hj : j = k
      · subst hj; exact Or.inl h3
      · exact Or.inr ⟨j, by omega, by omega, h3⟩
theorem anF_0 (p : Nat → Bool) (n : Nat) : anF p n 0 = true ↔ ∃ j, j < n ∧ p j = true := by
  rw [anF_iff]
  constructor
  · rintro ⟨j, -, h2, h3⟩; exact ⟨j, by omega, h3⟩
  · rintro ⟨j, h2, h3⟩; exact ⟨j, by omega, by omega, h3⟩
/-! counts of bits -/
theorem cnt_L1 {S : Nat} (hS : S < 2 ^ 31) : ∀ (n k : Nat) (a : Int32), k + n ≤ 16 → s_X5_count_L1 (nI S) n k a = a + nI (ctF (fun i => S.testBit i) n k)
  | 0, k, a, _ => by rw [s_X5_count_L1, ctF, nI_0, Int32.add_zero]
  | n + 1, k, a, h => by
    rw [s_X5_count_L1, sh_bit hS (by omega), cnt_L1 hS n (k + 1) _ (by omega), ctF, Int32.add_assoc, nI_add, ← tb_mod]
theorem count_pop {S : Nat} (hS : S < 2 ^ 31) : s_X5_count (nI S) = nI (pop16 S) := by
  unfold s_X5_count
  rw [cnt_L1 hS 16 0 _ (by omega), ctF_0]
  show (0 : Int32) + nI (pop16 S) = _
  rw [Int32.zero_add]
theorem tb_lt {S k n : Nat} (hS : S < 2 ^ n) (h : S.testBit k = true) : k < n := by
  rcases Nat.lt_or_ge k n with h1 | h1
  · exact h1
  · rw [Nat.testBit_lt_two_pow (Nat.lt_of_lt_of_le hS (Nat.pow_le_pow_right (by omega) h1))] at h
    cases h
theorem pop_ct {S n : Nat} (hS : S < 2 ^ n) (hn : n ≤ 16) : pop16 S = fb_ct (fun i => S.testBit i) n := by
  unfold pop16
  obtain ⟨d, hd⟩ : ∃ d, 16 = n + d := ⟨16 - n, by omega⟩
  rw [hd, fb_ct_split]
  have h0 : fb_ct (fun k => S.testBit (n + k)) d = 0 := by
    rw [fb_ct_zero]
    intro k _
    cases h : S.testBit (n + k) with
    | false => rfl
    | true => exact absurd (tb_lt hS h) (by omega)
  rw [h0, Nat.add_zero]
theorem tb_pow (k i : Nat) : (2 ^ k).testBit i = decide (k = i) := Nat.testBit_two_pow
theorem tb_or1 (a k i : Nat) : (a ||| 2 ^ k).testBit i = (a.testBit i || decide (k = i)) := by rw [Nat.testBit_or, tb_pow]
theorem eq_tb {a b : Nat} (h : ∀ i, a.testBit i = b.testBit i) : a = b := Nat.eq_of_testBit_eq h
theorem zero_tb {a : Nat} : a = 0 ↔ ∀ i, a.testBit i = false := by
  constructor
  · rintro rfl i; exact Nat.zero_testBit i
  · intro h; exact eq_tb (fun i => by rw [h i, Nat.zero_testBit])
theorem tb_all (n i : Nat) : (2 ^ n - 1).testBit i = decide (i < n) := Nat.testBit_two_pow_sub_one n i
theorem lying_tb {N : Nat → Nat} {V : Nat → Int32} {A : Nat → Nat → Int32} (i : Nat) : (s_X2_lying N V A).testBit i = (decide (i < N 0) && !(N 2).testBit i) := by
  unfold s_X2_lying
  rw [nclr_bit, tb_all]
theorem lt_tb {a n : Nat} (h : ∀ i, n ≤ i → a.testBit i = false) : a < 2 ^ n := Nat.lt_pow_two_of_testBit a h
