/-! which sets lead to all -/
section LDS
variable {M : Nat → Nat} {U : Nat → Int32} {B : Nat → Nat → Int32}
theorem mr_up {S j : Nat} (hS : S < 1024) (hj : j < 31) (h : s_X5_mayRise M U B (nI S) j = true) : S.testBit j = false := by
  unfold s_X5_mayRise at h
  rw [isUp_tb (by omega) hj] at h
  cases c : S.testBit j with
  | false => rfl
  | true => rw [c, if_pos rfl] at h; exact absurd h (by decide)
theorem or_ne {S j : Nat} (h : S.testBit j = false) : S < S ||| 2 ^ j := by
  have h1 : S ≤ S ||| 2 ^ j := Nat.left_le_or
  rcases Nat.lt_or_ge S (S ||| 2 ^ j) with h2 | h2
  · exact h2
  · have e : S ||| 2 ^ j = S := Nat.le_antisymm h2 h1
    have : (S ||| 2 ^ j).testBit j = true := by rw [tb_or1]; simp
    rw [e, h] at this; exact absurd this (by decide)
def ldF (M : Nat → Nat) (U : Nat → Int32) (B L : Nat → Nat → Int32) (S : Nat) : Nat → Bool := fun j => s_X5_mayRise M U B (nI S) j && bz (L 11 (S ||| 2 ^ j))
theorem anF_cong {p q : Nat → Bool} : ∀ (n k : Nat), (∀ j, k ≤ j → j < k + n → p j = q j) → anF p n k = anF q n k
  | 0, _, _ => rfl
  | n + 1, k, h => by
    rw [anF, anF, h k (Nat.le_refl k) (by omega), anF_cong n (k + 1) (fun j h1 h2 => h j (by omega) (by omega))]
theorem leads_L2 (hn : M 0 ≤ 10) {S k : Nat} {A9 A8 : Nat → Nat → Int32} (hS : S < 1024) : ∀ (r j : Nat) (C : Nat → Nat → Int32), j + r ≤ M 0 → (∀ p, p ≠ 11 → C p = B p) → isB (C 11) →
    (∀ p, p ≠ 11 → s_X5_findLeads_L2 M U A9 S k A8 r j C p = B p) ∧ isB (s_X5_findLeads_L2 M U A9 S k A8 r j C 11) ∧ (∀ T, T ≠ S → s_X5_findLeads_L2 M U A9 S k A8 r j C 11 T = C 11 T) ∧ bz (s_X5_findLeads_L2 M U A9 S k A8 r j C 11 S) = (bz (C 11 S) || anF (ldF M U B C S) r j)
  | 0, j, C, _, hC, hb => by
    rw [s_X5_findLeads_L2, anF, Bool.or_false]
    exact ⟨hC, hb, fun _ _ => rfl, rfl⟩
  | r + 1, j, C, hj, hC, hb => by
    rw [s_X5_findLeads_L2]
    by_cases c : bz (C 11 S) = true
    · rw [if_pos c, c, Bool.true_or]
      exact ⟨hC, hb, fun _ _ => rfl, rfl⟩
    · rw [if_neg c]
      have em : s_X5_mayRise M U C (nI S) j = s_X5_mayRise M U B (nI S) j := mayRise_cong hS hn (fun p h11 _ _ => hC p h11)
      have ev : (if (s_X5_mayRise M U C (nI S) j) = true then if (bz (C 11 (S ||| (2 ^ j)))) = true then true else false else false) = ldF M U B C S j := by
        unfold ldF
        rw [em]
        cases s_X5_mayRise M U B (nI S) j <;> cases bz (C 11 (S ||| 2 ^ j)) <;> rfl
      rw [ev]
      obtain ⟨h1, h2, h3, h4⟩ := leads_L2 hn (k := k) (A9 := A9) (A8 := A8) hS r (j + 1) (va_up C 11 (upd (C 11) S (b2i (ldF M U B C S j)))) (by omega) (fun p hp => by rw [va_up_o _ _ hp]; exact hC p hp) (isB_upd hb _ _)
      refine ⟨h1, h2, fun T hT => by rw [h3 T hT]; exact pk_un hT, ?_⟩
      rw [h4, anF, Bool.eq_false_iff.mpr c, Bool.false_or]
      have e1 : bz (va_up C 11 (upd (C 11) S (b2i (ldF M U B C S j))) 11 S) = ldF M U B C S j := by
        show bz (upd (C 11) S (b2i (ldF M U B C S j)) S) = _
        rw [pk_us, bz_b2i]
      rw [e1]
      congr 1
      apply anF_cong
      intro i hi1 hi2
      unfold ldF
      cases hm : s_X5_mayRise M U B (nI S) i with
      | false => rfl
      | true =>
        have hne := or_ne (mr_up hS (by omega) hm)
        show (true && bz (upd (C 11) S (b2i (s_X5_mayRise M U B (nI S) j && bz (C 11 (S ||| 2 ^ j)))) (S ||| 2 ^ i))) = _
        rw [pk_un (by omega)]
def ldEq (M : Nat → Nat) (U : Nat → Int32) (B L : Nat → Nat → Int32) (S : Nat) : Prop := bz (L 11 S) = (decide (S = 2 ^ M 0 - 1) || anF (ldF M U B L S) (M 0) 0)
theorem leads_L1 (hn : M 0 ≤ 10) {A9 : Nat → Nat → Int32} : ∀ (n k : Nat) (C : Nat → Nat → Int32), n ≤ 2 ^ M 0 → (∀ p, p ≠ 11 → C p = B p) → isB (C 11) → (∀ S, n ≤ S → S < 2 ^ M 0 → ldEq M U B C S) →
    (∀ p, p ≠ 11 → s_X5_findLeads_L1 M U A9 n k C p = B p) ∧ isB (s_X5_findLeads_L1 M U A9 n k C 11) ∧ ∀ S, S < 2 ^ M 0 → ldEq M U B (s_X5_findLeads_L1 M U A9 n k C) S
  | 0, k, C, _, hC, hb, hE => by
    rw [s_X5_findLeads_L1]
    exact ⟨hC, hb, fun S hS => hE S (Nat.zero_le _) hS⟩
  | n + 1, k, C, hk, hC, hb, hE => by
    have hp : 2 ^ M 0 ≤ 1024 := Nat.le_trans (Nat.pow_le_pow_right (by omega) hn) (by decide)
    rw [s_X5_findLeads_L1]
    obtain ⟨h1, h2, h3, h4⟩ := leads_L2 (M := M) (U := U) (B := B) (A9 := A9) (A8 := C) (k := k) hn (S := n) (by omega) (M 0) 0 (va_up C 11 (upd (C 11) n (b2i (if nI n = (nI (2 ^ (M 0)) - (1 : Int32)) then true else false)))) (by omega) (fun p hp => by rw [va_up_o _ _ hp]; exact hC p hp) (isB_upd hb _ _)
    generalize s_X5_findLeads_L2 M U A9 n k C (M 0) 0 (va_up C 11 (upd (C 11) n (b2i (if nI n = (nI (2 ^ (M 0)) - (1 : Int32)) then true else false)))) = R at h1 h2 h3 h4 ⊢
    refine leads_L1 hn n (k + 1) R (by omega) h1 h2 (fun S hS1 hS2 => ?_)
    have ho : ∀ T, T ≠ n → R 11 T = C 11 T := fun T hT => by rw [h3 T hT]; exact pk_un hT
    by_cases e : S = n
    · subst e
      unfold ldEq
      rw [h4]
      congr 1
      · show bz (upd (C 11) S (b2i (if nI S = (nI (2 ^ (M 0)) - (1 : Int32)) then true else false)) S) = _
        rw [pk_us, bz_b2i, show (1 : Int32) = nI 1 from rfl, pk_sub (Nat.two_pow_pos _)]
        by_cases h : S = 2 ^ M 0 - 1
        · rw [decide_eq_true h, if_pos (by rw [← h])]
        · rw [decide_eq_false h, if_neg (fun h5 => h ((nI_eq (by omega) (by omega)).mp h5))]
      · apply anF_cong
        intro i hi1 hi2
        unfold ldF
        cases hm : s_X5_mayRise M U B (nI S) i with
        | false => rfl
        | true =>
          have hne := or_ne (mr_up (by omega) (by omega) hm)
          rw [h3 _ (by omega)]
    · have q := hE S (by omega) hS2
      unfold ldEq at q ⊢
      rw [ho S e, q]
      congr 1
      apply anF_cong
      intro i hi1 hi2
      unfold ldF
      have hle : S ≤ S ||| 2 ^ i := Nat.left_le_or
      rw [ho _ (by omega)]
def ldA (M : Nat → Nat) (U : Nat → Int32) (B : Nat → Nat → Int32) : Nat → Nat → Int32 := s_X5_findLeads_L1 M U B (2 ^ M 0) 0 B
theorem ldA_spec (om : okM M B) : (∀ p, p ≠ 11 → ldA M U B p = B p) ∧ isB (ldA M U B 11) ∧ ∀ S, S < 2 ^ M 0 → ldEq M U B (ldA M U B) S :=
  leads_L1 om.1 (2 ^ M 0) 0 B (Nat.le_refl _) (fun _ _ => rfl) om.2.2.2.2.2.1 (fun S h1 h2 => absurd h2 (by omega))
/-- the first spar that may rise so that what is up then still leads to all -/
def ordT (M : Nat → Nat) (U : Nat → Int32) (L : Nat → Nat → Int32) (S j : Nat) : Bool := s_X5_mayRise M U L (nI S) j && bz (L 11 (S ||| 2 ^ j))
def ordJ (M : Nat → Nat) (U : Nat → Int32) (L : Nat → Nat → Int32) (S : Nat) : Nat → Nat → Nat
  | 0, j => j
  | r + 1, j => if ordT M U L S j = true then j else ordJ M U L S r (j + 1)
theorem ordJ_spec {L : Nat → Nat → Int32} {S : Nat} : ∀ (r j : Nat), (∃ i, j ≤ i ∧ i < j + r ∧ ordT M U L S i = true) → j ≤ ordJ M U L S r j ∧ ordJ M U L S r j < j + r ∧ ordT M U L S (ordJ M U L S r j) = true ∧ ∀ i, j ≤ i → i < ordJ M U L S r j → ordT M U L S i = false
  | 0, j, ⟨i, h1, h2, _⟩ => absurd h1 (by omega)
  | r + 1, j, ⟨i, h1, h2, h3⟩ => by
    rw [ordJ]
    by_cases c : ordT M U L S j = true
    · rw [if_pos c]
      exact ⟨Nat.le_refl j, by omega, c, fun i h4 h5 => absurd h5 (by omega)⟩
    · rw [if_neg c]
      have hne : i ≠ j := fun e => c (by rw [← e]; exact h3)
      obtain ⟨q1, q2, q3, q4⟩ := ordJ_spec r (j + 1) ⟨i, by omega, by omega, h3⟩
      refine ⟨by omega, by omega, q3, fun i h4 h5 => ?_⟩
      by_cases e : i = j
      · subst e; exact Bool.eq_false_iff.mpr c
      · exact q4 i (by omega) h5
theorem ord_ex (om : okM M B) {S : Nat} (hS : S < 2 ^ M 0) (h : bz (ldA M U B 11 S) = true) (hne : S ≠ 2 ^ M 0 - 1) : ∃ i, 0 ≤ i ∧ i < 0 + M 0 ∧ ordT M U (ldA M U B) S i = true := by
  have hp : 2 ^ M 0 ≤ 1024 := Nat.le_trans (Nat.pow_le_pow_right (by omega) om.1) (by decide)
  obtain ⟨h1, -, h3⟩ := ldA_spec (U := U) om
  have q := h3 S hS
  unfold ldEq at q
  rw [h, decide_eq_false hne, Bool.false_or] at q
  obtain ⟨j, hj, hq⟩ := (anF_0 _ _).mp q.symm
  refine ⟨j, Nat.zero_le _, by omega, ?_⟩
  unfold ordT
  rw [mayRise_cong (U := U) (B := B) (by omega) om.1 (fun p h11 _ _ => h1 p h11)]
  exact hq
def s_X5_order_L1 (M : Nat → Nat) (U : Nat → Int32) (L : Nat → Nat → Int32) : Nat → Nat → Int32 → Int32
  | 0, _, s => s
  | n + 1, S, _ => s_X5_order_L1 M U L n (S ||| 2 ^ ordJ M U L S (M 0) 0) (nI (ordJ M U L S (M 0) 0))
def s_X5_order (M : Nat → Nat) (U : Nat → Int32) (B : Nat → Nat → Int32) (i0 : Int32) : Int32 × St :=
  if s_X5_in (i0.toInt64) (0 : Int64) ((nI (M 0) - s_X5_count (nI (M 2))).toInt64 - (1 : Int64)) = true then
    if bz (ldA M U B 11 (M 2)) = true then
      (s_X5_order_L1 M U (ldA M U B) (i0.toNatClampNeg + 1) (M 2) (-1 : Int32), M, U, ldA M U B)
    else
      ((-9 : Int32), M, U, ldA M U B)
  else
    ((-1 : Int32), M, U, B)
/-- how many lie -/
def zer (n S : Nat) : Nat := fb_ct (fun i => !S.testBit i) n
theorem zer_or {n S j : Nat} (hj : j < n) (h : S.testBit j = false) : zer n (S ||| 2 ^ j) + 1 = zer n S := by
  have q := fb_ct_upd (fun i => !S.testBit i) false hj
  rw [h] at q
  have e : fb_ct (fun k => if k = j then false else !S.testBit k) n = zer n (S ||| 2 ^ j) := fb_ct_cong (fun k _ => by
    rw [tb_or1]
    by_cases c : k = j
    · subst c; simp
    · rw [if_neg c]; simp [show ¬ j = k from fun e => c e.symm])
  rw [e] at q
  have q2 : zer n (S ||| 2 ^ j) + 1 = fb_ct (fun i => !S.testBit i) n := by simpa using q
  exact q2
theorem zer_0 {n S : Nat} (hS : S < 2 ^ n) : zer n S = 0 ↔ S = 2 ^ n - 1 := by
  unfold zer
  rw [fb_ct_zero]
  constructor
  · intro h
    apply eq_tb
    intro i
    rw [tb_all]
    by_cases hi : i < n
    · have := h i hi
      simp at this
      rw [this, decide_eq_true hi]
    · rw [decide_eq_false hi]
      cases c : S.testBit i with
      | false => rfl
      | true => exact absurd (tb_lt hS c) hi
  · intro h k hk
    rw [h, tb_all, decide_eq_true hk]; rfl
end LDS
