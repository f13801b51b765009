/-! an order that raises all: the ship's is the model's -/
section ORD
variable {N M : Nat → Nat} {V U : Nat → Int32} {A B : Nat → Nat → Int32}
theorem mr_iff {S j : Nat} (hS : S < 1024) (hn : M 0 ≤ 10) (hT : M 1 ≤ 16) (hj : j < M 0) : s_X5_mayRise M U B (nI S) j = true ↔ S.testBit j = false ∧ 0 < fb_ct (fun t => decide (B 8 t = nI j) && raB B t) (M 1) ∧ (∀ t, t < M 0 → ovB B j t = true → S.testBit t = true) ∧ (∀ k, k < M 0 → fwB B j k = true → S.testBit k = false) := by
  unfold s_X5_mayRise
  have hc1 : fb_ct (fun t => decide (B 8 t = nI j) && raB B t) (M 1) ≤ 16 := Nat.le_trans (fb_ct_le _ _) hT
  have hc2 : fb_ct (fun t => !S.testBit t && ovB B j t) (M 0) ≤ 10 := Nat.le_trans (fb_ct_le _ _) hn
  rw [isUp_tb (by omega) (by omega), raisers_ct, ov_ct (by omega) hn]
  by_cases h1 : S.testBit j = true
  · rw [if_pos h1]
    constructor
    · intro h; exact absurd h (by decide)
    · rintro ⟨h, -⟩; rw [h1] at h; exact absurd h (by decide)
  · rw [if_neg h1]
    by_cases h2 : nI (fb_ct (fun t => decide (B 8 t = nI j) && raB B t) (M 1)) ≤ (0 : Int32)
    · rw [if_pos h2]
      rw [nI_le0 (by omega)] at h2
      constructor
      · intro h; exact absurd h (by decide)
      · rintro ⟨-, h, -⟩; omega
    · rw [if_neg h2]
      rw [nI_le0 (by omega)] at h2
      by_cases h3 : nI (fb_ct (fun t => !S.testBit t && ovB B j t) (M 0)) = 0
      · rw [if_pos h3]
        rw [nI_eq0 (by omega), fb_ct_zero] at h3
        have h3' : ∀ t, t < M 0 → ovB B j t = true → S.testBit t = true := fun t ht ho => by
          have := h3 t ht
          rw [ho, Bool.and_true] at this
          simpa using this
        by_cases h4 : s_X5_isBarred M U B (nI S) j = true
        · rw [if_pos h4]
          rw [bar_iff (by omega) hn] at h4
          obtain ⟨k, k1, k2, k3⟩ := h4
          constructor
          · intro h; exact absurd h (by decide)
          · rintro ⟨-, -, -, h⟩
            have := h k k1 k3
            rw [k2] at this; exact absurd this (by decide)
        · rw [if_neg h4]
          rw [bar_iff (by omega) hn] at h4
          refine ⟨fun _ => ⟨Bool.eq_false_iff.mpr h1, by omega, h3', fun k k1 k3 => ?_⟩, fun _ => rfl⟩
          cases c : S.testBit k with
          | false => rfl
          | true => exact absurd ⟨k, k1, c, k3⟩ h4
      · rw [if_neg h3]
        constructor
        · intro h; exact absurd h (by decide)
        · rintro ⟨-, -, h, -⟩
          refine absurd ?_ h3
          rw [nI_eq0 (by omega), fb_ct_zero]
          intro t ht
          cases c : ovB B j t with
          | false => rw [Bool.and_false]
          | true => rw [h t ht c]; rfl
theorem ov_of {n a b : Nat} (hn : n ≤ 10) (ha : a < n) (hb : b < n) (hab : a < b) (h1 : (loB B a).toInt < (hiB B b).toInt) (h2 : (loB B b).toInt < (hiB B a).toInt) (h3 : (loB B a).toInt < (hiB B a).toInt) (h4 : (loB B b).toInt < (hiB B b).toInt) : ovB B a b = true := by
  unfold ovB s_X5_isOver
  rw [if_neg (show ¬ nI b ≤ nI a from fun h => by rw [Int32.le_iff_toInt_le, nI_toInt (by omega), nI_toInt (by omega)] at h; omega)]
  rw [if_neg]
  rw [Int32.le_iff_toInt_le]
  have e1 : (s_X5_lesser (s_X5_to (fun _ => 0) (fun _ => 0) B a) (s_X5_to (fun _ => 0) (fun _ => 0) B b)).toInt = if (hiB B b).toInt ≤ (hiB B a).toInt then (hiB B b).toInt else (hiB B a).toInt := lesserI _ _
  have e2 : (s_X5_greater (s_X5_from (fun _ => 0) (fun _ => 0) B a) (s_X5_from (fun _ => 0) (fun _ => 0) B b)).toInt = if (loB B a).toInt ≤ (loB B b).toInt then (loB B b).toInt else (loB B a).toInt := by
    unfold s_X5_greater
    by_cases h : loB B a ≤ loB B b
    · rw [if_pos (show s_X5_from (fun _ => 0) (fun _ => 0) B a ≤ s_X5_from (fun _ => 0) (fun _ => 0) B b from h), if_pos (by rw [Int32.le_iff_toInt_le] at h; exact h)]; rfl
    · rw [if_neg (show ¬ s_X5_from (fun _ => 0) (fun _ => 0) B a ≤ s_X5_from (fun _ => 0) (fun _ => 0) B b from h), if_neg (by rw [Int32.le_iff_toInt_le] at h; exact h)]; rfl
  rw [e1, e2]
  split <;> split <;> omega
theorem fw_ov {n s j : Nat} (hn : n ≤ 10) (hIS : IS n A B) (hs : s < n) (hj : j < n) (h : fwB B s j = true) : (s < j → ovB B s j = true) ∧ (j < s → ovB B j s = true) := by
  unfold fwB at h
  rw [Bool.and_eq_true, decide_eq_true_iff, decide_eq_true_iff, Int32.lt_iff_toInt_lt, Int32.lt_iff_toInt_lt] at h
  obtain ⟨a1, a2, a3, a4, a5, a6, a7⟩ := lo_toInt hIS hs
  obtain ⟨b1, b2, b3, b4, b5, b6, b7⟩ := lo_toInt hIS hj
  constructor
  · intro hlt
    exact ov_of hn hs hj hlt (by omega) (by omega) a1 b1
  · intro hlt
    exact ov_of hn hj hs hlt (by omega) (by omega) b1 a1
/-- two that may rise: each still may when the other is up -/
theorem mr_swap (iv : Inv N V A M U B) {S s j : Nat} (hS : S < 2 ^ M 0) (hs : s < M 0) (hj : j < M 0) (hne : s ≠ j) (h1 : s_X5_mayRise M U B (nI S) s = true) (h2 : s_X5_mayRise M U B (nI S) j = true) : s_X5_mayRise M U B (nI (S ||| 2 ^ j)) s = true := by
  obtain ⟨⟨e0, e1, e2, hn, hT, hU⟩, hv, hR, hIS, hO, hIT, hH, okc, okm⟩ := id iv
  have hp : 2 ^ M 0 ≤ 1024 := Nat.le_trans (Nat.pow_le_pow_right (by omega) hn) (by decide)
  have hlt : S ||| 2 ^ j < 2 ^ M 0 := or_lt hS (Nat.pow_lt_pow_right (by omega) hj)
  rw [mr_iff (by omega) hn hT hs] at h1 ⊢
  rw [mr_iff (by omega) hn hT hj] at h2
  obtain ⟨a1, a2, a3, a4⟩ := h1
  obtain ⟨b1, b2, b3, b4⟩ := h2
  refine ⟨?_, a2, fun t ht ho => ?_, fun k hk hf => ?_⟩
  · rw [tb_or1, a1, decide_eq_false (fun e => hne e.symm)]; rfl
  · rw [tb_or1, a3 t ht ho]; rfl
  · rw [tb_or1, a4 k hk hf, Bool.false_or]
    apply decide_eq_false
    intro e
    subst e
    obtain ⟨o1, o2⟩ := fw_ov hn hIS hs hj hf
    rcases Nat.lt_or_ge s j with h | h
    · have := a3 j hj (o1 h)
      rw [b1] at this; exact absurd this (by decide)
    · have := b3 s hs (o2 (by omega))
      rw [a1] at this; exact absurd this (by decide)
theorem or_or (S j s : Nat) : S ||| 2 ^ j ||| 2 ^ s = S ||| 2 ^ s ||| 2 ^ j := by rw [Nat.or_assoc, Nat.or_comm (2 ^ j), ← Nat.or_assoc]
theorem ld_back (iv : Inv N V A M U B) {S j : Nat} (hS : S < 2 ^ M 0) (hj : j < M 0) (h1 : s_X5_mayRise M U B (nI S) j = true) (h2 : bz (ldA M U B 11 (S ||| 2 ^ j)) = true) : bz (ldA M U B 11 S) = true := by
  have om : okM M B := iv.2.2.2.2.2.2.2.2
  have q := (ldA_spec (U := U) om).2.2 S hS
  unfold ldEq at q
  rw [q, Bool.or_eq_true]
  right
  rw [anF_0]
  refine ⟨j, hj, ?_⟩
  unfold ldF
  rw [h1, h2]; rfl
/-- whatever may rise: if what is up leads to all, it does so with that one up too -/
theorem ld_any (iv : Inv N V A M U B) : ∀ (z S s : Nat), zer (M 0) S = z → S < 2 ^ M 0 → s < M 0 → bz (ldA M U B 11 S) = true → s_X5_mayRise M U B (nI S) s = true → bz (ldA M U B 11 (S ||| 2 ^ s)) = true
  | z, S, s, hz, hS, hs, hl, hm => by
    have om : okM M B := iv.2.2.2.2.2.2.2.2
    have hn : M 0 ≤ 10 := om.1
    have hp : 2 ^ M 0 ≤ 1024 := Nat.le_trans (Nat.pow_le_pow_right (by omega) hn) (by decide)
    have hup := mr_up (by omega) (by omega) hm
    have hne : S ≠ 2 ^ M 0 - 1 := fun e => by
      rw [e, tb_all, decide_eq_true hs] at hup; exact absurd hup (by decide)
    have q := (ldA_spec (U := U) om).2.2 S hS
    unfold ldEq at q
    rw [hl, decide_eq_false hne, Bool.false_or] at q
    obtain ⟨j, hj, hq⟩ := (anF_0 _ _).mp q.symm
    unfold ldF at hq
    rw [Bool.and_eq_true] at hq
    by_cases e : s = j
    · subst e; exact hq.2
    · have hjup := mr_up (by omega) (by omega) hq.1
      have hlt : S ||| 2 ^ j < 2 ^ M 0 := or_lt hS (Nat.pow_lt_pow_right (by omega) hj)
      have hlt2 : S ||| 2 ^ s < 2 ^ M 0 := or_lt hS (Nat.pow_lt_pow_right (by omega) hs)
      have hz1 := zer_or hj hjup
      have ih := ld_any iv (zer (M 0) (S ||| 2 ^ j)) (S ||| 2 ^ j) s rfl hlt hs hq.2 (mr_swap iv hS hs hj e hm hq.1)
      rw [or_or] at ih
      exact ld_back iv hlt2 hj (mr_swap iv hS hj hs (fun h => e h.symm) hq.1 hm) ih
termination_by z => z
decreasing_by omega
theorem next_L1 {u r : Int32} {S : Nat} (f : Nat → Bool) : ∀ (n k : Nat), (∀ j, k ≤ j → j < k + n → s_X2_mayRise N V A j u r = f j) → (∃ i, k ≤ i ∧ i < k + n ∧ f i = true ∧ s_X2_nextOfOrder_L1 N V A u r n k = nI i ∧ ∀ t, k ≤ t → t < i → f t = false) ∨ ((∀ t, k ≤ t → t < k + n → f t = false) ∧ s_X2_nextOfOrder_L1 N V A u r n k = -9)
  | 0, k, _ => by
    rw [s_X2_nextOfOrder_L1]
    exact Or.inr ⟨fun t h1 h2 => absurd h1 (by omega), rfl⟩
  | n + 1, k, h => by
    rw [s_X2_nextOfOrder_L1, h k (Nat.le_refl _) (by omega)]
    by_cases c : f k = true
    · rw [if_pos c]
      exact Or.inl ⟨k, Nat.le_refl _, by omega, c, rfl, fun t h1 h2 => absurd h1 (by omega)⟩
    · rw [if_neg c]
      rcases next_L1 (S := S) f n (k + 1) (fun j h1 h2 => h j (by omega) (by omega)) with ⟨i, i1, i2, i3, i4, i5⟩ | ⟨i1, i2⟩
      · refine Or.inl ⟨i, by omega, by omega, i3, i4, fun t h1 h2 => ?_⟩
        by_cases e : t = k
        · subst e; exact Bool.eq_false_iff.mpr c
        · exact i5 t (by omega) h2
      · refine Or.inr ⟨fun t h1 h2 => ?_, i2⟩
        by_cases e : t = k
        · subst e; exact Bool.eq_false_iff.mpr c
        · exact i1 t (by omega) (by omega)
theorem next_eq (iv : Inv N V A M U B) {S : Nat} (hS : S < 2 ^ M 0) : (∃ i, i < M 0 ∧ s_X5_mayRise M U B (nI S) i = true ∧ s_X2_nextOfOrder N V A (nI S) (nI (s_X3_raised N V A)) = nI i ∧ ∀ t, t < i → s_X5_mayRise M U B (nI S) t = false) ∨ ((∀ t, t < M 0 → s_X5_mayRise M U B (nI S) t = false) ∧ s_X2_nextOfOrder N V A (nI S) (nI (s_X3_raised N V A)) = -9) := by
  have hn : M 0 ≤ 10 := iv.1.2.2.2.1
  have hp : 2 ^ M 0 ≤ 1024 := Nat.le_trans (Nat.pow_le_pow_right (by omega) hn) (by decide)
  unfold s_X2_nextOfOrder
  rw [iv.1.1]
  rcases next_L1 (N := N) (V := V) (A := A) (u := nI S) (r := nI (s_X3_raised N V A)) (S := S) (fun j => s_X5_mayRise M U B (nI S) j) (M 0) 0 (fun j h1 h2 => mayRise_eq iv (by omega) (by omega)) with ⟨i, i1, i2, i3, i4, i5⟩ | ⟨i1, i2⟩
  · exact Or.inl ⟨i, by omega, i3, i4, fun t h => i5 t (by omega) h⟩
  · exact Or.inr ⟨fun t h => i1 t (by omega) (by omega), i2⟩
theorem nI_ne9 {i : Nat} (h : i < 1000) : ¬ nI i = (-9 : Int32) := fun e => by
  have := congrArg Int32.toInt e
  rw [nI_toInt (by omega), show (-9 : Int32).toInt = -9 from rfl] at this; omega
theorem or_bit (S : Nat) {i : Nat} (hi : i < 31) : nI S ||| ((1 : Int32) <<< (nI i &&& 31)) = nI (S ||| 2 ^ i) := by
  have e : (1 : Int32) <<< (nI i &&& 31) = nI (2 ^ i) := by
    apply Int32.toBitVec_inj.mp
    rw [nf_sh i (by omega)]
    apply BitVec.eq_of_toNat_eq
    show _ = (BitVec.ofNat 32 (2 ^ i)).toNat
    rw [BitVec.toNat_twoPow, BitVec.toNat_ofNat]
  rw [e, fa_or]
theorem ordJ_eq (iv : Inv N V A M U B) {S i : Nat} (hS : S < 2 ^ M 0) (hl : bz (ldA M U B 11 S) = true) (hi : i < M 0) (hm : s_X5_mayRise M U B (nI S) i = true) (hf : ∀ t, t < i → s_X5_mayRise M U B (nI S) t = false) : ordJ M U (ldA M U B) S (M 0) 0 = i := by
  have om : okM M B := iv.2.2.2.2.2.2.2.2
  have hn : M 0 ≤ 10 := om.1
  have hp : 2 ^ M 0 ≤ 1024 := Nat.le_trans (Nat.pow_le_pow_right (by omega) hn) (by decide)
  have hc : ∀ j, s_X5_mayRise M U (ldA M U B) (nI S) j = s_X5_mayRise M U B (nI S) j := fun j => mayRise_cong (by omega) hn (fun p h11 _ _ => (ldA_spec (U := U) om).1 p h11)
  have ht : ordT M U (ldA M U B) S i = true := by
    unfold ordT
    rw [hc, hm, ld_any iv _ S i rfl hS hi hl hm]; rfl
  obtain ⟨-, q2, q3, q4⟩ := ordJ_spec (M := M) (U := U) (L := ldA M U B) (S := S) (M 0) 0 ⟨i, Nat.zero_le _, by omega, ht⟩
  generalize ordJ M U (ldA M U B) S (M 0) 0 = j at q2 q3 q4
  rcases Nat.lt_trichotomy j i with h | h | h
  · unfold ordT at q3
    rw [hc, hf j h, Bool.false_and] at q3; exact absurd q3 (by decide)
  · exact h
  · have := q4 i (Nat.zero_le _) h
    rw [ht] at this; exact absurd this (by decide)
theorem ord_yes (iv : Inv N V A M U B) {i : Nat} (hi : i < 1000) : ∀ (n k S : Nat) (b : Int32), k + n < 1000 → zer (M 0) S = n → S < 2 ^ M 0 → bz (ldA M U B 11 S) = true → ∀ s, s_X4_order_L1 N V A (nI i) n k (nI S) b = if k ≤ i ∧ i < k + n then s_X5_order_L1 M U (ldA M U B) (i - k + 1) S s else b
  | 0, k, S, b, _, hz, hS, hl, s => by
    rw [s_X4_order_L1, if_neg (by omega)]
  | n + 1, k, S, b, hk, hz, hS, hl, s => by
    have om : okM M B := iv.2.2.2.2.2.2.2.2
    have hn : M 0 ≤ 10 := om.1
    have hp : 2 ^ M 0 ≤ 1024 := Nat.le_trans (Nat.pow_le_pow_right (by omega) hn) (by decide)
    rw [s_X4_order_L1]
    rcases next_eq iv hS with ⟨j, j1, j2, j3, j4⟩ | ⟨j1, -⟩
    · rw [j3, if_neg (nI_ne9 (by omega)), or_bit S (by omega)]
      have hup := mr_up (by omega) (by omega) j2
      have hz1 := zer_or j1 hup
      have hlt : S ||| 2 ^ j < 2 ^ M 0 := or_lt hS (Nat.pow_lt_pow_right (by omega) j1)
      have hl2 := ld_any iv _ S j rfl hS j1 hl j2
      have ej := ordJ_eq iv hS hl j1 j2 j4
      by_cases c : k = i
      · rw [if_pos (by rw [c]), if_pos (c := k ≤ i ∧ i < k + (n + 1)) (by omega), ord_yes iv hi n (k + 1) (S ||| 2 ^ j) (nI j) (by omega) (by omega) hlt hl2 0, if_neg (c := k + 1 ≤ i ∧ i < k + 1 + n) (by omega), show i - k + 1 = 1 by omega, s_X5_order_L1, s_X5_order_L1, ej]
      · rw [if_neg (show ¬ nI k = nI i from fun e => c ((nI_eq (by omega) (by omega)).mp e)), ord_yes iv hi n (k + 1) (S ||| 2 ^ j) b (by omega) (by omega) hlt hl2 (nI j)]
        by_cases d : k ≤ i ∧ i < k + (n + 1)
        · rw [if_pos d, if_pos (by omega), show i - k + 1 = (i - (k + 1) + 1) + 1 by omega, show s_X5_order_L1 M U (ldA M U B) (i - (k + 1) + 1 + 1) S s = s_X5_order_L1 M U (ldA M U B) (i - (k + 1) + 1) (S ||| 2 ^ ordJ M U (ldA M U B) S (M 0) 0) (nI (ordJ M U (ldA M U B) S (M 0) 0)) from rfl, ej]
        · rw [if_neg d, if_neg (by omega)]
    · have hne : S ≠ 2 ^ M 0 - 1 := fun e => by
        have := (zer_0 hS).mpr e; omega
      obtain ⟨t, -, t2, t3⟩ := ord_ex om hS hl hne
      unfold ordT at t3
      rw [mayRise_cong (U := U) (B := B) (by omega) hn (fun p h11 _ _ => (ldA_spec (U := U) om).1 p h11), j1 t (by omega), Bool.false_and] at t3
      exact absurd t3 (by decide)
theorem ord_no (iv : Inv N V A M U B) {i0 : Int32} : ∀ (n k S : Nat) (b : Int32), zer (M 0) S = n → S < 2 ^ M 0 → bz (ldA M U B 11 S) = false → s_X4_order_L1 N V A i0 n k (nI S) b = -9
  | 0, k, S, b, hz, hS, hl => by
    have om : okM M B := iv.2.2.2.2.2.2.2.2
    have q := (ldA_spec (U := U) om).2.2 S hS
    unfold ldEq at q
    rw [hl, decide_eq_true ((zer_0 hS).mp hz), Bool.true_or] at q
    exact absurd q (by decide)
  | n + 1, k, S, b, hz, hS, hl => by
    have om : okM M B := iv.2.2.2.2.2.2.2.2
    have hn : M 0 ≤ 10 := om.1
    have hp : 2 ^ M 0 ≤ 1024 := Nat.le_trans (Nat.pow_le_pow_right (by omega) hn) (by decide)
    rw [s_X4_order_L1]
    rcases next_eq iv hS with ⟨j, j1, j2, j3, j4⟩ | ⟨j1, j2⟩
    · rw [j3, if_neg (nI_ne9 (by omega)), or_bit S (by omega)]
      have hup := mr_up (by omega) (by omega) j2
      have hz1 := zer_or j1 hup
      have hlt : S ||| 2 ^ j < 2 ^ M 0 := or_lt hS (Nat.pow_lt_pow_right (by omega) j1)
      have hl2 : bz (ldA M U B 11 (S ||| 2 ^ j)) = false := by
        cases c : bz (ldA M U B 11 (S ||| 2 ^ j)) with
        | false => rfl
        | true => rw [ld_back iv hS j1 j2 c] at hl; exact absurd hl (by decide)
      rw [ord_no iv n (k + 1) (S ||| 2 ^ j) _ (by omega) hlt hl2, ord_no iv n (k + 1) (S ||| 2 ^ j) _ (by omega) hlt hl2]
      split <;> rfl
    · rw [j2, if_pos rfl]
theorem order_eq (iv : Inv N V A M U B) (i0 : Int32) : s_X4_order N V A i0 = (s_X5_order M U B i0).1 ∧ Inv N V A (s_X5_order M U B i0).2.1 (s_X5_order M U B i0).2.2.1 (s_X5_order M U B i0).2.2.2 := by
  obtain ⟨⟨e0, e1, e2, hn, hT, hU⟩, hv, hR, hIS, hO, hIT, hH, okc, okm⟩ := id iv
  have hp : 2 ^ M 0 ≤ 1024 := Nat.le_trans (Nat.pow_le_pow_right (by omega) hn) (by decide)
  have hly : s_X2_lying N V A = nclr (2 ^ M 0 - 1) (M 2) := by unfold s_X2_lying; rw [e0, e2]
  have hlyt : s_X2_lying N V A < 2 ^ M 0 := by
    rw [hly]; exact Nat.lt_of_le_of_lt (nclr_le _ _) (by have := Nat.two_pow_pos (M 0); omega)
  have hzz : s_J6_bitCount_0f7a4 (s_X2_lying N V A) = zer (M 0) (M 2) := by
    show pop16 (s_X2_lying N V A) = _
    rw [pop_ct hlyt (by omega)]
    unfold zer
    exact fb_ct_cong (fun k hk => by rw [lying_tb, e0, e2, decide_eq_true hk]; rfl)
  have hz10 : zer (M 0) (M 2) ≤ 10 := Nat.le_trans (fb_ct_le _ _) hn
  have hcnt : nI (M 0) - s_X5_count (nI (M 2)) = nI (zer (M 0) (M 2)) := by
    rw [count_pop (by omega), ← lying_cnt hU hn, ← hly, ← hzz]; rfl
  have hb : ((nI (zer (M 0) (M 2))).toInt64 - (1 : Int64)).toInt = (zer (M 0) (M 2) : Int) - 1 := nL1 (by omega)
  unfold s_X4_order s_X5_order
  rw [hcnt, hzz, e2, inI i0 _ hb]
  have hI : Inv N V A M U (ldA M U B) := by
    obtain ⟨l1, l2, -⟩ := ldA_spec (U := U) okm
    exact iv.scratch (fun _ _ _ _ => rfl) (fun _ _ => rfl) (fun p h11 _ _ => l1 p h11) l2 (by rw [l1 12 (by decide)]; exact okm.2.2.2.2.2.2)
  by_cases h1 : i0 < 0
  · rw [if_pos h1, if_neg (fun h => by rw [decide_eq_true_iff] at h; rw [Int32.lt_iff_toInt_lt, show (0 : Int32).toInt = 0 from rfl] at h1; omega)]
    exact ⟨rfl, iv⟩
  · rw [if_neg h1]
    rw [Int32.lt_iff_toInt_lt, show (0 : Int32).toInt = 0 from rfl] at h1
    by_cases h2 : i0 < nI (zer (M 0) (M 2))
    · rw [if_pos h2]
      rw [Int32.lt_iff_toInt_lt, nI_toInt (by omega)] at h2
      rw [if_pos (decide_eq_true ⟨by omega, h2⟩)]
      obtain ⟨t1, t2⟩ := nI_tn (x := i0) (n := 1000) (by omega) (by omega) (by decide)
      have t3 : (i0.toNatClampNeg : Int) = i0.toInt := by rw [← nI_toInt (n := i0.toNatClampNeg) (by omega), t2]
      by_cases hl : bz (ldA M U B 11 (M 2)) = true
      · rw [if_pos hl]
        refine ⟨?_, hI⟩
        have q := ord_yes iv t1 (zer (M 0) (M 2)) 0 (M 2) (-9) (by omega) rfl hU hl (-1)
        rw [t2] at q
        rw [q, if_pos (by omega)]; rfl
      · rw [if_neg hl]
        exact ⟨ord_no iv _ _ _ _ rfl hU (Bool.eq_false_iff.mpr hl), hI⟩
    · rw [if_neg h2]
      rw [Int32.lt_iff_toInt_lt, nI_toInt (by omega)] at h2
      rw [if_neg (fun h => by rw [decide_eq_true_iff] at h; omega)]
      exact ⟨rfl, iv⟩
end ORD
