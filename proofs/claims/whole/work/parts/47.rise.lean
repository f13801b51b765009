/-! what can be reached by raising: the ship's marks are the model's -/
theorem b_1 : ∀ i, i < 32 → bt 1 i = decide (i = 0) := by decide +kernel
theorem isIn_bt (x : Int32) {r : Nat} (hr : r < 32) : s_X4_isIn x (nI r) = bt x r := by
  unfold s_X4_isIn
  have h0 : bt (x >>> (nI r &&& 31)) 0 = bt x r := by rw [b_sshr r hr x (by decide), if_pos (by omega), Nat.add_zero]
  rw [← h0]
  generalize x >>> (nI r &&& 31) = y
  have h1 : y &&& 1 = 1 ↔ bt y 0 = true := by
    constructor
    · intro h
      have := congrArg (fun z => bt z 0) h
      rw [b_and, b_1 0 (by decide)] at this
      simpa using this
    · intro h
      apply b_ext
      intro i hi
      rw [b_and, b_1 i hi]
      by_cases e : i = 0
      · subst e; simp [h]
      · simp [e]
  by_cases h : bt y 0 = true
  · rw [if_pos (h1.mpr h), h]
  · rw [if_neg (fun h2 => h (h1.mp h2)), Bool.eq_false_iff.mpr h]
theorem and31 (S : Nat) : nI S &&& (31 : Int32) = nI (S % 32) := by
  rw [show (31 : Int32) = nI 31 from rfl, nx_and]
  exact congrArg nI (Nat.and_two_pow_sub_one_eq_mod S 5)
def mk (A : Nat → Nat → Int32) (S : Nat) : Bool := s_X4_isIn (A 26 (S / 32)) (nI S &&& (31 : Int32))
theorem mk_bt (A : Nat → Nat → Int32) (S : Nat) : mk A S = bt (A 26 (S / 32)) (S % 32) := by
  unfold mk; rw [and31, isIn_bt _ (Nat.mod_lt _ (by decide))]
theorem mk_mark (N : Nat → Nat) (V : Nat → Int32) (A : Nat → Nat → Int32) (T S : Nat) : mk (s_X0_mark N V A T).2.2 S = (mk A S || decide (S = T)) := by
  rw [mk_bt, mk_bt]
  show bt (upd (A 26) (T / 32) (A 26 (T / 32) ||| ((1 : Int32) <<< ((nI T &&& (31 : Int32)) &&& 31))) (S / 32)) (S % 32) = _
  have hS : S % 32 < 32 := Nat.mod_lt _ (by decide)
  have hT : T % 32 < 32 := Nat.mod_lt _ (by decide)
  by_cases h : S / 32 = T / 32
  · rw [h, pk_us, b_or, and31, b_shl (T % 32) hT 1 hS, b_1 _ (by omega)]
    congr 1
    by_cases e : S = T
    · subst e; simp
    · have : S % 32 ≠ T % 32 := by omega
      rw [decide_eq_false e]
      by_cases h1 : T % 32 ≤ S % 32
      · rw [decide_eq_false (show ¬ S % 32 - T % 32 = 0 by omega), Bool.and_false]
      · rw [decide_eq_false h1, Bool.false_and]
  · rw [pk_un h, decide_eq_false (fun e => h (by rw [e])), Bool.or_false]
section RIS
variable {N M : Nat → Nat} {V U : Nat → Int32} {A B : Nat → Nat → Int32}
theorem only3 {B B' : Nat → Nat → Int32} (h : ∀ p, p ≠ 11 → p ≠ 12 → p ≠ 13 → B' p = B p) : B' = va_up (va_up (va_up B 11 (B' 11)) 12 (B' 12)) 13 (B' 13) := by
  funext p
  by_cases h13 : p = 13
  · subst h13; exact (if_pos rfl).symm
  · rw [va_up_o _ _ h13]
    by_cases h12 : p = 12
    · subst h12; exact (if_pos rfl).symm
    · rw [va_up_o _ _ h12]
      by_cases h11 : p = 11
      · subst h11; exact (if_pos rfl).symm
      · rw [va_up_o _ _ h11]; exact h p h11 h12 h13
theorem only26 {A A' : Nat → Nat → Int32} (h : ∀ p, p ≠ 26 → A' p = A p) : A' = va_up A 26 (A' 26) := by
  funext p
  by_cases h13 : p = 26
  · subst h13; exact (if_pos rfl).symm
  · rw [va_up_o _ _ h13]; exact h p h13
theorem Inv.scratch (iv : Inv N V A M U B) {V' : Nat → Int32} {A' B' : Nat → Nat → Int32} (hV : ∀ j, j ≠ 2 → j ≠ 3 → j ≠ 4 → V' j = V j) (hA : ∀ p, p ≠ 26 → A' p = A p) (hB : ∀ p, p ≠ 11 → p ≠ 12 → p ≠ 13 → B' p = B p) (b11 : isB (B' 11)) (b12 : isB (B' 12)) : Inv N V' A' M U B' := by
  obtain ⟨h0, hv, hR, hS, hO, hT, hH, oc, om⟩ := iv
  have eA := only26 hA
  have eB := only3 hB
  generalize A' 26 = f at eA
  generalize B' 11 = g1 at eB b11
  generalize B' 12 = g2 at eB b12
  generalize B' 13 = g3 at eB
  subst eA; subst eB
  refine ⟨h0, ⟨by rw [hV 0 (by decide) (by decide) (by decide)]; exact hv.1, by rw [hV 1 (by decide) (by decide) (by decide)]; exact hv.2⟩, hR, hS, hO, hT, ?_, oc, ?_⟩
  · intro k hk
    rw [hV (5 + k) (by omega) (by omega) (by omega), hV (9 + k) (by omega) (by omega) (by omega), va_up_o _ _ (show 18 + 2 * k ≠ 26 by omega)]
    exact hH k hk
  · obtain ⟨p1, p2, p3, p4, p5, p6, p7⟩ := om
    exact ⟨p1, p2, p3, p4, p5, b11, b12⟩
theorem mayRise_cong {B' : Nat → Nat → Int32} {U' : Nat → Int32} {S s : Nat} (hS : S < 1024) (hn : M 0 ≤ 10) (hB : ∀ p, p ≠ 11 → p ≠ 12 → p ≠ 13 → B' p = B p) : s_X5_mayRise M U' B' (nI S) s = s_X5_mayRise M U B (nI S) s := by
  have eB := only3 hB
  generalize B' 11 = g1 at eB
  generalize B' 12 = g2 at eB
  generalize B' 13 = g3 at eB
  subst eB
  have e : s_X5_isBarred M U' (va_up (va_up (va_up B 11 g1) 12 g2) 13 g3) (nI S) s = s_X5_isBarred M U B (nI S) s := by
    rw [Bool.eq_iff_iff, bar_iff (by omega) hn, bar_iff (by omega) hn]; rfl
  unfold s_X5_mayRise
  rw [e, raisers_ct, raisers_ct, ov_ct (by omega) hn, ov_ct (by omega) hn]
  rfl
def Rel (n : Nat) (A B A1 B1 : Nat → Nat → Int32) : Prop := (∀ p, p ≠ 26 → A1 p = A p) ∧ (∀ p, p ≠ 12 → B1 p = B p) ∧ isB (B1 12) ∧ ∀ S, S < 2 ^ n → mk A1 S = bz (B1 12 S)
theorem Rel.mark {n T : Nat} {A1 B1 : Nat → Nat → Int32} (h : Rel n A B A1 B1) : Rel n A B (s_X0_mark N V A1 T).2.2 (va_up B1 12 (upd (B1 12) T (b2i true))) := by
  obtain ⟨h1, h2, h3, h4⟩ := h
  refine ⟨fun p hp => ?_, fun p hp => ?_, isB_upd h3 _ _, fun S hS => ?_⟩
  · rw [← h1 p hp]; exact va_up_o _ _ hp
  · rw [va_up_o _ _ hp]; exact h2 p hp
  · rw [mk_mark, h4 S hS]
    show _ = bz (upd (B1 12) T (b2i true) S)
    by_cases e : S = T
    · subst e; rw [pk_us, bz_b2i]; simp
    · rw [pk_un e, decide_eq_false e, Bool.or_false]
theorem next_same (iv : Inv N V A M U B) {V1 : Nat → Int32} {A9 B9 B8 : Nat → Nat → Int32} {w a b d : Int32} {k m : Nat} (hk : k < 2 ^ M 0) : ∀ (n j : Nat) (A1 B1 : Nat → Nat → Int32), j + n ≤ M 0 → Rel (M 0) A B A1 B1 → Rel (M 0) A B (s_X0_markNextOf_L1 N V1 A9 k (nI (s_X3_raised N V A)) n j A1) (s_X5_rising_L3 M U B9 w m k a b d B8 n j B1)
  | 0, j, A1, B1, _, h => by rw [s_X0_markNextOf_L1, s_X5_rising_L3]; exact h
  | n + 1, j, A1, B1, hj, h => by
    have hn : M 0 ≤ 10 := iv.1.2.2.2.1
    have hp : 2 ^ M 0 ≤ 1024 := Nat.le_trans (Nat.pow_le_pow_right (by omega) hn) (by decide)
    rw [s_X0_markNextOf_L1, s_X5_rising_L3]
    have e1 : s_X2_mayRise N V1 A1 j (nI k) (nI (s_X3_raised N V A)) = s_X5_mayRise M U B1 (nI k) j := by
      rw [mayRise_cong (U := U) (B := B) (by omega) hn (fun p h11 h12 h13 => h.2.1 p h12), ← mayRise_eq iv (by omega) (show j < M 0 by omega)]
      unfold s_X2_mayRise
      rw [h.1 8 (by decide), h.1 9 (by decide)]
    rw [e1]
    by_cases c : s_X5_mayRise M U B1 (nI k) j = true
    · rw [if_pos c, if_pos c]
      exact next_same iv hk n (j + 1) _ _ (by omega) h.mark
    · rw [if_neg c, if_neg c]
      exact next_same iv hk n (j + 1) _ _ (by omega) h
theorem greater_eq (b c : Int32) : (if b < c then c else b) = s_X5_greater b c := by
  unfold s_X5_greater
  by_cases h : b < c
  · rw [if_pos h, if_pos (by rw [Int32.le_iff_toInt_le]; rw [Int32.lt_iff_toInt_lt] at h; omega)]
  · rw [if_neg h]
    by_cases h2 : b ≤ c
    · rw [if_pos h2]
      apply Int32.toInt_inj.mp
      rw [Int32.le_iff_toInt_le] at h2; rw [Int32.lt_iff_toInt_lt] at h; omega
    · rw [if_neg h2]
theorem search_same (iv : Inv N V A M U B) {V9 : Nat → Int32} {A9 B9 : Nat → Nat → Int32} {w : Int32} : ∀ (n k : Nat) (V1 : Nat → Int32) (a b d : Int32) (A1 B1 : Nat → Nat → Int32), k + n = 2 ^ M 0 → Rel (M 0) A B A1 B1 → (V1 2 = a ∧ V1 3 = b ∧ V1 4 = d) → (∀ j, j ≠ 2 → j ≠ 3 → j ≠ 4 → V1 j = V j) →
    Rel (M 0) A B (s_X0_search_L1 N V9 A9 (nI (s_X3_raised N V A)) n k V1 A1).2 (s_X5_rising_L2 M U B9 w n k a b d B1).2.2.2 ∧ ((s_X0_search_L1 N V9 A9 (nI (s_X3_raised N V A)) n k V1 A1).1 2 = (s_X5_rising_L2 M U B9 w n k a b d B1).1 ∧ (s_X0_search_L1 N V9 A9 (nI (s_X3_raised N V A)) n k V1 A1).1 3 = (s_X5_rising_L2 M U B9 w n k a b d B1).2.1 ∧ (s_X0_search_L1 N V9 A9 (nI (s_X3_raised N V A)) n k V1 A1).1 4 = (s_X5_rising_L2 M U B9 w n k a b d B1).2.2.1) ∧ ∀ j, j ≠ 2 → j ≠ 3 → j ≠ 4 → (s_X0_search_L1 N V9 A9 (nI (s_X3_raised N V A)) n k V1 A1).1 j = V j
  | 0, k, V1, a, b, d, A1, B1, _, h, hv, hV => by
    rw [s_X0_search_L1, s_X5_rising_L2]; exact ⟨h, hv, hV⟩
  | n + 1, k, V1, a, b, d, A1, B1, hk, h, hv, hV => by
    have hn : M 0 ≤ 10 := iv.1.2.2.2.1
    have e0 := iv.1.1
    have hp : 2 ^ M 0 ≤ 1024 := Nat.le_trans (Nat.pow_le_pow_right (by omega) hn) (by decide)
    rw [s_X0_search_L1, s_X5_rising_L2]
    have e1 : s_X0_isMarked N V1 A1 k = bz (B1 12 k) := h.2.2.2 k (by omega)
    rw [e1]
    by_cases c : bz (B1 12 k) = true
    · rw [if_pos c, if_pos c]
      refine search_same iv n (k + 1) _ _ _ _ _ _ (by omega) ?_ ⟨?_, ?_, ?_⟩ (fun j h2 h3 h4 => ?_)
      · unfold s_X0_markNextOf
        rw [e0]
        exact next_same iv (by omega) (M 0) 0 A1 B1 (by omega) h
      · show V1 2 + 1 = a + 1
        rw [hv.1]
      · show (if V1 3 < nI (pop16 k) then nI (pop16 k) else V1 3) = s_X5_greater b (s_X5_count (nI k))
        rw [hv.2.1, greater_eq, count_pop (by omega)]
      · show V1 4 ||| nI k = d ||| nI k
        rw [hv.2.2]
      · show va_up (va_up (va_up V1 2 _) 3 _) 4 _ j = V j
        rw [va_up_o _ _ h4, va_up_o _ _ h3, va_up_o _ _ h2]; exact hV j h2 h3 h4
    · rw [if_neg c, if_neg c]
      exact search_same iv n (k + 1) V1 a b d A1 B1 (by omega) h hv hV
theorem ris_L1 {w : Int32} : ∀ (n k : Nat) (B1 : Nat → Nat → Int32), isB (B1 12) → (∀ p, p ≠ 12 → s_X5_rising_L1 M U B w n k B1 p = B1 p) ∧ isB (s_X5_rising_L1 M U B w n k B1 12) ∧ ∀ S, s_X5_rising_L1 M U B w n k B1 12 S = if k ≤ S ∧ S < k + n then b2i (if nI S = nI (M 2) then true else false) else B1 12 S
  | 0, k, B1, hb => by
    rw [s_X5_rising_L1]
    exact ⟨fun _ _ => rfl, hb, fun S => by rw [if_neg (by omega)]⟩
  | n + 1, k, B1, hb => by
    rw [s_X5_rising_L1]
    obtain ⟨h1, h2, h3⟩ := ris_L1 (w := w) n (k + 1) (va_up B1 12 (upd (B1 12) k (b2i (if nI k = nI (M 2) then true else false)))) (isB_upd hb _ _)
    refine ⟨fun p hp => by rw [h1 p hp, va_up_o _ _ hp], h2, fun S => ?_⟩
    rw [h3 S]
    show (if k + 1 ≤ S ∧ S < k + 1 + n then _ else upd (B1 12) k (b2i (if nI k = nI (M 2) then true else false)) S) = _
    by_cases e : S = k
    · subst e
      rw [pk_us, if_neg (c := S + 1 ≤ S ∧ S < S + 1 + n) (by omega), if_pos (c := S ≤ S ∧ S < S + (n + 1)) (by omega)]
    · rw [pk_un e]
      by_cases c : k ≤ S ∧ S < k + (n + 1)
      · rw [if_pos c, if_pos (by omega)]
      · rw [if_neg c, if_neg (by omega)]
theorem rising_eq (iv : Inv N V A M U B) (w : Int32) : Same (s_X4_rising N V A w) (s_X5_rising M U B w) := by
  obtain ⟨⟨e0, e1, e2, hn, hT, hU⟩, hv, hR, hIS, hO, hIT, hH, okc, okm⟩ := id iv
  have hp : 2 ^ M 0 ≤ 1024 := Nat.le_trans (Nat.pow_le_pow_right (by omega) hn) (by decide)
  unfold s_X4_rising s_X5_rising
  rw [within_in w 0 2 0 2 (by decide) (by decide)]
  have hw : ∀ (x y : Int32 × St), (if w < 0 then x else if w ≤ 2 then y else x) = if s_X4_isWithin w 0 2 = true then y else x := fun x y => by
    rw [withinI]
    by_cases h1 : w < 0
    · rw [if_pos h1, if_neg (fun h => by rw [decide_eq_true_iff] at h; rw [Int32.lt_iff_toInt_lt] at h1; omega)]
    · rw [if_neg h1]
      by_cases h2 : w ≤ 2
      · rw [if_pos h2, if_pos (decide_eq_true ⟨by rw [Int32.lt_iff_toInt_lt] at h1; omega, by rw [Int32.le_iff_toInt_le] at h2; exact h2⟩)]
      · rw [if_neg h2, if_neg (fun h => h2 (by rw [decide_eq_true_iff] at h; rw [Int32.le_iff_toInt_le]; exact h.2))]
  rw [hw]
  refine same_if (fun _ => ?_) (fun _ => ⟨rfl, iv⟩)
  obtain ⟨r1, r2, r3⟩ := ris_L1 (M := M) (U := U) (B := B) (w := w) (2 ^ M 0) 0 B okm.2.2.2.2.2.2
  have hrel : Rel (M 0) A B (s_X0_mark N (va_up (va_up (va_up V 2 (0 : Int32)) 3 (0 : Int32)) 4 (0 : Int32)) (va_up A 26 (fillN (A 26) (0 : Int32) 32)) (N 2)).2.2 (s_X5_rising_L1 M U B w (2 ^ M 0) 0 B) := by
    refine ⟨fun p hp => ?_, r1, r2, fun S hS => ?_⟩
    · show va_up (va_up A 26 _) 26 _ p = A p
      rw [va_up_o _ _ hp, va_up_o _ _ hp]
    · rw [mk_mark, mk_bt]
      show (bt (fillN (A 26) 0 32 (S / 32)) (S % 32) || decide (S = N 2)) = _
      unfold fillN
      rw [if_pos (show S / 32 < 32 by omega), b_0, Bool.false_or, r3 S, if_pos (by omega), bz_b2i, e2]
      by_cases h : S = M 2
      · rw [decide_eq_true h, if_pos (by rw [h])]
      · rw [decide_eq_false h, if_neg (fun h2 => h ((nI_eq (by omega) (by omega)).mp h2))]
  obtain ⟨s1, s2, s3⟩ := search_same (V9 := V) (A9 := A) (B9 := B) (w := w) iv (2 ^ M 0 - M 2) (M 2) (va_up (va_up (va_up V 2 (0 : Int32)) 3 (0 : Int32)) 4 (0 : Int32)) 0 0 0 _ _ (by omega) hrel ⟨rfl, rfl, rfl⟩ (fun j h2 h3 h4 => by rw [va_up_o _ _ h4, va_up_o _ _ h3, va_up_o _ _ h2])
  have es : s_X0_search N V A (nI (s_X3_raised N V A)) = (N, (s_X0_search_L1 N V A (nI (s_X3_raised N V A)) (2 ^ M 0 - M 2) (M 2) (va_up (va_up (va_up V 2 (0 : Int32)) 3 (0 : Int32)) 4 (0 : Int32)) ((s_X0_mark N (va_up (va_up (va_up V 2 (0 : Int32)) 3 (0 : Int32)) 4 (0 : Int32)) (va_up A 26 (fillN (A 26) (0 : Int32) 32)) (N 2)).2.2)).1, (s_X0_search_L1 N V A (nI (s_X3_raised N V A)) (2 ^ M 0 - M 2) (M 2) (va_up (va_up (va_up V 2 (0 : Int32)) 3 (0 : Int32)) 4 (0 : Int32)) ((s_X0_mark N (va_up (va_up (va_up V 2 (0 : Int32)) 3 (0 : Int32)) 4 (0 : Int32)) (va_up A 26 (fillN (A 26) (0 : Int32) 32)) (N 2)).2.2)).2) := by
    unfold s_X0_search; rw [e0, e2]
  rw [es]
  generalize s_X0_search_L1 N V A (nI (s_X3_raised N V A)) (2 ^ M 0 - M 2) (M 2) (va_up (va_up (va_up V 2 (0 : Int32)) 3 (0 : Int32)) 4 (0 : Int32)) ((s_X0_mark N (va_up (va_up (va_up V 2 (0 : Int32)) 3 (0 : Int32)) 4 (0 : Int32)) (va_up A 26 (fillN (A 26) (0 : Int32) 32)) (N 2)).2.2) = X at s1 s2 s3 ⊢
  generalize s_X5_rising_L2 M U B w (2 ^ M 0 - M 2) (M 2) (0 : Int32) (0 : Int32) (0 : Int32) (s_X5_rising_L1 M U B w (2 ^ M 0) 0 B) = Y at s1 s2 s3 ⊢
  have hI : Inv N X.1 X.2 M U Y.2.2.2 := iv.scratch s3 s1.1 (fun p h11 h12 h13 => s1.2.1 p h12) (by rw [s1.2.1 11 (by decide)]; exact okm.2.2.2.2.2.1) s1.2.2.1
  by_cases c0 : w = 0
  · rw [if_pos c0, if_pos c0]; exact ⟨s2.1, hI⟩
  · rw [if_neg c0, if_neg c0]
    by_cases c1 : w = 1
    · rw [if_pos c1, if_pos c1]; exact ⟨s2.2.1, hI⟩
    · rw [if_neg c1, if_neg c1]; exact ⟨s2.2.2, hI⟩
end RIS
