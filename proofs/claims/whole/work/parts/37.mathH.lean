section IVH
variable {N M : Nat → Nat} {V U : Nat → Int32} {A B : Nat → Nat → Int32}
theorem short_L1 {v : Int32} : ∀ (n k : Nat) (a : Bool), s_X5_isTooShort_L1 M U B v n k a = (a || anF (fun t => decide (v < B 3 t)) n k)
  | 0, k, a => by rw [s_X5_isTooShort_L1, anF, Bool.or_false]
  | n + 1, k, a => by
    rw [s_X5_isTooShort_L1, anF]
    cases a with
    | true => rw [if_pos rfl, short_L1 n]; rfl
    | false =>
      rw [if_neg (by decide), Bool.false_or]
      by_cases h : B 3 k ≤ v
      · rw [if_pos h, short_L1 n, decide_eq_false (i32_nlt.mpr h)]
      · rw [if_neg h, short_L1 n, decide_eq_true (i32_nle.mp h)]
theorem short_L2 {v : Int32} : ∀ (n k : Nat) (a : Bool), s_X5_isTooShort_L2 M U B v n k a = (a || anF (fun t => decide (v + 20 < B 7 t)) n k)
  | 0, k, a => by rw [s_X5_isTooShort_L2, anF, Bool.or_false]
  | n + 1, k, a => by
    rw [s_X5_isTooShort_L2, anF]
    cases a with
    | true => rw [if_pos rfl, short_L2 n]; rfl
    | false =>
      rw [if_neg (by decide), Bool.false_or]
      by_cases h : B 7 k ≤ v + 20
      · rw [if_pos h, short_L2 n, decide_eq_false (i32_nlt.mpr h)]
      · rw [if_neg h, short_L2 n, decide_eq_true (i32_nle.mp h)]
theorem gf_L1 {v : Int32} : ∀ (n k : Nat) (a : Int32), v < s_X2_greatestFoot_L1 N V A n k a ↔ v < a ∨ ∃ j, k ≤ j ∧ j < k + n ∧ v < A 4 j
  | 0, k, a => by
    rw [s_X2_greatestFoot_L1]
    constructor
    · intro h; exact Or.inl h
    · rintro (h | ⟨j, h1, h2, -⟩)
      · exact h
      · omega
  | n + 1, k, a => by
    rw [s_X2_greatestFoot_L1, gf_L1 n]
    have hm : v < (if a < A 4 k then A 4 k else a) ↔ v < a ∨ v < A 4 k := by
      rw [Int32.lt_iff_toInt_lt, max_toInt, Int32.lt_iff_toInt_lt, Int32.lt_iff_toInt_lt]; omega
    rw [hm]
    constructor
    · rintro ((h | h) | ⟨j, h1, h2, h3⟩)
      · exact Or.inl h
      · exact Or.inr ⟨k, Nat.le_refl k, by omega, h⟩
      · exact Or.inr ⟨j, by omega, by omega, h3⟩
    · rintro (h | ⟨j, h1, h2, h3⟩)
      · exact Or.inl (Or.inl h)
      · by_cases hj : j = k
        · subst hj; exact Or.inl (Or.inr h3)
        · exact Or.inr ⟨j, by omega, by omega, h3⟩
theorem gh_L1 {v : Int32} : ∀ (n k : Nat) (a : Int32), v < s_X3_greatestHole_L1 N V A n k a ↔ v < a ∨ ∃ j, k ≤ j ∧ j < k + n ∧ v < A 11 j
  | 0, k, a => by
    rw [s_X3_greatestHole_L1]
    constructor
    · intro h; exact Or.inl h
    · rintro (h | ⟨j, h1, h2, -⟩)
      · exact h
      · omega
  | n + 1, k, a => by
    rw [s_X3_greatestHole_L1, gh_L1 n]
    have hm : v < (if a < A 11 k then A 11 k else a) ↔ v < a ∨ v < A 11 k := by
      rw [Int32.lt_iff_toInt_lt, max_toInt, Int32.lt_iff_toInt_lt, Int32.lt_iff_toInt_lt]; omega
    rw [hm]
    constructor
    · rintro ((h | h) | ⟨j, h1, h2, h3⟩)
      · exact Or.inl h
      · exact Or.inr ⟨k, Nat.le_refl k, by omega, h⟩
      · exact Or.inr ⟨j, by omega, by omega, h3⟩
    · rintro (h | ⟨j, h1, h2, h3⟩)
      · exact Or.inl (Or.inl h)
      · by_cases hj : j = k
        · subst hj; exact Or.inl (Or.inr h3)
        · exact Or.inr ⟨j, by omega, by omega, h3⟩
theorem short_eq (iv : Inv N V A M U B) {v : Int32} (h1 : 1 ≤ v.toInt) (h2 : v.toInt ≤ 100) : s_X4_isTooShort N V A v = s_X5_isTooShort M U B v := by
  obtain ⟨⟨e0, e1, e2, hn, hT, hU⟩, hv, hR, hIS, hO, hIT, hH, okc, okm⟩ := id iv
  have e20 : (v + 20).toInt = v.toInt + 20 := fb_addI (by rw [show (20 : Int32).toInt = 20 from rfl]; omega) (by rw [show (20 : Int32).toInt = 20 from rfl]; omega)
  have eM : s_X5_isTooShort M U B v = true ↔ (∃ j, j < M 0 ∧ v < B 3 j) ∨ ∃ j, j < M 1 ∧ v + 20 < B 7 j := by
    unfold s_X5_isTooShort
    rw [short_L2, short_L1, Bool.false_or, Bool.or_eq_true, anF_0, anF_0]
    simp only [decide_eq_true_eq]
  have gF : v < s_X2_greatestFoot N V A ↔ ∃ j, j < M 0 ∧ v < B 3 j := by
    unfold s_X2_greatestFoot
    rw [gf_L1, e0]
    constructor
    · rintro (h | ⟨j, -, h3, h4⟩)
      · rw [Int32.lt_iff_toInt_lt, show (0 : Int32).toInt = 0 from rfl] at h; omega
      · exact ⟨j, by omega, by rw [← (hIS j (by omega)).1.2.1]; exact h4⟩
    · rintro ⟨j, h3, h4⟩
      exact Or.inr ⟨j, by omega, by omega, by rw [(hIS j h3).1.2.1]; exact h4⟩
  have gH : v + 20 < s_X3_greatestHole N V A ↔ ∃ j, j < M 1 ∧ v + 20 < B 7 j := by
    unfold s_X3_greatestHole
    rw [gh_L1, e1]
    constructor
    · rintro (h | ⟨j, -, h3, h4⟩)
      · rw [Int32.lt_iff_toInt_lt, e20, show (-20 : Int32).toInt = -20 from rfl] at h; omega
      · exact ⟨j, by omega, by rw [← (hIT.1 j (by omega)).1.1]; exact h4⟩
    · rintro ⟨j, h3, h4⟩
      exact Or.inr ⟨j, by omega, by omega, by rw [(hIT.1 j h3).1.1]; exact h4⟩
  rw [Bool.eq_iff_iff, eM]
  unfold s_X4_isTooShort
  by_cases c1 : v < s_X2_greatestFoot N V A
  · rw [if_pos c1]; exact ⟨fun _ => Or.inl (gF.mp c1), fun _ => rfl⟩
  · rw [if_neg c1]
    by_cases c2 : s_X3_greatestHole N V A ≤ v + 20
    · rw [if_pos c2]
      constructor
      · intro h; cases h
      · rintro (h | h)
        · exact absurd (gF.mpr h) c1
        · exact absurd (gH.mpr h) (i32_nlt.mpr c2)
    · rw [if_neg c2]
      exact ⟨fun _ => Or.inr (gH.mp (i32_nle.mp c2)), fun _ => rfl⟩
theorem Inv.setRule (iv : Inv N V A M U B) {j : Nat} {v : Int32} (hj : j < 5) (h1 : 1 ≤ v.toInt) (h2 : v.toInt ≤ (gmV j).toInt) : Inv N V (va_up A 1 (upd (A 1) j v)) M U (va_up B 1 (upd (B 1) j v)) := by
  obtain ⟨h0, hv, hR, hIS, hO, hIT, hH, okc, okm⟩ := iv
  refine ⟨h0, hv, fun i hi => ?_, hIS, hO, hIT, fun k hk => ?_, okc, ok_put okm (by decide) (by decide) (by decide) (by decide) _⟩
  · show upd (A 1) j v i = upd (B 1) j v i ∧ 1 ≤ (upd (B 1) j v i).toInt ∧ (upd (B 1) j v i).toInt ≤ (gmV i).toInt
    by_cases e : i = j
    · subst e; rw [pk_us, pk_us]; exact ⟨rfl, h1, h2⟩
    · rw [pk_un e, pk_un e]; exact hR i hi
  · rw [va_up_o A _ (show 18 + 2 * k ≠ 1 by omega)]
    exact hH k hk
theorem rule_eq (iv : Inv N V A M U B) (w v : Int32) : Same (s_X4_rule N V A w v) (s_X5_rule M U B w v) := by
  obtain ⟨⟨e0, e1, e2, hn, hT, hU⟩, hv, hR, hIS, hO, hIT, hH, okc, okm⟩ := id iv
  unfold s_X4_rule s_X5_rule
  rw [inI w 4 (n := 5) (by decide), within_in v 1 100 1 100 (by decide) (by decide), within_in v 1 60 1 60 (by decide) (by decide)]
  by_cases c1 : w < 0
  · rw [if_pos c1, if_neg]
    · exact ⟨rfl, iv⟩
    · rw [decide_eq_true_iff]; rw [Int32.lt_iff_toInt_lt, show (0 : Int32).toInt = 0 from rfl] at c1; omega
  · rw [if_neg c1]
    have c1' := c1
    rw [Int32.lt_iff_toInt_lt, show (0 : Int32).toInt = 0 from rfl] at c1'
    by_cases c2 : w ≤ 4
    · have c2' := c2
      rw [Int32.le_iff_toInt_le, show (4 : Int32).toInt = 4 from rfl] at c2'
      rw [if_pos c2, if_pos (decide_eq_true (by omega))]
      obtain ⟨hj, -⟩ := tn5 c1 c2
      generalize w.toNatClampNeg = j at hj
      have key : ∀ (g : Int32), gmV j = g → Same (if s_X4_isWithin v 1 (gmV j) = true then if nI j = 0 then if s_X4_isTooShort N V A v = true then ((-3 : Int32), N, V, A) else (A 1 j, N, V, (va_up A 1 (upd (A 1) j v))) else (A 1 j, N, V, (va_up A 1 (upd (A 1) j v))) else ((-2 : Int32), N, V, A))
          (if s_X4_isWithin v 1 g = true then if nI j = 0 then if s_X5_isTooShort M U B v = true then ((-3 : Int32), M, U, B) else (B 1 j, M, U, (va_up B 1 (upd (B 1) j v))) else (B 1 j, M, U, (va_up B 1 (upd (B 1) j v))) else ((-2 : Int32), M, U, B)) := by
        intro g hg
        rw [hg]
        refine same_if (fun h => ?_) (fun _ => ⟨rfl, iv⟩)
        rw [withinI, decide_eq_true_iff, show (1 : Int32).toInt = 1 from rfl, ← hg] at h
        have hgl : (gmV j).toInt ≤ 100 := by unfold gmV; split <;> decide
        have hset := iv.setRule hj h.1 h.2
        have hans := (hR j hj).1
        refine same_if (fun _ => ?_) (fun _ => ⟨hans, hset⟩)
        rw [short_eq iv h.1 (by omega)]
        exact same_if (fun _ => ⟨rfl, iv⟩) (fun _ => ⟨hans, hset⟩)
      by_cases c3 : nI j = 0
      · have ej : j = 0 := (nI_eq0 (by omega)).mp c3
        have h := key 100 (by rw [ej]; rfl)
        simp only [if_pos c3] at h ⊢
        exact h
      · have ej : j ≠ 0 := fun h => c3 ((nI_eq0 (by omega)).mpr h)
        have h := key 60 (by unfold gmV; rw [if_neg ej])
        simp only [if_neg c3] at h ⊢
        exact h
    · rw [if_neg c2, if_neg]
      · exact ⟨rfl, iv⟩
      · rw [decide_eq_true_iff]; rw [Int32.le_iff_toInt_le, show (4 : Int32).toInt = 4 from rfl] at c2; omega
/-! sheets -/
theorem Inv.okV (iv : Inv N V A M U B) : okV V := by
  intro k hk
  rcases iv.2.2.2.2.2.2.1 k hk with ⟨-, h, -⟩ | ⟨-, -, h, h2, -⟩
  · rw [h]; decide
  · rw [h]; exact h2
theorem Inv.okS (iv : Inv N V A M U B) : okS B := by
  intro k hk
  rcases iv.2.2.2.2.2.2.1 k hk with ⟨-, -, h⟩ | ⟨-, -, -, h2, -⟩
  · rw [h]; decide
  · exact h2.2
theorem Inv.sheets (iv : Inv N V A M U B) {V' U' : Nat → Int32} {A' B' : Nat → Nat → Int32} (hv : V' 0 = U' 0 ∧ V' 1 = U' 1) (hA : ∀ p, p ≤ 16 → A' p = A p) (hB : ∀ p, p ≤ 13 → B' p = B p) (hH : IH V' A' B') : Inv N V' A' M U' B' := by
  obtain ⟨h0, -, hR, hIS, hO, hIT, -, okc, okm⟩ := iv
  have b3 := hB 3 (by omega)
  have b4 := hB 4 (by omega)
  have b6 := hB 6 (by omega)
  have b7 := hB 7 (by omega)
  have b8 := hB 8 (by omega)
  have b9 := hB 9 (by omega)
  have ov : ∀ a b, ovB B' a b = ovB B a b := fun a b => by
    unfold ovB s_X5_isOver s_X5_from s_X5_to; rw [b3, b4, b6]
  have fw : ∀ a b, fwB B' a b = fwB B a b := fun a b => by
    unfold fwB loB hiB s_X5_from s_X5_to; rw [b3, b4, b6]
  have cr : ∀ a b, crB B' a b = crB B a b := fun a b => by
    unfold crB s_X5_doCross; rw [b3, b7, b8, b9]
  have bh : ∀ t, bhB B' t = bhB B t := fun t => by
    unfold bhB; rw [b3, b6, b7, b8]
  refine ⟨h0, hv, ?_, ?_, ?_, ?_, hH, ?_, ?_⟩
  · intro j hj; rw [hA 1 (by omega), hB 1 (by omega)]; exact hR j hj
  · intro j hj; rw [hA 3 (by omega), hA 4 (by omega), hA 5 (by omega), hA 6 (by omega), hA 7 (by omega), hB 2 (by omega), b3, b4, hB 5 (by omega), b6]; exact hIS j hj
  · intro a b; rw [hA 8 (by omega), hA 9 (by omega), ov, fw]; exact hO a b
  · refine ⟨fun t ht => ?_, fun t => ?_, fun t u => ?_⟩
    · rw [hA 11 (by omega), hA 12 (by omega), hA 13 (by omega), hA 14 (by omega), b3, b7, b8, b9]; exact hIT.1 t ht
    · rw [bh, hB 10 (by omega)]; exact hIT.2.1 t
    · rw [hA 15 (by omega), cr]; exact hIT.2.2 t u
  · unfold okC at *; rw [hA 8 (by omega), hA 9 (by omega), hA 15 (by omega), hA 12 (by omega)]; exact okc
  · unfold okM at *; rw [b8, hB 10 (by omega), hB 11 (by omega), hB 12 (by omega)]; exact okm
theorem noSheet_is (x : Int32) : s_X5_noSheet x = !s_X4_isSheet N V A x := by
  unfold s_X5_noSheet s_X4_isSheet
  rw [show (4 : Int32) = nI 4 from rfl, hasI x (by decide), if_tf, inI x 3 (n := 4) (by decide)]
theorem sh_not (h : IH V A B) {k : Nat} (hk : k < 4) : (s_X1_hasNothing N V A k = true ↔ B 14 k < 0) := by
  unfold s_X1_hasNothing
  rcases h k hk with ⟨h1, -, h3⟩ | ⟨h1, h2, h3, h4, -⟩
  · rw [if_pos h1, h3]; exact ⟨fun _ => by decide, fun _ => rfl⟩
  · rw [if_neg (fun e => by rw [e] at h1; exact absurd h1.1 (by decide))]
    constructor
    · intro h; cases h
    · intro h
      rw [Int32.lt_iff_toInt_lt, show (0 : Int32).toInt = 0 from rfl] at h; omega
theorem lose_eq (iv : Inv N V A M U B) (x : Int32) : Same (s_X4_lose N V A x) (s_X5_lose M U B x) := by
  have hH := iv.2.2.2.2.2.2.1
  have hv := iv.2.1
  unfold s_X4_lose s_X5_lose
  rw [noSheet_is (N := N) (V := V) (A := A), ite3]
  refine same_if (fun h1 => ?_) (fun _ => ⟨rfl, iv⟩)
  obtain ⟨hk, -⟩ := isSheet_t h1
  generalize x.toNatClampNeg = k at hk
  have hI : Inv N (s_X1_empty N V A k).2.1 A M U (va_up B 14 (upd (B 14) k (-1))) := by
    refine iv.sheets ?_ (fun p _ => rfl) (fun p hp => va_up_o _ _ (by omega)) ?_
    · show va_up (va_up V (5 + k) (-1)) (9 + k) 0 0 = U 0 ∧ va_up (va_up V (5 + k) (-1)) (9 + k) 0 1 = U 1
      rw [va_up_o _ _ (by omega), va_up_o _ _ (by omega), va_up_o _ _ (by omega), va_up_o _ _ (by omega)]
      exact hv
    · intro j hj
      show (va_up (va_up V (5 + k) (-1)) (9 + k) 0 (5 + j) = -1 ∧ va_up (va_up V (5 + k) (-1)) (9 + k) 0 (9 + j) = 0 ∧ upd (B 14) k (-1) j = -1) ∨ ((0 ≤ (va_up (va_up V (5 + k) (-1)) (9 + k) 0 (5 + j)).toInt ∧ (va_up (va_up V (5 + k) (-1)) (9 + k) 0 (5 + j)).toInt ≤ 2) ∧ va_up (va_up V (5 + k) (-1)) (9 + k) 0 (5 + j) = B 15 j ∧ va_up (va_up V (5 + k) (-1)) (9 + k) 0 (9 + j) = upd (B 14) k (-1) j ∧ (0 ≤ (upd (B 14) k (-1) j).toInt ∧ (upd (B 14) k (-1) j).toInt ≤ 50) ∧ ∀ i : Nat, (i : Int) < (upd (B 14) k (-1) j).toInt → A (18 + 2 * j) i = B 16 (50 * j + i))
      rw [va_up_o _ _ (show 5 + j ≠ 9 + k by omega)]
      by_cases e : j = k
      · subst e
        left
        rw [pk_us]
        exact ⟨if_pos rfl, if_pos rfl, rfl⟩
      · rw [va_up_o _ _ (show 5 + j ≠ 5 + k by omega), va_up_o _ _ (show 9 + j ≠ 9 + k by omega), va_up_o _ _ (show 9 + j ≠ 5 + k by omega), pk_un e]
        exact hH j hj
  by_cases c : B 14 k < 0
  · rw [if_pos ((sh_not hH hk).mpr c), if_neg (fun h => i32_nlt.mpr h c)]; exact ⟨rfl, hI⟩
  · rw [if_neg (fun h => c ((sh_not hH hk).mp h)), if_pos (i32_nlt.mp c)]; exact ⟨rfl, hI⟩
end IVH
