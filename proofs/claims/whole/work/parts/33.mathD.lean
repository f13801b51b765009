/-! answers that only read: the ship's are the model's -/
theorem ite2 {α : Type} {c : Prop} [Decidable c] {a a' b b' : α} (h1 : a = a') (h2 : b = b') : (if c then a else b) = (if c then a' else b') := by rw [h1, h2]
theorem ite3 {α : Type} {b : Bool} {x y : α} : (if (!b) = true then x else y) = (if b = true then y else x) := by cases b <;> rfl
theorem hasI (x : Int32) {n : Nat} (hn : n < 2 ^ 31) : (if x < 0 then false else if nI n ≤ x then false else true) = decide (0 ≤ x.toInt ∧ x.toInt < (n : Int)) := by
  by_cases h1 : x < 0
  · rw [if_pos h1]
    rw [Int32.lt_iff_toInt_lt, show (0 : Int32).toInt = 0 from rfl] at h1
    exact (decide_eq_false (by omega)).symm
  · rw [if_neg h1]
    rw [Int32.lt_iff_toInt_lt, show (0 : Int32).toInt = 0 from rfl] at h1
    by_cases h2 : nI n ≤ x
    · rw [if_pos h2]
      rw [Int32.le_iff_toInt_le, nI_toInt hn] at h2
      exact (decide_eq_false (by omega)).symm
    · rw [if_neg h2]
      rw [Int32.le_iff_toInt_le, nI_toInt hn] at h2
      exact (decide_eq_true (by omega)).symm
theorem inI (x : Int32) (h : Int64) {n : Nat} (hh : h.toInt = (n : Int) - 1) : s_X5_in x.toInt64 0 h = decide (0 ≤ x.toInt ∧ x.toInt < (n : Int)) := by
  rw [Bool.eq_iff_iff, in_iff, toL, hh, decide_eq_true_iff, show (0 : Int64).toInt = 0 from rfl]
  omega
theorem if_tf (b : Bool) : (if b = true then false else true) = !b := by cases b <;> rfl
theorem oneIf_b (b : Bool) : s_X4_oneIf b = b2i b := rfl
section IVP
variable {N M : Nat → Nat} {V U : Nat → Int32} {A B : Nat → Nat → Int32}
theorem noSpar_has (e : N 0 = M 0) (h : M 0 ≤ 10) (x : Int32) : s_X5_noSpar M U B x = !s_X2_has N V A x := by
  unfold s_X5_noSpar s_X2_has
  rw [hasI x (by omega), if_tf, inI x _ (nL1 (by omega)), e]
theorem noThread_has (e : N 1 = M 1) (h : M 1 ≤ 16) (x : Int32) : s_X5_noThread M U B x = !s_X3_has N V A x := by
  unfold s_X5_noThread s_X3_has
  rw [hasI x (by omega), if_tf, inI x _ (nL1 (by omega)), e]
theorem over_eq (iv : Inv N V A M U B) (a b : Int32) : s_X4_over N V A a b = s_X5_over M U B a b := by
  obtain ⟨⟨e0, e1, e2, hn, hT, hU⟩, -, -, hIS, hO, hIT, -, okc, -⟩ := iv
  unfold s_X4_over s_X5_over
  rw [noSpar_has (N := N) (V := V) (A := A) e0 hn, noSpar_has (N := N) (V := V) (A := A) e0 hn, ite3, ite3]
  by_cases h1 : s_X2_has N V A a = true
  · by_cases h2 : s_X2_has N V A b = true
    · rw [if_pos h1, if_pos h1, if_pos h2, if_pos h2]
      obtain ⟨ha, -⟩ := has2_t (by omega) h1
      obtain ⟨hb, -⟩ := has2_t (by omega) h2
      rw [(over_nI okc _).1, isIn_tb (by have := (over_nI okc a.toNatClampNeg).2; omega) (by omega), (hO _ _).1, oneIf_b]
      rw [e0] at ha hb
      simp only [ha, hb, decide_true, Bool.true_and]
      rfl
    · rw [if_pos h1, if_pos h1, if_neg h2, if_neg h2]
  · rw [if_neg h1, if_neg h1]
theorem raisersOf_lt2 (e1 : N 1 = M 1) (hT : M 1 ≤ 16) (hIT : IT (M 0) (M 1) N A B) (s : Int32) : s_X3_raisersOf N V A s < 65536 := by
  have h : s_X3_raisersOf N V A s < 2 ^ M 1 := lt_tb (fun i hi => by rw [raisersOf_tb e1 hIT]; simp [Nat.not_lt.mpr hi])
  exact Nat.lt_of_lt_of_le h (Nat.le_trans (Nat.pow_le_pow_right (by omega) hT) (by decide))
theorem pop0 {S : Nat} (h : S < 65536) : pop16 S = 0 ↔ S = 0 := by
  rw [pop_ct (n := 16) h (by omega), fb_ct_zero, zero_tb]
  constructor
  · intro h1 i
    rcases Nat.lt_or_ge i 16 with h2 | h2
    · exact h1 i h2
    · cases hc : S.testBit i with
      | false => rfl
      | true => exact absurd (tb_lt (n := 16) h hc) (by omega)
  · intro h1 k _; exact h1 k
theorem about_eq (iv : Inv N V A M U B) (s w : Int32) : s_X4_about N V A s w = s_X5_about M U B s w := by
  have iv0 := iv
  obtain ⟨⟨e0, e1, e2, hn, hT, hU⟩, -, -, hIS, hO, hIT, -, okc, -⟩ := iv
  have hp : 2 ^ M 0 ≤ 1024 := Nat.le_trans (Nat.pow_le_pow_right (by omega) hn) (by decide)
  unfold s_X4_about s_X5_about
  rw [noSpar_has (N := N) (V := V) (A := A) e0 hn, ite3]
  by_cases h1 : s_X2_has N V A s = true
  · rw [if_pos h1, if_pos h1]
    obtain ⟨hs, -⟩ := has2_t (by omega) h1
    generalize s.toNatClampNeg = j at hs
    rw [e0] at hs
    obtain ⟨⟨a1, a2, a3, a4, a5⟩, -⟩ := hIS j hs
    have eu : s_X2_isUp N V A (nI j) = (M 2).testBit j := by
      unfold s_X2_isUp; rw [e2, isIn_tb (by omega) (by omega)]
    have eu2 : s_X5_isUp M U B (nI (M 2)) (nI j) = (M 2).testBit j := isUp_tb (by omega) (by omega)
    have hra : s_X3_raisersOf N V A (nI j) < 65536 := raisersOf_lt2 e1 hT hIT _
    have hpl := pop16_le (s_X3_raisersOf N V A (nI j))
    refine ite2 a1 (ite2 a2 (ite2 a3 (ite2 a4 (ite2 a5 (ite2 ?_ (ite2 ?_ (ite2 ?_ (ite2 ?_ (ite2 ?_ rfl)))))))))
    · rw [eu, eu2, oneIf_b]; rfl
    · rw [eu, eu2, raisers_pop (N := N) (V := V) (A := A) e1 hT hIT j]
      refine ite2 ?_ rfl
      by_cases h2 : s_X3_raisersOf N V A (nI j) = 0
      · rw [if_pos ((nI_eq0 (by omega)).mpr h2), if_pos ((nI_le0 (by omega)).mpr ((pop0 hra).mpr h2))]; rfl
      · rw [if_neg (fun h => h2 ((nI_eq0 (by omega)).mp h)), if_neg (fun h => h2 ((pop0 hra).mp ((nI_le0 (by omega)).mp h)))]; rfl
    · rw [e2, mayRise_eq iv0 (by omega) hs, oneIf_b]; rfl
    · rw [raisers_pop (N := N) (V := V) (A := A) e1 hT hIT j]; rfl
    · rw [ov_ct (by omega) hn]
      show nI (pop16 _) = _
      have hlt : (A 8 j).toNatClampNeg &&& s_X2_lying N V A < 2 ^ M 0 := lt_tb (fun i hi => by
        rw [Nat.testBit_and, (hO j i).1]; simp [Nat.not_lt.mpr hi])
      rw [pop_ct hlt (by omega)]
      refine congrArg nI (fb_ct_cong (fun k hk => ?_))
      rw [Nat.testBit_and, (hO j k).1, lying_tb, e0, e2]
      simp only [hs, hk, decide_true, Bool.true_and]
      rw [Bool.and_comm]
  · rw [if_neg h1, if_neg h1]
theorem cross_L1 {t : Nat} : ∀ (n k : Nat) (a : Int32), s_X5_crossers_L1 M U B t n k a = a + nI (ctF (fun u => !bz (B 10 u) && crB B t u) n k)
  | 0, k, a => by rw [s_X5_crossers_L1, ctF, nI_0, Int32.add_zero]
  | n + 1, k, a => by
    rw [s_X5_crossers_L1, ctF]
    by_cases h1 : bz (B 10 k) = true
    · rw [if_pos h1, cross_L1 n]; simp [h1, Int32.add_zero]
    · have h1' : bz (B 10 k) = false := Bool.eq_false_iff.mpr h1
      rw [if_neg h1]
      by_cases h2 : s_X5_doCross M U B t k = true
      · have h3 : crB B t k = true := h2
        rw [if_pos h2, cross_L1 n]
        simp only [h1', h3, Bool.not_false, Bool.and_self, if_true]
        rw [← nI_add, Int32.add_assoc]; rfl
      · have h3 : crB B t k = false := Bool.eq_false_iff.mpr h2
        rw [if_neg h2, cross_L1 n]
        simp [h3, Int32.add_zero]
theorem cross_nI (h : okC N A) (s : Nat) : A 15 s = nI (A 15 s).toNatClampNeg ∧ (A 15 s).toNatClampNeg < 65536 := h.2.2.2.2.2.2.2.1 s
theorem crossers_pop (hT : M 1 ≤ 16) (hIT : IT (M 0) (M 1) N A B) {t : Nat} (ht : t < M 1) : s_X5_crossers M U B t = nI (pop16 ((A 15 t).toNatClampNeg &&& N 4)) := by
  unfold s_X5_crossers
  rw [cross_L1, ctF_0, Int32.zero_add]
  have hlt : (A 15 t).toNatClampNeg &&& N 4 < 2 ^ M 1 := lt_tb (fun i hi => by
    rw [Nat.testBit_and, hIT.2.2 t i]; simp [Nat.not_lt.mpr hi])
  rw [pop_ct hlt (by omega)]
  refine congrArg nI (fb_ct_cong (fun k hk => ?_))
  rw [Nat.testBit_and, hIT.2.2 t k, (hIT.2.1 k).2]
  simp only [ht, hk, decide_true, Bool.true_and]
  rw [Bool.and_comm]
theorem n4_lt (hT : M 1 ≤ 16) (hIT : IT (M 0) (M 1) N A B) : N 4 < 2 ^ M 1 := lt_tb (fun i hi => by rw [(hIT.2.1 i).2]; simp [Nat.not_lt.mpr hi])
theorem raising_lt (hIT : IT (M 0) (M 1) N A B) : s_X3_raising N V A < 2 ^ M 1 := lt_tb (fun i hi => by rw [raising_tb hIT]; simp [Nat.not_lt.mpr hi])
theorem p2_16 {a n : Nat} (h : a < 2 ^ n) (hn : n ≤ 16) : a < 65536 := Nat.lt_of_lt_of_le h (Nat.le_trans (Nat.pow_le_pow_right (by omega) hn) (by decide))
theorem threaded_eq (iv : Inv N V A M U B) (t w : Int32) : s_X4_threaded N V A t w = s_X5_threaded M U B t w := by
  obtain ⟨⟨e0, e1, e2, hn, hT, hU⟩, -, -, hIS, hO, hIT, -, okc, -⟩ := iv
  unfold s_X4_threaded s_X5_threaded
  rw [noThread_has (N := N) (V := V) (A := A) e1 hT, ite3]
  by_cases h1 : s_X3_has N V A t = true
  · rw [if_pos h1, if_pos h1]
    obtain ⟨ht, -⟩ := has3_t (by omega) h1
    generalize t.toNatClampNeg = j at ht
    rw [e1] at ht
    obtain ⟨⟨a1, a2, a3, a4⟩, -⟩ := hIT.1 j ht
    have l4 := p2_16 (n4_lt hT hIT) hT
    have l5 : s_X3_raising N V A < 65536 := p2_16 (raising_lt hIT) hT
    refine ite2 a1 (ite2 a2 (ite2 a3 (ite2 ?_ (ite2 ?_ (ite2 ?_ rfl)))))
    · rw [isIn_tb (by omega) (by omega), (hIT.2.1 j).2, oneIf_b]
      simp only [ht, decide_true, Bool.true_and]
      cases bz (B 10 j) <;> rfl
    · rw [isIn_tb (by omega) (by omega), raising_tb hIT, oneIf_b]
      simp only [ht, decide_true, Bool.true_and]
      rfl
    · exact (crossers_pop hT hIT ht).symm
  · rw [if_neg h1, if_neg h1]
theorem cross_eq (iv : Inv N V A M U B) (a b : Int32) : s_X4_cross N V A a b = s_X5_cross M U B a b := by
  obtain ⟨⟨e0, e1, e2, hn, hT, hU⟩, -, -, hIS, hO, hIT, -, okc, -⟩ := iv
  unfold s_X4_cross s_X5_cross
  rw [noThread_has (N := N) (V := V) (A := A) e1 hT, noThread_has (N := N) (V := V) (A := A) e1 hT, ite3, ite3]
  by_cases h1 : s_X3_has N V A a = true
  · by_cases h2 : s_X3_has N V A b = true
    · rw [if_pos h1, if_pos h1, if_pos h2, if_pos h2]
      obtain ⟨ha, -⟩ := has3_t (by omega) h1
      obtain ⟨hb, -⟩ := has3_t (by omega) h2
      rw [(cross_nI okc _).1, isIn_tb (by have := (cross_nI okc a.toNatClampNeg).2; omega) (by omega), hIT.2.2, oneIf_b]
      rw [e1] at ha hb
      simp only [ha, hb, decide_true, Bool.true_and]
      rfl
    · rw [if_pos h1, if_pos h1, if_neg h2, if_neg h2]
  · rw [if_neg h1, if_neg h1]
/-! told -/
def smF (f : Nat → Nat) : Nat → Nat → Nat
  | 0, _ => 0
  | n + 1, k => f k + smF f n (k + 1)
theorem smF_cong {f g : Nat → Nat} : ∀ (n k : Nat), (∀ j, k ≤ j → j < k + n → f j = g j) → smF f n k = smF g n k
  | 0, _, _ => rfl
  | n + 1, k, h => by rw [smF, smF, h k (Nat.le_refl k) (by omega), smF_cong n (k + 1) (fun j h1 h2 => h j (by omega) (by omega))]
theorem told_L1_ct {w : Int32} (hn : M 0 ≤ 10) (hT : M 1 ≤ 16) (hU : M 2 < 2 ^ M 0) : ∀ (n k : Nat) (a : Int32), k + n ≤ 16 → s_X5_told_L1 M U B w n k a = a + nI (ctF (fun s => (M 2).testBit s && decide (0 < fb_ct (fun t => decide (B 8 t = nI s) && raB B t) (M 1))) n k)
  | 0, k, a, _ => by rw [s_X5_told_L1, ctF, nI_0, Int32.add_zero]
  | n + 1, k, a, h => by
    have hp : 2 ^ M 0 ≤ 1024 := Nat.le_trans (Nat.pow_le_pow_right (by omega) hn) (by decide)
    rw [s_X5_told_L1, ctF, isUp_tb (by omega) (by omega), raisers_ct]
    by_cases h1 : (M 2).testBit k = true
    · rw [if_pos h1]
      by_cases h2 : 0 < fb_ct (fun t => decide (B 8 t = nI k) && raB B t) (M 1)
      · by_cases h3 : nI (fb_ct (fun t => decide (B 8 t = nI k) && raB B t) (M 1)) ≤ (0 : Int32)
        · exfalso
          by_cases hb : fb_ct (fun t => decide (B 8 t = nI k) && raB B t) (M 1) < 2 ^ 31
          · rw [nI_le0 hb] at h3; omega
          · have := fb_ct_le (fun t => decide (B 8 t = nI k) && raB B t) (M 1)
            omega
        · rw [if_neg h3, told_L1_ct hn hT hU n _ _ (by omega)]
          simp only [h1, h2, decide_true, Bool.and_self, if_true]
          rw [← nI_add, Int32.add_assoc]; rfl
      · rw [if_pos (by rw [show fb_ct (fun t => decide (B 8 t = nI k) && raB B t) (M 1) = 0 by omega]; decide), told_L1_ct hn hT hU n _ _ (by omega)]
        simp [h2, Int32.add_zero]
    · rw [if_neg h1, told_L1_ct hn hT hU n _ _ (by omega)]
      simp [h1, Int32.add_zero]
end IVP
