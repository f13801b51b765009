/-! the greatest stack -/
section IVF
variable {N M : Nat → Nat} {V U : Nat → Int32} {A B : Nat → Nat → Int32}
theorem fb_si_le {f g : Nat → Int} : ∀ {n : Nat}, (∀ k, k < n → f k ≤ g k) → fb_si f n ≤ fb_si g n
  | 0, _ => Int.le_refl _
  | n + 1, h => by
    rw [fb_si_succ, fb_si_succ]
    have h1 := fb_si_le (n := n) (fun k hk => h k (by omega))
    have h2 := h n (by omega)
    omega
theorem tk_mono (iv : Inv N V A M U B) {u v : Int32} (h : ∀ s, s < M 0 → covB M B s u = true → covB M B s v = true) : tkI M B u ≤ tkI M B v := by
  obtain ⟨-, -, -, hIS, -⟩ := id iv
  unfold tkI
  apply fb_si_le
  intro k hk
  have ht := (hIS k hk).2.2.2.2.1
  by_cases h1 : covB M B k u = true
  · rw [if_pos h1, if_pos (h k hk h1)]; exact Int.le_refl _
  · rw [if_neg h1]
    by_cases h2 : covB M B k v = true
    · rw [if_pos h2]; omega
    · rw [if_neg h2]; exact Int.le_refl _
theorem tk_zero (M : Nat → Nat) (B : Nat → Nat → Int32) {u : Int32} (h : ∀ s, s < M 0 → covB M B s u = false) : tkI M B u = 0 := by
  unfold tkI
  have : ∀ n, n ≤ M 0 → fb_si (fun s => if covB M B s u then (B 5 s).toInt else 0) n = 0 := by
    intro n
    induction n with
    | zero => intro _; rfl
    | succ n ih =>
      intro hn
      rw [fb_si_succ, ih (by omega), h n (by omega)]
      rfl
  exact this _ (Nat.le_refl _)
theorem cov_iff (M : Nat → Nat) (B : Nat → Nat → Int32) (s : Nat) (u : Int32) : covB M B s u = true ↔ (M 2).testBit s = false ∧ (loB B s).toInt ≤ u.toInt ∧ u.toInt < (hiB B s).toInt := by
  unfold covB
  rw [Bool.and_eq_true, Bool.and_eq_true, decide_eq_true_iff, decide_eq_true_iff, Bool.not_eq_true', Int32.le_iff_toInt_le, Int32.lt_iff_toInt_lt]
/-- some lying spar's low end has as much as u, or nothing covers u -/
theorem tk_best (iv : Inv N V A M U B) (u : Int32) : tkI M B u = 0 ∨ ∃ s, s < M 0 ∧ (M 2).testBit s = false ∧ tkI M B u ≤ tkI M B (loB B s) := by
  obtain ⟨-, -, -, hIS, -⟩ := id iv
  by_cases h : ∃ s, s < M 0 ∧ covB M B s u = true
  · obtain ⟨s0, hs0, hc0⟩ := h
    obtain ⟨i, hi, hbest, -⟩ := fb_best (fun s => if covB M B s u then (loB B s).toInt else -1000) (n := M 0) (by omega)
    have hl0 := lo_toInt hIS hs0
    have hci : covB M B i u = true := by
      cases hci : covB M B i u with
      | true => rfl
      | false =>
        have := hbest s0 hs0
        simp only [hci, hc0, if_true, Bool.false_eq_true, if_false] at this
        omega
    refine Or.inr ⟨i, hi, ((cov_iff M B i u).mp hci).1, tk_mono iv (fun s hs hc => ?_)⟩
    have h1 := hbest s hs
    simp only [hci, hc, if_true] at h1
    rw [cov_iff] at hc hci ⊢
    have hli := lo_toInt hIS hi
    exact ⟨hc.1, by omega, by omega⟩
  · left
    apply tk_zero
    intro s hs
    cases hc : covB M B s u with
    | false => rfl
    | true => exact absurd ⟨s, hs, hc⟩ h
theorem greater_toInt (a b : Int32) : (s_X5_greater a b).toInt = max a.toInt b.toInt := by
  unfold s_X5_greater
  by_cases h : a ≤ b
  · rw [if_pos h]; rw [Int32.le_iff_toInt_le] at h; omega
  · rw [if_neg h]; rw [Int32.le_iff_toInt_le] at h; omega
theorem fits_L1_up {w : Int32} : ∀ (n k : Nat) (a : Int32), a.toInt ≤ (s_X5_fits_L1 M U B w n k a).toInt ∧ ∀ j, k ≤ j → j < k + n → (s_X5_stackAt M U B (nI j - 100)).toInt ≤ (s_X5_fits_L1 M U B w n k a).toInt
  | 0, k, a => by
    rw [s_X5_fits_L1]
    exact ⟨Int.le_refl _, fun j h1 h2 => by omega⟩
  | n + 1, k, a => by
    rw [s_X5_fits_L1]
    obtain ⟨h1, h2⟩ := fits_L1_up (w := w) n (k + 1) (s_X5_greater a (s_X5_stackAt M U B (nI k - 100)))
    rw [greater_toInt] at h1
    refine ⟨by omega, fun j h3 h4 => ?_⟩
    by_cases hj : j = k
    · subst hj; omega
    · exact h2 j (by omega) (by omega)
theorem fits_L1_of {w : Int32} : ∀ (n k : Nat) (a : Int32), (s_X5_fits_L1 M U B w n k a).toInt = a.toInt ∨ ∃ j, k ≤ j ∧ j < k + n ∧ (s_X5_fits_L1 M U B w n k a).toInt = (s_X5_stackAt M U B (nI j - 100)).toInt
  | 0, k, a => by rw [s_X5_fits_L1]; exact Or.inl rfl
  | n + 1, k, a => by
    rw [s_X5_fits_L1]
    rcases fits_L1_of (w := w) n (k + 1) (s_X5_greater a (s_X5_stackAt M U B (nI k - 100))) with h | ⟨j, h1, h2, h3⟩
    · rw [greater_toInt] at h
      by_cases hc : a.toInt ≤ (s_X5_stackAt M U B (nI k - 100)).toInt
      · exact Or.inr ⟨k, Nat.le_refl k, by omega, by omega⟩
      · exact Or.inl (by omega)
    · exact Or.inr ⟨j, by omega, by omega, h3⟩
theorem max_toInt (a b : Int32) : (if a < b then b else a).toInt = max a.toInt b.toInt := by
  by_cases h : a < b
  · rw [if_pos h]; rw [Int32.lt_iff_toInt_lt] at h; omega
  · rw [if_neg h]; rw [Int32.lt_iff_toInt_lt] at h; omega
theorem gt_L1_up : ∀ (n k : Nat) (a : Int32), a.toInt ≤ (s_X2_greatestThick_L1 N V A n k a).toInt ∧ ∀ j, k ≤ j → j < k + n → s_X2_isUp N V A (nI j) = false → (s_X2_thickAt N V A (s_X2_low N V A j)).toInt ≤ (s_X2_greatestThick_L1 N V A n k a).toInt
  | 0, k, a => by
    rw [s_X2_greatestThick_L1]
    exact ⟨Int.le_refl _, fun j h1 h2 => by omega⟩
  | n + 1, k, a => by
    rw [s_X2_greatestThick_L1]
    by_cases h0 : s_X2_isUp N V A (nI k) = true
    · rw [if_pos h0]
      obtain ⟨h1, h2⟩ := gt_L1_up n (k + 1) a
      refine ⟨h1, fun j h3 h4 h5 => ?_⟩
      by_cases hj : j = k
      · subst hj; rw [h0] at h5; cases h5
      · exact h2 j (by omega) (by omega) h5
    · rw [if_neg h0]
      obtain ⟨h1, h2⟩ := gt_L1_up n (k + 1) (if a < (s_X2_thickAt N V A (s_X2_low N V A k)) then (s_X2_thickAt N V A (s_X2_low N V A k)) else a)
      rw [max_toInt] at h1
      refine ⟨by omega, fun j h3 h4 h5 => ?_⟩
      by_cases hj : j = k
      · subst hj; omega
      · exact h2 j (by omega) (by omega) h5
theorem gt_L1_of : ∀ (n k : Nat) (a : Int32), (s_X2_greatestThick_L1 N V A n k a).toInt = a.toInt ∨ ∃ j, k ≤ j ∧ j < k + n ∧ s_X2_isUp N V A (nI j) = false ∧ (s_X2_greatestThick_L1 N V A n k a).toInt = (s_X2_thickAt N V A (s_X2_low N V A j)).toInt
  | 0, k, a => by rw [s_X2_greatestThick_L1]; exact Or.inl rfl
  | n + 1, k, a => by
    rw [s_X2_greatestThick_L1]
    by_cases h0 : s_X2_isUp N V A (nI k) = true
    · rw [if_pos h0]
      rcases gt_L1_of n (k + 1) a with h | ⟨j, h1, h2, h3, h4⟩
      · exact Or.inl h
      · exact Or.inr ⟨j, by omega, by omega, h3, h4⟩
    · rw [if_neg h0]
      rcases gt_L1_of n (k + 1) (if a < (s_X2_thickAt N V A (s_X2_low N V A k)) then (s_X2_thickAt N V A (s_X2_low N V A k)) else a) with h | ⟨j, h1, h2, h3, h4⟩
      · rw [max_toInt] at h
        by_cases hc : a.toInt ≤ (s_X2_thickAt N V A (s_X2_low N V A k)).toInt
        · exact Or.inr ⟨k, Nat.le_refl k, by omega, Bool.eq_false_iff.mpr h0, by omega⟩
        · exact Or.inl (by omega)
      · exact Or.inr ⟨j, by omega, by omega, h3, h4⟩
theorem place_u {z : Int} (h1 : -100 ≤ z) (h2 : z ≤ 200) : ∃ j : Nat, j < 301 ∧ (nI j - 100).toInt = z := by
  refine ⟨(z + 100).toNat, by omega, ?_⟩
  rw [show (100 : Int32) = nI 100 from rfl, pk_sub_toInt (by omega) (by omega)]
  omega
theorem u_range {j : Nat} (h : j < 301) : (nI j - 100).toInt = (j : Int) - 100 := by
  rw [show (100 : Int32) = nI 100 from rfl, pk_sub_toInt (by omega) (by omega)]; rfl
theorem greatest_eq (iv : Inv N V A M U B) (w : Int32) : A 1 2 + s_X2_greatestThick N V A = s_X5_fits_L1 M U B w 301 0 0 := by
  obtain ⟨⟨e0, e1, e2, hn, hT, hU⟩, -, hR, hIS, -⟩ := id iv
  have hp : 2 ^ M 0 ≤ 1024 := Nat.le_trans (Nat.pow_le_pow_right (by omega) hn) (by decide)
  obtain ⟨r1, r2, r3⟩ := hR 2 (by omega)
  have r3' : (B 1 2).toInt ≤ 60 := r3
  have eu : ∀ j, j < M 0 → s_X2_isUp N V A (nI j) = (M 2).testBit j := fun j hj => by
    unfold s_X2_isUp; rw [e2, isIn_tb (by omega) (by omega)]
  have est : ∀ u : Int32, (s_X5_stackAt M U B u).toInt = (B 1 2).toInt + tkI M B u := fun u => by
    obtain ⟨t1, t2, t3⟩ := thick_I iv u
    rw [stackAt_eq iv, fb_addI (by rw [r1, t1]; omega) (by rw [r1, t1]; omega), r1, t1]
  have hG : ∃ G : Int, (s_X2_greatestThick N V A).toInt = G ∧ 0 ≤ G ∧ G ≤ 90 ∧ (∀ s, s < M 0 → (M 2).testBit s = false → tkI M B (loB B s) ≤ G) ∧ (G = 0 ∨ ∃ s, s < M 0 ∧ (M 2).testBit s = false ∧ G = tkI M B (loB B s)) := by
    refine ⟨_, rfl, ?_⟩
    unfold s_X2_greatestThick
    rw [e0]
    have h1 := gt_L1_up (N := N) (V := V) (A := A) (M 0) 0 0
    have h2 := gt_L1_of (N := N) (V := V) (A := A) (M 0) 0 0
    rw [show (0 : Int32).toInt = 0 from rfl] at h1 h2
    have h3 : (s_X2_greatestThick_L1 N V A (M 0) 0 0).toInt = 0 ∨ ∃ s, s < M 0 ∧ (M 2).testBit s = false ∧ (s_X2_greatestThick_L1 N V A (M 0) 0 0).toInt = tkI M B (loB B s) := by
      rcases h2 with h | ⟨j, -, hj, h3, h4⟩
      · exact Or.inl h
      · have hj' : j < M 0 := by omega
        rw [eu j hj'] at h3
        exact Or.inr ⟨j, hj', h3, by rw [h4, (low_eq hIS hj').1, (thick_I iv _).1]⟩
    refine ⟨h1.1, ?_, fun s hs hl => ?_, h3⟩
    · rcases h3 with h | ⟨s, -, -, h4⟩
      · omega
      · have := (thick_I iv (loB B s)).2.2; omega
    · have h4 := h1.2 s (by omega) (by omega) (by rw [eu s hs]; exact hl)
      rw [(low_eq hIS hs).1, (thick_I iv _).1] at h4
      exact h4
  obtain ⟨G, g1, g2, g3, g4, g5⟩ := hG
  apply Int32.toInt_inj.mp
  rw [fb_addI (by rw [r1, g1]; omega) (by rw [r1, g1]; omega), r1, g1]
  obtain ⟨f1, f2⟩ := fits_L1_up (M := M) (U := U) (B := B) (w := w) 301 0 0
  have hle : (s_X5_fits_L1 M U B w 301 0 0).toInt ≤ (B 1 2).toInt + G := by
    rcases fits_L1_of (M := M) (U := U) (B := B) (w := w) 301 0 0 with h | ⟨j, -, hj, h3⟩
    · rw [h]; show (0 : Int) ≤ _; omega
    · rw [h3, est]
      rcases tk_best iv (nI j - 100) with h4 | ⟨s, hs, hl, h4⟩
      · omega
      · have := g4 s hs hl; omega
  have hge : (B 1 2).toInt + G ≤ (s_X5_fits_L1 M U B w 301 0 0).toInt := by
    rcases g5 with h | ⟨s, hs, hl, h⟩
    · have h5 := f2 0 (by omega) (by omega)
      rw [est] at h5
      have := (thick_I iv (nI 0 - 100)).2.1
      omega
    · have hl2 := lo_toInt hIS hs
      obtain ⟨j, hj, hu⟩ := place_u (z := (loB B s).toInt) (by omega) (by omega)
      have h5 := f2 j (by omega) (by omega)
      rw [Int32.toInt_inj.mp hu, est] at h5
      omega
  omega
theorem fits_eq (iv : Inv N V A M U B) (w : Int32) : s_X4_fits N V A w = s_X5_fits M U B w := by
  obtain ⟨-, -, hR, -⟩ := id iv
  have r1 := (hR 1 (by omega)).1
  have r3 := (hR 3 (by omega)).1
  have r4 := (hR 4 (by omega)).1
  have h3 := (hR 3 (by omega)).2.1
  unfold s_X4_fits s_X5_fits
  rw [greatest_eq iv w, r1, r3, r4]
  refine ite2 (ite2 rfl (ite2 rfl rfl)) (ite2 rfl (ite2 ?_ rfl))
  unfold s_X4_slices
  rw [r1, r3]
  have e : (if (1 : Int32) < B 1 3 then B 1 3 else 1) = B 1 3 := by
    by_cases h : (1 : Int32) < B 1 3
    · rw [if_pos h]
    · rw [if_neg h]
      rw [Int32.lt_iff_toInt_lt, show (1 : Int32).toInt = 1 from rfl] at h
      exact Int32.toInt_inj.mp (by rw [show (1 : Int32).toInt = 1 from rfl]; omega)
  rw [e]
end IVF
