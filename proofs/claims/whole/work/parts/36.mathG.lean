/-! what changes: the same answer, and the same afterwards -/
def Same (x y : Int32 × St) : Prop := x.1 = y.1 ∧ Inv x.2.1 x.2.2.1 x.2.2.2 y.2.1 y.2.2.1 y.2.2.2
theorem same_if {c : Prop} [Decidable c] {x y x' y' : Int32 × St} (h1 : c → Same x x') (h2 : ¬ c → Same y y') : Same (if c then x else y) (if c then x' else y') := by
  by_cases h : c
  · rw [if_pos h, if_pos h]; exact h1 h
  · rw [if_neg h, if_neg h]; exact h2 h
theorem IH.congV {V V' : Nat → Int32} {A B : Nat → Nat → Int32} (h : IH V A B) (e : ∀ j, 5 ≤ j → V' j = V j) : IH V' A B := by
  intro k hk
  have h1 := h k hk
  rw [← e (5 + k) (by omega), ← e (9 + k) (by omega)] at h1
  exact h1
theorem va_up_o {α : Type} (f : Nat → α) {k j : Nat} (x : α) (h : j ≠ k) : va_up f k x j = f j := if_neg h
section IVG
variable {N M : Nat → Nat} {V U : Nat → Int32} {A B : Nat → Nat → Int32}
theorem Inv.setFault (iv : Inv N V A M U B) (x : Int32) : Inv N (va_up V 0 x) A M (va_up U 0 x) B := by
  obtain ⟨h0, hv, hR, hS, hO, hT, hH, oc, om⟩ := iv
  exact ⟨h0, ⟨rfl, hv.2⟩, hR, hS, hO, hT, hH.congV (fun j hj => va_up_o _ _ (by omega)), oc, om⟩
theorem Inv.setFault2 (iv : Inv N V A M U B) (x y : Int32) : Inv N (va_up (va_up V 0 y) 0 x) A M (va_up U 0 x) B := by
  rw [bx_uu]; exact iv.setFault x
theorem Inv.setTrace (iv : Inv N V A M U B) (x : Int32) : Inv N (va_up V 1 x) A M (va_up U 1 x) B := by
  obtain ⟨h0, hv, hR, hS, hO, hT, hH, oc, om⟩ := iv
  exact ⟨h0, ⟨hv.1, rfl⟩, hR, hS, hO, hT, hH.congV (fun j hj => va_up_o _ _ (by omega)), oc, om⟩
theorem Inv.setUp (iv : Inv N V A M U B) {S : Nat} (h : S < 2 ^ M 0) : Inv (va_up N 2 S) V A (va_up M 2 S) U B := by
  obtain ⟨⟨e0, e1, e2, hn, hT, hU⟩, hv, hR, hS, hO, hIT, hH, oc, om⟩ := iv
  have hp : 2 ^ M 0 ≤ 1024 := Nat.le_trans (Nat.pow_le_pow_right (by omega) hn) (by decide)
  refine ⟨⟨e0, e1, rfl, hn, hT, h⟩, hv, hR, hS, hO, hIT, hH, ?_, ?_⟩
  · exact ⟨oc.1, oc.2.1, (show S < 1024 by omega), oc.2.2.2⟩
  · exact ⟨om.1, om.2.1, (show S < 1024 by omega), om.2.2.2⟩
theorem raise_eq (iv : Inv N V A M U B) (s : Int32) : Same (s_X4_raise N V A s) (s_X5_raise M U B s) := by
  obtain ⟨⟨e0, e1, e2, hn, hT, hU⟩, -, -, hIS, hO, hIT, -, okc, -⟩ := id iv
  have hp : 2 ^ M 0 ≤ 1024 := Nat.le_trans (Nat.pow_le_pow_right (by omega) hn) (by decide)
  unfold s_X4_raise s_X5_raise
  rw [noSpar_has (N := N) (V := V) (A := A) e0 hn, ite3]
  refine same_if (fun h1 => ?_) (fun _ => ⟨rfl, iv⟩)
  obtain ⟨hs, -⟩ := has2_t (by omega) h1
  generalize s.toNatClampNeg = j at hs
  rw [e0] at hs
  rw [e2, mayRise_eq iv (by omega) hs]
  refine same_if (fun _ => ?_) (fun _ => ⟨rfl, iv⟩)
  have hlt : M 2 ||| 2 ^ j < 2 ^ M 0 := or_lt hU (Nat.pow_lt_pow_right (by omega) hs)
  exact ⟨(count_pop (by omega)).symm, iv.setUp hlt⟩
theorem lying_cnt {S n : Nat} (hS : S < 2 ^ n) (hn : n ≤ 10) : nI (pop16 (nclr (2 ^ n - 1) S)) = nI n - nI (pop16 S) := by
  have h1 : nclr (2 ^ n - 1) S < 2 ^ n := Nat.lt_of_le_of_lt (nclr_le _ _) (by have := Nat.two_pow_pos n; omega)
  rw [pop_ct h1 (by omega), pop_ct hS (by omega)]
  have e : fb_ct (fun i => (nclr (2 ^ n - 1) S).testBit i) n = fb_ct (fun i => !S.testBit i) n := fb_ct_cong (fun k hk => by rw [nclr_bit, tb_all]; simp [hk])
  rw [e]
  have h2 := fb_ct_not (fun i => S.testBit i) n
  rw [pk_sub (by omega)]
  exact congrArg nI (by omega)
theorem lay_eq (iv : Inv N V A M U B) (s : Int32) : Same (s_X4_lay N V A s) (s_X5_lay M U B s) := by
  obtain ⟨⟨e0, e1, e2, hn, hT, hU⟩, -, -, hIS, hO, hIT, -, okc, -⟩ := id iv
  have hp : 2 ^ M 0 ≤ 1024 := Nat.le_trans (Nat.pow_le_pow_right (by omega) hn) (by decide)
  unfold s_X4_lay s_X5_lay
  rw [noSpar_has (N := N) (V := V) (A := A) e0 hn, ite3]
  refine same_if (fun h1 => ?_) (fun _ => ⟨rfl, iv⟩)
  obtain ⟨hs, -⟩ := has2_t (by omega) h1
  generalize s.toNatClampNeg = j at hs
  rw [e0] at hs
  have eu : s_X2_isUp N V A (nI j) = (M 2).testBit j := by unfold s_X2_isUp; rw [e2, isIn_tb (by omega) (by omega)]
  have hb2 := (over_nI okc j).2
  have hb3 := (feet_nI okc j).2
  have hc2 : fb_ct (fun t => !(M 2).testBit t && ovB B j t) (M 0) ≤ 10 := Nat.le_trans (fb_ct_le _ _) hn
  have hov : (A 8 j).toNatClampNeg &&& s_X2_lying N V A = 0 ↔ fb_ct (fun t => !(M 2).testBit t && ovB B j t) (M 0) = 0 := by
    rw [zero_tb, fb_ct_zero]
    constructor
    · intro h k hk
      have h2 := h k
      rw [Nat.testBit_and, (hO j k).1, lying_tb, e0, e2] at h2
      simp only [hs, hk, decide_true, Bool.true_and] at h2
      rw [Bool.and_comm]; exact h2
    · intro h i
      rw [Nat.testBit_and, (hO j i).1, lying_tb, e0, e2]
      by_cases hi : i < M 0
      · have h2 := h i hi
        simp only [hs, hi, decide_true, Bool.true_and]
        rw [Bool.and_comm]; exact h2
      · simp [hi]
  have hle : (A 8 j).toNatClampNeg &&& s_X2_lying N V A ≤ (A 8 j).toNatClampNeg := Nat.and_le_left
  have hle2 : (A 9 j).toNatClampNeg &&& M 2 ≤ (A 9 j).toNatClampNeg := Nat.and_le_left
  unfold s_X2_mayBeLaid
  rw [eu, isUp_tb (by omega) (by omega), ov_ct (by omega) hn, (over_nI okc j).1, (feet_nI okc j).1, fa_and, fa_and, e2]
  by_cases h2 : (M 2).testBit j = true
  · rw [if_pos h2, if_pos h2]
    by_cases h3 : ∃ k, k < M 0 ∧ (M 2).testBit k = true ∧ fwB B j k = true
    · rw [if_pos ((bar_iff (by omega) hn).mpr h3), if_neg (fun h => (feet_and hs hO).mp ((nI_eq0 (by omega)).mp h) h3), if_neg (by decide)]
      exact ⟨rfl, iv⟩
    · rw [if_neg (fun h => h3 ((bar_iff (by omega) hn).mp h)), if_pos ((nI_eq0 (by omega)).mpr ((feet_and hs hO).mpr h3))]
      by_cases h4 : fb_ct (fun t => !(M 2).testBit t && ovB B j t) (M 0) = 0
      · rw [if_pos ((nI_eq0 (by omega)).mpr (hov.mpr h4)), if_pos ((nI_le0 (by omega)).mpr h4), if_pos rfl]
        have hlt : nclr (M 2) (2 ^ j) < 2 ^ M 0 := Nat.lt_of_le_of_lt (nclr_le _ _) hU
        refine ⟨?_, iv.setUp hlt⟩
        show nI (pop16 (nclr (2 ^ N 0 - 1) (nclr (M 2) (2 ^ j)))) = nI (M 0) - s_X5_count (nI (nclr (M 2) (2 ^ j)))
        rw [count_pop (by omega), e0, lying_cnt hlt hn]
      · rw [if_neg (fun h => h4 (hov.mp ((nI_eq0 (by omega)).mp h))), if_neg (fun h => h4 ((nI_le0 (by omega)).mp h)), if_neg (by decide)]
        exact ⟨rfl, iv⟩
  · rw [if_neg h2, if_neg h2, if_neg (by decide)]
    exact ⟨rfl, iv⟩
theorem settle_L1 (hn : M 0 ≤ 10) (hU : M 2 < 2 ^ M 0) (hT : M 1 ≤ 16) : ∀ (n k a i : Nat), k + n ≤ M 0 → (s_X5_settle_L1 M U B n k a).testBit i = (a.testBit i || (decide (k ≤ i) && decide (i < k + n) && ((M 2).testBit i && !decide (0 < fb_ct (fun t => decide (B 8 t = nI i) && raB B t) (M 1)))))
  | 0, k, a, i, _ => by
    rw [s_X5_settle_L1]
    have : (decide (k ≤ i) && decide (i < k + 0)) = false := by
      by_cases h : k ≤ i
      · rw [decide_eq_false (show ¬ i < k + 0 by omega), Bool.and_false]
      · rw [decide_eq_false h, Bool.false_and]
    rw [this, Bool.false_and, Bool.or_false]
  | n + 1, k, a, i, h => by
    have hp : 2 ^ M 0 ≤ 1024 := Nat.le_trans (Nat.pow_le_pow_right (by omega) hn) (by decide)
    have hc1 : fb_ct (fun t => decide (B 8 t = nI k) && raB B t) (M 1) ≤ 16 := Nat.le_trans (fb_ct_le _ _) hT
    rw [s_X5_settle_L1, isUp_tb (by omega) (by omega), raisers_ct]
    have e2 : decide (i < k + 1 + n) = decide (i < k + (n + 1)) := by apply decide_eq_decide.mpr; omega
    by_cases h1 : (M 2).testBit k = true
    · rw [if_pos h1]
      by_cases h2 : fb_ct (fun t => decide (B 8 t = nI k) && raB B t) (M 1) = 0
      · rw [if_pos ((nI_eq0 (by omega)).mpr h2), settle_L1 hn hU hT n _ _ _ (by omega), tb_or1, e2]
        by_cases hk : k = i
        · subst hk; simp [h1, h2]
        · have e1 : decide (k + 1 ≤ i) = decide (k ≤ i) := by apply decide_eq_decide.mpr; omega
          rw [e1]; simp [hk]
      · rw [if_neg (fun h3 => h2 ((nI_eq0 (by omega)).mp h3)), settle_L1 hn hU hT n _ _ _ (by omega), e2]
        by_cases hk : k = i
        · subst hk
          have : 0 < fb_ct (fun t => decide (B 8 t = nI k) && raB B t) (M 1) := by omega
          simp [this]
        · have e1 : decide (k + 1 ≤ i) = decide (k ≤ i) := by apply decide_eq_decide.mpr; omega
          rw [e1]
    · rw [if_neg h1, settle_L1 hn hU hT n _ _ _ (by omega), e2]
      by_cases hk : k = i
      · subst hk; simp [h1]
      · have e1 : decide (k + 1 ≤ i) = decide (k ≤ i) := by apply decide_eq_decide.mpr; omega
        rw [e1]
theorem settle_eq (iv : Inv N V A M U B) : Same (s_X4_settle N V A) (s_X5_settle M U B) := by
  obtain ⟨⟨e0, e1, e2, hn, hT, hU⟩, -, -, hIS, hO, hIT, -, okc, -⟩ := id iv
  have hp : 2 ^ M 0 ≤ 1024 := Nat.le_trans (Nat.pow_le_pow_right (by omega) hn) (by decide)
  have e : s_X5_settle_L1 M U B (M 0) 0 0 = nclr (M 2) (s_X3_raised N V A) := by
    apply eq_tb
    intro i
    rw [settle_L1 hn hU hT _ _ _ _ (by omega), nclr_bit, Nat.zero_testBit, Bool.false_or]
    by_cases hi : i < M 0
    · rw [raised_tb e1 hT hIT i (by omega)]
      simp [hi]
    · have h0 : (M 2).testBit i = false := by
        cases hc : (M 2).testBit i with
        | false => rfl
        | true => exact absurd (tb_lt hU hc) hi
      rw [h0]; simp
  unfold s_X4_settle s_X5_settle
  rw [e, e2]
  have hlt : nclr (M 2) (s_X3_raised N V A) < 2 ^ M 0 := Nat.lt_of_le_of_lt (nclr_le _ _) hU
  exact ⟨(count_pop (by omega)).symm, iv.setUp (Nat.lt_of_le_of_lt (nclr_le _ _) hU)⟩
theorem cut_eq (iv : Inv N V A M U B) (t : Int32) : Same (s_X4_cut N V A t) (s_X5_cut M U B t) := by
  obtain ⟨⟨e0, e1, e2, hn, hT, hU⟩, hv, hR, hIS, hO, hIT, hH, okc, okm⟩ := id iv
  unfold s_X4_cut s_X5_cut
  rw [noThread_has (N := N) (V := V) (A := A) e1 hT, ite3]
  refine same_if (fun h1 => ?_) (fun _ => ⟨rfl, iv⟩)
  obtain ⟨ht, -⟩ := has3_t (by omega) h1
  generalize t.toNatClampNeg = j at ht
  rw [e1] at ht
  have l4 := p2_16 (n4_lt hT hIT) hT
  have hI : Inv (va_up N 4 (nclr (N 4) (2 ^ j))) V A M U (va_up B 10 (upd (B 10) j (b2i true))) := by
    refine ⟨⟨e0, e1, e2, hn, hT, hU⟩, hv, hR, hIS, hO, ⟨hIT.1, fun u => ⟨(hIT.2.1 u).1, ?_⟩, hIT.2.2⟩, hH, ?_, ok_putB okm (Or.inl rfl) _ _⟩
    · show (nclr (N 4) (2 ^ j)).testBit u = (decide (u < M 1) && !bz (upd (B 10) j (b2i true) u))
      rw [nclr_bit, (hIT.2.1 u).2, tb_pow]
      by_cases hu : u = j
      · subst hu; rw [pk_us, bz_b2i]; simp
      · rw [pk_un hu]
        have : decide (j = u) = false := decide_eq_false (fun h => hu h.symm)
        rw [this]; simp
    · exact ⟨okc.1, okc.2.1, okc.2.2.1, okc.2.2.2.1, (show nclr (N 4) (2 ^ j) < 65536 from Nat.lt_of_le_of_lt (nclr_le _ _) l4), okc.2.2.2.2.2⟩
  have ew : s_X4_isIn (nI (N 4)) (nI j) = !bz (B 10 j) := by
    rw [isIn_tb (by omega) (by omega), (hIT.2.1 j).2]; simp [ht]
  rw [ew]
  cases hb : bz (B 10 j)
  · exact ⟨rfl, hI⟩
  · exact ⟨rfl, hI⟩
theorem tell_eq (iv : Inv N V A M U B) (s : Int32) : Same (s_X4_tell N V A s) (s_X5_tell M U B s) := by
  obtain ⟨⟨e0, e1, e2, hn, hT, hU⟩, hv, hR, hIS, hO, hIT, hH, okc, okm⟩ := id iv
  unfold s_X4_tell s_X5_tell
  rw [noSpar_has (N := N) (V := V) (A := A) e0 hn, ite3]
  refine same_if (fun h1 => ?_) (fun _ => ⟨rfl, iv⟩)
  obtain ⟨hs, -⟩ := has2_t (by omega) h1
  generalize s.toNatClampNeg = j at hs
  rw [e0] at hs
  obtain ⟨⟨a1, a2, a3, a4, a5⟩, hk, -⟩ := hIS j hs
  have k3 : B 2 j = 0 ∨ B 2 j = 1 ∨ B 2 j = 2 := by
    rcases (show (B 2 j).toInt = 0 ∨ (B 2 j).toInt = 1 ∨ (B 2 j).toInt = 2 by omega) with h | h | h
    · exact Or.inl (Int32.toInt_inj.mp h)
    · exact Or.inr (Or.inl (Int32.toInt_inj.mp h))
    · exact Or.inr (Or.inr (Int32.toInt_inj.mp h))
  have tr : ∀ x : Int32, ((31 : Int32) * V 1) + x = ((31 : Int32) * U 1) + x := fun x => by rw [hv.2]
  rw [a1]
  rcases k3 with h | h | h
  · rw [h, if_neg (by decide), if_neg (by decide), if_pos (by decide)]
    rw [if_pos (show (s_X5_traced M U B (1 : Int32)).2.2 2 j = 0 from h)]
    refine ⟨a3, ?_⟩
    show Inv N (va_up V 1 (((31 : Int32) * V 1) + 1)) A M (va_up U 1 (((31 : Int32) * U 1) + 1)) B
    rw [tr]; exact iv.setTrace _
  · rw [h, if_pos rfl, if_neg (by decide)]
    rw [if_neg (show ¬ (s_X5_traced ((s_X5_traced M U B (1 + (1 : Int32))).1) ((s_X5_traced M U B (1 + (1 : Int32))).2.1) ((s_X5_traced M U B (1 + (1 : Int32))).2.2) (1 : Int32)).2.2 2 j = 0 from fun h3 => by rw [show B 2 j = 0 from h3] at h; exact absurd h (by decide))]
    rw [if_pos (show (s_X5_traced ((s_X5_traced M U B (1 + (1 : Int32))).1) ((s_X5_traced M U B (1 + (1 : Int32))).2.1) ((s_X5_traced M U B (1 + (1 : Int32))).2.2) (1 : Int32)).2.2 2 j = 1 from h)]
    refine ⟨?_, ?_⟩
    · show A 5 j + A 4 j = B 4 j + B 3 j
      rw [a2, a3]
    · show Inv N (va_up (va_up V 1 (((31 : Int32) * V 1) + 2)) 1 (((31 : Int32) * (((31 : Int32) * V 1) + 2)) + 1)) A M (va_up (va_up U 1 (((31 : Int32) * U 1) + 2)) 1 (((31 : Int32) * (((31 : Int32) * U 1) + 2)) + 1)) B
      rw [hv.2]; exact (iv.setTrace _).setTrace _
  · rw [h, if_neg (by decide), if_pos rfl, if_neg (by decide)]
    rw [if_neg (show ¬ (s_X5_traced ((s_X5_traced M U B (2 + (1 : Int32))).1) ((s_X5_traced M U B (2 + (1 : Int32))).2.1) ((s_X5_traced M U B (2 + (1 : Int32))).2.2) (1 : Int32)).2.2 2 j = 0 from fun h3 => by rw [show B 2 j = 0 from h3] at h; exact absurd h (by decide))]
    rw [if_neg (show ¬ (s_X5_traced ((s_X5_traced M U B (2 + (1 : Int32))).1) ((s_X5_traced M U B (2 + (1 : Int32))).2.1) ((s_X5_traced M U B (2 + (1 : Int32))).2.2) (1 : Int32)).2.2 2 j = 1 from fun h3 => by rw [show B 2 j = 1 from h3] at h; exact absurd h (by decide))]
    refine ⟨?_, ?_⟩
    · show A 5 j * A 7 j = B 4 j * B 6 j
      rw [a3, a5]
    · show Inv N (va_up (va_up V 1 (((31 : Int32) * V 1) + 3)) 1 (((31 : Int32) * (((31 : Int32) * V 1) + 3)) + 1)) A M (va_up (va_up U 1 (((31 : Int32) * U 1) + 3)) 1 (((31 : Int32) * (((31 : Int32) * U 1) + 3)) + 1)) B
      rw [hv.2]; exact (iv.setTrace _).setTrace _
theorem name_eq (iv : Inv N V A M U B) (s : Int32) : Same (s_X4_name N V A s) (s_X5_name M U B s) := by
  obtain ⟨⟨e0, e1, e2, hn, hT, hU⟩, hv, hR, hIS, hO, hIT, hH, okc, okm⟩ := id iv
  unfold s_X4_name s_X5_name
  rw [noSpar_has (N := N) (V := V) (A := A) e0 hn, ite3]
  refine same_if (fun h1 => ?_) (fun _ => ⟨rfl, iv⟩)
  obtain ⟨hs, -⟩ := has2_t (by omega) h1
  generalize s.toNatClampNeg = j at hs
  rw [e0] at hs
  obtain ⟨⟨a1, a2, a3, a4, a5⟩, -⟩ := hIS j hs
  rw [a1]
  refine same_if (fun h => ?_) (fun h => ?_)
  · rw [if_pos (show (s_X5_traced M U B (5 : Int32)).2.2 2 j = 2 from h)]
    refine ⟨rfl, ?_⟩
    show Inv N (va_up V 1 (((31 : Int32) * V 1) + 5)) A M (va_up U 1 (((31 : Int32) * U 1) + 5)) B
    rw [hv.2]; exact iv.setTrace _
  · rw [if_neg (show ¬ (s_X5_traced M U B (4 : Int32)).2.2 2 j = 2 from h)]
    refine ⟨?_, ?_⟩
    · show nI j + 10 * A 6 j = nI j + 10 * B 5 j
      rw [a4]
    · show Inv N (va_up V 1 (((31 : Int32) * V 1) + 4)) A M (va_up U 1 (((31 : Int32) * U 1) + 4)) B
      rw [hv.2]; exact iv.setTrace _
theorem as_eq (iv : Inv N V A M U B) (s k : Int32) : Same (s_X4_as N V A s k) (s_X5_as M U B s k) := by
  obtain ⟨⟨e0, e1, e2, hn, hT, hU⟩, hv, hR, hIS, hO, hIT, hH, okc, okm⟩ := id iv
  unfold s_X4_as s_X5_as
  rw [noSpar_has (N := N) (V := va_up V 0 0) (A := A) e0 hn, ite3, within_in k 0 2 0 2 (by decide) (by decide)]
  refine same_if (fun h1 => ?_) (fun _ => ⟨rfl, iv.setFault 0⟩)
  obtain ⟨hs, -⟩ := has2_t (by omega) h1
  generalize s.toNatClampNeg = j at hs
  rw [e0] at hs
  refine same_if (fun _ => ?_) (fun _ => ⟨rfl, iv.setFault 0⟩)
  rw [(hIS j hs).1.1]
  by_cases h : k ≤ B 2 j
  · rw [if_pos h, if_neg (i32_nlt.mpr h)]; exact ⟨rfl, iv.setFault 0⟩
  · rw [if_neg h, if_pos (i32_nle.mp h)]; exact ⟨rfl, iv.setFault2 2 0⟩
end IVG
