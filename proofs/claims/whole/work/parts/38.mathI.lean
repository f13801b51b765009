section IVI
variable {N M : Nat → Nat} {V U : Nat → Int32} {A B : Nat → Nat → Int32}
theorem sheet_L1 {x l n0 : Int32} : ∀ (n k : Nat) (C : Nat → Nat → Int32), (∀ p, p ≠ 16 → s_X5_sheet_L1 M U B x l n0 n k C p = C p) ∧ ∀ i, s_X5_sheet_L1 M U B x l n0 n k C 16 i = if 50 * x.toNatClampNeg + k ≤ i ∧ i < 50 * x.toNatClampNeg + k + n then 0 else C 16 i
  | 0, k, C => by
    rw [s_X5_sheet_L1]
    exact ⟨fun _ _ => rfl, fun i => by rw [if_neg (by omega)]⟩
  | n + 1, k, C => by
    rw [s_X5_sheet_L1]
    obtain ⟨h1, h2⟩ := sheet_L1 (x := x) (l := l) (n0 := n0) n (k + 1) (va_up C 16 (upd (C 16) ((50 * x.toNatClampNeg) + k) 0))
    refine ⟨fun p hp => by rw [h1 p hp, va_up_o _ _ hp], fun i => ?_⟩
    rw [h2 i]
    show (if _ then 0 else upd (C 16) ((50 * x.toNatClampNeg) + k) 0 i) = _
    by_cases e : i = 50 * x.toNatClampNeg + k
    · subst e; rw [pk_us, if_pos (c := 50 * x.toNatClampNeg + k ≤ 50 * x.toNatClampNeg + k ∧ 50 * x.toNatClampNeg + k < 50 * x.toNatClampNeg + k + (n + 1)) (by omega)]; split <;> rfl
    · rw [pk_un e]
      by_cases c : 50 * x.toNatClampNeg + k ≤ i ∧ i < 50 * x.toNatClampNeg + k + (n + 1)
      · rw [if_pos c, if_pos (by omega)]
      · rw [if_neg c, if_neg (by omega)]
theorem nI_tnE {x : Int32} (h1 : x ≤ 50) (h2 : 0 ≤ x) : nI x.toNatClampNeg = x ∧ x.toInt = (x.toNatClampNeg : Int) ∧ x.toNatClampNeg ≤ 50 := by
  obtain ⟨a, b⟩ := tn51 h1 h2
  exact ⟨b, by rw [← nI_toInt (n := x.toNatClampNeg) (by omega), b], by omega⟩
theorem sheet_eq (iv : Inv N V A M U B) (x l n : Int32) : Same (s_X4_sheet N V A x l n) (s_X5_sheet M U B x l n) := by
  have hH := iv.2.2.2.2.2.2.1
  have hv := iv.2.1
  unfold s_X4_sheet s_X5_sheet
  rw [noSheet_is (N := N) (V := va_up V 0 0) (A := A), ite3, within_in l 0 2 0 2 (by decide) (by decide)]
  refine same_if (fun h1 => ?_) (fun _ => ⟨rfl, iv.setFault 0⟩)
  obtain ⟨hk, -⟩ := isSheet_t h1
  refine same_if (c := s_X4_isWithin l 0 2 = true) (fun hl => ?_) (fun _ => ⟨rfl, iv.setFault 0⟩)
  refine same_if (fun c1 => ?_) (fun _ => ⟨rfl, iv.setFault 0⟩)
  refine same_if (fun c2 => ?_) (fun _ => ⟨rfl, iv.setFault2 4 0⟩)
  rw [withinI, decide_eq_true_iff, show (0 : Int32).toInt = 0 from rfl, show (2 : Int32).toInt = 2 from rfl] at hl
  obtain ⟨en, en2, en3⟩ := nI_tnE c1 c2
  rw [en]
  refine ⟨rfl, ?_⟩
  obtain ⟨s1, s2⟩ := sheet_L1 (M := M) (U := U) (B := B) (x := x) (l := l) (n0 := n) n.toNatClampNeg 0 (va_up (va_up B 14 (upd (B 14) x.toNatClampNeg n)) 15 (upd ((va_up B 14 (upd (B 14) x.toNatClampNeg n)) 15) x.toNatClampNeg l))
  show Inv N (va_up (va_up (va_up V 0 0) (5 + x.toNatClampNeg) l) (9 + x.toNatClampNeg) n) (va_up A (18 + 2 * x.toNatClampNeg) (fillN (A (18 + 2 * x.toNatClampNeg)) 0 50)) M (va_up U 0 0) (s_X5_sheet_L1 M U B x l n n.toNatClampNeg 0 (va_up (va_up B 14 (upd (B 14) x.toNatClampNeg n)) 15 (upd ((va_up B 14 (upd (B 14) x.toNatClampNeg n)) 15) x.toNatClampNeg l)))
  generalize s_X5_sheet_L1 M U B x l n n.toNatClampNeg 0 (va_up (va_up B 14 (upd (B 14) x.toNatClampNeg n)) 15 (upd ((va_up B 14 (upd (B 14) x.toNatClampNeg n)) 15) x.toNatClampNeg l)) = C at s1 s2 ⊢
  generalize x.toNatClampNeg = k at hk s1 s2 ⊢
  refine iv.sheets ?_ (fun p hp => va_up_o _ _ (by omega)) (fun p hp => ?_) ?_
  · exact ⟨by rw [va_up_o _ _ (show 0 ≠ 9 + k by omega), va_up_o _ _ (show 0 ≠ 5 + k by omega)]; rfl, by rw [va_up_o _ _ (show 1 ≠ 9 + k by omega), va_up_o _ _ (show 1 ≠ 5 + k by omega)]; exact hv.2⟩
  · rw [s1 p (by omega), va_up_o _ _ (by omega), va_up_o _ _ (by omega)]
  · intro j hj
    have c14 : C 14 = upd (B 14) k n := s1 14 (by decide)
    have c15 : C 15 = upd (B 15) k l := s1 15 (by decide)
    have c16 : ∀ i, C 16 i = if 50 * k + 0 ≤ i ∧ i < 50 * k + 0 + n.toNatClampNeg then 0 else B 16 i := s2
    rw [va_up_o _ _ (show 5 + j ≠ 9 + k by omega), c14, c15]
    by_cases e : j = k
    · subst e
      right
      rw [pk_us, pk_us, show va_up (va_up V 0 0) (5 + j) l (5 + j) = l from if_pos rfl, show va_up (va_up (va_up V 0 0) (5 + j) l) (9 + j) n (9 + j) = n from if_pos rfl]
      refine ⟨hl, rfl, rfl, ⟨by omega, by omega⟩, fun i hi => ?_⟩
      rw [show va_up A (18 + 2 * j) (fillN (A (18 + 2 * j)) 0 50) (18 + 2 * j) = fillN (A (18 + 2 * j)) 0 50 from if_pos rfl, c16, if_pos (by omega)]
      unfold fillN
      rw [if_pos (by omega)]
    · rw [va_up_o _ _ (show 5 + j ≠ 5 + k by omega), va_up_o _ _ (show 9 + j ≠ 9 + k by omega), va_up_o _ _ (show 9 + j ≠ 5 + k by omega), va_up_o _ _ (show 5 + j ≠ 0 by omega), va_up_o _ _ (show 9 + j ≠ 0 by omega), pk_un e, pk_un e, va_up_o _ _ (show 18 + 2 * j ≠ 18 + 2 * k by omega)]
      rcases hH j hj with h | ⟨a1, a2, a3, a4, a5⟩
      · exact Or.inl h
      · refine Or.inr ⟨a1, a2, a3, a4, fun i hi => ?_⟩
        rw [c16, if_neg (by omega)]
        exact a5 i hi
theorem hasCellsI {k : Nat} {i m : Int32} (o : 0 ≤ (V (9 + k)).toInt ∧ (V (9 + k)).toInt ≤ 50) : s_X1_hasCells N V A k i m = decide (0 ≤ i.toInt ∧ 0 ≤ m.toInt ∧ i.toInt + m.toInt ≤ (V (9 + k)).toInt) := by
  unfold s_X1_hasCells
  have ri := fb_rng i
  by_cases h1 : i < 0
  · rw [if_pos h1]; rw [Int32.lt_iff_toInt_lt, show (0 : Int32).toInt = 0 from rfl] at h1; exact (decide_eq_false (by omega)).symm
  · rw [if_neg h1]
    rw [Int32.lt_iff_toInt_lt, show (0 : Int32).toInt = 0 from rfl] at h1
    by_cases h2 : m < 0
    · rw [if_pos h2]; rw [Int32.lt_iff_toInt_lt, show (0 : Int32).toInt = 0 from rfl] at h2; exact (decide_eq_false (by omega)).symm
    · rw [if_neg h2]
      rw [Int32.lt_iff_toInt_lt, show (0 : Int32).toInt = 0 from rfl] at h2
      have es : (V (9 + k) - i).toInt = (V (9 + k)).toInt - i.toInt := fb_subI (by omega) (by omega)
      by_cases h3 : V (9 + k) - i < m
      · rw [if_pos h3]; rw [Int32.lt_iff_toInt_lt, es] at h3; exact (decide_eq_false (by omega)).symm
      · rw [if_neg h3]; rw [Int32.lt_iff_toInt_lt, es] at h3; exact (decide_eq_true (by omega)).symm
theorem noCell_c {k : Nat} {i : Int32} (h0 : 0 ≤ (B 14 k).toInt) : s_X5_noCell M U B k i = if 0 ≤ i.toInt ∧ i.toInt < (B 14 k).toInt then 0 else 3 := by
  unfold s_X5_noCell
  have r := fb_rng (B 14 k)
  rw [if_pos (by rw [Int32.le_iff_toInt_le]; exact h0)]
  have e : ((B 14 k).toInt64 - 1).toInt = (B 14 k).toInt - 1 := by
    rw [fb_subL (by rw [toL, show (1 : Int64).toInt = 1 from rfl]; omega) (by rw [toL, show (1 : Int64).toInt = 1 from rfl]; omega), toL]; rfl
  by_cases h : 0 ≤ i.toInt ∧ i.toInt < (B 14 k).toInt
  · rw [if_pos h, if_pos]
    rw [in_iff, toL, e]; exact ⟨h.1, by omega⟩
  · rw [if_neg h, if_neg]
    rw [in_iff, toL, e]; intro h2; exact h ⟨h2.1, by omega⟩
theorem tn_of {i : Int32} {n : Int} (h : 0 ≤ i.toInt) (h2 : i.toInt < n) (hn : n ≤ 50) : i.toInt = (i.toNatClampNeg : Int) ∧ i.toNatClampNeg < 50 := by
  obtain ⟨a, b⟩ := nI_tn (n := 50) h (by omega) (by omega)
  exact ⟨by rw [← nI_toInt (n := i.toNatClampNeg) (by omega), b], a⟩
theorem cutLane_eq {k : Nat} {v : Int32} (hl : V (5 + k) = B 15 k) : s_X1_cutToLane N V A k v = (if B 15 k = 0 then v.toInt8.toInt32 else if B 15 k = 1 then v.toInt16.toInt32 else v) := by
  unfold s_X1_cutToLane; rw [hl]
theorem Inv.putCell (iv : Inv N V A M U B) {k i : Nat} (hk : k < 4) (hi : i < 50) (x : Int32) : Inv N (va_up V 0 0) (va_up A (18 + 2 * k) (upd (A (18 + 2 * k)) i x)) M (va_up U 0 0) (va_up B 16 (upd (B 16) (50 * k + i) x)) := by
  have hH := iv.2.2.2.2.2.2.1
  refine iv.sheets ⟨rfl, iv.2.1.2⟩ (fun p hp => va_up_o _ _ (by omega)) (fun p hp => va_up_o _ _ (by omega)) ?_
  intro j hj
  rw [va_up_o V _ (show 5 + j ≠ 0 by omega), va_up_o V _ (show 9 + j ≠ 0 by omega)]
  rcases hH j hj with h | ⟨a1, a2, a3, a4, a5⟩
  · exact Or.inl h
  · refine Or.inr ⟨a1, a2, a3, a4, fun m hm => ?_⟩
    show va_up A (18 + 2 * k) (upd (A (18 + 2 * k)) i x) (18 + 2 * j) m = upd (B 16) (50 * k + i) x (50 * j + m)
    have a4' := a4.2
    have hm' : (m : Int) < (B 14 j).toInt := hm
    by_cases e : j = k
    · subst e
      rw [show va_up A (18 + 2 * j) (upd (A (18 + 2 * j)) i x) (18 + 2 * j) = upd (A (18 + 2 * j)) i x from if_pos rfl]
      by_cases e2 : m = i
      · subst e2; rw [pk_us, pk_us]
      · rw [pk_un e2, pk_un (by omega)]; exact a5 m hm
    · rw [va_up_o _ _ (show 18 + 2 * j ≠ 18 + 2 * k by omega), pk_un (by omega)]; exact a5 m hm
theorem put_eq (iv : Inv N V A M U B) (x i v : Int32) : Same (s_X4_put N V A x i v) (s_X5_put M U B x i v) := by
  have hH := iv.2.2.2.2.2.2.1
  have okv := okV_0 iv.okV 0
  have ivf := iv.setFault 0
  unfold s_X4_put s_X5_put
  rw [noSheet_is (N := N) (V := va_up V 0 0) (A := A), ite3]
  refine same_if (fun h1 => ?_) (fun _ => ⟨rfl, ivf⟩)
  obtain ⟨hk, -⟩ := isSheet_t h1
  generalize x.toNatClampNeg = k at hk
  have hHf : IH (va_up V 0 0) A B := ivf.2.2.2.2.2.2.1
  by_cases c : B 14 k < 0
  · have e1 : s_X5_noCell M U B k i = 1 := by
      unfold s_X5_noCell; rw [if_neg (fun h => i32_nlt.mpr h c)]
    rw [if_pos ((sh_not hHf hk).mpr c), e1, if_neg (by decide)]
    exact ⟨rfl, iv.setFault2 1 0⟩
  · rw [if_neg (fun h => c ((sh_not hHf hk).mp h))]
    have c0 : 0 ≤ (B 14 k).toInt := by
      rw [Int32.lt_iff_toInt_lt, show (0 : Int32).toInt = 0 from rfl] at c; omega
    rcases hHf k hk with ⟨-, -, h⟩ | ⟨a1, a2, a3, a4, -⟩
    · rw [h] at c0; exact absurd c0 (by decide)
    · rw [hasCellsI (okv k hk), a3, noCell_c c0, cutLane_eq a2]
      by_cases d : 0 ≤ i.toInt ∧ i.toInt < (B 14 k).toInt
      · rw [if_pos (decide_eq_true ⟨d.1, by decide, by rw [show (1 : Int32).toInt = 1 from rfl]; omega⟩), if_pos d, if_pos (show (0 : Int32) ≤ 0 by decide)]
        obtain ⟨-, hi⟩ := tn_of d.1 d.2 a4.2
        by_cases l0 : B 15 k = 0
        · rw [if_pos l0, if_pos l0]; exact ⟨rfl, iv.putCell hk hi _⟩
        · rw [if_neg l0, if_neg l0]
          by_cases l1 : B 15 k = 1
          · rw [if_pos l1, if_pos l1]; exact ⟨rfl, iv.putCell hk hi _⟩
          · rw [if_neg l1, if_neg l1]; exact ⟨rfl, iv.putCell hk hi _⟩
      · rw [if_neg (fun h => d (by rw [decide_eq_true_iff, show (1 : Int32).toInt = 1 from rfl] at h; omega)), if_neg d, if_neg (by decide)]
        exact ⟨rfl, iv.setFault2 3 0⟩
def SameL (x y : Int64 × St) : Prop := x.1 = y.1 ∧ Inv x.2.1 x.2.2.1 x.2.2.2 y.2.1 y.2.2.1 y.2.2.2
theorem cell_eq (iv : Inv N V A M U B) (x i l : Int32) : SameL (s_X4_cell N V A x i l) (s_X5_cell M U B x i l) := by
  have okv := okV_0 iv.okV 0
  have ivf := iv.setFault 0
  have hlost : s_X5_lost = (-9223372036854775808 : Int64) := by decide
  unfold s_X4_cell s_X5_cell
  rw [noSheet_is (N := N) (V := va_up V 0 0) (A := A), ite3, within_in l 0 2 0 2 (by decide) (by decide), hlost]
  by_cases h1 : s_X4_isSheet N (va_up V 0 0) A x = true
  · rw [if_pos h1, if_pos h1]
    obtain ⟨hk, -⟩ := isSheet_t h1
    generalize x.toNatClampNeg = k at hk
    by_cases h2 : s_X4_isWithin l 0 2 = true
    · rw [if_pos (show s_X1_isLane N (va_up V 0 0) A l = true from h2), if_pos h2]
      have hHf : IH (va_up V 0 0) A B := ivf.2.2.2.2.2.2.1
      by_cases c : B 14 k < 0
      · have e1 : s_X5_noCell M (va_up U 0 0) B k i = 1 := by
          unfold s_X5_noCell; rw [if_neg (fun h => i32_nlt.mpr h c)]
        have e2 : s_X1_faultAsLane N (va_up V 0 0) A k l = 1 := by
          unfold s_X1_faultAsLane; rw [if_pos ((sh_not hHf hk).mpr c)]
        rw [if_pos c, e1, e2, if_neg (by decide), if_neg (by decide)]
        refine ⟨hlost.symm, ?_⟩
        show Inv N (va_up (va_up V 0 0) 0 1) A M (va_up (va_up U 0 0) 0 1) B
        exact ivf.setFault 1
      · have c0 : 0 ≤ (B 14 k).toInt := by
          rw [Int32.lt_iff_toInt_lt, show (0 : Int32).toInt = 0 from rfl] at c; omega
        rw [if_neg c]
        rcases hHf k hk with ⟨-, -, h⟩ | ⟨a1, a2, a3, a4, a5⟩
        · rw [h] at c0; exact absurd c0 (by decide)
        · by_cases d : B 15 k = l
          · have e2 : s_X1_faultAsLane N (va_up V 0 0) A k l = 0 := by
              unfold s_X1_faultAsLane; rw [if_neg (fun h => c ((sh_not hHf hk).mp h)), if_pos (by rw [a2]; exact d)]
            rw [if_pos d, e2, if_pos rfl, hasCellsI (okv k hk), a3, noCell_c c0]
            by_cases g : 0 ≤ i.toInt ∧ i.toInt < (B 14 k).toInt
            · rw [if_pos (decide_eq_true ⟨g.1, by decide, by rw [show (1 : Int32).toInt = 1 from rfl]; omega⟩), if_pos g, if_pos (show (0 : Int32) ≤ 0 by decide)]
              obtain ⟨hi1, hi⟩ := tn_of g.1 g.2 a4.2
              refine ⟨?_, ivf⟩
              show (A (18 + 2 * k) i.toNatClampNeg).toInt64 = (B 16 (50 * k + i.toNatClampNeg)).toInt64
              rw [a5 _ (by omega)]
            · rw [if_neg (fun h => g (by rw [decide_eq_true_iff, show (1 : Int32).toInt = 1 from rfl] at h; omega)), if_neg g, if_neg (by decide)]
              refine ⟨hlost.symm, ?_⟩
              show Inv N (va_up (va_up V 0 0) 0 3) A M (va_up (va_up U 0 0) 0 3) B
              exact ivf.setFault 3
          · have e2 : s_X1_faultAsLane N (va_up V 0 0) A k l = 2 := by
              unfold s_X1_faultAsLane; rw [if_neg (fun h => c ((sh_not hHf hk).mp h)), if_neg (by rw [a2]; exact d)]
            rw [if_neg d, e2, if_neg (by decide)]
            refine ⟨hlost.symm, ?_⟩
            show Inv N (va_up (va_up V 0 0) 0 2) A M (va_up (va_up U 0 0) 0 2) B
            exact ivf.setFault 2
    · rw [if_neg (show ¬ s_X1_isLane N (va_up V 0 0) A l = true from h2), if_neg h2]; exact ⟨rfl, ivf⟩
  · rw [if_neg h1, if_neg h1]; exact ⟨rfl, ivf⟩
end IVI
