/-! a plan -/
section PLN
variable {N M : Nat → Nat} {V U : Nat → Int32} {A B : Nat → Nat → Int32}
theorem beyond5 {i n all : Int32} (hn : 0 ≤ n.toInt) : s_X5_isBeyond i ((5 : Int64) * n.toInt64) all = !decide (0 ≤ i.toInt ∧ i.toInt + 5 * n.toInt ≤ all.toInt) := by
  have ri := fb_rng i
  have rn := fb_rng n
  unfold s_X5_isBeyond
  have em : ((5 : Int64) * n.toInt64).toInt = 5 * n.toInt := by
    rw [Int64.toInt_mul, toL, show (5 : Int64).toInt = 5 from rfl, Int.bmod_eq_of_le (by omega) (by omega)]
  have ea : (i.toInt64 + (5 : Int64) * n.toInt64).toInt = i.toInt + 5 * n.toInt := by rw [fb_addL (by rw [toL, em]; omega) (by rw [toL, em]; omega), toL, em]
  by_cases h1 : i < 0
  · rw [if_pos h1]; rw [Int32.lt_iff_toInt_lt, show (0 : Int32).toInt = 0 from rfl] at h1; rw [decide_eq_false (by omega)]; rfl
  · rw [if_neg h1]
    rw [Int32.lt_iff_toInt_lt, show (0 : Int32).toInt = 0 from rfl] at h1
    rw [if_neg (fun h2 => by rw [lg_cmp_lt, Int64.lt_iff_toInt_lt, em, show (0 : Int64).toInt = 0 from rfl] at h2; omega)]
    by_cases h3 : lg_cmp (i.toInt64 + (5 : Int64) * n.toInt64) all.toInt64 ≤ 0
    · rw [if_pos h3]; rw [lg_cmp_le, Int64.le_iff_toInt_le, ea, toL] at h3; rw [decide_eq_true (by omega)]; rfl
    · rw [if_neg h3]; rw [lg_cmp_le, Int64.le_iff_toInt_le, ea, toL] at h3; rw [decide_eq_false (by omega)]; rfl
/-- the five numbers of the row's j-th spar -/
def cel (B : Nat → Nat → Int32) (b j r : Nat) : Int32 := B 16 (b + 5 * j + r)
theorem plan_L2_same {U' : Nat → Int32} {x l i n0 : Int32} {kk : Nat} {A0 B0 : Nat → Nat → Int32} {cap : Nat} (hx : x.toNatClampNeg < 4) (hcap : cap ≤ 10) :
    ∀ (n k2 : Nat) (N1 M1 : Nat → Nat) (V1 : Nat → Int32) (A1 B1 : Nat → Nat → Int32), Inv N1 V1 A1 M1 U' B1 → M1 0 + n ≤ cap → (∀ j, k2 ≤ j → j < k2 + n → spOk (cel B0 (50 * x.toNatClampNeg + i.toNatClampNeg) j 0) (cel B0 (50 * x.toNatClampNeg + i.toNatClampNeg) j 1) (cel B0 (50 * x.toNatClampNeg + i.toNatClampNeg) j 2) (cel B0 (50 * x.toNatClampNeg + i.toNatClampNeg) j 3) (cel B0 (50 * x.toNatClampNeg + i.toNatClampNeg) j 4)) → B1 16 = B0 16 → A1 (18 + 2 * x.toNatClampNeg) = A0 (18 + 2 * x.toNatClampNeg) → (∀ j r, k2 ≤ j → j < k2 + n → r < 5 → A0 (18 + 2 * x.toNatClampNeg) (i.toNatClampNeg + 5 * j + r) = cel B0 (50 * x.toNatClampNeg + i.toNatClampNeg) j r) →
    ∃ M2 B2, s_X5_plan_L2 M U B x l i n0 kk n k2 M1 U B1 = (M2, U, B2) ∧ Inv (s_X4_plan_L2 N V A x l i n0 kk n k2 N1 V1 A1).1 (s_X4_plan_L2 N V A x l i n0 kk n k2 N1 V1 A1).2.1 (s_X4_plan_L2 N V A x l i n0 kk n k2 N1 V1 A1).2.2 M2 U' B2
  | 0, k2, N1, M1, V1, A1, B1, iv, _, _, _, _, _ => by
    rw [s_X5_plan_L2, s_X4_plan_L2]
    exact ⟨M1, B1, rfl, iv⟩
  | n + 1, k2, N1, M1, V1, A1, B1, iv, hM, hsp, hB, hA, hc => by
    rw [s_X5_plan_L2, s_X4_plan_L2]
    unfold s_X4_addPlanned
    have c0 : A1 (18 + 2 * x.toNatClampNeg) (i.toNatClampNeg + 5 * k2) = cel B0 (50 * x.toNatClampNeg + i.toNatClampNeg) k2 0 := by rw [hA]; exact hc k2 0 (by omega) (by omega) (by omega)
    have c1 : A1 (18 + 2 * x.toNatClampNeg) (i.toNatClampNeg + 5 * k2 + 1) = cel B0 (50 * x.toNatClampNeg + i.toNatClampNeg) k2 1 := by rw [hA]; exact hc k2 1 (by omega) (by omega) (by omega)
    have c2 : A1 (18 + 2 * x.toNatClampNeg) (i.toNatClampNeg + 5 * k2 + 2) = cel B0 (50 * x.toNatClampNeg + i.toNatClampNeg) k2 2 := by rw [hA]; exact hc k2 2 (by omega) (by omega) (by omega)
    have c3 : A1 (18 + 2 * x.toNatClampNeg) (i.toNatClampNeg + 5 * k2 + 3) = cel B0 (50 * x.toNatClampNeg + i.toNatClampNeg) k2 3 := by rw [hA]; exact hc k2 3 (by omega) (by omega) (by omega)
    have c4 : A1 (18 + 2 * x.toNatClampNeg) (i.toNatClampNeg + 5 * k2 + 4) = cel B0 (50 * x.toNatClampNeg + i.toNatClampNeg) k2 4 := by rw [hA]; exact hc k2 4 (by omega) (by omega) (by omega)
    rw [c0, c1, c2, c3, c4]
    have b0 : B1 16 (((50 * x.toNatClampNeg) + i.toNatClampNeg) + (5 * k2)) = cel B0 (50 * x.toNatClampNeg + i.toNatClampNeg) k2 0 := by rw [hB]; rfl
    have b1 : B1 16 (((50 * x.toNatClampNeg) + i.toNatClampNeg) + (5 * k2) + 1) = cel B0 (50 * x.toNatClampNeg + i.toNatClampNeg) k2 1 := by rw [hB]; rfl
    have b2 : B1 16 (((50 * x.toNatClampNeg) + i.toNatClampNeg) + (5 * k2) + 2) = cel B0 (50 * x.toNatClampNeg + i.toNatClampNeg) k2 2 := by rw [hB]; rfl
    have b3 : B1 16 (((50 * x.toNatClampNeg) + i.toNatClampNeg) + (5 * k2) + 3) = cel B0 (50 * x.toNatClampNeg + i.toNatClampNeg) k2 3 := by rw [hB]; rfl
    have b4 : B1 16 (((50 * x.toNatClampNeg) + i.toNatClampNeg) + (5 * k2) + 4) = cel B0 (50 * x.toNatClampNeg + i.toNatClampNeg) k2 4 := by rw [hB]; rfl
    rw [b0, b1, b2, b3, b4, addSpar_eq]
    obtain ⟨-, q0, q1, q2, q3⟩ := x2add_same iv (by omega) (hsp k2 (by omega) (by omega))
    refine plan_L2_same hx hcap n (k2 + 1) _ _ _ _ _ q1 (show M1 0 + 1 + n ≤ cap by omega) (fun j h1 h2 => hsp j (by omega) (by omega)) ?_ ?_ (fun j r h1 h2 h3 => hc j r (by omega) (by omega) h3)
    · exact hB
    · rw [q2 _ (by omega)]; exact hA
theorem plan_L1_same (iv : Inv N V A M U B) {x l i n0 : Int32} (hx : x.toNatClampNeg < 4) (hc : ∀ j r, j < n0.toNatClampNeg → r < 5 → A (18 + 2 * x.toNatClampNeg) (i.toNatClampNeg + 5 * j + r) = cel B (50 * x.toNatClampNeg + i.toNatClampNeg) j r) (hn0 : n0.toNatClampNeg ≤ 50) :
    ∀ (n k : Nat), k + n = n0.toNatClampNeg → M 0 + k ≤ 10 → (∀ j, j < k → spOk (cel B (50 * x.toNatClampNeg + i.toNatClampNeg) j 0) (cel B (50 * x.toNatClampNeg + i.toNatClampNeg) j 1) (cel B (50 * x.toNatClampNeg + i.toNatClampNeg) j 2) (cel B (50 * x.toNatClampNeg + i.toNatClampNeg) j 3) (cel B (50 * x.toNatClampNeg + i.toNatClampNeg) j 4)) → Same (s_X4_plan_L1 N V A x l i n0 n k) (s_X5_plan_L1 M U B x l i n0 n k)
  | 0, k, hk, hM, hsp => by
    rw [s_X4_plan_L1, s_X5_plan_L1]
    obtain ⟨M2, B2, h1, h2⟩ := plan_L2_same (N := N) (V := V) (A := A) (M := M) (U := U) (B := B) (U' := va_up U 0 0) (x := x) (l := l) (i := i) (n0 := n0) (kk := k) (A0 := A) (B0 := B) (cap := 10) hx (by omega) n0.toNatClampNeg 0 N M (va_up V 0 0) A B (iv.setFault 0) (by omega) (fun j _ h => hsp j (by omega)) rfl rfl (fun j r _ h2 h3 => hc j r (by omega) h3)
    rw [h1]
    exact ⟨congrArg nI h2.1.1, h2⟩
  | n + 1, k, hk, hM, hsp => by
    rw [s_X4_plan_L1, s_X5_plan_L1]
    have e0 := iv.1.1
    unfold s_X4_refusalOfPlanned
    rw [isSpar_eq (M := M) (U := U) iv.2.2.1]
    have c0 : A (18 + 2 * x.toNatClampNeg) (i.toNatClampNeg + 5 * k) = cel B (50 * x.toNatClampNeg + i.toNatClampNeg) k 0 := hc k 0 (by omega) (by omega)
    have c1 : A (18 + 2 * x.toNatClampNeg) (i.toNatClampNeg + 5 * k + 1) = cel B (50 * x.toNatClampNeg + i.toNatClampNeg) k 1 := hc k 1 (by omega) (by omega)
    have c2 : A (18 + 2 * x.toNatClampNeg) (i.toNatClampNeg + 5 * k + 2) = cel B (50 * x.toNatClampNeg + i.toNatClampNeg) k 2 := hc k 2 (by omega) (by omega)
    have c3 : A (18 + 2 * x.toNatClampNeg) (i.toNatClampNeg + 5 * k + 3) = cel B (50 * x.toNatClampNeg + i.toNatClampNeg) k 3 := hc k 3 (by omega) (by omega)
    have c4 : A (18 + 2 * x.toNatClampNeg) (i.toNatClampNeg + 5 * k + 4) = cel B (50 * x.toNatClampNeg + i.toNatClampNeg) k 4 := hc k 4 (by omega) (by omega)
    rw [c0, c1, c2, c3, c4]
    rw [show B 16 (((50 * x.toNatClampNeg) + i.toNatClampNeg) + (5 * k)) = cel B (50 * x.toNatClampNeg + i.toNatClampNeg) k 0 from rfl, show B 16 (((50 * x.toNatClampNeg) + i.toNatClampNeg) + (5 * k) + 1) = cel B (50 * x.toNatClampNeg + i.toNatClampNeg) k 1 from rfl, show B 16 (((50 * x.toNatClampNeg) + i.toNatClampNeg) + (5 * k) + 2) = cel B (50 * x.toNatClampNeg + i.toNatClampNeg) k 2 from rfl, show B 16 (((50 * x.toNatClampNeg) + i.toNatClampNeg) + (5 * k) + 3) = cel B (50 * x.toNatClampNeg + i.toNatClampNeg) k 3 from rfl, show B 16 (((50 * x.toNatClampNeg) + i.toNatClampNeg) + (5 * k) + 4) = cel B (50 * x.toNatClampNeg + i.toNatClampNeg) k 4 from rfl]
    by_cases h1 : s_X5_isSpar M U B (cel B (50 * x.toNatClampNeg + i.toNatClampNeg) k 0) (cel B (50 * x.toNatClampNeg + i.toNatClampNeg) k 1) (cel B (50 * x.toNatClampNeg + i.toNatClampNeg) k 2) (cel B (50 * x.toNatClampNeg + i.toNatClampNeg) k 3) (cel B (50 * x.toNatClampNeg + i.toNatClampNeg) k 4) = true
    · rw [if_pos h1, if_pos h1, e0]
      by_cases h2 : M 0 + k < 10
      · have h3 : nI (M 0 + k) < (10 : Int32) := nI_lt (b := 10) h2 (by decide)
        rw [if_pos h3, if_pos h3, if_pos rfl]
        refine plan_L1_same iv hx hc hn0 n (k + 1) (by omega) (by omega) (fun j hj => ?_)
        by_cases e : j = k
        · subst e; exact isSpar_ok iv.2.2.1 h1
        · exact hsp j (by omega)
      · have h3 : ¬ nI (M 0 + k) < (10 : Int32) := fun h => h2 ((nI_ltI (b := 10) (by omega) (by decide)).mp h)
        rw [if_neg h3, if_neg h3, if_neg (by decide)]
        exact ⟨rfl, iv.setFault 0⟩
    · rw [if_neg h1, if_neg h1, if_neg (by decide)]
      exact ⟨rfl, iv.setFault 0⟩
theorem plan_eq (iv : Inv N V A M U B) (x l i n : Int32) : Same (s_X4_plan N V A x l i n) (s_X5_plan M U B x l i n) := by
  have okv := okV_0 iv.okV 0
  have ivf := iv.setFault 0
  have hH := iv.2.2.2.2.2.2.1
  have hn10 : M 0 ≤ 10 := iv.1.2.2.2.1
  have hHf : IH (va_up V 0 0) A B := ivf.2.2.2.2.2.2.1
  unfold s_X4_plan s_X5_plan
  rw [noSheet_is (N := N) (V := va_up V 0 0) (A := A) x, ite3, within_in l 0 2 0 2 (by decide) (by decide)]
  refine same_if (fun h1 => ?_) (fun _ => ⟨rfl, ivf⟩)
  obtain ⟨hk, -⟩ := isSheet_t h1
  refine same_if (c := s_X4_isWithin l 0 2 = true) (fun h2 => ?_) (fun _ => ⟨rfl, ivf⟩)
  have fl : ∀ f : Int32, s_X4_faultOfPlan N (va_up V 0 0) A x.toNatClampNeg l i n = f → f ≠ 0 → Same (if s_X4_faultOfPlan N (va_up V 0 0) A x.toNatClampNeg l i n = 0 then s_X4_plan_L1 N V A x l i n n.toNatClampNeg 0 else ((s_X4_failed N (va_up V 0 (0 : Int32)) A (s_X4_faultOfPlan N (va_up V 0 (0 : Int32)) A x.toNatClampNeg l i n)).1, N, (s_X4_failed N (va_up V 0 (0 : Int32)) A (s_X4_faultOfPlan N (va_up V 0 (0 : Int32)) A x.toNatClampNeg l i n)).2.2.1, A)) ((s_X5_failed M U B f).1, (s_X5_failed M U B f).2.1, (s_X5_failed M U B f).2.2.1, (s_X5_failed M U B f).2.2.2) := by
    intro f h3 h4
    rw [h3, if_neg h4]
    exact ⟨rfl, iv.setFault2 f 0⟩
  by_cases c : B 14 x.toNatClampNeg < 0
  · rw [if_pos c, if_neg (fun h => i32_nlt.mpr h c)]
    refine fl 1 ?_ (by decide)
    have e2 : s_X1_faultAsLane N (va_up V 0 0) A x.toNatClampNeg l = 1 := by
      unfold s_X1_faultAsLane; rw [if_pos ((sh_not hHf hk).mpr c)]
    unfold s_X4_faultOfPlan
    rw [e2, if_neg (by decide)]
  · have c0 : 0 ≤ (B 14 x.toNatClampNeg).toInt := by
      rw [Int32.lt_iff_toInt_lt, show (0 : Int32).toInt = 0 from rfl] at c; omega
    rw [if_neg c, if_pos (i32_nlt.mp c)]
    rcases hHf _ hk with ⟨-, -, h⟩ | ⟨a1, a2, a3, a4, a5⟩
    · rw [h] at c0; exact absurd c0 (by decide)
    · by_cases d : B 15 x.toNatClampNeg = l
      · have e2 : s_X1_faultAsLane N (va_up V 0 0) A x.toNatClampNeg l = 0 := by
          unfold s_X1_faultAsLane; rw [if_neg (fun h => c ((sh_not hHf hk).mp h)), if_pos (by rw [a2]; exact d)]
        rw [if_pos d]
        by_cases h3 : 0 ≤ n
        · rw [if_pos h3]
          have h3' : 0 ≤ n.toInt := by rw [Int32.le_iff_toInt_le] at h3; exact h3
          rw [beyond5 h3']
          by_cases h4 : 0 ≤ i.toInt ∧ i.toInt + 5 * n.toInt ≤ (B 14 x.toNatClampNeg).toInt
          · have h5 : ¬ (50 : Int32) < n := by rw [Int32.lt_iff_toInt_lt, show (50 : Int32).toInt = 50 from rfl]; omega
            have e5 : ((5 : Int32) * n).toInt = 5 * n.toInt := by
              obtain ⟨m1, -, -⟩ := mulB (x := (5 : Int32)) (y := n) 5 50 (by decide) (by omega) (by decide)
              rw [m1]; rfl
            have ef : s_X4_faultOfPlan N (va_up V 0 0) A x.toNatClampNeg l i n = 0 := by
              unfold s_X4_faultOfPlan
              rw [e2, if_pos rfl, if_pos h3, if_neg h5, hasCellsI (okv _ hk), a3, if_pos (decide_eq_true ⟨h4.1, by rw [e5]; omega, by rw [e5]; omega⟩)]
            rw [ef, if_pos rfl, decide_eq_true h4, if_neg (by decide)]
            obtain ⟨n1, n2, n3⟩ := nI_tnE (i32_nlt.mp h5) h3
            obtain ⟨i1, i2, i3⟩ := nI_tnE (x := i) (by rw [Int32.le_iff_toInt_le, show (50 : Int32).toInt = 50 from rfl]; omega) (by rw [Int32.le_iff_toInt_le]; exact h4.1)
            refine plan_L1_same iv hk (fun j r hj hr => ?_) n3 n.toNatClampNeg 0 (by omega) (by omega) (fun j hj => absurd hj (by omega))
            rw [a5 _ (by omega)]
            unfold cel
            congr 1; omega
          · rw [decide_eq_false h4, if_pos (show (!false) = true from rfl)]
            refine fl 3 ?_ (by decide)
            unfold s_X4_faultOfPlan
            rw [e2, if_pos rfl, if_pos h3]
            by_cases h5 : (50 : Int32) < n
            · rw [if_pos h5]
            · rw [if_neg h5]
              rw [Int32.lt_iff_toInt_lt, show (50 : Int32).toInt = 50 from rfl] at h5
              have e5 : ((5 : Int32) * n).toInt = 5 * n.toInt := by
                obtain ⟨m1, -, -⟩ := mulB (x := (5 : Int32)) (y := n) 5 50 (by decide) (by omega) (by decide)
                rw [m1]; rfl
              rw [hasCellsI (okv _ hk), a3, if_neg (fun h => h4 (by rw [decide_eq_true_iff, e5] at h; exact ⟨h.1, h.2.2⟩))]
        · rw [if_neg h3]
          refine fl 4 ?_ (by decide)
          unfold s_X4_faultOfPlan
          rw [e2, if_pos rfl, if_neg h3]
      · rw [if_neg d]
        refine fl 2 ?_ (by decide)
        have e2 : s_X1_faultAsLane N (va_up V 0 0) A x.toNatClampNeg l = 2 := by
          unfold s_X1_faultAsLane; rw [if_neg (fun h => c ((sh_not hHf hk).mp h)), if_neg (by rw [a2]; exact d)]
        unfold s_X4_faultOfPlan
        rw [e2, if_neg (by decide)]
end PLN
