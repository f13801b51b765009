theorem x2add_L1_N {N : Nat → Nat} {V : Nat → Int32} {A : Nat → Nat → Int32} {a b c d e : Int32} : ∀ (n k : Nat) (N1 : Nat → Nat) (V1 : Nat → Int32) (A1 : Nat → Nat → Int32), (s_X2_add_L1 N V A a b c d e n k N1 V1 A1).1 = N1
  | 0, k, N1, V1, A1 => rfl
  | n + 1, k, N1, V1, A1 => by
    rw [s_X2_add_L1]
    split
    · rw [x2add_L1_N n, noteFoot_N, noteFoot_N]
    · rw [x2add_L1_N n, noteFoot_N, noteFoot_N]
theorem x2add_N {N : Nat → Nat} {V : Nat → Int32} {A : Nat → Nat → Int32} {a b c d e : Int32} (h : N 0 ≤ 10) : (s_X2_add N V A a b c d e).2.1 0 ≤ 10 := by
  unfold s_X2_add
  split
  · rename_i h1
    have h2 := lt10 h1 (by omega)
    show _ + 1 ≤ 10
    rw [x2add_L1_N]
    omega
  · exact h
theorem tn5 {w : Int32} (h0 : ¬ w < 0) (h : w ≤ 4) : w.toNatClampNeg < 5 ∧ nI w.toNatClampNeg = w := by
  rw [Int32.lt_iff_toInt_lt, show (0 : Int32).toInt = 0 from rfl] at h0
  rw [Int32.le_iff_toInt_le, show (4 : Int32).toInt = 4 from rfl] at h
  exact nI_tn (by omega) (by omega) (by omega)
def gmV (j : Nat) : Int32 := if j = 0 then 100 else 60
/-- the table of the greatest measures, out of reach -/
def gmZ (Ar : Nat → Prop) (tG : Nat) (U : State) : Prop := va_Z "NeckShip" "GREATEST_MEASURE" "[I" (.ref tG) Ar U U.heap ∧ va_T .int tG 5 (fun j => .int (gmV j)) Ar U U.heap
def s_X4_faultOfPlan (N : Nat → Nat) (V : Nat → Int32) (A : Nat → Nat → Int32) (kk : Nat) (l0 : Int32) (i0 : Int32) (n0 : Int32) : Int32 :=
  if (s_X1_faultAsLane N V A kk l0) = 0 then
    if 0 ≤ n0 then
      if (50 : Int32) < n0 then
        (3 : Int32)
      else
        if (s_X1_hasCells N V A kk i0 ((5 : Int32) * n0)) = true then
          (0 : Int32)
        else
          (3 : Int32)
    else
      (4 : Int32)
  else
    (s_X1_faultAsLane N V A kk l0)
set_option maxHeartbeats 4000000 in
set_option maxRecDepth 100000 in
theorem c_X4_faultOfPlan (l : Launch) (D : va_G) (cI cZ cS : ClassId) (q : Nat → Nat) (N : Nat → Nat) (V : Nat → Int32) (A : Nat → Nat → Int32) (kk : Nat) (l0 : Int32) (i0 : Int32) (n0 : Int32) (h_1 : kk < 4) : Met l yX4_faultOfPlan wsX4_faultOfPlan ({ frames := 2, cells := 0, slots := 0, locals := 41 }) (va_Pc [.ref (q (17 + 2 * kk)), .int l0, .int i0, .int n0] (PC D cI cZ cS q N V A)) (vp_Si (fun r => r = (s_X4_faultOfPlan N V A kk l0 i0 n0))) 0 0 (fun _ => False) := by
  refine Met.ofW (cc := cX4_faultOfPlan) (maxL := 5) (ret := (some .int)) (by decide) rfl ?_
  intro p e s m args below meth c s₁ B hml hv
  obtain ⟨rfl, hP, hK, hN⟩ := hv
  have hx := B.exec
  have hb := B.bytes
  have hr := B.returns
  have hts := atoms_spec (ws := wsX4_faultOfPlan) B.pre
  have hown : s.vm.findClass RX4 = some m.cls := findClass_of_methodNamed B.named
  have hlocks := B.notSynchronized
  have hl := lv_entry ([.ref (q (17 + 2 * kk)), .int l0, .int i0, .int n0]) (n := 5) (Nat.le_of_ble_eq_true rfl)
  rw [lg_entry_eq]
  generalize (lg_sl ([.ref (q (17 + 2 * kk)), .int l0, .int i0, .int n0]) ++ List.replicate (5 - (lg_sl ([.ref (q (17 + 2 * kk)), .int l0, .int i0, .int n0])).length) Slot.unset).toArray = ls at hl ⊢
  have hl : lv_has ls 5 [(0, .ref (q (17 + 2 * kk))), (1, .int l0), (2, .int i0), (3, .int n0)] := hl
  refine lv_aload_n hx hb dX4_faultOfPlan_0 rfl (lv_at hl 0 rfl) ?_
  refine lv_iload_n hx hb dX4_faultOfPlan_1 rfl (lv_at hl 1 rfl) ?_
  refine vp_callSi (W.runV (As := [.int l0]) (rest := []) ⟨hx, hb, hml, hown, hts⟩ (c_X1_faultAsLane l D cI cZ cS q N V A kk l0 h_1) (cwV 1 hts gX4_faultOfPlan_X1_faultAsLane rfl rfl rfl (by decide +kernel) ⟨Nat.le_of_ble_eq_true rfl, Nat.le_of_ble_eq_true rfl⟩) (preC1 h_1 hK hN hP) rfl rfl hl.1 rfl (lv_room (Nat.le_of_ble_eq_true rfl)) dX4_faultOfPlan_2 ⟨Nat.zero_le _, Nat.zero_le _⟩) (fun r_1 er_1 => ?_)
  subst er_1
  refine lv_istore (lv' := [(4, .int (s_X1_faultAsLane N V A kk l0)), (0, .ref (q (17 + 2 * kk))), (1, .int l0), (2, .int i0), (3, .int n0)]) hx hb dX4_faultOfPlan_5 hl (by decide) rfl (fun ls hl => ?_)
  refine lv_iload hx hb dX4_faultOfPlan_7 (lv_at hl 0 rfl) ?_
  refine lv_if_eq (tgt := 15) hx hb dX4_faultOfPlan_9 (by decide) (fun c_2 => ?_) (fun c_2 => ?_)
  · refine lv_iload_n hx hb dX4_faultOfPlan_15 rfl (lv_at hl 4 rfl) ?_
    refine lv_if_ge (tgt := 21) hx hb dX4_faultOfPlan_16 (by decide) (fun c_3 => ?_) (fun c_3 => ?_)
    · refine lv_iload_n hx hb dX4_faultOfPlan_21 rfl (lv_at hl 4 rfl) ?_
      refine lv_bipush (v := (50)) hx hb dX4_faultOfPlan_22 (by decide) ?_
      refine lv_icmp_gt (tgt := 38) hx hb dX4_faultOfPlan_24 (by decide) (fun c_4 => ?_) (fun c_4 => ?_)
      · refine lv_iconst (v := (3)) hx hb dX4_faultOfPlan_38 (by decide) ?_
        refine lv_goto (tgt := 43) hx hb dX4_faultOfPlan_39 (by decide) ?_
        exact W.iret (v := (3 : Int32)) hx hb hr (fun t ht hW => ⟨_, rfl, (by rw [s_X4_faultOfPlan, if_pos c_2, if_pos c_3, if_pos c_4]), ht⟩) (fun _ h => by cases h) dX4_faultOfPlan_43
      · refine lv_aload_n hx hb dX4_faultOfPlan_27 rfl (lv_at hl 1 rfl) ?_
        refine lv_iload_n hx hb dX4_faultOfPlan_28 rfl (lv_at hl 3 rfl) ?_
        refine lv_iconst (v := (5)) hx hb dX4_faultOfPlan_29 (by decide) ?_
        refine lv_iload_n hx hb dX4_faultOfPlan_30 rfl (lv_at hl 4 rfl) ?_
        refine lv_imul hx hb dX4_faultOfPlan_31 ?_
        refine vp_callSi (W.runV (As := [.int i0, .int ((5 : Int32) * n0)]) (rest := []) ⟨hx, hb, hml, hown, hts⟩ (c_X1_hasCells l D cI cZ cS q N V A kk i0 ((5 : Int32) * n0) h_1) (cwV 2 hts gX4_faultOfPlan_X1_hasCells rfl rfl rfl (by decide +kernel) ⟨Nat.le_of_ble_eq_true rfl, Nat.le_of_ble_eq_true rfl⟩) (preC1 h_1 hK hN hP) rfl rfl hl.1 rfl (lv_room (Nat.le_of_ble_eq_true rfl)) dX4_faultOfPlan_32 ⟨Nat.zero_le _, Nat.zero_le _⟩) (fun r_5 er_5 => ?_)
        subst er_5
        refine lz_if_ne (tgt := 42) hx hb dX4_faultOfPlan_35 (by decide) (fun c_6 => ?_) (fun c_6 => ?_)
        · refine lv_iconst (v := (0)) hx hb dX4_faultOfPlan_42 (by decide) ?_
          exact W.iret (v := (0 : Int32)) hx hb hr (fun t ht hW => ⟨_, rfl, (by rw [s_X4_faultOfPlan, if_pos c_2, if_pos c_3, if_neg c_4, if_pos c_6]), ht⟩) (fun _ h => by cases h) dX4_faultOfPlan_43
        · refine lv_iconst (v := (3)) hx hb dX4_faultOfPlan_38 (by decide) ?_
          refine lv_goto (tgt := 43) hx hb dX4_faultOfPlan_39 (by decide) ?_
          exact W.iret (v := (3 : Int32)) hx hb hr (fun t ht hW => ⟨_, rfl, (by rw [s_X4_faultOfPlan, if_pos c_2, if_pos c_3, if_neg c_4, if_neg (nb c_6)]), ht⟩) (fun _ h => by cases h) dX4_faultOfPlan_43
    · refine lv_iconst (v := (4)) hx hb dX4_faultOfPlan_19 (by decide) ?_
      exact W.iret (v := (4 : Int32)) hx hb hr (fun t ht hW => ⟨_, rfl, (by rw [s_X4_faultOfPlan, if_pos c_2, if_neg c_3]), ht⟩) (fun _ h => by cases h) dX4_faultOfPlan_20
  · refine lv_iload hx hb dX4_faultOfPlan_12 (lv_at hl 0 rfl) ?_
    exact W.iret (v := (s_X1_faultAsLane N V A kk l0)) hx hb hr (fun t ht hW => ⟨_, rfl, (by rw [s_X4_faultOfPlan, if_neg c_2]), ht⟩) (fun _ h => by cases h) dX4_faultOfPlan_14
theorem faultOfPlan_0 {N : Nat → Nat} {V : Nat → Int32} {A : Nat → Nat → Int32} {k : Nat} {l i n : Int32} (o : 0 ≤ (V (9 + k)).toInt ∧ (V (9 + k)).toInt ≤ 50) (h : s_X4_faultOfPlan N V A k l i n = 0) : i.toNatClampNeg + 5 * n.toNatClampNeg ≤ 50 ∧ nI i.toNatClampNeg = i ∧ nI n.toNatClampNeg = n := by
  unfold s_X4_faultOfPlan at h
  split at h
  · split at h
    · rename_i h1
      split at h
      · exact absurd h (by decide)
      · rename_i h2
        split at h
        · rename_i h3
          rw [Int32.le_iff_toInt_le, show (0 : Int32).toInt = 0 from rfl] at h1
          rw [Int32.lt_iff_toInt_lt, show (50 : Int32).toInt = 50 from rfl] at h2
          have e5 : ((5 : Int32) * n).toInt = 5 * n.toInt := by
            rw [fb_mulI (by rw [show (5 : Int32).toInt = 5 from rfl]; omega) (by rw [show (5 : Int32).toInt = 5 from rfl]; omega)]; rfl
          obtain ⟨g1, g2, g3⟩ := hasCells_c o h3
          rw [e5] at g2 g3
          obtain ⟨a1, a2⟩ := nI_tn (n := 51) g1 (by omega) (by omega)
          obtain ⟨b1, b2⟩ := nI_tn (x := n) (n := 51) (by omega) (by omega) (by omega)
          have c1 : i.toInt = (i.toNatClampNeg : Int) := by rw [← nI_toInt (n := i.toNatClampNeg) (by omega), a2]
          have c2 : n.toInt = (n.toNatClampNeg : Int) := by rw [← nI_toInt (n := n.toNatClampNeg) (by omega), b2]
          exact ⟨by omega, a2, b2⟩
        · exact absurd h (by decide)
    · exact absurd h (by decide)
  · rename_i h1
    exact absurd h h1
def s_X4_refusalOfPlanned (N : Nat → Nat) (V : Nat → Int32) (A : Nat → Nat → Int32) (kk : Nat) (i0 : Nat) (b0 : Int32) : Int32 :=
  (s_X4_refusalOfSpar N V A (A (18 + 2 * kk) i0) (A (18 + 2 * kk) (i0 + 1)) (A (18 + 2 * kk) (i0 + 2)) (A (18 + 2 * kk) (i0 + 3)) (A (18 + 2 * kk) (i0 + 4)) b0)
set_option maxHeartbeats 4000000 in
set_option maxRecDepth 100000 in
theorem c_X4_refusalOfPlanned (l : Launch) (D : va_G) (cI cZ cS : ClassId) (q : Nat → Nat) (N : Nat → Nat) (V : Nat → Int32) (A : Nat → Nat → Int32) (kk : Nat) (i0 : Nat) (b0 : Int32) (h_1 : kk < 4) (h_2 : i0 + 4 < 50) : Met l yX4_refusalOfPlanned wsX4_refusalOfPlanned ({ frames := 2, cells := 0, slots := 0, locals := 49 }) (va_Pc [.ref (q 0), .ref (q (18 + 2 * kk)), .int (nI i0), .int b0] (PC D cI cZ cS q N V A)) (vp_Si (fun r => r = (s_X4_refusalOfPlanned N V A kk i0 b0))) 0 0 (fun _ => False) := by
  refine Met.ofW (cc := cX4_refusalOfPlanned) (maxL := 4) (ret := (some .int)) (by decide) rfl ?_
  intro p e s m args below meth c s₁ B hml hv
  obtain ⟨rfl, hP, hK, hN⟩ := hv
  have hx := B.exec
  have hb := B.bytes
  have hr := B.returns
  have hts := atoms_spec (ws := wsX4_refusalOfPlanned) B.pre
  have hown : s.vm.findClass RX4 = some m.cls := findClass_of_methodNamed B.named
  have hlocks := B.notSynchronized
  have hl := lv_entry ([.ref (q 0), .ref (q (18 + 2 * kk)), .int (nI i0), .int b0]) (n := 4) (Nat.le_of_ble_eq_true rfl)
  rw [lg_entry_eq]
  generalize (lg_sl ([.ref (q 0), .ref (q (18 + 2 * kk)), .int (nI i0), .int b0]) ++ List.replicate (4 - (lg_sl ([.ref (q 0), .ref (q (18 + 2 * kk)), .int (nI i0), .int b0])).length) Slot.unset).toArray = ls at hl ⊢
  have hl : lv_has ls 4 [(0, .ref (q 0)), (1, .ref (q (18 + 2 * kk))), (2, .int (nI i0)), (3, .int b0)] := hl
  refine lv_aload_n hx hb dX4_refusalOfPlanned_0 rfl (lv_at hl 0 rfl) ?_
  refine lv_aload_n hx hb dX4_refusalOfPlanned_1 rfl (lv_at hl 1 rfl) ?_
  refine lv_iload_n hx hb dX4_refusalOfPlanned_2 rfl (lv_at hl 2 rfl) ?_
  refine va_ialdN (i := i0) hx hb hK hP (18 + 2 * kk) 0 (wC_cells h_1) rfl (by decide) (by omega) dX4_refusalOfPlanned_3 ?_
  refine lv_aload_n hx hb dX4_refusalOfPlanned_4 rfl (lv_at hl 1 rfl) ?_
  refine lv_iload_n hx hb dX4_refusalOfPlanned_5 rfl (lv_at hl 2 rfl) ?_
  refine lv_iconst (v := (1)) hx hb dX4_refusalOfPlanned_6 (by decide) ?_
  refine lv_iadd hx hb dX4_refusalOfPlanned_7 ?_
  rw [nI_1 i0]
  refine va_ialdN (i := (i0 + 1)) hx hb hK hP (18 + 2 * kk) 0 (wC_cells h_1) rfl (by decide) (by omega) dX4_refusalOfPlanned_8 ?_
  refine lv_aload_n hx hb dX4_refusalOfPlanned_9 rfl (lv_at hl 1 rfl) ?_
  refine lv_iload_n hx hb dX4_refusalOfPlanned_10 rfl (lv_at hl 2 rfl) ?_
  refine lv_iconst (v := (2)) hx hb dX4_refusalOfPlanned_11 (by decide) ?_
  refine lv_iadd hx hb dX4_refusalOfPlanned_12 ?_
  rw [show nI i0 + (2 : Int32) = nI (i0 + 2) from nI_add i0 2]
  refine va_ialdN (i := (i0 + 2)) hx hb hK hP (18 + 2 * kk) 0 (wC_cells h_1) rfl (by decide) (by omega) dX4_refusalOfPlanned_13 ?_
  refine lv_aload_n hx hb dX4_refusalOfPlanned_14 rfl (lv_at hl 1 rfl) ?_
  refine lv_iload_n hx hb dX4_refusalOfPlanned_15 rfl (lv_at hl 2 rfl) ?_
  refine lv_iconst (v := (3)) hx hb dX4_refusalOfPlanned_16 (by decide) ?_
  refine lv_iadd hx hb dX4_refusalOfPlanned_17 ?_
  rw [show nI i0 + (3 : Int32) = nI (i0 + 3) from nI_add i0 3]
  refine va_ialdN (i := (i0 + 3)) hx hb hK hP (18 + 2 * kk) 0 (wC_cells h_1) rfl (by decide) (by omega) dX4_refusalOfPlanned_18 ?_
  refine lv_aload_n hx hb dX4_refusalOfPlanned_19 rfl (lv_at hl 1 rfl) ?_
  refine lv_iload_n hx hb dX4_refusalOfPlanned_20 rfl (lv_at hl 2 rfl) ?_
  refine lv_iconst (v := (4)) hx hb dX4_refusalOfPlanned_21 (by decide) ?_
  refine lv_iadd hx hb dX4_refusalOfPlanned_22 ?_
  rw [show nI i0 + (4 : Int32) = nI (i0 + 4) from nI_add i0 4]
  refine va_ialdN (i := (i0 + 4)) hx hb hK hP (18 + 2 * kk) 0 (wC_cells h_1) rfl (by decide) (by omega) dX4_refusalOfPlanned_23 ?_
  refine lv_iload_n hx hb dX4_refusalOfPlanned_24 rfl (lv_at hl 3 rfl) ?_
  refine vp_callSi (W.runV (As := [.int (A (18 + 2 * kk) i0), .int (A (18 + 2 * kk) (i0 + 1)), .int (A (18 + 2 * kk) (i0 + 2)), .int (A (18 + 2 * kk) (i0 + 3)), .int (A (18 + 2 * kk) (i0 + 4)), .int b0]) (rest := []) ⟨hx, hb, hml, hown, hts⟩ (c_X4_refusalOfSpar l D cI cZ cS q N V A (A (18 + 2 * kk) i0) (A (18 + 2 * kk) (i0 + 1)) (A (18 + 2 * kk) (i0 + 2)) (A (18 + 2 * kk) (i0 + 3)) (A (18 + 2 * kk) (i0 + 4)) b0) (cwV 6 hts gX4_refusalOfPlanned_X4_refusalOfSpar rfl rfl rfl (by decide +kernel) ⟨Nat.le_of_ble_eq_true rfl, Nat.le_of_ble_eq_true rfl⟩) (preC4 hK hN hP) rfl rfl hl.1 rfl (lv_room (Nat.le_of_ble_eq_true rfl)) dX4_refusalOfPlanned_25 ⟨Nat.zero_le _, Nat.zero_le _⟩) (fun r_1 er_1 => ?_)
  subst er_1
  exact W.iret (v := (s_X4_refusalOfSpar N V A (A (18 + 2 * kk) i0) (A (18 + 2 * kk) (i0 + 1)) (A (18 + 2 * kk) (i0 + 2)) (A (18 + 2 * kk) (i0 + 3)) (A (18 + 2 * kk) (i0 + 4)) b0)) hx hb hr (fun t ht hW => ⟨_, rfl, (by rw [s_X4_refusalOfPlanned]), ht⟩) (fun _ h => by cases h) dX4_refusalOfPlanned_28
def s_X4_addPlanned (N : Nat → Nat) (V : Nat → Int32) (A : Nat → Nat → Int32) (kk : Nat) (i0 : Nat) : St :=
  ((s_X2_add N V A (A (18 + 2 * kk) i0) (A (18 + 2 * kk) (i0 + 1)) (A (18 + 2 * kk) (i0 + 2)) (A (18 + 2 * kk) (i0 + 3)) (A (18 + 2 * kk) (i0 + 4))).2.1, (s_X2_add N V A (A (18 + 2 * kk) i0) (A (18 + 2 * kk) (i0 + 1)) (A (18 + 2 * kk) (i0 + 2)) (A (18 + 2 * kk) (i0 + 3)) (A (18 + 2 * kk) (i0 + 4))).2.2.1, (s_X2_add N V A (A (18 + 2 * kk) i0) (A (18 + 2 * kk) (i0 + 1)) (A (18 + 2 * kk) (i0 + 2)) (A (18 + 2 * kk) (i0 + 3)) (A (18 + 2 * kk) (i0 + 4))).2.2.2)
set_option maxHeartbeats 4000000 in
set_option maxRecDepth 100000 in
theorem c_X4_addPlanned (l : Launch) (D : va_G) (cI cZ cS : ClassId) (q : Nat → Nat) (N : Nat → Nat) (V : Nat → Int32) (A : Nat → Nat → Int32) (sz : Nat) (kk : Nat) (i0 : Nat) (h_1 : kk < 4) (h_2 : i0 + 4 < 50) (h_3 : N 0 ≤ 10) : Met l yX4_addPlanned wsX4_addPlanned ({ frames := 4, cells := 0, slots := 0, locals := 91 }) (va_Pc [.ref (q 0), .ref (q (18 + 2 * kk)), .int (nI i0)] (fun U => U.heap.size = sz ∧ PC D cI cZ cS q N V A U ∧ va_D (fun _ => True) (wC cI cS q N V A))) (va_Qv (fun (_ : Unit) => True) (fun _ t => PC D cI cZ cS q (s_X4_addPlanned N V A kk i0).1 (s_X4_addPlanned N V A kk i0).2.1 (s_X4_addPlanned N V A kk i0).2.2 t ∧ va_D (va_A (wC cI cS q N V A) sz) (wC cI cS q (s_X4_addPlanned N V A kk i0).1 (s_X4_addPlanned N V A kk i0).2.1 (s_X4_addPlanned N V A kk i0).2.2)) (va_A (wC cI cS q N V A) sz)) 0 0 (va_A (wC cI cS q N V A) sz) := by
  refine Met.ofW (cc := cX4_addPlanned) (maxL := 3) (ret := none) (by decide) rfl ?_
  intro p e s m args below meth c s₁ B hml hv
  obtain ⟨rfl, hsz, ⟨hP, hK, hN⟩, hD0⟩ := hv
  have hx := B.exec
  have hb := B.bytes
  have hr := B.returns
  have hts := atoms_spec (ws := wsX4_addPlanned) B.pre
  have hown : s.vm.findClass RX4 = some m.cls := findClass_of_methodNamed B.named
  have hlocks := B.notSynchronized
  have hin4 : ∀ w ∈ u_ws RX4 TX4 7, w ∈ wsX4_addPlanned := by decide +kernel
  subst hsz
  have hD := hD0.self (sz := s.heap.size)
  generalize hAe : va_A (wC cI cS q N V A) s.heap.size = Ar at hD ⊢
  have hA : ∀ q : Nat, s.heap.size ≤ q → Ar q := fun q h => by rw [← hAe]; exact Or.inr h
  have hS : va_S Ar s.heap s.heap [] := va_S.rf
  have hl := lv_entry ([.ref (q 0), .ref (q (18 + 2 * kk)), .int (nI i0)]) (n := 3) (Nat.le_of_ble_eq_true rfl)
  rw [lg_entry_eq]
  generalize (lg_sl ([.ref (q 0), .ref (q (18 + 2 * kk)), .int (nI i0)]) ++ List.replicate (3 - (lg_sl ([.ref (q 0), .ref (q (18 + 2 * kk)), .int (nI i0)])).length) Slot.unset).toArray = ls at hl ⊢
  have hl : lv_has ls 3 [(0, .ref (q 0)), (1, .ref (q (18 + 2 * kk))), (2, .int (nI i0))] := hl
  refine lv_aload_n hx hb dX4_addPlanned_0 rfl (lv_at hl 0 rfl) ?_
  refine va_get (D := D) (ci := 4) (v := .ref (q 2)) (C := RX4) (T := TX4) (N := 7) hx hb hts hin4 hown hK hP 0 rfl rfl 1 (by decide) (hts (.fieldLink RX4 18 "NeckShip" "spars" "LNeckShip$Spars;") (by decide +kernel)) (fun _ h9 => h9) rfl dX4_addPlanned_1 ?_
  refine lv_aload_n hx hb dX4_addPlanned_4 rfl (lv_at hl 1 rfl) ?_
  refine lv_iload_n hx hb dX4_addPlanned_5 rfl (lv_at hl 2 rfl) ?_
  refine va_ialdN (i := i0) hx hb hK hP (18 + 2 * kk) 0 (wC_cells h_1) rfl (by decide) (by omega) dX4_addPlanned_6 ?_
  refine lv_aload_n hx hb dX4_addPlanned_7 rfl (lv_at hl 1 rfl) ?_
  refine lv_iload_n hx hb dX4_addPlanned_8 rfl (lv_at hl 2 rfl) ?_
  refine lv_iconst (v := (1)) hx hb dX4_addPlanned_9 (by decide) ?_
  refine lv_iadd hx hb dX4_addPlanned_10 ?_
  rw [nI_1 i0]
  refine va_ialdN (i := (i0 + 1)) hx hb hK hP (18 + 2 * kk) 0 (wC_cells h_1) rfl (by decide) (by omega) dX4_addPlanned_11 ?_
  refine lv_aload_n hx hb dX4_addPlanned_12 rfl (lv_at hl 1 rfl) ?_
  refine lv_iload_n hx hb dX4_addPlanned_13 rfl (lv_at hl 2 rfl) ?_
  refine lv_iconst (v := (2)) hx hb dX4_addPlanned_14 (by decide) ?_
  refine lv_iadd hx hb dX4_addPlanned_15 ?_
  rw [show nI i0 + (2 : Int32) = nI (i0 + 2) from nI_add i0 2]
  refine va_ialdN (i := (i0 + 2)) hx hb hK hP (18 + 2 * kk) 0 (wC_cells h_1) rfl (by decide) (by omega) dX4_addPlanned_16 ?_
  refine lv_aload_n hx hb dX4_addPlanned_17 rfl (lv_at hl 1 rfl) ?_
  refine lv_iload_n hx hb dX4_addPlanned_18 rfl (lv_at hl 2 rfl) ?_
  refine lv_iconst (v := (3)) hx hb dX4_addPlanned_19 (by decide) ?_
  refine lv_iadd hx hb dX4_addPlanned_20 ?_
  rw [show nI i0 + (3 : Int32) = nI (i0 + 3) from nI_add i0 3]
  refine va_ialdN (i := (i0 + 3)) hx hb hK hP (18 + 2 * kk) 0 (wC_cells h_1) rfl (by decide) (by omega) dX4_addPlanned_21 ?_
  refine lv_aload_n hx hb dX4_addPlanned_22 rfl (lv_at hl 1 rfl) ?_
  refine lv_iload_n hx hb dX4_addPlanned_23 rfl (lv_at hl 2 rfl) ?_
  refine lv_iconst (v := (4)) hx hb dX4_addPlanned_24 (by decide) ?_
  refine lv_iadd hx hb dX4_addPlanned_25 ?_
  rw [show nI i0 + (4 : Int32) = nI (i0 + 4) from nI_add i0 4]
  refine va_ialdN (i := (i0 + 4)) hx hb hK hP (18 + 2 * kk) 0 (wC_cells h_1) rfl (by decide) (by omega) dX4_addPlanned_26 ?_
  refine callCi (va_runV (As := [.int (A (18 + 2 * kk) i0), .int (A (18 + 2 * kk) (i0 + 1)), .int (A (18 + 2 * kk) (i0 + 2)), .int (A (18 + 2 * kk) (i0 + 3)), .int (A (18 + 2 * kk) (i0 + 4))]) (rest := []) ⟨hx, hb, hml, hown, hts⟩ (c_X2_add l D cI cZ cS q N V A s.heap.size (A (18 + 2 * kk) i0) (A (18 + 2 * kk) (i0 + 1)) (A (18 + 2 * kk) (i0 + 2)) (A (18 + 2 * kk) (i0 + 3)) (A (18 + 2 * kk) (i0 + 4)) (by omega)) (cwV 5 hts gX4_addPlanned_X2_add rfl rfl rfl (by decide +kernel) ⟨Nat.le_of_ble_eq_true rfl, Nat.le_of_ble_eq_true rfl⟩) (preCm2 hK hN hP hD) rfl rfl hl.1 rfl (lv_room (Nat.le_of_ble_eq_true rfl)) dX4_addPlanned_27 ⟨Nat.zero_le _, Nat.zero_le _⟩) hD hS hA (fun H locs hP hD hS => ?_)
  refine lv_pop hx hb dX4_addPlanned_30 rfl ?_
  have hEE : s_X4_addPlanned N V A kk i0 = ((s_X2_add N V A (A (18 + 2 * kk) i0) (A (18 + 2 * kk) (i0 + 1)) (A (18 + 2 * kk) (i0 + 2)) (A (18 + 2 * kk) (i0 + 3)) (A (18 + 2 * kk) (i0 + 4))).2.1, (s_X2_add N V A (A (18 + 2 * kk) i0) (A (18 + 2 * kk) (i0 + 1)) (A (18 + 2 * kk) (i0 + 2)) (A (18 + 2 * kk) (i0 + 3)) (A (18 + 2 * kk) (i0 + 4))).2.2.1, (s_X2_add N V A (A (18 + 2 * kk) i0) (A (18 + 2 * kk) (i0 + 1)) (A (18 + 2 * kk) (i0 + 2)) (A (18 + 2 * kk) (i0 + 3)) (A (18 + 2 * kk) (i0 + 4))).2.2.2) := (by rw [s_X4_addPlanned])
  rw [hEE]
  exact W.vret hx hb hr (fun t ht hW => ⟨⟨(), rfl, trivial, ⟨by rw [ht]; exact hP, va_K.moved hW.alike hK, hN.warm hW⟩, hD⟩, hS.F ht⟩) hS.2.2 dX4_addPlanned_31
def s_X4_plan_L2 (N : Nat → Nat) (V : Nat → Int32) (A : Nat → Nat → Int32) (k0 : Int32) (l0 : Int32) (i0 : Int32) (n0 : Int32) (k : Nat) : Nat → Nat → (Nat → Nat) → (Nat → Int32) → (Nat → Nat → Int32) → (Nat → Nat) × (Nat → Int32) × (Nat → Nat → Int32)
  | 0, k2, N1, V1, A1 =>
    (N1, V1, A1)
  | n2 + 1, k2, N1, V1, A1 =>
    s_X4_plan_L2 N V A k0 l0 i0 n0 k n2 (k2 + 1) ((s_X4_addPlanned N1 V1 A1 k0.toNatClampNeg (i0.toNatClampNeg + (5 * k2))).1) ((s_X4_addPlanned N1 V1 A1 k0.toNatClampNeg (i0.toNatClampNeg + (5 * k2))).2.1) ((s_X4_addPlanned N1 V1 A1 k0.toNatClampNeg (i0.toNatClampNeg + (5 * k2))).2.2)
def s_X4_plan_L1 (N : Nat → Nat) (V : Nat → Int32) (A : Nat → Nat → Int32) (k0 : Int32) (l0 : Int32) (i0 : Int32) (n0 : Int32) : Nat → Nat → Int32 × St
  | 0, k =>
    (nI ((s_X4_plan_L2 N V A k0 l0 i0 n0 k n0.toNatClampNeg 0 N (va_up V 0 (0 : Int32)) A).1 0), (s_X4_plan_L2 N V A k0 l0 i0 n0 k n0.toNatClampNeg 0 N (va_up V 0 (0 : Int32)) A).1, (s_X4_plan_L2 N V A k0 l0 i0 n0 k n0.toNatClampNeg 0 N (va_up V 0 (0 : Int32)) A).2.1, (s_X4_plan_L2 N V A k0 l0 i0 n0 k n0.toNatClampNeg 0 N (va_up V 0 (0 : Int32)) A).2.2)
  | n + 1, k =>
    if (s_X4_refusalOfPlanned N (va_up V 0 (0 : Int32)) A k0.toNatClampNeg (i0.toNatClampNeg + (5 * k)) (nI ((N 0) + k))) = 0 then
      s_X4_plan_L1 N V A k0 l0 i0 n0 n (k + 1)
    else
      ((s_X4_refusalOfPlanned N (va_up V 0 (0 : Int32)) A k0.toNatClampNeg (i0.toNatClampNeg + (5 * k)) (nI ((N 0) + k))), N, (va_up V 0 (0 : Int32)), A)
def s_X4_plan (N : Nat → Nat) (V : Nat → Int32) (A : Nat → Nat → Int32)  (k0 : Int32) (l0 : Int32) (i0 : Int32) (n0 : Int32) : Int32 × St :=
  if (s_X4_isSheet N (va_up V 0 (0 : Int32)) A k0) = true then
    if (s_X1_isLane N (va_up V 0 (0 : Int32)) A l0) = true then
      if (s_X4_faultOfPlan N (va_up V 0 (0 : Int32)) A k0.toNatClampNeg l0 i0 n0) = 0 then
        s_X4_plan_L1 N V A k0 l0 i0 n0 n0.toNatClampNeg 0
      else
        ((s_X4_failed N (va_up V 0 (0 : Int32)) A (s_X4_faultOfPlan N (va_up V 0 (0 : Int32)) A k0.toNatClampNeg l0 i0 n0)).1, N, (s_X4_failed N (va_up V 0 (0 : Int32)) A (s_X4_faultOfPlan N (va_up V 0 (0 : Int32)) A k0.toNatClampNeg l0 i0 n0)).2.2.1, A)
    else
      ((-2 : Int32), N, (va_up V 0 (0 : Int32)), A)
  else
    ((-1 : Int32), N, (va_up V 0 (0 : Int32)), A)
set_option maxHeartbeats 4000000 in
set_option maxRecDepth 100000 in
theorem c_X4_plan (l : Launch) (D : va_G) (cI cZ cS : ClassId) (q : Nat → Nat) (N : Nat → Nat) (V : Nat → Int32) (A : Nat → Nat → Int32) (sz : Nat) (k0 : Int32) (l0 : Int32) (i0 : Int32) (n0 : Int32) (h_1 : okC N A) (h_2 : okV V) : Met l yX4_plan wsX4_plan ({ frames := 5, cells := 0, slots := 0, locals := 113 }) (va_Pc [.ref (q 0), .int k0, .int l0, .int i0, .int n0] (fun U => U.heap.size = sz ∧ PC D cI cZ cS q N V A U ∧ va_D (fun _ => True) (wC cI cS q N V A))) (va_Qi (fun r (_ : Unit) => r = (s_X4_plan N V A k0 l0 i0 n0).1) (fun _ t => PC D cI cZ cS q (s_X4_plan N V A k0 l0 i0 n0).2.1 (s_X4_plan N V A k0 l0 i0 n0).2.2.1 (s_X4_plan N V A k0 l0 i0 n0).2.2.2 t ∧ va_D (va_A (wC cI cS q N V A) sz) (wC cI cS q (s_X4_plan N V A k0 l0 i0 n0).2.1 (s_X4_plan N V A k0 l0 i0 n0).2.2.1 (s_X4_plan N V A k0 l0 i0 n0).2.2.2)) (va_A (wC cI cS q N V A) sz)) 0 0 (va_A (wC cI cS q N V A) sz) := by
  refine Met.ofW (cc := cX4_plan) (maxL := 9) (ret := (some .int)) (by decide) rfl ?_
  intro p e s m args below meth c s₁ B hml hv
  obtain ⟨rfl, hsz, ⟨hP, hK, hN⟩, hD0⟩ := hv
  have hx := B.exec
  have hb := B.bytes
  have hr := B.returns
  have hts := atoms_spec (ws := wsX4_plan) B.pre
  have hown : s.vm.findClass RX4 = some m.cls := findClass_of_methodNamed B.named
  have hlocks := B.notSynchronized
  have hin1 : ∀ w ∈ u_ws RX1 TX1 3, w ∈ wsX4_plan := by decide +kernel
  have hin2 : ∀ w ∈ u_ws RX2 TX2 9, w ∈ wsX4_plan := by decide +kernel
  have hin4 : ∀ w ∈ u_ws RX4 TX4 7, w ∈ wsX4_plan := by decide +kernel
  subst hsz
  have hD := hD0.self (sz := s.heap.size)
  generalize hAe : va_A (wC cI cS q N V A) s.heap.size = Ar at hD ⊢
  have hA : ∀ q : Nat, s.heap.size ≤ q → Ar q := fun q h => by rw [← hAe]; exact Or.inr h
  have hS : va_S Ar s.heap s.heap [] := va_S.rf
  obtain ⟨o1, o2, o3, o4, o5, o6, o7, o8, o9⟩ := id h_1
  have hl := lv_entry ([.ref (q 0), .int k0, .int l0, .int i0, .int n0]) (n := 9) (Nat.le_of_ble_eq_true rfl)
  rw [lg_entry_eq]
  generalize (lg_sl ([.ref (q 0), .int k0, .int l0, .int i0, .int n0]) ++ List.replicate (9 - (lg_sl ([.ref (q 0), .int k0, .int l0, .int i0, .int n0])).length) Slot.unset).toArray = ls at hl ⊢
  have hl : lv_has ls 9 [(0, .ref (q 0)), (1, .int k0), (2, .int l0), (3, .int i0), (4, .int n0)] := hl
  refine lv_aload_n hx hb dX4_plan_0 rfl (lv_at hl 0 rfl) ?_
  refine lv_iconst (v := (0)) hx hb dX4_plan_1 (by decide) ?_
  refine va_put (D := D) (ci := 4) (v := .int (0)) (ty := .int) (C := RX4) (T := TX4) (N := 7) hx hb hts hin4 tyX4 tyX4_ok nmX4 hown hK hP hD hS 0 rfl rfl 6 (by decide) (hts (.fieldLink RX4 47 "NeckShip" "latestFault" "I") (by decide +kernel)) (fun _ h9 => h9) rfl (by decide +kernel) rfl rfl (Nat.le_of_ble_eq_true rfl) dX4_plan_2 (fun H locs hP hD hS => ?_)
  have hP : va_P D vwCl (wC cI cS q N (va_up V 0 (0 : Int32)) A) H := hP
  have hD : va_D Ar (wC cI cS q N (va_up V 0 (0 : Int32)) A) := hD
  refine lv_aload_n hx hb dX4_plan_5 rfl (lv_at hl 0 rfl) ?_
  refine lv_iload_n hx hb dX4_plan_6 rfl (lv_at hl 1 rfl) ?_
  refine vp_callSi (W.runV (As := [.int k0]) (rest := []) ⟨hx, hb, hml, hown, hts⟩ (c_X4_isSheet l D cI cZ cS q N (va_up V 0 (0 : Int32)) A k0) (cwV 1 hts gX4_plan_X4_isSheet rfl rfl rfl (by decide +kernel) ⟨Nat.le_of_ble_eq_true rfl, Nat.le_of_ble_eq_true rfl⟩) (preC4 hK hN hP) rfl rfl hl.1 rfl (lv_room (Nat.le_of_ble_eq_true rfl)) dX4_plan_7 ⟨Nat.zero_le _, Nat.zero_le _⟩) (fun r_1 er_1 => ?_)
  subst er_1
  refine lz_if_ne (tgt := 15) hx hb dX4_plan_10 (by decide) (fun c_2 => ?_) (fun c_2 => ?_)
  · obtain ⟨hlt_k0, heq_k0⟩ := isSheet_t c_2
    have hl : lv_has ls 9 [(0, .ref (q 0)), (1, .int (nI k0.toNatClampNeg)), (2, .int l0), (3, .int i0), (4, .int n0)] := by rw [heq_k0]; exact hl
    refine lv_iload_n hx hb dX4_plan_15 rfl (lv_at hl 2 rfl) ?_
    refine vp_callSi (W.runS (As := [.int l0]) (rest := []) ⟨hx, hb, hml, hown, hts⟩ (c_X1_isLane l D cI cZ cS q N (va_up V 0 (0 : Int32)) A l0) (va_cwS 1 hts gX4_plan_X1_isLane rfl rfl rfl (by decide +kernel) ⟨Nat.le_of_ble_eq_true rfl, Nat.le_of_ble_eq_true rfl⟩) (preCS hK hN hP) rfl rfl hl.1 rfl (lv_room (Nat.le_of_ble_eq_true rfl)) dX4_plan_16 ⟨Nat.zero_le _, Nat.zero_le _⟩) (fun r_3 er_3 => ?_)
    subst er_3
    refine lz_if_ne (tgt := 25) hx hb dX4_plan_19 (by decide) (fun c_4 => ?_) (fun c_4 => ?_)
    · refine lv_aload_n hx hb dX4_plan_25 rfl (lv_at hl 0 rfl) ?_
      refine va_get (D := D) (ci := 4) (v := .ref (q 16)) (C := RX4) (T := TX4) (N := 7) hx hb hts hin4 hown hK hP 0 rfl rfl 3 (by decide) (hts (.fieldLink RX4 32 "NeckShip" "sheets" "[LNeckShip$Sheet;") (by decide +kernel)) (fun _ h9 => h9) rfl dX4_plan_26 ?_
      refine lv_iload_n hx hb dX4_plan_29 rfl (lv_at hl 1 rfl) ?_
      have hs_5 : k0.toNatClampNeg < 4 := (by omega)
      refine va_shN hs_5 hx hb hK hP dX4_plan_30 ?_
      refine lv_astore (lv' := [(5, .ref (q (17 + 2 * k0.toNatClampNeg))), (0, .ref (q 0)), (1, .int (nI k0.toNatClampNeg)), (2, .int l0), (3, .int i0), (4, .int n0)]) hx hb dX4_plan_31 hl (by decide) rfl (fun ls hl => ?_)
      refine lv_aload hx hb dX4_plan_33 (lv_at hl 0 rfl) ?_
      refine lv_iload_n hx hb dX4_plan_35 rfl (lv_at hl 3 rfl) ?_
      refine lv_iload_n hx hb dX4_plan_36 rfl (lv_at hl 4 rfl) ?_
      refine lv_iload hx hb dX4_plan_37 (lv_at hl 5 rfl) ?_
      refine vp_callSi (W.runS (As := [.ref (q (17 + 2 * k0.toNatClampNeg)), .int l0, .int i0, .int n0]) (rest := []) ⟨hx, hb, hml, hown, hts⟩ (c_X4_faultOfPlan l D cI cZ cS q N (va_up V 0 (0 : Int32)) A k0.toNatClampNeg l0 i0 n0 hs_5) (cwS 4 hts gX4_plan_X4_faultOfPlan rfl rfl rfl (by decide +kernel) ⟨Nat.le_of_ble_eq_true rfl, Nat.le_of_ble_eq_true rfl⟩) (preCS hK hN hP) rfl rfl hl.1 rfl (lv_room (Nat.le_of_ble_eq_true rfl)) dX4_plan_39 ⟨Nat.zero_le _, Nat.zero_le _⟩) (fun r_6 er_6 => ?_)
      subst er_6
      refine lv_istore (lv' := [(6, .int (s_X4_faultOfPlan N (va_up V 0 (0 : Int32)) A k0.toNatClampNeg l0 i0 n0)), (5, .ref (q (17 + 2 * k0.toNatClampNeg))), (0, .ref (q 0)), (1, .int (nI k0.toNatClampNeg)), (2, .int l0), (3, .int i0), (4, .int n0)]) hx hb dX4_plan_42 hl (by decide) rfl (fun ls hl => ?_)
      refine lv_iload hx hb dX4_plan_44 (lv_at hl 0 rfl) ?_
      refine lv_if_eq (tgt := 56) hx hb dX4_plan_46 (by decide) (fun c_7 => ?_) (fun c_7 => ?_)
      · obtain ⟨hle_a, heq_i0, heq_n0⟩ := faultOfPlan_0 (okV_0 h_2 0 _ (by omega)) c_7
        have hl : lv_has ls 9 [(6, .int (s_X4_faultOfPlan N (va_up V 0 (0 : Int32)) A k0.toNatClampNeg l0 i0 n0)), (5, .ref (q (17 + 2 * k0.toNatClampNeg))), (0, .ref (q 0)), (1, .int (nI k0.toNatClampNeg)), (2, .int l0), (3, .int (nI i0.toNatClampNeg)), (4, .int (nI n0.toNatClampNeg))] := by rw [heq_i0, heq_n0]; exact hl
        refine lv_iconst (v := (0)) hx hb dX4_plan_56 (by decide) ?_
        refine lv_istore (lv' := [(7, .int (0)), (6, .int (s_X4_faultOfPlan N (va_up V 0 (0 : Int32)) A k0.toNatClampNeg l0 i0 n0)), (5, .ref (q (17 + 2 * k0.toNatClampNeg))), (0, .ref (q 0)), (1, .int (nI k0.toNatClampNeg)), (2, .int l0), (3, .int (nI i0.toNatClampNeg)), (4, .int (nI n0.toNatClampNeg))]) hx hb dX4_plan_57 hl (by decide) rfl (fun ls hl => ?_)
        have LL1 : ∀ (n k : Nat)  (H : Heap) (locs : List Loc), va_P D vwCl (wC cI cS q N (va_up V 0 (0 : Int32)) A) H → va_D Ar (wC cI cS q N (va_up V 0 (0 : Int32)) A) → va_S Ar s.heap H locs → ∀ (ls : Array Slot), k + n = n0.toNatClampNeg → s_X4_plan N V A k0 l0 i0 n0 = s_X4_plan_L1 N V A k0 l0 i0 n0 n k → lv_has ls 9 [(7, .int (nI k)), (6, .int (s_X4_faultOfPlan N (va_up V 0 (0 : Int32)) A k0.toNatClampNeg l0 i0 n0)), (5, .ref (q (17 + 2 * k0.toNatClampNeg))), (0, .ref (q 0)), (1, .int (nI k0.toNatClampNeg)), (2, .int l0), (3, .int (nI i0.toNatClampNeg)), (4, .int (nI n0.toNatClampNeg))] → W p l e (headSpec wsX4_plan ({ frames := 5, cells := 0, slots := 0, locals := 113 })).room s m ([.ref (q 0), .int k0, .int l0, .int i0, .int n0] : List Value).toArray below meth c H locs 0 0 (MQ below (va_Qi (fun r (_ : Unit) => r = (s_X4_plan N V A k0 l0 i0 n0).1) (fun _ t => PC D cI cZ cS q (s_X4_plan N V A k0 l0 i0 n0).2.1 (s_X4_plan N V A k0 l0 i0 n0).2.2.1 (s_X4_plan N V A k0 l0 i0 n0).2.2.2 t ∧ va_D Ar (wC cI cS q (s_X4_plan N V A k0 l0 i0 n0).2.1 (s_X4_plan N V A k0 l0 i0 n0).2.2.1 (s_X4_plan N V A k0 l0 i0 n0).2.2.2)) Ar) ([.ref (q 0), .int k0, .int l0, .int i0, .int n0] : List Value).toArray s 0 0 Ar) (F0 m 59 ls []) := by
          intro n
          induction n with
          | zero =>
            intro k H locs hP hD hS ls hk hF hl
            refine lv_iload hx hb dX4_plan_59 (lv_at hl 0 rfl) ?_
            refine lv_iload hx hb dX4_plan_61 (lv_at hl 7 rfl) ?_
            refine lv_icmp_ge (tgt := 107) hx hb dX4_plan_63 (by decide) (fun _ => ?_) (fun c_8 => absurd (nI_le (by omega) (by omega)) c_8)
            refine lv_iconst (v := (0)) hx hb dX4_plan_107 (by decide) ?_
            refine lv_istore (lv' := [(7, .int (0)), (6, .int (s_X4_faultOfPlan N (va_up V 0 (0 : Int32)) A k0.toNatClampNeg l0 i0 n0)), (5, .ref (q (17 + 2 * k0.toNatClampNeg))), (0, .ref (q 0)), (1, .int (nI k0.toNatClampNeg)), (2, .int l0), (3, .int (nI i0.toNatClampNeg)), (4, .int (nI n0.toNatClampNeg))]) hx hb dX4_plan_108 hl (by decide) rfl (fun ls hl => ?_)
            have KL2 : ∀ (H : Heap) (locs : List Loc), va_P D vwCl (wC cI cS q ((s_X4_plan_L2 N V A k0 l0 i0 n0 k n0.toNatClampNeg 0 N (va_up V 0 (0 : Int32)) A).1) ((s_X4_plan_L2 N V A k0 l0 i0 n0 k n0.toNatClampNeg 0 N (va_up V 0 (0 : Int32)) A).2.1) ((s_X4_plan_L2 N V A k0 l0 i0 n0 k n0.toNatClampNeg 0 N (va_up V 0 (0 : Int32)) A).2.2)) H → va_D Ar (wC cI cS q ((s_X4_plan_L2 N V A k0 l0 i0 n0 k n0.toNatClampNeg 0 N (va_up V 0 (0 : Int32)) A).1) ((s_X4_plan_L2 N V A k0 l0 i0 n0 k n0.toNatClampNeg 0 N (va_up V 0 (0 : Int32)) A).2.1) ((s_X4_plan_L2 N V A k0 l0 i0 n0 k n0.toNatClampNeg 0 N (va_up V 0 (0 : Int32)) A).2.2)) → va_S Ar s.heap H locs → ∀ (ls : Array Slot), ((s_X4_plan_L2 N V A k0 l0 i0 n0 k n0.toNatClampNeg 0 N (va_up V 0 (0 : Int32)) A).1) 0 ≤ 10 → lv_has ls 9 [(6, .int (s_X4_faultOfPlan N (va_up V 0 (0 : Int32)) A k0.toNatClampNeg l0 i0 n0)), (5, .ref (q (17 + 2 * k0.toNatClampNeg))), (0, .ref (q 0)), (1, .int (nI k0.toNatClampNeg)), (2, .int l0), (3, .int (nI i0.toNatClampNeg)), (4, .int (nI n0.toNatClampNeg))] → W p l e (headSpec wsX4_plan ({ frames := 5, cells := 0, slots := 0, locals := 113 })).room s m ([.ref (q 0), .int k0, .int l0, .int i0, .int n0] : List Value).toArray below meth c H locs 0 0 (MQ below (va_Qi (fun r (_ : Unit) => r = (s_X4_plan N V A k0 l0 i0 n0).1) (fun _ t => PC D cI cZ cS q (s_X4_plan N V A k0 l0 i0 n0).2.1 (s_X4_plan N V A k0 l0 i0 n0).2.2.1 (s_X4_plan N V A k0 l0 i0 n0).2.2.2 t ∧ va_D Ar (wC cI cS q (s_X4_plan N V A k0 l0 i0 n0).2.1 (s_X4_plan N V A k0 l0 i0 n0).2.2.1 (s_X4_plan N V A k0 l0 i0 n0).2.2.2)) Ar) ([.ref (q 0), .int k0, .int l0, .int i0, .int n0] : List Value).toArray s 0 0 Ar) (F0 m 138 ls []) := by
              intro H locs hP hD hS ls hI hl
              refine lv_aload_n hx hb dX4_plan_138 rfl (lv_at hl 2 rfl) ?_
              refine va_get (D := D) (ci := 4) (v := .ref (q 2)) (C := RX4) (T := TX4) (N := 7) hx hb hts hin4 hown hK hP 0 rfl rfl 1 (by decide) (hts (.fieldLink RX4 18 "NeckShip" "spars" "LNeckShip$Spars;") (by decide +kernel)) (fun _ h9 => h9) rfl dX4_plan_139 ?_
              refine va_get (D := D) (ci := 2) (v := .int (nI ((s_X4_plan_L2 N V A k0 l0 i0 n0 k n0.toNatClampNeg 0 N (va_up V 0 (0 : Int32)) A).1 0))) (C := RX2) (T := TX2) (N := 9) hx hb hts hin2 hown hK hP 2 rfl rfl 7 (by decide) (hts (.fieldLink RX4 61 "NeckShip$Spars" "count" "I") (by decide +kernel)) (fun _ h9 => h9) rfl dX4_plan_142 ?_
              have hEE : s_X4_plan N V A k0 l0 i0 n0 = (nI ((s_X4_plan_L2 N V A k0 l0 i0 n0 k n0.toNatClampNeg 0 N (va_up V 0 (0 : Int32)) A).1 0), (s_X4_plan_L2 N V A k0 l0 i0 n0 k n0.toNatClampNeg 0 N (va_up V 0 (0 : Int32)) A).1, (s_X4_plan_L2 N V A k0 l0 i0 n0 k n0.toNatClampNeg 0 N (va_up V 0 (0 : Int32)) A).2.1, (s_X4_plan_L2 N V A k0 l0 i0 n0 k n0.toNatClampNeg 0 N (va_up V 0 (0 : Int32)) A).2.2) := (by rw [hF, s_X4_plan_L1])
              rw [hEE]
              exact W.iret (v := nI ((s_X4_plan_L2 N V A k0 l0 i0 n0 k n0.toNatClampNeg 0 N (va_up V 0 (0 : Int32)) A).1 0)) hx hb hr (fun t ht hW => ⟨⟨_, (), rfl, rfl, ⟨by rw [ht]; exact hP, va_K.moved hW.alike hK, hN.warm hW⟩, hD⟩, hS.F ht⟩) hS.2.2 dX4_plan_145
            have LL2 : ∀ (n2 k2 : Nat) (N1 : Nat → Nat) (V1 : Nat → Int32) (A1 : Nat → Nat → Int32) (H : Heap) (locs : List Loc), va_P D vwCl (wC cI cS q N1 V1 A1) H → va_D Ar (wC cI cS q N1 V1 A1) → va_S Ar s.heap H locs → ∀ (ls : Array Slot), k2 + n2 = n0.toNatClampNeg → N1 0 ≤ 10 → s_X4_plan_L2 N V A k0 l0 i0 n0 k n0.toNatClampNeg 0 N (va_up V 0 (0 : Int32)) A = s_X4_plan_L2 N V A k0 l0 i0 n0 k n2 k2 N1 V1 A1 → lv_has ls 9 [(7, .int (nI k2)), (6, .int (s_X4_faultOfPlan N (va_up V 0 (0 : Int32)) A k0.toNatClampNeg l0 i0 n0)), (5, .ref (q (17 + 2 * k0.toNatClampNeg))), (0, .ref (q 0)), (1, .int (nI k0.toNatClampNeg)), (2, .int l0), (3, .int (nI i0.toNatClampNeg)), (4, .int (nI n0.toNatClampNeg))] → W p l e (headSpec wsX4_plan ({ frames := 5, cells := 0, slots := 0, locals := 113 })).room s m ([.ref (q 0), .int k0, .int l0, .int i0, .int n0] : List Value).toArray below meth c H locs 0 0 (MQ below (va_Qi (fun r (_ : Unit) => r = (s_X4_plan N V A k0 l0 i0 n0).1) (fun _ t => PC D cI cZ cS q (s_X4_plan N V A k0 l0 i0 n0).2.1 (s_X4_plan N V A k0 l0 i0 n0).2.2.1 (s_X4_plan N V A k0 l0 i0 n0).2.2.2 t ∧ va_D Ar (wC cI cS q (s_X4_plan N V A k0 l0 i0 n0).2.1 (s_X4_plan N V A k0 l0 i0 n0).2.2.1 (s_X4_plan N V A k0 l0 i0 n0).2.2.2)) Ar) ([.ref (q 0), .int k0, .int l0, .int i0, .int n0] : List Value).toArray s 0 0 Ar) (F0 m 110 ls []) := by
              intro n2
              induction n2 with
              | zero =>
                intro k2 N1 V1 A1 H locs hP hD hS ls hk hI hF hl
                refine lv_iload hx hb dX4_plan_110 (lv_at hl 0 rfl) ?_
                refine lv_iload hx hb dX4_plan_112 (lv_at hl 7 rfl) ?_
                refine lv_icmp_ge (tgt := 138) hx hb dX4_plan_114 (by decide) (fun _ => ?_) (fun c_9 => absurd (nI_le (by omega) (by omega)) c_9)
                have hF : s_X4_plan_L2 N V A k0 l0 i0 n0 k n0.toNatClampNeg 0 N (va_up V 0 (0 : Int32)) A = (N1, V1, A1) := hF.trans (by rw [s_X4_plan_L2])
                have hF0 := congrArg (fun z => z.1) hF
                have hF1 := congrArg (fun z => z.2.1) hF
                have hF2 := congrArg (fun z => z.2.2) hF
                dsimp only at hF0 hF1 hF2
                exact KL2 _ _ (by (try rw [hF0]); (try rw [hF1]); (try rw [hF2]); exact hP) (by (try rw [hF0]); (try rw [hF1]); (try rw [hF2]); exact hD) hS _ (by (try rw [hF0]); (try rw [hF1]); (try rw [hF2]); exact hI) (by (try rw [hF0]); (try rw [hF1]); (try rw [hF2]); exact lv_sub hl [1, 2, 3, 4, 5, 6, 7] rfl)
              | succ n2 ih =>
                intro k2 N1 V1 A1 H locs hP hD hS ls hk hI hF hl
                refine lv_iload hx hb dX4_plan_110 (lv_at hl 0 rfl) ?_
                refine lv_iload hx hb dX4_plan_112 (lv_at hl 7 rfl) ?_
                refine lv_icmp_ge (tgt := 138) hx hb dX4_plan_114 (by decide) (fun c_10 => absurd c_10 (nI_ge (by omega) (by omega))) (fun _ => ?_)
                refine lv_aload_n hx hb dX4_plan_117 rfl (lv_at hl 3 rfl) ?_
                refine lv_aload hx hb dX4_plan_118 (lv_at hl 2 rfl) ?_
                refine va_get (D := D) (ci := 1) (v := .ref (q (18 + 2 * k0.toNatClampNeg))) (C := RX1) (T := TX1) (N := 3) hx hb hts hin1 hown hK hP (17 + 2 * k0.toNatClampNeg) (wC_sheet hs_5) rfl 0 (by decide) (hts (.fieldLink RX4 86 "NeckShip$Sheet" "cells" "[I") (by decide +kernel)) (fun _ h9 => h9) rfl dX4_plan_120 ?_
                refine lv_iload_n hx hb dX4_plan_123 rfl (lv_at hl 6 rfl) ?_
                refine lv_iconst (v := (5)) hx hb dX4_plan_124 (by decide) ?_
                refine lv_iload hx hb dX4_plan_125 (lv_at hl 0 rfl) ?_
                refine lv_imul hx hb dX4_plan_127 ?_
                rw [show (5 : Int32) * nI k2 = nI (5 * k2) from pk_mul 5 k2]
                refine lv_iadd hx hb dX4_plan_128 ?_
                rw [nI_add i0.toNatClampNeg (5 * k2)]
                refine callCv (va_runV (As := [.ref (q (18 + 2 * k0.toNatClampNeg)), .int (nI (i0.toNatClampNeg + (5 * k2)))]) (rest := []) ⟨hx, hb, hml, hown, hts⟩ (c_X4_addPlanned l D cI cZ cS q N1 V1 A1 H.size k0.toNatClampNeg (i0.toNatClampNeg + (5 * k2)) hs_5 (by omega) (by omega)) (cwV 2 hts gX4_plan_X4_addPlanned rfl rfl rfl (by decide +kernel) ⟨Nat.le_of_ble_eq_true rfl, Nat.le_of_ble_eq_true rfl⟩) (preCm4 hK hN hP hD) rfl rfl hl.1 rfl (lv_room (Nat.le_of_ble_eq_true rfl)) dX4_plan_129 ⟨Nat.zero_le _, Nat.zero_le _⟩) hD hS hA (fun H locs hP hD hS => ?_)
                refine lv_iinc (v := nI (k2 + 1)) (lv' := [(7, .int (nI (k2 + 1))), (6, .int (s_X4_faultOfPlan N (va_up V 0 (0 : Int32)) A k0.toNatClampNeg l0 i0 n0)), (5, .ref (q (17 + 2 * k0.toNatClampNeg))), (0, .ref (q 0)), (1, .int (nI k0.toNatClampNeg)), (2, .int l0), (3, .int (nI i0.toNatClampNeg)), (4, .int (nI n0.toNatClampNeg))]) hx hb dX4_plan_132 hl (k := 0) rfl (nI_1 k2) (by decide) rfl (fun ls hl => ?_)
                refine lv_goto (tgt := 110) hx hb dX4_plan_135 (by decide) ?_
                exact ih (k2 + 1) ((s_X4_addPlanned N1 V1 A1 k0.toNatClampNeg (i0.toNatClampNeg + (5 * k2))).1) ((s_X4_addPlanned N1 V1 A1 k0.toNatClampNeg (i0.toNatClampNeg + (5 * k2))).2.1) ((s_X4_addPlanned N1 V1 A1 k0.toNatClampNeg (i0.toNatClampNeg + (5 * k2))).2.2) _ _ hP hD hS _ (by omega) (x2add_N hI) (hF.trans (by rw [s_X4_plan_L2])) (lv_sub hl [0, 1, 2, 3, 4, 5, 6, 7] rfl)
            exact LL2 n0.toNatClampNeg 0 N (va_up V 0 (0 : Int32)) A _ _ hP hD hS _ (by omega) o1 rfl (lv_sub hl [0, 1, 2, 3, 4, 5, 6, 7] rfl)
          | succ n ih =>
            intro k H locs hP hD hS ls hk hF hl
            refine lv_iload hx hb dX4_plan_59 (lv_at hl 0 rfl) ?_
            refine lv_iload hx hb dX4_plan_61 (lv_at hl 7 rfl) ?_
            refine lv_icmp_ge (tgt := 107) hx hb dX4_plan_63 (by decide) (fun c_11 => absurd c_11 (nI_ge (by omega) (by omega))) (fun _ => ?_)
            refine lv_aload_n hx hb dX4_plan_66 rfl (lv_at hl 3 rfl) ?_
            refine lv_aload hx hb dX4_plan_67 (lv_at hl 2 rfl) ?_
            refine va_get (D := D) (ci := 1) (v := .ref (q (18 + 2 * k0.toNatClampNeg))) (C := RX1) (T := TX1) (N := 3) hx hb hts hin1 hown hK hP (17 + 2 * k0.toNatClampNeg) (wC_sheet hs_5) rfl 0 (by decide) (hts (.fieldLink RX4 86 "NeckShip$Sheet" "cells" "[I") (by decide +kernel)) (fun _ h9 => h9) rfl dX4_plan_69 ?_
            refine lv_iload_n hx hb dX4_plan_72 rfl (lv_at hl 6 rfl) ?_
            refine lv_iconst (v := (5)) hx hb dX4_plan_73 (by decide) ?_
            refine lv_iload hx hb dX4_plan_74 (lv_at hl 0 rfl) ?_
            refine lv_imul hx hb dX4_plan_76 ?_
            rw [show (5 : Int32) * nI k = nI (5 * k) from pk_mul 5 k]
            refine lv_iadd hx hb dX4_plan_77 ?_
            rw [nI_add i0.toNatClampNeg (5 * k)]
            refine lv_aload_n hx hb dX4_plan_78 rfl (lv_at hl 3 rfl) ?_
            refine va_get (D := D) (ci := 4) (v := .ref (q 2)) (C := RX4) (T := TX4) (N := 7) hx hb hts hin4 hown hK hP 0 rfl rfl 1 (by decide) (hts (.fieldLink RX4 18 "NeckShip" "spars" "LNeckShip$Spars;") (by decide +kernel)) (fun _ h9 => h9) rfl dX4_plan_79 ?_
            refine va_get (D := D) (ci := 2) (v := .int (nI (N 0))) (C := RX2) (T := TX2) (N := 9) hx hb hts hin2 hown hK hP 2 rfl rfl 7 (by decide) (hts (.fieldLink RX4 61 "NeckShip$Spars" "count" "I") (by decide +kernel)) (fun _ h9 => h9) rfl dX4_plan_82 ?_
            refine lv_iload hx hb dX4_plan_85 (lv_at hl 0 rfl) ?_
            refine lv_iadd hx hb dX4_plan_87 ?_
            rw [nI_add (N 0) k]
            refine vp_callSi (W.runV (As := [.ref (q (18 + 2 * k0.toNatClampNeg)), .int (nI (i0.toNatClampNeg + (5 * k))), .int (nI ((N 0) + k))]) (rest := []) ⟨hx, hb, hml, hown, hts⟩ (c_X4_refusalOfPlanned l D cI cZ cS q N (va_up V 0 (0 : Int32)) A k0.toNatClampNeg (i0.toNatClampNeg + (5 * k)) (nI ((N 0) + k)) hs_5 (by omega)) (cwV 3 hts gX4_plan_X4_refusalOfPlanned rfl rfl rfl (by decide +kernel) ⟨Nat.le_of_ble_eq_true rfl, Nat.le_of_ble_eq_true rfl⟩) (preC4 hK hN hP) rfl rfl hl.1 rfl (lv_room (Nat.le_of_ble_eq_true rfl)) dX4_plan_88 ⟨Nat.zero_le _, Nat.zero_le _⟩) (fun r_12 er_12 => ?_)
            subst er_12
            refine lv_istore (lv' := [(8, .int (s_X4_refusalOfPlanned N (va_up V 0 (0 : Int32)) A k0.toNatClampNeg (i0.toNatClampNeg + (5 * k)) (nI ((N 0) + k)))), (7, .int (nI k)), (6, .int (s_X4_faultOfPlan N (va_up V 0 (0 : Int32)) A k0.toNatClampNeg l0 i0 n0)), (5, .ref (q (17 + 2 * k0.toNatClampNeg))), (0, .ref (q 0)), (1, .int (nI k0.toNatClampNeg)), (2, .int l0), (3, .int (nI i0.toNatClampNeg)), (4, .int (nI n0.toNatClampNeg))]) hx hb dX4_plan_91 hl (by decide) rfl (fun ls hl => ?_)
            refine lv_iload hx hb dX4_plan_93 (lv_at hl 0 rfl) ?_
            refine lv_if_eq (tgt := 101) hx hb dX4_plan_95 (by decide) (fun c_13 => ?_) (fun c_13 => ?_)
            · refine lv_iinc (v := nI (k + 1)) (lv' := [(7, .int (nI (k + 1))), (8, .int (s_X4_refusalOfPlanned N (va_up V 0 (0 : Int32)) A k0.toNatClampNeg (i0.toNatClampNeg + (5 * k)) (nI ((N 0) + k)))), (6, .int (s_X4_faultOfPlan N (va_up V 0 (0 : Int32)) A k0.toNatClampNeg l0 i0 n0)), (5, .ref (q (17 + 2 * k0.toNatClampNeg))), (0, .ref (q 0)), (1, .int (nI k0.toNatClampNeg)), (2, .int l0), (3, .int (nI i0.toNatClampNeg)), (4, .int (nI n0.toNatClampNeg))]) hx hb dX4_plan_101 hl (k := 1) rfl (nI_1 k) (by decide) rfl (fun ls hl => ?_)
              refine lv_goto (tgt := 59) hx hb dX4_plan_104 (by decide) ?_
              exact ih (k + 1) _ _ hP hD hS _ (by omega) (hF.trans (by rw [s_X4_plan_L1, if_pos c_13])) (lv_sub hl [0, 2, 3, 4, 5, 6, 7, 8] rfl)
            · refine lv_iload hx hb dX4_plan_98 (lv_at hl 0 rfl) ?_
              have hEE : s_X4_plan N V A k0 l0 i0 n0 = ((s_X4_refusalOfPlanned N (va_up V 0 (0 : Int32)) A k0.toNatClampNeg (i0.toNatClampNeg + (5 * k)) (nI ((N 0) + k))), N, (va_up V 0 (0 : Int32)), A) := (by rw [hF, s_X4_plan_L1, if_neg c_13])
              rw [hEE]
              exact W.iret (v := (s_X4_refusalOfPlanned N (va_up V 0 (0 : Int32)) A k0.toNatClampNeg (i0.toNatClampNeg + (5 * k)) (nI ((N 0) + k)))) hx hb hr (fun t ht hW => ⟨⟨_, (), rfl, rfl, ⟨by rw [ht]; exact hP, va_K.moved hW.alike hK, hN.warm hW⟩, hD⟩, hS.F ht⟩) hS.2.2 dX4_plan_100
        exact LL1 n0.toNatClampNeg 0  _ _ hP hD hS _ (by omega) (by rw [s_X4_plan, if_pos c_2, if_pos c_4, if_pos c_7]) (lv_sub hl [0, 1, 2, 3, 4, 5, 6, 7] rfl)
      · refine lv_aload_n hx hb dX4_plan_49 rfl (lv_at hl 2 rfl) ?_
        refine lv_iload hx hb dX4_plan_50 (lv_at hl 0 rfl) ?_
        refine callCi (va_runV (As := [.int (s_X4_faultOfPlan N (va_up V 0 (0 : Int32)) A k0.toNatClampNeg l0 i0 n0)]) (rest := []) ⟨hx, hb, hml, hown, hts⟩ (c_X4_failed l D cI cZ cS q N (va_up V 0 (0 : Int32)) A H.size (s_X4_faultOfPlan N (va_up V 0 (0 : Int32)) A k0.toNatClampNeg l0 i0 n0)) (cwV 1 hts gX4_plan_X4_failed rfl rfl rfl (by decide +kernel) ⟨Nat.le_of_ble_eq_true rfl, Nat.le_of_ble_eq_true rfl⟩) (preCm4 hK hN hP hD) rfl rfl hl.1 rfl (lv_room (Nat.le_of_ble_eq_true rfl)) dX4_plan_52 ⟨Nat.zero_le _, Nat.zero_le _⟩) hD hS hA (fun H locs hP hD hS => ?_)
        have hP : va_P D vwCl (wC cI cS q N ((s_X4_failed N (va_up V 0 (0 : Int32)) A (s_X4_faultOfPlan N (va_up V 0 (0 : Int32)) A k0.toNatClampNeg l0 i0 n0)).2.2.1) A) H := hP
        have hD : va_D Ar (wC cI cS q N ((s_X4_failed N (va_up V 0 (0 : Int32)) A (s_X4_faultOfPlan N (va_up V 0 (0 : Int32)) A k0.toNatClampNeg l0 i0 n0)).2.2.1) A) := hD
        have hEE : s_X4_plan N V A k0 l0 i0 n0 = ((s_X4_failed N (va_up V 0 (0 : Int32)) A (s_X4_faultOfPlan N (va_up V 0 (0 : Int32)) A k0.toNatClampNeg l0 i0 n0)).1, N, (s_X4_failed N (va_up V 0 (0 : Int32)) A (s_X4_faultOfPlan N (va_up V 0 (0 : Int32)) A k0.toNatClampNeg l0 i0 n0)).2.2.1, A) := (by rw [s_X4_plan, if_pos c_2, if_pos c_4, if_neg c_7])
        rw [hEE]
        exact W.iret (v := (s_X4_failed N (va_up V 0 (0 : Int32)) A (s_X4_faultOfPlan N (va_up V 0 (0 : Int32)) A k0.toNatClampNeg l0 i0 n0)).1) hx hb hr (fun t ht hW => ⟨⟨_, (), rfl, rfl, ⟨by rw [ht]; exact hP, va_K.moved hW.alike hK, hN.warm hW⟩, hD⟩, hS.F ht⟩) hS.2.2 dX4_plan_55
    · refine lv_bipush (v := (-2)) hx hb dX4_plan_22 (by decide) ?_
      have hEE : s_X4_plan N V A k0 l0 i0 n0 = ((-2 : Int32), N, (va_up V 0 (0 : Int32)), A) := (by rw [s_X4_plan, if_pos c_2, if_neg (nb c_4)])
      rw [hEE]
      exact W.iret (v := (-2 : Int32)) hx hb hr (fun t ht hW => ⟨⟨_, (), rfl, rfl, ⟨by rw [ht]; exact hP, va_K.moved hW.alike hK, hN.warm hW⟩, hD⟩, hS.F ht⟩) hS.2.2 dX4_plan_24
  · refine lv_iconst (v := (-1)) hx hb dX4_plan_13 (by decide) ?_
    have hEE : s_X4_plan N V A k0 l0 i0 n0 = ((-1 : Int32), N, (va_up V 0 (0 : Int32)), A) := (by rw [s_X4_plan, if_neg (nb c_2)])
    rw [hEE]
    exact W.iret (v := (-1 : Int32)) hx hb hr (fun t ht hW => ⟨⟨_, (), rfl, rfl, ⟨by rw [ht]; exact hP, va_K.moved hW.alike hK, hN.warm hW⟩, hD⟩, hS.F ht⟩) hS.2.2 dX4_plan_14
def s_X4_order_L1 (N : Nat → Nat) (V : Nat → Int32) (A : Nat → Nat → Int32) (i0 : Int32) : Nat → Nat → Int32 → Int32 → Int32
  | 0, k, a, b =>
    b
  | n + 1, k, a, b =>
    if (s_X2_nextOfOrder N V A a (nI (s_X3_raised N V A))) = (-9 : Int32) then
      (-9 : Int32)
    else
      if nI k = i0 then
        s_X4_order_L1 N V A i0 n (k + 1) (a ||| ((1 : Int32) <<< ((s_X2_nextOfOrder N V A a (nI (s_X3_raised N V A))) &&& 31))) (s_X2_nextOfOrder N V A a (nI (s_X3_raised N V A)))
      else
        s_X4_order_L1 N V A i0 n (k + 1) (a ||| ((1 : Int32) <<< ((s_X2_nextOfOrder N V A a (nI (s_X3_raised N V A))) &&& 31))) b
def s_X4_order (N : Nat → Nat) (V : Nat → Int32) (A : Nat → Nat → Int32)  (i0 : Int32) : Int32 :=
  if i0 < 0 then
    (-1 : Int32)
  else
    if i0 < nI (s_J6_bitCount_0f7a4 (s_X2_lying N V A)) then
      s_X4_order_L1 N V A i0 (s_J6_bitCount_0f7a4 (s_X2_lying N V A)) 0 (nI (N 2)) (-9 : Int32)
    else
      (-1 : Int32)
set_option maxHeartbeats 4000000 in
set_option maxRecDepth 100000 in
theorem c_X4_order (l : Launch) (D : va_G) (cI cZ cS : ClassId) (q : Nat → Nat) (N : Nat → Nat) (V : Nat → Int32) (A : Nat → Nat → Int32) (i0 : Int32) (h_1 : okC N A) : Met l yX4_order wsX4_order ({ frames := 3, cells := 0, slots := 0, locals := 67 }) (va_Pc [.ref (q 0), .int i0] (PC D cI cZ cS q N V A)) (vp_Si (fun r => r = (s_X4_order N V A i0))) 0 0 (fun _ => False) := by
  refine Met.ofW (cc := cX4_order) (maxL := 8) (ret := (some .int)) (by decide) rfl ?_
  intro p e s m args below meth c s₁ B hml hv
  obtain ⟨rfl, hP, hK, hN⟩ := hv
  have hx := B.exec
  have hb := B.bytes
  have hr := B.returns
  have hts := atoms_spec (ws := wsX4_order) B.pre
  have hown : s.vm.findClass RX4 = some m.cls := findClass_of_methodNamed B.named
  have hlocks := B.notSynchronized
  have hin2 : ∀ w ∈ u_ws RX2 TX2 9, w ∈ wsX4_order := by decide +kernel
  have hin4 : ∀ w ∈ u_ws RX4 TX4 7, w ∈ wsX4_order := by decide +kernel
  obtain ⟨o1, o2, o3, o4, o5, o6, o7, o8, o9⟩ := id h_1
  have hm : s_J6_bitCount_0f7a4 (s_X2_lying N V A) ≤ 16 := pop16_le _
  have hl := lv_entry ([.ref (q 0), .int i0]) (n := 8) (Nat.le_of_ble_eq_true rfl)
  rw [lg_entry_eq]
  generalize (lg_sl ([.ref (q 0), .int i0]) ++ List.replicate (8 - (lg_sl ([.ref (q 0), .int i0])).length) Slot.unset).toArray = ls at hl ⊢
  have hl : lv_has ls 8 [(0, .ref (q 0)), (1, .int i0)] := hl
  refine lv_aload_n hx hb dX4_order_0 rfl (lv_at hl 0 rfl) ?_
  refine va_get (D := D) (ci := 4) (v := .ref (q 2)) (C := RX4) (T := TX4) (N := 7) hx hb hts hin4 hown hK hP 0 rfl rfl 1 (by decide) (hts (.fieldLink RX4 18 "NeckShip" "spars" "LNeckShip$Spars;") (by decide +kernel)) (fun _ h9 => h9) rfl dX4_order_1 ?_
  refine vp_callSi (W.runV (As := []) (rest := []) ⟨hx, hb, hml, hown, hts⟩ (c_X2_lying l D cI cZ cS q N V A (by omega)) (cwV 0 hts gX4_order_X2_lying rfl rfl rfl (by decide +kernel) ⟨Nat.le_of_ble_eq_true rfl, Nat.le_of_ble_eq_true rfl⟩) (preC2 hK hN hP) rfl rfl hl.1 rfl (lv_room (Nat.le_of_ble_eq_true rfl)) dX4_order_4 ⟨Nat.zero_le _, Nat.zero_le _⟩) (fun r_1 er_1 => ?_)
  subst er_1
  refine vp_callSi (W.runS (As := [.int (nI (s_X2_lying N V A))]) (rest := []) ⟨hx, hb, hml, hown, hts⟩ (c_J6_bitCount_0f7a4 l (s_X2_lying N V A) (lying_lt o1)) (va_cwS 1 hts gX4_order_J6_bitCount_0f7a4 rfl rfl rfl (by decide +kernel) ⟨Nat.le_of_ble_eq_true rfl, Nat.le_of_ble_eq_true rfl⟩) (preEq) rfl rfl hl.1 rfl (lv_room (Nat.le_of_ble_eq_true rfl)) dX4_order_7 ⟨Nat.zero_le _, Nat.zero_le _⟩) (fun r_2 er_2 => ?_)
  subst er_2
  refine lv_istore_n (lv' := [(2, .int (nI (s_J6_bitCount_0f7a4 (s_X2_lying N V A)))), (0, .ref (q 0)), (1, .int i0)]) hx hb dX4_order_10 rfl hl (by decide) rfl (fun ls hl => ?_)
  refine lv_iload_n hx hb dX4_order_11 rfl (lv_at hl 2 rfl) ?_
  refine lv_if_lt (tgt := 20) hx hb dX4_order_12 (by decide) (fun c_3 => ?_) (fun c_3 => ?_)
  · refine lv_iconst (v := (-1)) hx hb dX4_order_20 (by decide) ?_
    exact W.iret (v := (-1 : Int32)) hx hb hr (fun t ht hW => ⟨_, rfl, (by rw [s_X4_order, if_pos c_3]), ht⟩) (fun _ h => by cases h) dX4_order_21
  · refine lv_iload_n hx hb dX4_order_15 rfl (lv_at hl 2 rfl) ?_
    refine lv_iload_n hx hb dX4_order_16 rfl (lv_at hl 0 rfl) ?_
    refine lv_icmp_lt (tgt := 22) hx hb dX4_order_17 (by decide) (fun c_4 => ?_) (fun c_4 => ?_)
    · refine lv_aload_n hx hb dX4_order_22 rfl (lv_at hl 1 rfl) ?_
      refine va_get (D := D) (ci := 4) (v := .ref (q 2)) (C := RX4) (T := TX4) (N := 7) hx hb hts hin4 hown hK hP 0 rfl rfl 1 (by decide) (hts (.fieldLink RX4 18 "NeckShip" "spars" "LNeckShip$Spars;") (by decide +kernel)) (fun _ h9 => h9) rfl dX4_order_23 ?_
      refine va_get (D := D) (ci := 2) (v := .int (nI (N 2))) (C := RX2) (T := TX2) (N := 9) hx hb hts hin2 hown hK hP 2 rfl rfl 8 (by decide) (hts (.fieldLink RX4 125 "NeckShip$Spars" "up" "I") (by decide +kernel)) (fun _ h9 => h9) rfl dX4_order_26 ?_
      refine lv_istore_n (lv' := [(3, .int (nI (N 2))), (2, .int (nI (s_J6_bitCount_0f7a4 (s_X2_lying N V A)))), (0, .ref (q 0)), (1, .int i0)]) hx hb dX4_order_29 rfl hl (by decide) rfl (fun ls hl => ?_)
      refine lv_aload_n hx hb dX4_order_30 rfl (lv_at hl 2 rfl) ?_
      refine va_get (D := D) (ci := 4) (v := .ref (q 10)) (C := RX4) (T := TX4) (N := 7) hx hb hts hin4 hown hK hP 0 rfl rfl 2 (by decide) (hts (.fieldLink RX4 25 "NeckShip" "threads" "LNeckShip$Threads;") (by decide +kernel)) (fun _ h9 => h9) rfl dX4_order_31 ?_
      refine vp_callSi (W.runV (As := []) (rest := []) ⟨hx, hb, hml, hown, hts⟩ (c_X3_raised l D cI cZ cS q N V A h_1) (cwV 0 hts gX4_order_X3_raised rfl rfl rfl (by decide +kernel) ⟨Nat.le_of_ble_eq_true rfl, Nat.le_of_ble_eq_true rfl⟩) (preC3 hK hN hP) rfl rfl hl.1 rfl (lv_room (Nat.le_of_ble_eq_true rfl)) dX4_order_34 ⟨Nat.zero_le _, Nat.zero_le _⟩) (fun r_5 er_5 => ?_)
      subst er_5
      refine lv_istore (lv' := [(4, .int (nI (s_X3_raised N V A))), (3, .int (nI (N 2))), (2, .int (nI (s_J6_bitCount_0f7a4 (s_X2_lying N V A)))), (0, .ref (q 0)), (1, .int i0)]) hx hb dX4_order_37 hl (by decide) rfl (fun ls hl => ?_)
      refine lv_bipush (v := (-9)) hx hb dX4_order_39 (by decide) ?_
      refine lv_istore (lv' := [(5, .int (-9)), (4, .int (nI (s_X3_raised N V A))), (3, .int (nI (N 2))), (2, .int (nI (s_J6_bitCount_0f7a4 (s_X2_lying N V A)))), (0, .ref (q 0)), (1, .int i0)]) hx hb dX4_order_41 hl (by decide) rfl (fun ls hl => ?_)
      refine lv_iconst (v := (0)) hx hb dX4_order_43 (by decide) ?_
      refine lv_istore (lv' := [(6, .int (0)), (5, .int (-9)), (4, .int (nI (s_X3_raised N V A))), (3, .int (nI (N 2))), (2, .int (nI (s_J6_bitCount_0f7a4 (s_X2_lying N V A)))), (0, .ref (q 0)), (1, .int i0)]) hx hb dX4_order_44 hl (by decide) rfl (fun ls hl => ?_)
      have LL1 : ∀ (n k : Nat) (a : Int32) (b : Int32) (ls : Array Slot), k + n = s_J6_bitCount_0f7a4 (s_X2_lying N V A) → s_X4_order N V A i0 = s_X4_order_L1 N V A i0 n k a b → lv_has ls 8 [(6, .int (nI k)), (5, .int b), (4, .int (nI (s_X3_raised N V A))), (3, .int a), (2, .int (nI (s_J6_bitCount_0f7a4 (s_X2_lying N V A)))), (0, .ref (q 0)), (1, .int i0)] → W p l e (headSpec wsX4_order ({ frames := 3, cells := 0, slots := 0, locals := 67 })).room s m ([.ref (q 0), .int i0] : List Value).toArray below meth c s.heap [] 0 0 (MQ below (vp_Si (fun r => r = (s_X4_order N V A i0))) ([.ref (q 0), .int i0] : List Value).toArray s 0 0 (fun _ => False)) (F0 m 46 ls []) := by
        intro n
        induction n with
        | zero =>
          intro k a b ls hk hF hl
          refine lv_iload hx hb dX4_order_46 (lv_at hl 0 rfl) ?_
          refine lv_iload_n hx hb dX4_order_48 rfl (lv_at hl 4 rfl) ?_
          refine lv_icmp_ge (tgt := 97) hx hb dX4_order_49 (by decide) (fun _ => ?_) (fun c_6 => absurd (nI_le (by omega) (by omega)) c_6)
          refine lv_iload hx hb dX4_order_97 (lv_at hl 1 rfl) ?_
          exact W.iret (v := b) hx hb hr (fun t ht hW => ⟨_, rfl, (by rw [hF, s_X4_order_L1]), ht⟩) (fun _ h => by cases h) dX4_order_99
        | succ n ih =>
          intro k a b ls hk hF hl
          refine lv_iload hx hb dX4_order_46 (lv_at hl 0 rfl) ?_
          refine lv_iload_n hx hb dX4_order_48 rfl (lv_at hl 4 rfl) ?_
          refine lv_icmp_ge (tgt := 97) hx hb dX4_order_49 (by decide) (fun c_7 => absurd c_7 (nI_ge (by omega) (by omega))) (fun _ => ?_)
          refine lv_aload_n hx hb dX4_order_52 rfl (lv_at hl 5 rfl) ?_
          refine va_get (D := D) (ci := 4) (v := .ref (q 2)) (C := RX4) (T := TX4) (N := 7) hx hb hts hin4 hown hK hP 0 rfl rfl 1 (by decide) (hts (.fieldLink RX4 18 "NeckShip" "spars" "LNeckShip$Spars;") (by decide +kernel)) (fun _ h9 => h9) rfl dX4_order_53 ?_
          refine lv_iload_n hx hb dX4_order_56 rfl (lv_at hl 3 rfl) ?_
          refine lv_iload hx hb dX4_order_57 (lv_at hl 2 rfl) ?_
          refine vp_callSi (W.runV (As := [.int a, .int (nI (s_X3_raised N V A))]) (rest := []) ⟨hx, hb, hml, hown, hts⟩ (c_X2_nextOfOrder l D cI cZ cS q N V A a (nI (s_X3_raised N V A)) h_1) (cwV 2 hts gX4_order_X2_nextOfOrder rfl rfl rfl (by decide +kernel) ⟨Nat.le_of_ble_eq_true rfl, Nat.le_of_ble_eq_true rfl⟩) (preC2 hK hN hP) rfl rfl hl.1 rfl (lv_room (Nat.le_of_ble_eq_true rfl)) dX4_order_59 ⟨Nat.zero_le _, Nat.zero_le _⟩) (fun r_8 er_8 => ?_)
          subst er_8
          refine lv_istore (lv' := [(7, .int (s_X2_nextOfOrder N V A a (nI (s_X3_raised N V A)))), (6, .int (nI k)), (5, .int b), (4, .int (nI (s_X3_raised N V A))), (3, .int a), (2, .int (nI (s_J6_bitCount_0f7a4 (s_X2_lying N V A)))), (0, .ref (q 0)), (1, .int i0)]) hx hb dX4_order_62 hl (by decide) rfl (fun ls hl => ?_)
          refine lv_iload hx hb dX4_order_64 (lv_at hl 0 rfl) ?_
          refine lv_bipush (v := (-9)) hx hb dX4_order_66 (by decide) ?_
          refine lv_icmp_ne (tgt := 74) hx hb dX4_order_68 (by decide) (fun c_9 => ?_) (fun c_9 => ?_)
          · refine lv_iload hx hb dX4_order_74 (lv_at hl 1 rfl) ?_
            refine lv_iload_n hx hb dX4_order_76 rfl (lv_at hl 7 rfl) ?_
            refine lv_icmp_ne (tgt := 84) hx hb dX4_order_77 (by decide) (fun c_10 => ?_) (fun c_10 => ?_)
            · refine lv_iload_n hx hb dX4_order_84 rfl (lv_at hl 4 rfl) ?_
              refine lv_iconst (v := (1)) hx hb dX4_order_85 (by decide) ?_
              refine lv_iload hx hb dX4_order_86 (lv_at hl 0 rfl) ?_
              refine lv_ishl hx hb dX4_order_88 ?_
              refine lv_ior hx hb dX4_order_89 ?_
              refine lv_istore_n (lv' := [(3, .int (a ||| ((1 : Int32) <<< ((s_X2_nextOfOrder N V A a (nI (s_X3_raised N V A))) &&& 31)))), (7, .int (s_X2_nextOfOrder N V A a (nI (s_X3_raised N V A)))), (6, .int (nI k)), (5, .int b), (4, .int (nI (s_X3_raised N V A))), (2, .int (nI (s_J6_bitCount_0f7a4 (s_X2_lying N V A)))), (0, .ref (q 0)), (1, .int i0)]) hx hb dX4_order_90 rfl hl (by decide) rfl (fun ls hl => ?_)
              refine lv_iinc (v := nI (k + 1)) (lv' := [(6, .int (nI (k + 1))), (3, .int (a ||| ((1 : Int32) <<< ((s_X2_nextOfOrder N V A a (nI (s_X3_raised N V A))) &&& 31)))), (7, .int (s_X2_nextOfOrder N V A a (nI (s_X3_raised N V A)))), (5, .int b), (4, .int (nI (s_X3_raised N V A))), (2, .int (nI (s_J6_bitCount_0f7a4 (s_X2_lying N V A)))), (0, .ref (q 0)), (1, .int i0)]) hx hb dX4_order_91 hl (k := 2) rfl (nI_1 k) (by decide) rfl (fun ls hl => ?_)
              refine lv_goto (tgt := 46) hx hb dX4_order_94 (by decide) ?_
              exact ih (k + 1) (a ||| ((1 : Int32) <<< ((s_X2_nextOfOrder N V A a (nI (s_X3_raised N V A))) &&& 31))) b _ (by omega) (hF.trans (by rw [s_X4_order_L1, if_neg c_9, if_neg c_10])) (lv_sub hl [0, 3, 4, 1, 5, 6, 7] rfl)
            · refine lv_iload hx hb dX4_order_80 (lv_at hl 0 rfl) ?_
              refine lv_istore (lv' := [(5, .int (s_X2_nextOfOrder N V A a (nI (s_X3_raised N V A)))), (7, .int (s_X2_nextOfOrder N V A a (nI (s_X3_raised N V A)))), (6, .int (nI k)), (4, .int (nI (s_X3_raised N V A))), (3, .int a), (2, .int (nI (s_J6_bitCount_0f7a4 (s_X2_lying N V A)))), (0, .ref (q 0)), (1, .int i0)]) hx hb dX4_order_82 hl (by decide) rfl (fun ls hl => ?_)
              refine lv_iload_n hx hb dX4_order_84 rfl (lv_at hl 4 rfl) ?_
              refine lv_iconst (v := (1)) hx hb dX4_order_85 (by decide) ?_
              refine lv_iload hx hb dX4_order_86 (lv_at hl 1 rfl) ?_
              refine lv_ishl hx hb dX4_order_88 ?_
              refine lv_ior hx hb dX4_order_89 ?_
              refine lv_istore_n (lv' := [(3, .int (a ||| ((1 : Int32) <<< ((s_X2_nextOfOrder N V A a (nI (s_X3_raised N V A))) &&& 31)))), (5, .int (s_X2_nextOfOrder N V A a (nI (s_X3_raised N V A)))), (7, .int (s_X2_nextOfOrder N V A a (nI (s_X3_raised N V A)))), (6, .int (nI k)), (4, .int (nI (s_X3_raised N V A))), (2, .int (nI (s_J6_bitCount_0f7a4 (s_X2_lying N V A)))), (0, .ref (q 0)), (1, .int i0)]) hx hb dX4_order_90 rfl hl (by decide) rfl (fun ls hl => ?_)
              refine lv_iinc (v := nI (k + 1)) (lv' := [(6, .int (nI (k + 1))), (3, .int (a ||| ((1 : Int32) <<< ((s_X2_nextOfOrder N V A a (nI (s_X3_raised N V A))) &&& 31)))), (5, .int (s_X2_nextOfOrder N V A a (nI (s_X3_raised N V A)))), (7, .int (s_X2_nextOfOrder N V A a (nI (s_X3_raised N V A)))), (4, .int (nI (s_X3_raised N V A))), (2, .int (nI (s_J6_bitCount_0f7a4 (s_X2_lying N V A)))), (0, .ref (q 0)), (1, .int i0)]) hx hb dX4_order_91 hl (k := 3) rfl (nI_1 k) (by decide) rfl (fun ls hl => ?_)
              refine lv_goto (tgt := 46) hx hb dX4_order_94 (by decide) ?_
              exact ih (k + 1) (a ||| ((1 : Int32) <<< ((s_X2_nextOfOrder N V A a (nI (s_X3_raised N V A))) &&& 31))) (s_X2_nextOfOrder N V A a (nI (s_X3_raised N V A))) _ (by omega) (hF.trans (by rw [s_X4_order_L1, if_neg c_9, if_pos c_10])) (lv_sub hl [0, 2, 4, 1, 5, 6, 7] rfl)
          · refine lv_bipush (v := (-9)) hx hb dX4_order_71 (by decide) ?_
            exact W.iret (v := (-9 : Int32)) hx hb hr (fun t ht hW => ⟨_, rfl, (by rw [hF, s_X4_order_L1, if_pos c_9]), ht⟩) (fun _ h => by cases h) dX4_order_73
      exact LL1 (s_J6_bitCount_0f7a4 (s_X2_lying N V A)) 0 (nI (N 2)) (-9 : Int32) _ (by omega) (by rw [s_X4_order, if_neg c_3, if_pos c_4]) (lv_sub hl [0, 1, 2, 3, 4, 5, 6] rfl)
    · refine lv_iconst (v := (-1)) hx hb dX4_order_20 (by decide) ?_
      exact W.iret (v := (-1 : Int32)) hx hb hr (fun t ht hW => ⟨_, rfl, (by rw [s_X4_order, if_neg c_3, if_neg c_4]), ht⟩) (fun _ h => by cases h) dX4_order_21
def rmLR (d : Nat) : Room := { frames := d + 3, cells := 0, slots := 0, locals := 60 * d + 100 }
def s_X4_leastRig_L1 (N : Nat → Nat) (V : Nat → Int32) (A : Nat → Nat → Int32) (rc : Nat → Int32) (s0 : Nat) (c0 : Nat) : Nat → Nat → Int32 → Int32
  | 0, k, a =>
    a
  | n + 1, k, a =>
    if (s_X4_isIn (nI (s_X3_raisersOf N V A (nI s0))) (nI k)) = true then
      if nI (((A 15 k).toNatClampNeg) &&& c0) = 0 then
        if (rc (c0 ||| (2 ^ k))) = (-9 : Int32) then
          s_X4_leastRig_L1 N V A rc s0 c0 n (k + 1) a
        else
          if a = (-9 : Int32) then
            s_X4_leastRig_L1 N V A rc s0 c0 n (k + 1) (rc (c0 ||| (2 ^ k)))
          else
            if a ≤ (rc (c0 ||| (2 ^ k))) then
              s_X4_leastRig_L1 N V A rc s0 c0 n (k + 1) a
            else
              s_X4_leastRig_L1 N V A rc s0 c0 n (k + 1) (rc (c0 ||| (2 ^ k)))
      else
        s_X4_leastRig_L1 N V A rc s0 c0 n (k + 1) a
    else
      s_X4_leastRig_L1 N V A rc s0 c0 n (k + 1) a
def s_X4_leastRig (N : Nat → Nat) (V : Nat → Int32) (A : Nat → Nat → Int32) (rc : Nat → Int32) (s0 : Nat) (c0 : Nat) : Int32 :=
  if nI s0 < nI (N 0) then
    (s_X4_leastRig_L1 N V A rc s0 c0 (N 1) 0 (-9 : Int32))
  else
    nI c0
set_option maxHeartbeats 4000000 in
set_option maxRecDepth 100000 in
theorem c_X4_leastRig (l : Launch) (D : va_G) (cI cZ cS : ClassId) (q : Nat → Nat) (N : Nat → Nat) (V : Nat → Int32) (A : Nat → Nat → Int32) (d : Nat) (rc : Nat → Int32) (s0 : Nat) (c0 : Nat) (h_1 : okC N A) (h_2 : s0 ≤ 10) (h_3 : s0 < N 0 → ∀ c1 : Nat, Met l yX4_leastRig wsX4_leastRig (rmLR d) (va_Pc [.ref (q 10), .int (nI (N 0)), .int (nI (s0 + 1)), .int (nI c1)] (PC D cI cZ cS q N V A)) (vp_Si (fun r => r = rc c1)) 0 0 (fun _ => False)) : Met l yX4_leastRig wsX4_leastRig (rmLR (d + 1)) (va_Pc [.ref (q 10), .int (nI (N 0)), .int (nI s0), .int (nI c0)] (PC D cI cZ cS q N V A)) (vp_Si (fun r => r = (s_X4_leastRig N V A rc s0 c0))) 0 0 (fun _ => False) := by
  refine Met.ofW (cc := cX4_leastRig) (maxL := 8) (ret := (some .int)) (by decide) rfl ?_
  intro p e s m args below meth c s₁ B hml hv
  obtain ⟨rfl, hP, hK, hN⟩ := hv
  have hx := B.exec
  have hb := B.bytes
  have hr := B.returns
  have hts := atoms_spec (ws := wsX4_leastRig) B.pre
  have hown : s.vm.findClass RX4 = some m.cls := findClass_of_methodNamed B.named
  have hlocks := B.notSynchronized
  have hin3 : ∀ w ∈ u_ws RX3 TX3 8, w ∈ wsX4_leastRig := by decide +kernel
  obtain ⟨o1, o2, o3, o4, o5, o6, o7, o8, o9⟩ := id h_1
  have hl := lv_entry ([.ref (q 10), .int (nI (N 0)), .int (nI s0), .int (nI c0)]) (n := 8) (Nat.le_of_ble_eq_true rfl)
  rw [lg_entry_eq]
  generalize (lg_sl ([.ref (q 10), .int (nI (N 0)), .int (nI s0), .int (nI c0)]) ++ List.replicate (8 - (lg_sl ([.ref (q 10), .int (nI (N 0)), .int (nI s0), .int (nI c0)])).length) Slot.unset).toArray = ls at hl ⊢
  have hl : lv_has ls 8 [(0, .ref (q 10)), (1, .int (nI (N 0))), (2, .int (nI s0)), (3, .int (nI c0))] := hl
  refine lv_iload_n hx hb dX4_leastRig_0 rfl (lv_at hl 2 rfl) ?_
  refine lv_iload_n hx hb dX4_leastRig_1 rfl (lv_at hl 1 rfl) ?_
  refine lv_icmp_lt (tgt := 7) hx hb dX4_leastRig_2 (by decide) (fun c_1 => ?_) (fun c_1 => ?_)
  · have hsn : s0 < N 0 := (nI_ltI (by omega) (by omega)).mp c_1
    refine lv_aload_n hx hb dX4_leastRig_7 rfl (lv_at hl 0 rfl) ?_
    refine lv_iload_n hx hb dX4_leastRig_8 rfl (lv_at hl 2 rfl) ?_
    refine vp_callSi (W.runV (As := [.int (nI s0)]) (rest := []) ⟨hx, hb, hml, hown, hts⟩ (c_X3_raisersOf l D cI cZ cS q N V A (nI s0) h_1) (cwV 1 hts gX4_leastRig_X3_raisersOf rfl rfl rfl (by decide +kernel) ⟨by show 1 + 1 ≤ d + 1 + 3; omega, by show 8 + (4 + 11) + 20 ≤ 60 * (d + 1) + 100; omega⟩) (preC3 hK hN hP) rfl rfl hl.1 rfl (lv_room (Nat.le_of_ble_eq_true rfl)) dX4_leastRig_9 ⟨Nat.zero_le _, Nat.zero_le _⟩) (fun r_2 er_2 => ?_)
    subst er_2
    refine lv_istore (lv' := [(4, .int (nI (s_X3_raisersOf N V A (nI s0)))), (0, .ref (q 10)), (1, .int (nI (N 0))), (2, .int (nI s0)), (3, .int (nI c0))]) hx hb dX4_leastRig_12 hl (by decide) rfl (fun ls hl => ?_)
    refine lv_bipush (v := (-9)) hx hb dX4_leastRig_14 (by decide) ?_
    refine lv_istore (lv' := [(5, .int (-9)), (4, .int (nI (s_X3_raisersOf N V A (nI s0)))), (0, .ref (q 10)), (1, .int (nI (N 0))), (2, .int (nI s0)), (3, .int (nI c0))]) hx hb dX4_leastRig_16 hl (by decide) rfl (fun ls hl => ?_)
    refine lv_iconst (v := (0)) hx hb dX4_leastRig_18 (by decide) ?_
    refine lv_istore (lv' := [(6, .int (0)), (5, .int (-9)), (4, .int (nI (s_X3_raisersOf N V A (nI s0)))), (0, .ref (q 10)), (1, .int (nI (N 0))), (2, .int (nI s0)), (3, .int (nI c0))]) hx hb dX4_leastRig_19 hl (by decide) rfl (fun ls hl => ?_)
    have KL1 : ∀ (ls : Array Slot), lv_has ls 8 [(5, .int (s_X4_leastRig_L1 N V A rc s0 c0 (N 1) 0 (-9 : Int32))), (4, .int (nI (s_X3_raisersOf N V A (nI s0)))), (0, .ref (q 10)), (1, .int (nI (N 0))), (2, .int (nI s0)), (3, .int (nI c0))] → W p l e (headSpec wsX4_leastRig (rmLR (d + 1))).room s m ([.ref (q 10), .int (nI (N 0)), .int (nI s0), .int (nI c0)] : List Value).toArray below meth c s.heap [] 0 0 (MQ below (vp_Si (fun r => r = (s_X4_leastRig N V A rc s0 c0))) ([.ref (q 10), .int (nI (N 0)), .int (nI s0), .int (nI c0)] : List Value).toArray s 0 0 (fun _ => False)) (F0 m 99 ls []) := by
      intro ls hl
      refine lv_iload hx hb dX4_leastRig_99 (lv_at hl 0 rfl) ?_
      exact W.iret (v := (s_X4_leastRig_L1 N V A rc s0 c0 (N 1) 0 (-9 : Int32))) hx hb hr (fun t ht hW => ⟨_, rfl, (by rw [s_X4_leastRig, if_pos c_1]), ht⟩) (fun _ h => by cases h) dX4_leastRig_101
    have LL1 : ∀ (n k : Nat) (a : Int32) (ls : Array Slot), k + n = N 1 → s_X4_leastRig_L1 N V A rc s0 c0 (N 1) 0 (-9 : Int32) = s_X4_leastRig_L1 N V A rc s0 c0 n k a → lv_has ls 8 [(6, .int (nI k)), (5, .int a), (4, .int (nI (s_X3_raisersOf N V A (nI s0)))), (0, .ref (q 10)), (1, .int (nI (N 0))), (2, .int (nI s0)), (3, .int (nI c0))] → W p l e (headSpec wsX4_leastRig (rmLR (d + 1))).room s m ([.ref (q 10), .int (nI (N 0)), .int (nI s0), .int (nI c0)] : List Value).toArray below meth c s.heap [] 0 0 (MQ below (vp_Si (fun r => r = (s_X4_leastRig N V A rc s0 c0))) ([.ref (q 10), .int (nI (N 0)), .int (nI s0), .int (nI c0)] : List Value).toArray s 0 0 (fun _ => False)) (F0 m 21 ls []) := by
      intro n
      induction n with
      | zero =>
        intro k a ls hk hF hl
        refine lv_iload hx hb dX4_leastRig_21 (lv_at hl 0 rfl) ?_
        refine lv_aload_n hx hb dX4_leastRig_23 rfl (lv_at hl 3 rfl) ?_
        refine va_get (D := D) (ci := 3) (v := .int (nI (N 1))) (C := RX3) (T := TX3) (N := 8) hx hb hts hin3 hown hK hP 10 rfl rfl 7 (by decide) (hts (.fieldLink RX4 251 "NeckShip$Threads" "count" "I") (by decide +kernel)) (fun _ h9 => h9) rfl dX4_leastRig_24 ?_
        refine lv_icmp_ge (tgt := 99) hx hb dX4_leastRig_27 (by decide) (fun _ => ?_) (fun c_3 => absurd (nI_le (by omega) (by omega)) c_3)
        have hF : s_X4_leastRig_L1 N V A rc s0 c0 (N 1) 0 (-9 : Int32) = a := hF.trans (by rw [s_X4_leastRig_L1])
        exact KL1 _ (by (try rw [hF]); exact lv_sub hl [1, 2, 3, 4, 5, 6] rfl)
      | succ n ih =>
        intro k a ls hk hF hl
        refine lv_iload hx hb dX4_leastRig_21 (lv_at hl 0 rfl) ?_
        refine lv_aload_n hx hb dX4_leastRig_23 rfl (lv_at hl 3 rfl) ?_
        refine va_get (D := D) (ci := 3) (v := .int (nI (N 1))) (C := RX3) (T := TX3) (N := 8) hx hb hts hin3 hown hK hP 10 rfl rfl 7 (by decide) (hts (.fieldLink RX4 251 "NeckShip$Threads" "count" "I") (by decide +kernel)) (fun _ h9 => h9) rfl dX4_leastRig_24 ?_
        refine lv_icmp_ge (tgt := 99) hx hb dX4_leastRig_27 (by decide) (fun c_4 => absurd c_4 (nI_ge (by omega) (by omega))) (fun _ => ?_)
        refine lv_iload hx hb dX4_leastRig_30 (lv_at hl 2 rfl) ?_
        refine lv_iload hx hb dX4_leastRig_32 (lv_at hl 0 rfl) ?_
        refine vp_callSi (W.runS (As := [.int (nI (s_X3_raisersOf N V A (nI s0))), .int (nI k)]) (rest := []) ⟨hx, hb, hml, hown, hts⟩ (c_X4_isIn l (nI (s_X3_raisersOf N V A (nI s0))) (nI k)) (cwS 2 hts gX4_leastRig_X4_isIn rfl rfl rfl (by decide +kernel) ⟨by show 0 + 1 ≤ d + 1 + 3; omega, by show 8 + (2 + 11) + 0 ≤ 60 * (d + 1) + 100; omega⟩) (preEq) rfl rfl hl.1 rfl (lv_room (Nat.le_of_ble_eq_true rfl)) dX4_leastRig_34 ⟨Nat.zero_le _, Nat.zero_le _⟩) (fun r_5 er_5 => ?_)
        subst er_5
        refine lz_if_eq (tgt := 93) hx hb dX4_leastRig_37 (by decide) (fun c_6 => ?_) (fun c_6 => ?_)
        · refine lv_iinc (v := nI (k + 1)) (lv' := [(6, .int (nI (k + 1))), (5, .int a), (4, .int (nI (s_X3_raisersOf N V A (nI s0)))), (0, .ref (q 10)), (1, .int (nI (N 0))), (2, .int (nI s0)), (3, .int (nI c0))]) hx hb dX4_leastRig_93 hl (k := 0) rfl (nI_1 k) (by decide) rfl (fun ls hl => ?_)
          refine lv_goto (tgt := 21) hx hb dX4_leastRig_96 (by decide) ?_
          exact ih (k + 1) a _ (by omega) (hF.trans (by rw [s_X4_leastRig_L1, if_neg (nb c_6)])) (lv_sub hl [0, 1, 2, 3, 4, 5, 6] rfl)
        · refine lv_aload_n hx hb dX4_leastRig_40 rfl (lv_at hl 3 rfl) ?_
          refine va_get (D := D) (ci := 3) (v := .ref (q 15)) (C := RX3) (T := TX3) (N := 8) hx hb hts hin3 hown hK hP 10 rfl rfl 4 (by decide) (hts (.fieldLink RX4 178 "NeckShip$Threads" "crossing" "[I") (by decide +kernel)) (fun _ h9 => h9) rfl dX4_leastRig_41 ?_
          refine lv_iload hx hb dX4_leastRig_44 (lv_at hl 0 rfl) ?_
          refine va_ialdV (i := k) (x := (A 15 k).toNatClampNeg) hx hb hK hP 15 0 rfl rfl (o8 _).1 (by decide) (by omega) dX4_leastRig_46 ?_
          refine lv_iload_n hx hb dX4_leastRig_47 rfl (lv_at hl 6 rfl) ?_
          refine lv_iand hx hb dX4_leastRig_48 ?_
          rw [fa_and ((A 15 k).toNatClampNeg) c0]
          refine lv_if_ne (tgt := 93) hx hb dX4_leastRig_49 (by decide) (fun c_7 => ?_) (fun c_7 => ?_)
          · refine lv_iinc (v := nI (k + 1)) (lv' := [(6, .int (nI (k + 1))), (5, .int a), (4, .int (nI (s_X3_raisersOf N V A (nI s0)))), (0, .ref (q 10)), (1, .int (nI (N 0))), (2, .int (nI s0)), (3, .int (nI c0))]) hx hb dX4_leastRig_93 hl (k := 0) rfl (nI_1 k) (by decide) rfl (fun ls hl => ?_)
            refine lv_goto (tgt := 21) hx hb dX4_leastRig_96 (by decide) ?_
            exact ih (k + 1) a _ (by omega) (hF.trans (by rw [s_X4_leastRig_L1, if_pos c_6, if_neg c_7])) (lv_sub hl [0, 1, 2, 3, 4, 5, 6] rfl)
          · refine lv_aload_n hx hb dX4_leastRig_52 rfl (lv_at hl 3 rfl) ?_
            refine lv_iload_n hx hb dX4_leastRig_53 rfl (lv_at hl 4 rfl) ?_
            refine lv_iload_n hx hb dX4_leastRig_54 rfl (lv_at hl 5 rfl) ?_
            refine lv_iconst (v := (1)) hx hb dX4_leastRig_55 (by decide) ?_
            refine lv_iadd hx hb dX4_leastRig_56 ?_
            rw [nI_1 s0]
            refine lv_iload_n hx hb dX4_leastRig_57 rfl (lv_at hl 6 rfl) ?_
            refine lv_iconst (v := (1)) hx hb dX4_leastRig_58 (by decide) ?_
            refine lv_iload hx hb dX4_leastRig_59 (lv_at hl 0 rfl) ?_
            refine lv_ishl hx hb dX4_leastRig_61 ?_
            rw [sh1 (k := k) (by omega)]
            refine lv_ior hx hb dX4_leastRig_62 ?_
            rw [fa_or c0 (2 ^ k)]
            refine vp_callSi (W.runS (As := [.ref (q 10), .int (nI (N 0)), .int (nI (s0 + 1)), .int (nI (c0 ||| (2 ^ k)))]) (rest := []) ⟨hx, hb, hml, hown, hts⟩ (h_3 hsn (c0 ||| (2 ^ k))) (cwS 4 hts gX4_leastRig_X4_leastRig rfl rfl rfl (by decide +kernel) ⟨by show (d + 3) + 1 ≤ d + 1 + 3; omega, by show 8 + (8 + 11) + (60 * d + 100) ≤ 60 * (d + 1) + 100; omega⟩) (preCS hK hN hP) rfl rfl hl.1 rfl (lv_room (Nat.le_of_ble_eq_true rfl)) dX4_leastRig_63 ⟨Nat.zero_le _, Nat.zero_le _⟩) (fun r_8 er_8 => ?_)
            subst er_8
            refine lv_istore (lv' := [(7, .int (rc (c0 ||| (2 ^ k)))), (6, .int (nI k)), (5, .int a), (4, .int (nI (s_X3_raisersOf N V A (nI s0)))), (0, .ref (q 10)), (1, .int (nI (N 0))), (2, .int (nI s0)), (3, .int (nI c0))]) hx hb dX4_leastRig_66 hl (by decide) rfl (fun ls hl => ?_)
            refine lv_iload hx hb dX4_leastRig_68 (lv_at hl 0 rfl) ?_
            refine lv_bipush (v := (-9)) hx hb dX4_leastRig_70 (by decide) ?_
            refine lv_icmp_eq (tgt := 93) hx hb dX4_leastRig_72 (by decide) (fun c_9 => ?_) (fun c_9 => ?_)
            · refine lv_iinc (v := nI (k + 1)) (lv' := [(6, .int (nI (k + 1))), (7, .int (rc (c0 ||| (2 ^ k)))), (5, .int a), (4, .int (nI (s_X3_raisersOf N V A (nI s0)))), (0, .ref (q 10)), (1, .int (nI (N 0))), (2, .int (nI s0)), (3, .int (nI c0))]) hx hb dX4_leastRig_93 hl (k := 1) rfl (nI_1 k) (by decide) rfl (fun ls hl => ?_)
              refine lv_goto (tgt := 21) hx hb dX4_leastRig_96 (by decide) ?_
              exact ih (k + 1) a _ (by omega) (hF.trans (by rw [s_X4_leastRig_L1, if_pos c_6, if_pos c_7, if_pos c_9])) (lv_sub hl [0, 2, 3, 4, 5, 6, 7] rfl)
            · refine lv_iload hx hb dX4_leastRig_75 (lv_at hl 2 rfl) ?_
              refine lv_bipush (v := (-9)) hx hb dX4_leastRig_77 (by decide) ?_
              refine lv_icmp_eq (tgt := 89) hx hb dX4_leastRig_79 (by decide) (fun c_10 => ?_) (fun c_10 => ?_)
              · refine lv_iload hx hb dX4_leastRig_89 (lv_at hl 0 rfl) ?_
                refine lv_istore (lv' := [(5, .int (rc (c0 ||| (2 ^ k)))), (7, .int (rc (c0 ||| (2 ^ k)))), (6, .int (nI k)), (4, .int (nI (s_X3_raisersOf N V A (nI s0)))), (0, .ref (q 10)), (1, .int (nI (N 0))), (2, .int (nI s0)), (3, .int (nI c0))]) hx hb dX4_leastRig_91 hl (by decide) rfl (fun ls hl => ?_)
                refine lv_iinc (v := nI (k + 1)) (lv' := [(6, .int (nI (k + 1))), (5, .int (rc (c0 ||| (2 ^ k)))), (7, .int (rc (c0 ||| (2 ^ k)))), (4, .int (nI (s_X3_raisersOf N V A (nI s0)))), (0, .ref (q 10)), (1, .int (nI (N 0))), (2, .int (nI s0)), (3, .int (nI c0))]) hx hb dX4_leastRig_93 hl (k := 2) rfl (nI_1 k) (by decide) rfl (fun ls hl => ?_)
                refine lv_goto (tgt := 21) hx hb dX4_leastRig_96 (by decide) ?_
                exact ih (k + 1) (rc (c0 ||| (2 ^ k))) _ (by omega) (hF.trans (by rw [s_X4_leastRig_L1, if_pos c_6, if_pos c_7, if_neg c_9, if_pos c_10])) (lv_sub hl [0, 1, 3, 4, 5, 6, 7] rfl)
              · refine lv_iload hx hb dX4_leastRig_82 (lv_at hl 0 rfl) ?_
                refine lv_iload hx hb dX4_leastRig_84 (lv_at hl 2 rfl) ?_
                refine lv_icmp_ge (tgt := 93) hx hb dX4_leastRig_86 (by decide) (fun c_11 => ?_) (fun c_11 => ?_)
                · refine lv_iinc (v := nI (k + 1)) (lv' := [(6, .int (nI (k + 1))), (7, .int (rc (c0 ||| (2 ^ k)))), (5, .int a), (4, .int (nI (s_X3_raisersOf N V A (nI s0)))), (0, .ref (q 10)), (1, .int (nI (N 0))), (2, .int (nI s0)), (3, .int (nI c0))]) hx hb dX4_leastRig_93 hl (k := 1) rfl (nI_1 k) (by decide) rfl (fun ls hl => ?_)
                  refine lv_goto (tgt := 21) hx hb dX4_leastRig_96 (by decide) ?_
                  exact ih (k + 1) a _ (by omega) (hF.trans (by rw [s_X4_leastRig_L1, if_pos c_6, if_pos c_7, if_neg c_9, if_neg c_10, if_pos c_11])) (lv_sub hl [0, 2, 3, 4, 5, 6, 7] rfl)
                · refine lv_iload hx hb dX4_leastRig_89 (lv_at hl 0 rfl) ?_
                  refine lv_istore (lv' := [(5, .int (rc (c0 ||| (2 ^ k)))), (7, .int (rc (c0 ||| (2 ^ k)))), (6, .int (nI k)), (4, .int (nI (s_X3_raisersOf N V A (nI s0)))), (0, .ref (q 10)), (1, .int (nI (N 0))), (2, .int (nI s0)), (3, .int (nI c0))]) hx hb dX4_leastRig_91 hl (by decide) rfl (fun ls hl => ?_)
                  refine lv_iinc (v := nI (k + 1)) (lv' := [(6, .int (nI (k + 1))), (5, .int (rc (c0 ||| (2 ^ k)))), (7, .int (rc (c0 ||| (2 ^ k)))), (4, .int (nI (s_X3_raisersOf N V A (nI s0)))), (0, .ref (q 10)), (1, .int (nI (N 0))), (2, .int (nI s0)), (3, .int (nI c0))]) hx hb dX4_leastRig_93 hl (k := 2) rfl (nI_1 k) (by decide) rfl (fun ls hl => ?_)
                  refine lv_goto (tgt := 21) hx hb dX4_leastRig_96 (by decide) ?_
                  exact ih (k + 1) (rc (c0 ||| (2 ^ k))) _ (by omega) (hF.trans (by rw [s_X4_leastRig_L1, if_pos c_6, if_pos c_7, if_neg c_9, if_neg c_10, if_neg c_11])) (lv_sub hl [0, 1, 3, 4, 5, 6, 7] rfl)
    exact LL1 (N 1) 0 (-9 : Int32) _ (by omega) rfl (lv_sub hl [0, 1, 2, 3, 4, 5, 6] rfl)
  · refine lv_iload_n hx hb dX4_leastRig_5 rfl (lv_at hl 3 rfl) ?_
    exact W.iret (v := nI c0) hx hb hr (fun t ht hW => ⟨_, rfl, (by rw [s_X4_leastRig, if_neg c_1]), ht⟩) (fun _ h => by cases h) dX4_leastRig_6
/-- the least rig, d spars deep -/
def lrN (N : Nat → Nat) (V : Nat → Int32) (A : Nat → Nat → Int32) : Nat → Nat → Nat → Int32
  | 0, s, c => s_X4_leastRig N V A (fun _ => 0) s c
  | d + 1, s, c => s_X4_leastRig N V A (fun c' => lrN N V A d (s + 1) c') s c
theorem c_LR (l : Launch) (D : va_G) (cI cZ cS : ClassId) (q : Nat → Nat) (N : Nat → Nat) (V : Nat → Int32) (A : Nat → Nat → Int32) (ok : okC N A) : ∀ (d s c : Nat), N 0 ≤ s + d → s ≤ 10 → Met l yX4_leastRig wsX4_leastRig (rmLR (d + 1)) (va_Pc [.ref (q 10), .int (nI (N 0)), .int (nI s), .int (nI c)] (PC D cI cZ cS q N V A)) (vp_Si (fun r => r = lrN N V A d s c)) 0 0 (fun _ => False)
  | 0, s, c, h, hs => c_X4_leastRig l D cI cZ cS q N V A 0 (fun _ => 0) s c ok hs (fun h2 => absurd h2 (by omega))
  | d + 1, s, c, h, hs => c_X4_leastRig l D cI cZ cS q N V A (d + 1) (fun c' => lrN N V A d (s + 1) c') s c ok hs (fun h2 c1 => c_LR l D cI cZ cS q N V A ok d (s + 1) c1 (by omega) (by have := ok.1; omega))
def s_LR (N : Nat → Nat) (V : Nat → Int32) (A : Nat → Nat → Int32) (s c : Nat) : Int32 := lrN N V A 10 s c
theorem c_LRT (l : Launch) (D : va_G) (cI cZ cS : ClassId) (q : Nat → Nat) (N : Nat → Nat) (V : Nat → Int32) (A : Nat → Nat → Int32) (s c : Nat) (ok : okC N A) (hs : s ≤ 10) : Met l yX4_leastRig wsX4_leastRig ({ frames := 14, cells := 0, slots := 0, locals := 760 }) (va_Pc [.ref (q 10), .int (nI (N 0)), .int (nI s), .int (nI c)] (PC D cI cZ cS q N V A)) (vp_Si (fun r => r = s_LR N V A s c)) 0 0 (fun _ => False) :=
  c_LR l D cI cZ cS q N V A ok 10 s c (by have := ok.1; omega) hs
def s_X4_rig (N : Nat → Nat) (V : Nat → Int32) (A : Nat → Nat → Int32)  : Int32 :=
  if nI (N 0) = 0 then
    (-3 : Int32)
  else
    (s_LR N V A 0 0)
set_option maxHeartbeats 4000000 in
set_option maxRecDepth 100000 in
theorem c_X4_rig (l : Launch) (D : va_G) (cI cZ cS : ClassId) (q : Nat → Nat) (N : Nat → Nat) (V : Nat → Int32) (A : Nat → Nat → Int32) (h_1 : okC N A) : Met l yX4_rig wsX4_rig ({ frames := 15, cells := 0, slots := 0, locals := 787 }) (va_Pc [.ref (q 0)] (PC D cI cZ cS q N V A)) (vp_Si (fun r => r = (s_X4_rig N V A))) 0 0 (fun _ => False) := by
  refine Met.ofW (cc := cX4_rig) (maxL := 1) (ret := (some .int)) (by decide) rfl ?_
  intro p e s m args below meth c s₁ B hml hv
  obtain ⟨rfl, hP, hK, hN⟩ := hv
  have hx := B.exec
  have hb := B.bytes
  have hr := B.returns
  have hts := atoms_spec (ws := wsX4_rig) B.pre
  have hown : s.vm.findClass RX4 = some m.cls := findClass_of_methodNamed B.named
  have hlocks := B.notSynchronized
  have hin2 : ∀ w ∈ u_ws RX2 TX2 9, w ∈ wsX4_rig := by decide +kernel
  have hin4 : ∀ w ∈ u_ws RX4 TX4 7, w ∈ wsX4_rig := by decide +kernel
  obtain ⟨o1, o2, o3, o4, o5, o6, o7, o8, o9⟩ := id h_1
  have hl := lv_entry ([.ref (q 0)]) (n := 1) (Nat.le_of_ble_eq_true rfl)
  rw [lg_entry_eq]
  generalize (lg_sl ([.ref (q 0)]) ++ List.replicate (1 - (lg_sl ([.ref (q 0)])).length) Slot.unset).toArray = ls at hl ⊢
  have hl : lv_has ls 1 [(0, .ref (q 0))] := hl
  refine lv_aload_n hx hb dX4_rig_0 rfl (lv_at hl 0 rfl) ?_
  refine va_get (D := D) (ci := 4) (v := .ref (q 2)) (C := RX4) (T := TX4) (N := 7) hx hb hts hin4 hown hK hP 0 rfl rfl 1 (by decide) (hts (.fieldLink RX4 18 "NeckShip" "spars" "LNeckShip$Spars;") (by decide +kernel)) (fun _ h9 => h9) rfl dX4_rig_1 ?_
  refine va_get (D := D) (ci := 2) (v := .int (nI (N 0))) (C := RX2) (T := TX2) (N := 9) hx hb hts hin2 hown hK hP 2 rfl rfl 7 (by decide) (hts (.fieldLink RX4 61 "NeckShip$Spars" "count" "I") (by decide +kernel)) (fun _ h9 => h9) rfl dX4_rig_4 ?_
  refine lv_if_ne (tgt := 13) hx hb dX4_rig_7 (by decide) (fun c_1 => ?_) (fun c_1 => ?_)
  · refine lv_aload_n hx hb dX4_rig_13 rfl (lv_at hl 0 rfl) ?_
    refine va_get (D := D) (ci := 4) (v := .ref (q 10)) (C := RX4) (T := TX4) (N := 7) hx hb hts hin4 hown hK hP 0 rfl rfl 2 (by decide) (hts (.fieldLink RX4 25 "NeckShip" "threads" "LNeckShip$Threads;") (by decide +kernel)) (fun _ h9 => h9) rfl dX4_rig_14 ?_
    refine lv_aload_n hx hb dX4_rig_17 rfl (lv_at hl 0 rfl) ?_
    refine va_get (D := D) (ci := 4) (v := .ref (q 2)) (C := RX4) (T := TX4) (N := 7) hx hb hts hin4 hown hK hP 0 rfl rfl 1 (by decide) (hts (.fieldLink RX4 18 "NeckShip" "spars" "LNeckShip$Spars;") (by decide +kernel)) (fun _ h9 => h9) rfl dX4_rig_18 ?_
    refine va_get (D := D) (ci := 2) (v := .int (nI (N 0))) (C := RX2) (T := TX2) (N := 9) hx hb hts hin2 hown hK hP 2 rfl rfl 7 (by decide) (hts (.fieldLink RX4 61 "NeckShip$Spars" "count" "I") (by decide +kernel)) (fun _ h9 => h9) rfl dX4_rig_21 ?_
    refine lv_iconst (v := (0)) hx hb dX4_rig_24 (by decide) ?_
    refine lv_iconst (v := (0)) hx hb dX4_rig_25 (by decide) ?_
    refine vp_callSi (W.runS (As := [.ref (q 10), .int (nI (N 0)), .int (nI 0), .int (nI 0)]) (rest := []) ⟨hx, hb, hml, hown, hts⟩ (c_LRT l D cI cZ cS q N V A 0 0 h_1 (by omega)) (cwS 4 hts gX4_rig_X4_leastRig rfl rfl rfl (by decide +kernel) ⟨Nat.le_of_ble_eq_true rfl, Nat.le_of_ble_eq_true rfl⟩) (preCS hK hN hP) rfl rfl hl.1 rfl (lv_room (Nat.le_of_ble_eq_true rfl)) dX4_rig_26 ⟨Nat.zero_le _, Nat.zero_le _⟩) (fun r_2 er_2 => ?_)
    subst er_2
    exact W.iret (v := (s_LR N V A 0 0)) hx hb hr (fun t ht hW => ⟨_, rfl, (by rw [s_X4_rig, if_neg c_1]), ht⟩) (fun _ h => by cases h) dX4_rig_29
  · refine lv_bipush (v := (-3)) hx hb dX4_rig_10 (by decide) ?_
    exact W.iret (v := (-3 : Int32)) hx hb hr (fun t ht hW => ⟨_, rfl, (by rw [s_X4_rig, if_pos c_1]), ht⟩) (fun _ h => by cases h) dX4_rig_12
def s_X4_rule (N : Nat → Nat) (V : Nat → Int32) (A : Nat → Nat → Int32)  (w0 : Int32) (v0 : Int32) : Int32 × St :=
  if w0 < 0 then
    ((-1 : Int32), N, V, A)
  else
    if w0 ≤ (4 : Int32) then
      if (s_X4_isWithin v0 (1 : Int32) (gmV w0.toNatClampNeg)) = true then
        if nI w0.toNatClampNeg = 0 then
          if (s_X4_isTooShort N V A v0) = true then
            ((-3 : Int32), N, V, A)
          else
            (A 1 w0.toNatClampNeg, N, V, (va_up A 1 (upd (A 1) w0.toNatClampNeg v0)))
        else
          (A 1 w0.toNatClampNeg, N, V, (va_up A 1 (upd (A 1) w0.toNatClampNeg v0)))
      else
        ((-2 : Int32), N, V, A)
    else
      ((-1 : Int32), N, V, A)
set_option maxHeartbeats 4000000 in
set_option maxRecDepth 100000 in
theorem c_X4_rule (l : Launch) (D : va_G) (cI cZ cS : ClassId) (q : Nat → Nat) (N : Nat → Nat) (V : Nat → Int32) (A : Nat → Nat → Int32) (sz : Nat) (tG : Nat) (w0 : Int32) (v0 : Int32) (h_1 : okC N A) : Met l yX4_rule wsX4_rule ({ frames := 3, cells := 0, slots := 0, locals := 64 }) (va_Pc [.ref (q 0), .int w0, .int v0] (fun U => U.heap.size = sz ∧ PC D cI cZ cS q N V A U ∧ va_D (fun _ => True) (wC cI cS q N V A) ∧ gmZ (va_A (wC cI cS q N V A) sz) tG U)) (va_Qi (fun r (_ : Unit) => r = (s_X4_rule N V A w0 v0).1) (fun _ t => PC D cI cZ cS q (s_X4_rule N V A w0 v0).2.1 (s_X4_rule N V A w0 v0).2.2.1 (s_X4_rule N V A w0 v0).2.2.2 t ∧ va_D (va_A (wC cI cS q N V A) sz) (wC cI cS q (s_X4_rule N V A w0 v0).2.1 (s_X4_rule N V A w0 v0).2.2.1 (s_X4_rule N V A w0 v0).2.2.2)) (va_A (wC cI cS q N V A) sz)) 0 0 (va_A (wC cI cS q N V A) sz) := by
  refine Met.ofW (cc := cX4_rule) (maxL := 4) (ret := (some .int)) (by decide) rfl ?_
  intro p e s m args below meth c s₁ B hml hv
  obtain ⟨rfl, hsz, ⟨hP, hK, hN⟩, hD0, hZZ⟩ := hv
  have hx := B.exec
  have hb := B.bytes
  have hr := B.returns
  have hts := atoms_spec (ws := wsX4_rule) B.pre
  have hown : s.vm.findClass RX4 = some m.cls := findClass_of_methodNamed B.named
  have hlocks := B.notSynchronized
  have hin4 : ∀ w ∈ u_ws RX4 TX4 7, w ∈ wsX4_rule := by decide +kernel
  subst hsz
  have hD := hD0.self (sz := s.heap.size)
  generalize hAe : va_A (wC cI cS q N V A) s.heap.size = Ar at hD hZZ ⊢
  have hA : ∀ q : Nat, s.heap.size ≤ q → Ar q := fun q h => by rw [← hAe]; exact Or.inr h
  have hS : va_S Ar s.heap s.heap [] := va_S.rf
  obtain ⟨o1, o2, o3, o4, o5, o6, o7, o8, o9⟩ := id h_1
  have hl := lv_entry ([.ref (q 0), .int w0, .int v0]) (n := 4) (Nat.le_of_ble_eq_true rfl)
  rw [lg_entry_eq]
  generalize (lg_sl ([.ref (q 0), .int w0, .int v0]) ++ List.replicate (4 - (lg_sl ([.ref (q 0), .int w0, .int v0])).length) Slot.unset).toArray = ls at hl ⊢
  have hl : lv_has ls 4 [(0, .ref (q 0)), (1, .int w0), (2, .int v0)] := hl
  refine lv_iload_n hx hb dX4_rule_0 rfl (lv_at hl 1 rfl) ?_
  refine lv_if_lt (tgt := 9) hx hb dX4_rule_1 (by decide) (fun c_1 => ?_) (fun c_1 => ?_)
  · refine lv_iconst (v := (-1)) hx hb dX4_rule_9 (by decide) ?_
    have hEE : s_X4_rule N V A w0 v0 = ((-1 : Int32), N, V, A) := (by rw [s_X4_rule, if_pos c_1])
    rw [hEE]
    exact W.iret (v := (-1 : Int32)) hx hb hr (fun t ht hW => ⟨⟨_, (), rfl, rfl, ⟨by rw [ht]; exact hP, va_K.moved hW.alike hK, hN.warm hW⟩, hD⟩, hS.F ht⟩) hS.2.2 dX4_rule_10
  · have hw0 := c_1
    refine lv_iload_n hx hb dX4_rule_4 rfl (lv_at hl 1 rfl) ?_
    refine lv_iconst (v := (4)) hx hb dX4_rule_5 (by decide) ?_
    refine lv_icmp_le (tgt := 11) hx hb dX4_rule_6 (by decide) (fun c_2 => ?_) (fun c_2 => ?_)
    · obtain ⟨hlt_w0, heq_w0⟩ := tn5 hw0 c_2
      have hl : lv_has ls 4 [(0, .ref (q 0)), (1, .int (nI w0.toNatClampNeg)), (2, .int v0)] := by rw [heq_w0]; exact hl
      refine lv_iload_n hx hb dX4_rule_11 rfl (lv_at hl 2 rfl) ?_
      refine lv_iconst (v := (1)) hx hb dX4_rule_12 (by decide) ?_
      refine va_gets (v := .ref tG) hx hb hZZ.1 hS hown (hts (.fieldLink RX4 50 "NeckShip" "GREATEST_MEASURE" "[I") (by decide +kernel)) (fun _ h9 => h9) dX4_rule_13 ?_
      refine lv_iload_n hx hb dX4_rule_16 rfl (lv_at hl 1 rfl) ?_
      refine va_ti (i := nI w0.toNatClampNeg) (v := .int (gmV w0.toNatClampNeg)) hx hb hZZ.2 hS (vp_in_nI (by omega) (by decide)) (by rw [nI_clamp (by omega)]) dX4_rule_17 ?_
      refine vp_callSi (W.runS (As := [.int v0, .int (1 : Int32), .int (gmV w0.toNatClampNeg)]) (rest := []) ⟨hx, hb, hml, hown, hts⟩ (c_X4_isWithin l v0 (1 : Int32) (gmV w0.toNatClampNeg)) (cwS 3 hts gX4_rule_X4_isWithin rfl rfl rfl (by decide +kernel) ⟨Nat.le_of_ble_eq_true rfl, Nat.le_of_ble_eq_true rfl⟩) (preEq) rfl rfl hl.1 rfl (lv_room (Nat.le_of_ble_eq_true rfl)) dX4_rule_18 ⟨Nat.zero_le _, Nat.zero_le _⟩) (fun r_3 er_3 => ?_)
      subst er_3
      refine lz_if_ne (tgt := 27) hx hb dX4_rule_21 (by decide) (fun c_4 => ?_) (fun c_4 => ?_)
      · refine lv_iload_n hx hb dX4_rule_27 rfl (lv_at hl 1 rfl) ?_
        refine lv_if_ne (tgt := 42) hx hb dX4_rule_28 (by decide) (fun c_5 => ?_) (fun c_5 => ?_)
        · refine lv_aload_n hx hb dX4_rule_42 rfl (lv_at hl 0 rfl) ?_
          refine va_get (D := D) (ci := 4) (v := .ref (q 1)) (C := RX4) (T := TX4) (N := 7) hx hb hts hin4 hown hK hP 0 rfl rfl 0 (by decide) (hts (.fieldLink RX4 9 "NeckShip" "measures" "[I") (by decide +kernel)) (fun _ h9 => h9) rfl dX4_rule_43 ?_
          refine lv_iload_n hx hb dX4_rule_46 rfl (lv_at hl 1 rfl) ?_
          refine va_ialdN (i := w0.toNatClampNeg) hx hb hK hP 1 0 rfl rfl (by decide) (by omega) dX4_rule_47 ?_
          refine lv_istore_n (lv' := [(3, .int (A 1 w0.toNatClampNeg)), (0, .ref (q 0)), (1, .int (nI w0.toNatClampNeg)), (2, .int v0)]) hx hb dX4_rule_48 rfl hl (by decide) rfl (fun ls hl => ?_)
          refine lv_aload_n hx hb dX4_rule_49 rfl (lv_at hl 1 rfl) ?_
          refine va_get (D := D) (ci := 4) (v := .ref (q 1)) (C := RX4) (T := TX4) (N := 7) hx hb hts hin4 hown hK hP 0 rfl rfl 0 (by decide) (hts (.fieldLink RX4 9 "NeckShip" "measures" "[I") (by decide +kernel)) (fun _ h9 => h9) rfl dX4_rule_50 ?_
          refine lv_iload_n hx hb dX4_rule_53 rfl (lv_at hl 2 rfl) ?_
          refine lv_iload_n hx hb dX4_rule_54 rfl (lv_at hl 3 rfl) ?_
          refine va_iastN (i := w0.toNatClampNeg) hx hb hK hP hD hS 1 0 rfl rfl (by decide) (by omega) dX4_rule_55 (fun H locs hP hD hS => ?_)
          have hP : va_P D vwCl (wC cI cS q N V (va_up A 1 (upd (A 1) w0.toNatClampNeg v0))) H := hP
          have hD : va_D Ar (wC cI cS q N V (va_up A 1 (upd (A 1) w0.toNatClampNeg v0))) := hD
          refine lv_iload_n hx hb dX4_rule_56 rfl (lv_at hl 0 rfl) ?_
          have hEE : s_X4_rule N V A w0 v0 = (A 1 w0.toNatClampNeg, N, V, (va_up A 1 (upd (A 1) w0.toNatClampNeg v0))) := (by rw [s_X4_rule, if_neg c_1, if_pos c_2, if_pos c_4, if_neg c_5])
          rw [hEE]
          exact W.iret (v := A 1 w0.toNatClampNeg) hx hb hr (fun t ht hW => ⟨⟨_, (), rfl, rfl, ⟨by rw [ht]; exact hP, va_K.moved hW.alike hK, hN.warm hW⟩, hD⟩, hS.F ht⟩) hS.2.2 dX4_rule_57
        · refine lv_aload_n hx hb dX4_rule_31 rfl (lv_at hl 0 rfl) ?_
          refine lv_iload_n hx hb dX4_rule_32 rfl (lv_at hl 2 rfl) ?_
          refine vp_callSi (W.runV (As := [.int v0]) (rest := []) ⟨hx, hb, hml, hown, hts⟩ (c_X4_isTooShort l D cI cZ cS q N V A v0 h_1) (cwV 1 hts gX4_rule_X4_isTooShort rfl rfl rfl (by decide +kernel) ⟨Nat.le_of_ble_eq_true rfl, Nat.le_of_ble_eq_true rfl⟩) (preC4 hK hN hP) rfl rfl hl.1 rfl (lv_room (Nat.le_of_ble_eq_true rfl)) dX4_rule_33 ⟨Nat.zero_le _, Nat.zero_le _⟩) (fun r_6 er_6 => ?_)
          subst er_6
          refine lz_if_eq (tgt := 42) hx hb dX4_rule_36 (by decide) (fun c_7 => ?_) (fun c_7 => ?_)
          · refine lv_aload_n hx hb dX4_rule_42 rfl (lv_at hl 0 rfl) ?_
            refine va_get (D := D) (ci := 4) (v := .ref (q 1)) (C := RX4) (T := TX4) (N := 7) hx hb hts hin4 hown hK hP 0 rfl rfl 0 (by decide) (hts (.fieldLink RX4 9 "NeckShip" "measures" "[I") (by decide +kernel)) (fun _ h9 => h9) rfl dX4_rule_43 ?_
            refine lv_iload_n hx hb dX4_rule_46 rfl (lv_at hl 1 rfl) ?_
            refine va_ialdN (i := w0.toNatClampNeg) hx hb hK hP 1 0 rfl rfl (by decide) (by omega) dX4_rule_47 ?_
            refine lv_istore_n (lv' := [(3, .int (A 1 w0.toNatClampNeg)), (0, .ref (q 0)), (1, .int (nI w0.toNatClampNeg)), (2, .int v0)]) hx hb dX4_rule_48 rfl hl (by decide) rfl (fun ls hl => ?_)
            refine lv_aload_n hx hb dX4_rule_49 rfl (lv_at hl 1 rfl) ?_
            refine va_get (D := D) (ci := 4) (v := .ref (q 1)) (C := RX4) (T := TX4) (N := 7) hx hb hts hin4 hown hK hP 0 rfl rfl 0 (by decide) (hts (.fieldLink RX4 9 "NeckShip" "measures" "[I") (by decide +kernel)) (fun _ h9 => h9) rfl dX4_rule_50 ?_
            refine lv_iload_n hx hb dX4_rule_53 rfl (lv_at hl 2 rfl) ?_
            refine lv_iload_n hx hb dX4_rule_54 rfl (lv_at hl 3 rfl) ?_
            refine va_iastN (i := w0.toNatClampNeg) hx hb hK hP hD hS 1 0 rfl rfl (by decide) (by omega) dX4_rule_55 (fun H locs hP hD hS => ?_)
            have hP : va_P D vwCl (wC cI cS q N V (va_up A 1 (upd (A 1) w0.toNatClampNeg v0))) H := hP
            have hD : va_D Ar (wC cI cS q N V (va_up A 1 (upd (A 1) w0.toNatClampNeg v0))) := hD
            refine lv_iload_n hx hb dX4_rule_56 rfl (lv_at hl 0 rfl) ?_
            have hEE : s_X4_rule N V A w0 v0 = (A 1 w0.toNatClampNeg, N, V, (va_up A 1 (upd (A 1) w0.toNatClampNeg v0))) := (by rw [s_X4_rule, if_neg c_1, if_pos c_2, if_pos c_4, if_pos c_5, if_neg (nb c_7)])
            rw [hEE]
            exact W.iret (v := A 1 w0.toNatClampNeg) hx hb hr (fun t ht hW => ⟨⟨_, (), rfl, rfl, ⟨by rw [ht]; exact hP, va_K.moved hW.alike hK, hN.warm hW⟩, hD⟩, hS.F ht⟩) hS.2.2 dX4_rule_57
          · refine lv_bipush (v := (-3)) hx hb dX4_rule_39 (by decide) ?_
            have hEE : s_X4_rule N V A w0 v0 = ((-3 : Int32), N, V, A) := (by rw [s_X4_rule, if_neg c_1, if_pos c_2, if_pos c_4, if_pos c_5, if_pos c_7])
            rw [hEE]
            exact W.iret (v := (-3 : Int32)) hx hb hr (fun t ht hW => ⟨⟨_, (), rfl, rfl, ⟨by rw [ht]; exact hP, va_K.moved hW.alike hK, hN.warm hW⟩, hD⟩, hS.F ht⟩) hS.2.2 dX4_rule_41
      · refine lv_bipush (v := (-2)) hx hb dX4_rule_24 (by decide) ?_
        have hEE : s_X4_rule N V A w0 v0 = ((-2 : Int32), N, V, A) := (by rw [s_X4_rule, if_neg c_1, if_pos c_2, if_neg (nb c_4)])
        rw [hEE]
        exact W.iret (v := (-2 : Int32)) hx hb hr (fun t ht hW => ⟨⟨_, (), rfl, rfl, ⟨by rw [ht]; exact hP, va_K.moved hW.alike hK, hN.warm hW⟩, hD⟩, hS.F ht⟩) hS.2.2 dX4_rule_26
    · refine lv_iconst (v := (-1)) hx hb dX4_rule_9 (by decide) ?_
      have hEE : s_X4_rule N V A w0 v0 = ((-1 : Int32), N, V, A) := (by rw [s_X4_rule, if_neg c_1, if_neg c_2])
      rw [hEE]
      exact W.iret (v := (-1 : Int32)) hx hb hr (fun t ht hW => ⟨⟨_, (), rfl, rfl, ⟨by rw [ht]; exact hP, va_K.moved hW.alike hK, hN.warm hW⟩, hD⟩, hS.F ht⟩) hS.2.2 dX4_rule_10
