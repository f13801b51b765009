theorem addSpar_0 {N : Nat → Nat} {V : Nat → Int32} {A : Nat → Nat → Int32} {k f l t w : Int32} : (s_X5_addSpar N V A k f l t w).1 0 = N 0 + 1 := rfl
theorem lt10 {a : Nat} (h : nI a < 10) (ha : a < 1000) : a < 10 := (nI_ltI (by omega) (by omega)).mp (show nI a < nI 10 from h)
def s_X5_plan_L2 (N : Nat → Nat) (V : Nat → Int32) (A : Nat → Nat → Int32) (k0 : Int32) (l0 : Int32) (i0 : Int32) (n0 : Int32) (k : Nat) : Nat → Nat → (Nat → Nat) → (Nat → Int32) → (Nat → Nat → Int32) → (Nat → Nat) × (Nat → Int32) × (Nat → Nat → Int32)
  | 0, k2, N1, V1, A1 =>
    (N1, V1, A1)
  | n2 + 1, k2, N1, V1, A1 =>
    s_X5_plan_L2 N V A k0 l0 i0 n0 k n2 (k2 + 1) ((s_X5_addSpar N1 V1 A1 (A1 16 (((50 * k0.toNatClampNeg) + i0.toNatClampNeg) + (5 * k2))) (A1 16 ((((50 * k0.toNatClampNeg) + i0.toNatClampNeg) + (5 * k2)) + 1)) (A1 16 ((((50 * k0.toNatClampNeg) + i0.toNatClampNeg) + (5 * k2)) + 2)) (A1 16 ((((50 * k0.toNatClampNeg) + i0.toNatClampNeg) + (5 * k2)) + 3)) (A1 16 ((((50 * k0.toNatClampNeg) + i0.toNatClampNeg) + (5 * k2)) + 4))).1) ((s_X5_addSpar N1 V1 A1 (A1 16 (((50 * k0.toNatClampNeg) + i0.toNatClampNeg) + (5 * k2))) (A1 16 ((((50 * k0.toNatClampNeg) + i0.toNatClampNeg) + (5 * k2)) + 1)) (A1 16 ((((50 * k0.toNatClampNeg) + i0.toNatClampNeg) + (5 * k2)) + 2)) (A1 16 ((((50 * k0.toNatClampNeg) + i0.toNatClampNeg) + (5 * k2)) + 3)) (A1 16 ((((50 * k0.toNatClampNeg) + i0.toNatClampNeg) + (5 * k2)) + 4))).2.1) ((s_X5_addSpar N1 V1 A1 (A1 16 (((50 * k0.toNatClampNeg) + i0.toNatClampNeg) + (5 * k2))) (A1 16 ((((50 * k0.toNatClampNeg) + i0.toNatClampNeg) + (5 * k2)) + 1)) (A1 16 ((((50 * k0.toNatClampNeg) + i0.toNatClampNeg) + (5 * k2)) + 2)) (A1 16 ((((50 * k0.toNatClampNeg) + i0.toNatClampNeg) + (5 * k2)) + 3)) (A1 16 ((((50 * k0.toNatClampNeg) + i0.toNatClampNeg) + (5 * k2)) + 4))).2.2)
def s_X5_plan_L1 (N : Nat → Nat) (V : Nat → Int32) (A : Nat → Nat → Int32) (k0 : Int32) (l0 : Int32) (i0 : Int32) (n0 : Int32) : Nat → Nat → Int32 × St
  | 0, k =>
    ((s_X5_refused ((s_X5_plan_L2 N V A k0 l0 i0 n0 k n0.toNatClampNeg 0 N V A).1) ((s_X5_plan_L2 N V A k0 l0 i0 n0 k n0.toNatClampNeg 0 N V A).2.1) ((s_X5_plan_L2 N V A k0 l0 i0 n0 k n0.toNatClampNeg 0 N V A).2.2) (nI ((s_X5_plan_L2 N V A k0 l0 i0 n0 k n0.toNatClampNeg 0 N V A).1 0))).1, (s_X5_refused ((s_X5_plan_L2 N V A k0 l0 i0 n0 k n0.toNatClampNeg 0 N V A).1) ((s_X5_plan_L2 N V A k0 l0 i0 n0 k n0.toNatClampNeg 0 N V A).2.1) ((s_X5_plan_L2 N V A k0 l0 i0 n0 k n0.toNatClampNeg 0 N V A).2.2) (nI ((s_X5_plan_L2 N V A k0 l0 i0 n0 k n0.toNatClampNeg 0 N V A).1 0))).2.1, (s_X5_refused ((s_X5_plan_L2 N V A k0 l0 i0 n0 k n0.toNatClampNeg 0 N V A).1) ((s_X5_plan_L2 N V A k0 l0 i0 n0 k n0.toNatClampNeg 0 N V A).2.1) ((s_X5_plan_L2 N V A k0 l0 i0 n0 k n0.toNatClampNeg 0 N V A).2.2) (nI ((s_X5_plan_L2 N V A k0 l0 i0 n0 k n0.toNatClampNeg 0 N V A).1 0))).2.2.1, (s_X5_refused ((s_X5_plan_L2 N V A k0 l0 i0 n0 k n0.toNatClampNeg 0 N V A).1) ((s_X5_plan_L2 N V A k0 l0 i0 n0 k n0.toNatClampNeg 0 N V A).2.1) ((s_X5_plan_L2 N V A k0 l0 i0 n0 k n0.toNatClampNeg 0 N V A).2.2) (nI ((s_X5_plan_L2 N V A k0 l0 i0 n0 k n0.toNatClampNeg 0 N V A).1 0))).2.2.2)
  | n + 1, k =>
    if (s_X5_isSpar N V A (A 16 (((50 * k0.toNatClampNeg) + i0.toNatClampNeg) + (5 * k))) (A 16 ((((50 * k0.toNatClampNeg) + i0.toNatClampNeg) + (5 * k)) + 1)) (A 16 ((((50 * k0.toNatClampNeg) + i0.toNatClampNeg) + (5 * k)) + 2)) (A 16 ((((50 * k0.toNatClampNeg) + i0.toNatClampNeg) + (5 * k)) + 3)) (A 16 ((((50 * k0.toNatClampNeg) + i0.toNatClampNeg) + (5 * k)) + 4))) = true then
      if nI ((N 0) + k) < (10 : Int32) then
        s_X5_plan_L1 N V A k0 l0 i0 n0 n (k + 1)
      else
        ((s_X5_refused N V A (-4 : Int32)).1, (s_X5_refused N V A (-4 : Int32)).2.1, (s_X5_refused N V A (-4 : Int32)).2.2.1, (s_X5_refused N V A (-4 : Int32)).2.2.2)
    else
      ((s_X5_refused N V A (-2 : Int32)).1, (s_X5_refused N V A (-2 : Int32)).2.1, (s_X5_refused N V A (-2 : Int32)).2.2.1, (s_X5_refused N V A (-2 : Int32)).2.2.2)
def s_X5_plan (N : Nat → Nat) (V : Nat → Int32) (A : Nat → Nat → Int32)  (k0 : Int32) (l0 : Int32) (i0 : Int32) (n0 : Int32) : Int32 × St :=
  if (s_X5_noSheet k0) = true then
    ((s_X5_refused N V A (-1 : Int32)).1, (s_X5_refused N V A (-1 : Int32)).2.1, (s_X5_refused N V A (-1 : Int32)).2.2.1, (s_X5_refused N V A (-1 : Int32)).2.2.2)
  else
    if (s_X5_in ((l0).toInt64) (0 : Int64) (2 : Int64)) = true then
      if A 14 k0.toNatClampNeg < 0 then
        if 0 ≤ A 14 k0.toNatClampNeg then
          if 0 ≤ n0 then
            if (s_X5_isBeyond i0 ((5 : Int64) * (n0).toInt64) (A 14 k0.toNatClampNeg)) = true then
              ((s_X5_failed N V A (3 : Int32)).1, (s_X5_failed N V A (3 : Int32)).2.1, (s_X5_failed N V A (3 : Int32)).2.2.1, (s_X5_failed N V A (3 : Int32)).2.2.2)
            else
              s_X5_plan_L1 N V A k0 l0 i0 n0 n0.toNatClampNeg 0
          else
            ((s_X5_failed N V A (4 : Int32)).1, (s_X5_failed N V A (4 : Int32)).2.1, (s_X5_failed N V A (4 : Int32)).2.2.1, (s_X5_failed N V A (4 : Int32)).2.2.2)
        else
          ((s_X5_failed N V A (1 : Int32)).1, (s_X5_failed N V A (1 : Int32)).2.1, (s_X5_failed N V A (1 : Int32)).2.2.1, (s_X5_failed N V A (1 : Int32)).2.2.2)
      else
        if A 15 k0.toNatClampNeg = l0 then
          if 0 ≤ A 14 k0.toNatClampNeg then
            if 0 ≤ n0 then
              if (s_X5_isBeyond i0 ((5 : Int64) * (n0).toInt64) (A 14 k0.toNatClampNeg)) = true then
                ((s_X5_failed N V A (3 : Int32)).1, (s_X5_failed N V A (3 : Int32)).2.1, (s_X5_failed N V A (3 : Int32)).2.2.1, (s_X5_failed N V A (3 : Int32)).2.2.2)
              else
                s_X5_plan_L1 N V A k0 l0 i0 n0 n0.toNatClampNeg 0
            else
              ((s_X5_failed N V A (4 : Int32)).1, (s_X5_failed N V A (4 : Int32)).2.1, (s_X5_failed N V A (4 : Int32)).2.2.1, (s_X5_failed N V A (4 : Int32)).2.2.2)
          else
            ((s_X5_failed N V A (1 : Int32)).1, (s_X5_failed N V A (1 : Int32)).2.1, (s_X5_failed N V A (1 : Int32)).2.2.1, (s_X5_failed N V A (1 : Int32)).2.2.2)
        else
          ((s_X5_failed N V A (2 : Int32)).1, (s_X5_failed N V A (2 : Int32)).2.1, (s_X5_failed N V A (2 : Int32)).2.2.1, (s_X5_failed N V A (2 : Int32)).2.2.2)
    else
      ((s_X5_refused N V A (-2 : Int32)).1, (s_X5_refused N V A (-2 : Int32)).2.1, (s_X5_refused N V A (-2 : Int32)).2.2.1, (s_X5_refused N V A (-2 : Int32)).2.2.2)
set_option maxHeartbeats 4000000 in
set_option maxRecDepth 100000 in
theorem c_X5_plan (l : Launch) (D : va_G) (cI cZ cS : ClassId) (q : Nat → Nat) (N : Nat → Nat) (V : Nat → Int32) (A : Nat → Nat → Int32) (sz : Nat) (k0 : Int32) (l0 : Int32) (i0 : Int32) (n0 : Int32) (h_1 : okM N A) (h_2 : okS A) : Met l yX5_plan wsX5_plan ({ frames := 2, cells := 0, slots := 0, locals := 50 }) (va_Pc [.ref (q 0), .int k0, .int l0, .int i0, .int n0] (fun U => U.heap.size = sz ∧ PM D cI cZ cS q N V A U ∧ va_D (fun _ => True) (wM cI cZ q N V A))) (va_Qi (fun r (_ : Unit) => r = (s_X5_plan N V A k0 l0 i0 n0).1) (fun _ t => PM D cI cZ cS q (s_X5_plan N V A k0 l0 i0 n0).2.1 (s_X5_plan N V A k0 l0 i0 n0).2.2.1 (s_X5_plan N V A k0 l0 i0 n0).2.2.2 t ∧ va_D (va_A (wM cI cZ q N V A) sz) (wM cI cZ q (s_X5_plan N V A k0 l0 i0 n0).2.1 (s_X5_plan N V A k0 l0 i0 n0).2.2.1 (s_X5_plan N V A k0 l0 i0 n0).2.2.2)) (va_A (wM cI cZ q N V A) sz)) 0 0 (va_A (wM cI cZ q N V A) sz) := by
  refine Met.ofW (cc := cX5_plan) (maxL := 8) (ret := (some .int)) (by decide) rfl ?_
  intro p e s m args below meth c s₁ B hml hv
  obtain ⟨rfl, hsz, ⟨hP, hK⟩, hD0⟩ := hv
  have hx := B.exec
  have hb := B.bytes
  have hr := B.returns
  have hts := atoms_spec (ws := wsX5_plan) B.pre
  have hown : s.vm.findClass RX5 = some m.cls := findClass_of_methodNamed B.named
  have hlocks := B.notSynchronized
  have hin5 : ∀ w ∈ u_ws RX5 TX5 22, w ∈ wsX5_plan := by decide +kernel
  subst hsz
  have hD := hD0.self (sz := s.heap.size)
  generalize hAe : va_A (wM cI cZ q N V A) s.heap.size = Ar at hD ⊢
  have hA : ∀ q : Nat, s.heap.size ≤ q → Ar q := fun q h => by rw [← hAe]; exact Or.inr h
  have hS : va_S Ar s.heap s.heap [] := va_S.rf
  obtain ⟨o1, o2, o3, o4, o5, o6, o7⟩ := id h_1
  have hl := lv_entry ([.ref (q 0), .int k0, .int l0, .int i0, .int n0]) (n := 8) (Nat.le_of_ble_eq_true rfl)
  rw [lg_entry_eq]
  generalize (lg_sl ([.ref (q 0), .int k0, .int l0, .int i0, .int n0]) ++ List.replicate (8 - (lg_sl ([.ref (q 0), .int k0, .int l0, .int i0, .int n0])).length) Slot.unset).toArray = ls at hl ⊢
  have hl : lv_has ls 8 [(0, .ref (q 0)), (1, .int k0), (2, .int l0), (3, .int i0), (4, .int n0)] := hl
  refine lv_iload_n hx hb dX5_plan_0 rfl (lv_at hl 1 rfl) ?_
  refine vp_callSi (W.runS (As := [.int k0]) (rest := []) ⟨hx, hb, hml, hown, hts⟩ (c_X5_noSheet l k0) (cwS 1 hts gX5_plan_X5_noSheet rfl rfl rfl (by decide +kernel) ⟨Nat.le_of_ble_eq_true rfl, Nat.le_of_ble_eq_true rfl⟩) (preEq) rfl rfl hl.1 rfl (lv_room (Nat.le_of_ble_eq_true rfl)) dX5_plan_1 ⟨Nat.zero_le _, Nat.zero_le _⟩) (fun r_1 er_1 => ?_)
  subst er_1
  refine lz_if_eq (tgt := 13) hx hb dX5_plan_4 (by decide) (fun c_2 => ?_) (fun c_2 => ?_)
  · obtain ⟨hlt_k0, heq_k0⟩ := noSheet_f c_2
    have hl : lv_has ls 8 [(0, .ref (q 0)), (1, .int (nI k0.toNatClampNeg)), (2, .int l0), (3, .int i0), (4, .int n0)] := by rw [heq_k0]; exact hl
    refine lv_iload_n hx hb dX5_plan_13 rfl (lv_at hl 2 rfl) ?_
    refine lv_i2l (v := (l0).toInt64) hx hb dX5_plan_14 rfl ?_
    refine lv_lconst (v := (0)) hx hb dX5_plan_15 (by decide) ?_
    refine lv_ldc2 (v := (2)) hx hb hown (hts (.constantLong RX5 92 (2)) (by decide +kernel)) dX5_plan_16 ?_
    refine vp_callSi (W.runS (As := [.long ((l0).toInt64), .long (0 : Int64), .long (2 : Int64)]) (rest := []) ⟨hx, hb, hml, hown, hts⟩ (c_X5_in l ((l0).toInt64) (0 : Int64) (2 : Int64)) (cwS 3 hts gX5_plan_X5_in rfl rfl rfl (by decide +kernel) ⟨Nat.le_of_ble_eq_true rfl, Nat.le_of_ble_eq_true rfl⟩) (preEq) rfl rfl hl.1 rfl (lv_room (Nat.le_of_ble_eq_true rfl)) dX5_plan_19 ⟨Nat.zero_le _, Nat.zero_le _⟩) (fun r_3 er_3 => ?_)
    subst er_3
    refine lz_if_ne (tgt := 32) hx hb dX5_plan_22 (by decide) (fun c_4 => ?_) (fun c_4 => ?_)
    · refine lv_aload_n hx hb dX5_plan_32 rfl (lv_at hl 0 rfl) ?_
      refine va_get (D := D) (ci := 5) (v := .ref (q 14)) (C := RX5) (T := TX5) (N := 22) hx hb hts hin5 hown hK hP 0 rfl rfl 17 (by decide) (hts (.fieldLink RX5 50 "NeckShipModel" "sheetSize" "[I") (by decide +kernel)) (fun _ h9 => h9) rfl dX5_plan_33 ?_
      refine lv_iload_n hx hb dX5_plan_36 rfl (lv_at hl 1 rfl) ?_
      refine va_ialdN (i := k0.toNatClampNeg) hx hb hK hP 14 0 rfl rfl (by decide) (by omega) dX5_plan_37 ?_
      refine lv_if_lt (tgt := 57) hx hb dX5_plan_38 (by decide) (fun c_5 => ?_) (fun c_5 => ?_)
      · refine lv_aload_n hx hb dX5_plan_57 rfl (lv_at hl 0 rfl) ?_
        refine va_get (D := D) (ci := 5) (v := .ref (q 14)) (C := RX5) (T := TX5) (N := 22) hx hb hts hin5 hown hK hP 0 rfl rfl 17 (by decide) (hts (.fieldLink RX5 50 "NeckShipModel" "sheetSize" "[I") (by decide +kernel)) (fun _ h9 => h9) rfl dX5_plan_58 ?_
        refine lv_iload_n hx hb dX5_plan_61 rfl (lv_at hl 1 rfl) ?_
        refine va_ialdN (i := k0.toNatClampNeg) hx hb hK hP 14 0 rfl rfl (by decide) (by omega) dX5_plan_62 ?_
        refine lv_if_ge (tgt := 72) hx hb dX5_plan_63 (by decide) (fun c_6 => ?_) (fun c_6 => ?_)
        · refine lv_iload hx hb dX5_plan_72 (lv_at hl 4 rfl) ?_
          refine lv_if_ge (tgt := 83) hx hb dX5_plan_74 (by decide) (fun c_7 => ?_) (fun c_7 => ?_)
          · have hn0 := c_7
            refine lv_iload_n hx hb dX5_plan_83 rfl (lv_at hl 3 rfl) ?_
            refine lv_ldc2 (v := (5)) hx hb hown (hts (.constantLong RX5 197 (5)) (by decide +kernel)) dX5_plan_84 ?_
            refine lv_iload hx hb dX5_plan_87 (lv_at hl 4 rfl) ?_
            refine lv_i2l (v := (n0).toInt64) hx hb dX5_plan_89 rfl ?_
            refine lv_lmul hx hb dX5_plan_90 ?_
            refine lv_aload_n hx hb dX5_plan_91 rfl (lv_at hl 0 rfl) ?_
            refine va_get (D := D) (ci := 5) (v := .ref (q 14)) (C := RX5) (T := TX5) (N := 22) hx hb hts hin5 hown hK hP 0 rfl rfl 17 (by decide) (hts (.fieldLink RX5 50 "NeckShipModel" "sheetSize" "[I") (by decide +kernel)) (fun _ h9 => h9) rfl dX5_plan_92 ?_
            refine lv_iload_n hx hb dX5_plan_95 rfl (lv_at hl 1 rfl) ?_
            refine va_ialdN (i := k0.toNatClampNeg) hx hb hK hP 14 0 rfl rfl (by decide) (by omega) dX5_plan_96 ?_
            refine vp_callSi (W.runS (As := [.int i0, .long ((5 : Int64) * (n0).toInt64), .int (A 14 k0.toNatClampNeg)]) (rest := []) ⟨hx, hb, hml, hown, hts⟩ (c_X5_isBeyond l i0 ((5 : Int64) * (n0).toInt64) (A 14 k0.toNatClampNeg)) (cwS 3 hts gX5_plan_X5_isBeyond rfl rfl rfl (by decide +kernel) ⟨Nat.le_of_ble_eq_true rfl, Nat.le_of_ble_eq_true rfl⟩) (preEq) rfl rfl hl.1 rfl (lv_room (Nat.le_of_ble_eq_true rfl)) dX5_plan_97 ⟨Nat.zero_le _, Nat.zero_le _⟩) (fun r_8 er_8 => ?_)
            subst er_8
            refine lz_if_eq (tgt := 109) hx hb dX5_plan_100 (by decide) (fun c_9 => ?_) (fun c_9 => ?_)
            · obtain ⟨hle_a, heq_i0, heq_n0⟩ := beyond_5 (h_2 _ (by omega)) hn0 c_9
              have hl : lv_has ls 8 [(0, .ref (q 0)), (1, .int (nI k0.toNatClampNeg)), (2, .int l0), (3, .int (nI i0.toNatClampNeg)), (4, .int (nI n0.toNatClampNeg))] := by rw [heq_i0, heq_n0]; exact hl
              refine lv_bipush (v := (50)) hx hb dX5_plan_109 (by decide) ?_
              refine lv_iload_n hx hb dX5_plan_111 rfl (lv_at hl 1 rfl) ?_
              refine lv_imul hx hb dX5_plan_112 ?_
              rw [show (50 : Int32) * nI k0.toNatClampNeg = nI (50 * k0.toNatClampNeg) from pk_mul 50 k0.toNatClampNeg]
              refine lv_iload_n hx hb dX5_plan_113 rfl (lv_at hl 3 rfl) ?_
              refine lv_iadd hx hb dX5_plan_114 ?_
              rw [nI_add (50 * k0.toNatClampNeg) i0.toNatClampNeg]
              refine lv_istore (lv' := [(5, .int (nI ((50 * k0.toNatClampNeg) + i0.toNatClampNeg))), (0, .ref (q 0)), (1, .int (nI k0.toNatClampNeg)), (2, .int l0), (3, .int (nI i0.toNatClampNeg)), (4, .int (nI n0.toNatClampNeg))]) hx hb dX5_plan_115 hl (by decide) rfl (fun ls hl => ?_)
              refine lv_iconst (v := (0)) hx hb dX5_plan_117 (by decide) ?_
              refine lv_istore (lv' := [(6, .int (0)), (5, .int (nI ((50 * k0.toNatClampNeg) + i0.toNatClampNeg))), (0, .ref (q 0)), (1, .int (nI k0.toNatClampNeg)), (2, .int l0), (3, .int (nI i0.toNatClampNeg)), (4, .int (nI n0.toNatClampNeg))]) hx hb dX5_plan_118 hl (by decide) rfl (fun ls hl => ?_)
              have LL1 : ∀ (n k : Nat)  (H : Heap) (locs : List Loc), va_P D vwCl (wM cI cZ q N V A) H → va_D Ar (wM cI cZ q N V A) → va_S Ar s.heap H locs → ∀ (ls : Array Slot), k + n = n0.toNatClampNeg → k = 0 ∨ N 0 + k ≤ 10 → s_X5_plan N V A k0 l0 i0 n0 = s_X5_plan_L1 N V A k0 l0 i0 n0 n k → lv_has ls 8 [(6, .int (nI k)), (5, .int (nI ((50 * k0.toNatClampNeg) + i0.toNatClampNeg))), (0, .ref (q 0)), (1, .int (nI k0.toNatClampNeg)), (2, .int l0), (3, .int (nI i0.toNatClampNeg)), (4, .int (nI n0.toNatClampNeg))] → W p l e (headSpec wsX5_plan ({ frames := 2, cells := 0, slots := 0, locals := 50 })).room s m ([.ref (q 0), .int k0, .int l0, .int i0, .int n0] : List Value).toArray below meth c H locs 0 0 (MQ below (va_Qi (fun r (_ : Unit) => r = (s_X5_plan N V A k0 l0 i0 n0).1) (fun _ t => PM D cI cZ cS q (s_X5_plan N V A k0 l0 i0 n0).2.1 (s_X5_plan N V A k0 l0 i0 n0).2.2.1 (s_X5_plan N V A k0 l0 i0 n0).2.2.2 t ∧ va_D Ar (wM cI cZ q (s_X5_plan N V A k0 l0 i0 n0).2.1 (s_X5_plan N V A k0 l0 i0 n0).2.2.1 (s_X5_plan N V A k0 l0 i0 n0).2.2.2)) Ar) ([.ref (q 0), .int k0, .int l0, .int i0, .int n0] : List Value).toArray s 0 0 Ar) (F0 m 120 ls []) := by
                intro n
                induction n with
                | zero =>
                  intro k H locs hP hD hS ls hk hI hF hl
                  refine lv_iload hx hb dX5_plan_120 (lv_at hl 0 rfl) ?_
                  refine lv_iload hx hb dX5_plan_122 (lv_at hl 6 rfl) ?_
                  refine lv_icmp_ge (tgt := 218) hx hb dX5_plan_124 (by decide) (fun _ => ?_) (fun c_10 => absurd (nI_le (by omega) (by omega)) c_10)
                  refine lv_iconst (v := (0)) hx hb dX5_plan_218 (by decide) ?_
                  refine lv_istore (lv' := [(6, .int (0)), (5, .int (nI ((50 * k0.toNatClampNeg) + i0.toNatClampNeg))), (0, .ref (q 0)), (1, .int (nI k0.toNatClampNeg)), (2, .int l0), (3, .int (nI i0.toNatClampNeg)), (4, .int (nI n0.toNatClampNeg))]) hx hb dX5_plan_219 hl (by decide) rfl (fun ls hl => ?_)
                  have KL2 : ∀ (H : Heap) (locs : List Loc), va_P D vwCl (wM cI cZ q ((s_X5_plan_L2 N V A k0 l0 i0 n0 k n0.toNatClampNeg 0 N V A).1) ((s_X5_plan_L2 N V A k0 l0 i0 n0 k n0.toNatClampNeg 0 N V A).2.1) ((s_X5_plan_L2 N V A k0 l0 i0 n0 k n0.toNatClampNeg 0 N V A).2.2)) H → va_D Ar (wM cI cZ q ((s_X5_plan_L2 N V A k0 l0 i0 n0 k n0.toNatClampNeg 0 N V A).1) ((s_X5_plan_L2 N V A k0 l0 i0 n0 k n0.toNatClampNeg 0 N V A).2.1) ((s_X5_plan_L2 N V A k0 l0 i0 n0 k n0.toNatClampNeg 0 N V A).2.2)) → va_S Ar s.heap H locs → ∀ (ls : Array Slot), ((s_X5_plan_L2 N V A k0 l0 i0 n0 k n0.toNatClampNeg 0 N V A).1) 0 = N 0 + (n0.toNatClampNeg) → lv_has ls 8 [(5, .int (nI ((50 * k0.toNatClampNeg) + i0.toNatClampNeg))), (0, .ref (q 0)), (1, .int (nI k0.toNatClampNeg)), (2, .int l0), (3, .int (nI i0.toNatClampNeg)), (4, .int (nI n0.toNatClampNeg))] → W p l e (headSpec wsX5_plan ({ frames := 2, cells := 0, slots := 0, locals := 50 })).room s m ([.ref (q 0), .int k0, .int l0, .int i0, .int n0] : List Value).toArray below meth c H locs 0 0 (MQ below (va_Qi (fun r (_ : Unit) => r = (s_X5_plan N V A k0 l0 i0 n0).1) (fun _ t => PM D cI cZ cS q (s_X5_plan N V A k0 l0 i0 n0).2.1 (s_X5_plan N V A k0 l0 i0 n0).2.2.1 (s_X5_plan N V A k0 l0 i0 n0).2.2.2 t ∧ va_D Ar (wM cI cZ q (s_X5_plan N V A k0 l0 i0 n0).2.1 (s_X5_plan N V A k0 l0 i0 n0).2.2.1 (s_X5_plan N V A k0 l0 i0 n0).2.2.2)) Ar) ([.ref (q 0), .int k0, .int l0, .int i0, .int n0] : List Value).toArray s 0 0 Ar) (F0 m 290 ls []) := by
                    intro H locs hP hD hS ls hI hl
                    refine lv_aload_n hx hb dX5_plan_290 rfl (lv_at hl 1 rfl) ?_
                    refine lv_aload_n hx hb dX5_plan_291 rfl (lv_at hl 1 rfl) ?_
                    refine va_get (D := D) (ci := 5) (v := .int (nI ((s_X5_plan_L2 N V A k0 l0 i0 n0 k n0.toNatClampNeg 0 N V A).1 0))) (C := RX5) (T := TX5) (N := 22) hx hb hts hin5 hown hK hP 0 rfl rfl 2 (by decide) (hts (.fieldLink RX5 72 "NeckShipModel" "spars" "I") (by decide +kernel)) (fun _ h9 => h9) rfl dX5_plan_292 ?_
                    refine callMi (va_runV (As := [.int (nI ((s_X5_plan_L2 N V A k0 l0 i0 n0 k n0.toNatClampNeg 0 N V A).1 0))]) (rest := []) ⟨hx, hb, hml, hown, hts⟩ (c_X5_refused l D cI cZ cS q ((s_X5_plan_L2 N V A k0 l0 i0 n0 k n0.toNatClampNeg 0 N V A).1) ((s_X5_plan_L2 N V A k0 l0 i0 n0 k n0.toNatClampNeg 0 N V A).2.1) ((s_X5_plan_L2 N V A k0 l0 i0 n0 k n0.toNatClampNeg 0 N V A).2.2) H.size (nI ((s_X5_plan_L2 N V A k0 l0 i0 n0 k n0.toNatClampNeg 0 N V A).1 0))) (cwV 1 hts gX5_plan_X5_refused rfl rfl rfl (by decide +kernel) ⟨Nat.le_of_ble_eq_true rfl, Nat.le_of_ble_eq_true rfl⟩) (preMm hK hP hD) rfl rfl hl.1 rfl (lv_room (Nat.le_of_ble_eq_true rfl)) dX5_plan_295 ⟨Nat.zero_le _, Nat.zero_le _⟩) hD hS hA (fun H locs hP hD hS => ?_)
                    have hEE : s_X5_plan N V A k0 l0 i0 n0 = ((s_X5_refused ((s_X5_plan_L2 N V A k0 l0 i0 n0 k n0.toNatClampNeg 0 N V A).1) ((s_X5_plan_L2 N V A k0 l0 i0 n0 k n0.toNatClampNeg 0 N V A).2.1) ((s_X5_plan_L2 N V A k0 l0 i0 n0 k n0.toNatClampNeg 0 N V A).2.2) (nI ((s_X5_plan_L2 N V A k0 l0 i0 n0 k n0.toNatClampNeg 0 N V A).1 0))).1, (s_X5_refused ((s_X5_plan_L2 N V A k0 l0 i0 n0 k n0.toNatClampNeg 0 N V A).1) ((s_X5_plan_L2 N V A k0 l0 i0 n0 k n0.toNatClampNeg 0 N V A).2.1) ((s_X5_plan_L2 N V A k0 l0 i0 n0 k n0.toNatClampNeg 0 N V A).2.2) (nI ((s_X5_plan_L2 N V A k0 l0 i0 n0 k n0.toNatClampNeg 0 N V A).1 0))).2.1, (s_X5_refused ((s_X5_plan_L2 N V A k0 l0 i0 n0 k n0.toNatClampNeg 0 N V A).1) ((s_X5_plan_L2 N V A k0 l0 i0 n0 k n0.toNatClampNeg 0 N V A).2.1) ((s_X5_plan_L2 N V A k0 l0 i0 n0 k n0.toNatClampNeg 0 N V A).2.2) (nI ((s_X5_plan_L2 N V A k0 l0 i0 n0 k n0.toNatClampNeg 0 N V A).1 0))).2.2.1, (s_X5_refused ((s_X5_plan_L2 N V A k0 l0 i0 n0 k n0.toNatClampNeg 0 N V A).1) ((s_X5_plan_L2 N V A k0 l0 i0 n0 k n0.toNatClampNeg 0 N V A).2.1) ((s_X5_plan_L2 N V A k0 l0 i0 n0 k n0.toNatClampNeg 0 N V A).2.2) (nI ((s_X5_plan_L2 N V A k0 l0 i0 n0 k n0.toNatClampNeg 0 N V A).1 0))).2.2.2) := (by rw [hF, s_X5_plan_L1])
                    rw [hEE]
                    exact W.iret (v := (s_X5_refused ((s_X5_plan_L2 N V A k0 l0 i0 n0 k n0.toNatClampNeg 0 N V A).1) ((s_X5_plan_L2 N V A k0 l0 i0 n0 k n0.toNatClampNeg 0 N V A).2.1) ((s_X5_plan_L2 N V A k0 l0 i0 n0 k n0.toNatClampNeg 0 N V A).2.2) (nI ((s_X5_plan_L2 N V A k0 l0 i0 n0 k n0.toNatClampNeg 0 N V A).1 0))).1) hx hb hr (fun t ht hW => ⟨⟨_, (), rfl, rfl, ⟨by rw [ht]; exact hP, va_K.moved hW.alike hK⟩, hD⟩, hS.F ht⟩) hS.2.2 dX5_plan_298
                  have LL2 : ∀ (n2 k2 : Nat) (N1 : Nat → Nat) (V1 : Nat → Int32) (A1 : Nat → Nat → Int32) (H : Heap) (locs : List Loc), va_P D vwCl (wM cI cZ q N1 V1 A1) H → va_D Ar (wM cI cZ q N1 V1 A1) → va_S Ar s.heap H locs → ∀ (ls : Array Slot), k2 + n2 = n0.toNatClampNeg → N1 0 = N 0 + k2 → s_X5_plan_L2 N V A k0 l0 i0 n0 k n0.toNatClampNeg 0 N V A = s_X5_plan_L2 N V A k0 l0 i0 n0 k n2 k2 N1 V1 A1 → lv_has ls 8 [(6, .int (nI k2)), (5, .int (nI ((50 * k0.toNatClampNeg) + i0.toNatClampNeg))), (0, .ref (q 0)), (1, .int (nI k0.toNatClampNeg)), (2, .int l0), (3, .int (nI i0.toNatClampNeg)), (4, .int (nI n0.toNatClampNeg))] → W p l e (headSpec wsX5_plan ({ frames := 2, cells := 0, slots := 0, locals := 50 })).room s m ([.ref (q 0), .int k0, .int l0, .int i0, .int n0] : List Value).toArray below meth c H locs 0 0 (MQ below (va_Qi (fun r (_ : Unit) => r = (s_X5_plan N V A k0 l0 i0 n0).1) (fun _ t => PM D cI cZ cS q (s_X5_plan N V A k0 l0 i0 n0).2.1 (s_X5_plan N V A k0 l0 i0 n0).2.2.1 (s_X5_plan N V A k0 l0 i0 n0).2.2.2 t ∧ va_D Ar (wM cI cZ q (s_X5_plan N V A k0 l0 i0 n0).2.1 (s_X5_plan N V A k0 l0 i0 n0).2.2.1 (s_X5_plan N V A k0 l0 i0 n0).2.2.2)) Ar) ([.ref (q 0), .int k0, .int l0, .int i0, .int n0] : List Value).toArray s 0 0 Ar) (F0 m 221 ls []) := by
                    intro n2
                    induction n2 with
                    | zero =>
                      intro k2 N1 V1 A1 H locs hP hD hS ls hk hI hF hl
                      refine lv_iload hx hb dX5_plan_221 (lv_at hl 0 rfl) ?_
                      refine lv_iload hx hb dX5_plan_223 (lv_at hl 6 rfl) ?_
                      refine lv_icmp_ge (tgt := 290) hx hb dX5_plan_225 (by decide) (fun _ => ?_) (fun c_11 => absurd (nI_le (by omega) (by omega)) c_11)
                      have hF : s_X5_plan_L2 N V A k0 l0 i0 n0 k n0.toNatClampNeg 0 N V A = (N1, V1, A1) := hF.trans (by rw [s_X5_plan_L2])
                      have hF0 := congrArg (fun z => z.1) hF
                      have hF1 := congrArg (fun z => z.2.1) hF
                      have hF2 := congrArg (fun z => z.2.2) hF
                      dsimp only at hF0 hF1 hF2
                      exact KL2 _ _ (by (try rw [hF0]); (try rw [hF1]); (try rw [hF2]); exact hP) (by (try rw [hF0]); (try rw [hF1]); (try rw [hF2]); exact hD) hS _ (by (try rw [hF0]); (try rw [hF1]); (try rw [hF2]); exact (by omega)) (by (try rw [hF0]); (try rw [hF1]); (try rw [hF2]); exact lv_sub hl [1, 2, 3, 4, 5, 6] rfl)
                    | succ n2 ih =>
                      intro k2 N1 V1 A1 H locs hP hD hS ls hk hI hF hl
                      refine lv_iload hx hb dX5_plan_221 (lv_at hl 0 rfl) ?_
                      refine lv_iload hx hb dX5_plan_223 (lv_at hl 6 rfl) ?_
                      refine lv_icmp_ge (tgt := 290) hx hb dX5_plan_225 (by decide) (fun c_12 => absurd c_12 (nI_ge (by omega) (by omega))) (fun _ => ?_)
                      refine lv_iload hx hb dX5_plan_228 (lv_at hl 1 rfl) ?_
                      refine lv_iconst (v := (5)) hx hb dX5_plan_230 (by decide) ?_
                      refine lv_iload hx hb dX5_plan_231 (lv_at hl 0 rfl) ?_
                      refine lv_imul hx hb dX5_plan_233 ?_
                      rw [show (5 : Int32) * nI k2 = nI (5 * k2) from pk_mul 5 k2]
                      refine lv_iadd hx hb dX5_plan_234 ?_
                      rw [nI_add ((50 * k0.toNatClampNeg) + i0.toNatClampNeg) (5 * k2)]
                      refine lv_istore (lv' := [(7, .int (nI (((50 * k0.toNatClampNeg) + i0.toNatClampNeg) + (5 * k2)))), (6, .int (nI k2)), (5, .int (nI ((50 * k0.toNatClampNeg) + i0.toNatClampNeg))), (0, .ref (q 0)), (1, .int (nI k0.toNatClampNeg)), (2, .int l0), (3, .int (nI i0.toNatClampNeg)), (4, .int (nI n0.toNatClampNeg))]) hx hb dX5_plan_235 hl (by decide) rfl (fun ls hl => ?_)
                      refine lv_aload_n hx hb dX5_plan_237 rfl (lv_at hl 3 rfl) ?_
                      refine lv_aload_n hx hb dX5_plan_238 rfl (lv_at hl 3 rfl) ?_
                      refine va_get (D := D) (ci := 5) (v := .ref (q 16)) (C := RX5) (T := TX5) (N := 22) hx hb hts hin5 hown hK hP 0 rfl rfl 19 (by decide) (hts (.fieldLink RX5 56 "NeckShipModel" "sheet" "[I") (by decide +kernel)) (fun _ h9 => h9) rfl dX5_plan_239 ?_
                      refine lv_iload hx hb dX5_plan_242 (lv_at hl 0 rfl) ?_
                      refine va_ialdN (i := (((50 * k0.toNatClampNeg) + i0.toNatClampNeg) + (5 * k2))) hx hb hK hP 16 0 rfl rfl (by decide) (by omega) dX5_plan_244 ?_
                      refine lv_aload_n hx hb dX5_plan_245 rfl (lv_at hl 3 rfl) ?_
                      refine va_get (D := D) (ci := 5) (v := .ref (q 16)) (C := RX5) (T := TX5) (N := 22) hx hb hts hin5 hown hK hP 0 rfl rfl 19 (by decide) (hts (.fieldLink RX5 56 "NeckShipModel" "sheet" "[I") (by decide +kernel)) (fun _ h9 => h9) rfl dX5_plan_246 ?_
                      refine lv_iload hx hb dX5_plan_249 (lv_at hl 0 rfl) ?_
                      refine lv_iconst (v := (1)) hx hb dX5_plan_251 (by decide) ?_
                      refine lv_iadd hx hb dX5_plan_252 ?_
                      rw [nI_1 (((50 * k0.toNatClampNeg) + i0.toNatClampNeg) + (5 * k2))]
                      refine va_ialdN (i := ((((50 * k0.toNatClampNeg) + i0.toNatClampNeg) + (5 * k2)) + 1)) hx hb hK hP 16 0 rfl rfl (by decide) (by omega) dX5_plan_253 ?_
                      refine lv_aload_n hx hb dX5_plan_254 rfl (lv_at hl 3 rfl) ?_
                      refine va_get (D := D) (ci := 5) (v := .ref (q 16)) (C := RX5) (T := TX5) (N := 22) hx hb hts hin5 hown hK hP 0 rfl rfl 19 (by decide) (hts (.fieldLink RX5 56 "NeckShipModel" "sheet" "[I") (by decide +kernel)) (fun _ h9 => h9) rfl dX5_plan_255 ?_
                      refine lv_iload hx hb dX5_plan_258 (lv_at hl 0 rfl) ?_
                      refine lv_iconst (v := (2)) hx hb dX5_plan_260 (by decide) ?_
                      refine lv_iadd hx hb dX5_plan_261 ?_
                      rw [show nI (((50 * k0.toNatClampNeg) + i0.toNatClampNeg) + (5 * k2)) + (2 : Int32) = nI ((((50 * k0.toNatClampNeg) + i0.toNatClampNeg) + (5 * k2)) + 2) from nI_add (((50 * k0.toNatClampNeg) + i0.toNatClampNeg) + (5 * k2)) 2]
                      refine va_ialdN (i := ((((50 * k0.toNatClampNeg) + i0.toNatClampNeg) + (5 * k2)) + 2)) hx hb hK hP 16 0 rfl rfl (by decide) (by omega) dX5_plan_262 ?_
                      refine lv_aload_n hx hb dX5_plan_263 rfl (lv_at hl 3 rfl) ?_
                      refine va_get (D := D) (ci := 5) (v := .ref (q 16)) (C := RX5) (T := TX5) (N := 22) hx hb hts hin5 hown hK hP 0 rfl rfl 19 (by decide) (hts (.fieldLink RX5 56 "NeckShipModel" "sheet" "[I") (by decide +kernel)) (fun _ h9 => h9) rfl dX5_plan_264 ?_
                      refine lv_iload hx hb dX5_plan_267 (lv_at hl 0 rfl) ?_
                      refine lv_iconst (v := (3)) hx hb dX5_plan_269 (by decide) ?_
                      refine lv_iadd hx hb dX5_plan_270 ?_
                      rw [show nI (((50 * k0.toNatClampNeg) + i0.toNatClampNeg) + (5 * k2)) + (3 : Int32) = nI ((((50 * k0.toNatClampNeg) + i0.toNatClampNeg) + (5 * k2)) + 3) from nI_add (((50 * k0.toNatClampNeg) + i0.toNatClampNeg) + (5 * k2)) 3]
                      refine va_ialdN (i := ((((50 * k0.toNatClampNeg) + i0.toNatClampNeg) + (5 * k2)) + 3)) hx hb hK hP 16 0 rfl rfl (by decide) (by omega) dX5_plan_271 ?_
                      refine lv_aload_n hx hb dX5_plan_272 rfl (lv_at hl 3 rfl) ?_
                      refine va_get (D := D) (ci := 5) (v := .ref (q 16)) (C := RX5) (T := TX5) (N := 22) hx hb hts hin5 hown hK hP 0 rfl rfl 19 (by decide) (hts (.fieldLink RX5 56 "NeckShipModel" "sheet" "[I") (by decide +kernel)) (fun _ h9 => h9) rfl dX5_plan_273 ?_
                      refine lv_iload hx hb dX5_plan_276 (lv_at hl 0 rfl) ?_
                      refine lv_iconst (v := (4)) hx hb dX5_plan_278 (by decide) ?_
                      refine lv_iadd hx hb dX5_plan_279 ?_
                      rw [show nI (((50 * k0.toNatClampNeg) + i0.toNatClampNeg) + (5 * k2)) + (4 : Int32) = nI ((((50 * k0.toNatClampNeg) + i0.toNatClampNeg) + (5 * k2)) + 4) from nI_add (((50 * k0.toNatClampNeg) + i0.toNatClampNeg) + (5 * k2)) 4]
                      refine va_ialdN (i := ((((50 * k0.toNatClampNeg) + i0.toNatClampNeg) + (5 * k2)) + 4)) hx hb hK hP 16 0 rfl rfl (by decide) (by omega) dX5_plan_280 ?_
                      refine callMv (va_runV (As := [.int (A1 16 (((50 * k0.toNatClampNeg) + i0.toNatClampNeg) + (5 * k2))), .int (A1 16 ((((50 * k0.toNatClampNeg) + i0.toNatClampNeg) + (5 * k2)) + 1)), .int (A1 16 ((((50 * k0.toNatClampNeg) + i0.toNatClampNeg) + (5 * k2)) + 2)), .int (A1 16 ((((50 * k0.toNatClampNeg) + i0.toNatClampNeg) + (5 * k2)) + 3)), .int (A1 16 ((((50 * k0.toNatClampNeg) + i0.toNatClampNeg) + (5 * k2)) + 4))]) (rest := []) ⟨hx, hb, hml, hown, hts⟩ (c_X5_addSpar l D cI cZ cS q N1 V1 A1 H.size (A1 16 (((50 * k0.toNatClampNeg) + i0.toNatClampNeg) + (5 * k2))) (A1 16 ((((50 * k0.toNatClampNeg) + i0.toNatClampNeg) + (5 * k2)) + 1)) (A1 16 ((((50 * k0.toNatClampNeg) + i0.toNatClampNeg) + (5 * k2)) + 2)) (A1 16 ((((50 * k0.toNatClampNeg) + i0.toNatClampNeg) + (5 * k2)) + 3)) (A1 16 ((((50 * k0.toNatClampNeg) + i0.toNatClampNeg) + (5 * k2)) + 4)) (by omega)) (cwV 5 hts gX5_plan_X5_addSpar rfl rfl rfl (by decide +kernel) ⟨Nat.le_of_ble_eq_true rfl, Nat.le_of_ble_eq_true rfl⟩) (preMm hK hP hD) rfl rfl hl.1 rfl (lv_room (Nat.le_of_ble_eq_true rfl)) dX5_plan_281 ⟨Nat.zero_le _, Nat.zero_le _⟩) hD hS hA (fun H locs hP hD hS => ?_)
                      refine lv_iinc (v := nI (k2 + 1)) (lv' := [(6, .int (nI (k2 + 1))), (7, .int (nI (((50 * k0.toNatClampNeg) + i0.toNatClampNeg) + (5 * k2)))), (5, .int (nI ((50 * k0.toNatClampNeg) + i0.toNatClampNeg))), (0, .ref (q 0)), (1, .int (nI k0.toNatClampNeg)), (2, .int l0), (3, .int (nI i0.toNatClampNeg)), (4, .int (nI n0.toNatClampNeg))]) hx hb dX5_plan_284 hl (k := 1) rfl (nI_1 k2) (by decide) rfl (fun ls hl => ?_)
                      refine lv_goto (tgt := 221) hx hb dX5_plan_287 (by decide) ?_
                      exact ih (k2 + 1) ((s_X5_addSpar N1 V1 A1 (A1 16 (((50 * k0.toNatClampNeg) + i0.toNatClampNeg) + (5 * k2))) (A1 16 ((((50 * k0.toNatClampNeg) + i0.toNatClampNeg) + (5 * k2)) + 1)) (A1 16 ((((50 * k0.toNatClampNeg) + i0.toNatClampNeg) + (5 * k2)) + 2)) (A1 16 ((((50 * k0.toNatClampNeg) + i0.toNatClampNeg) + (5 * k2)) + 3)) (A1 16 ((((50 * k0.toNatClampNeg) + i0.toNatClampNeg) + (5 * k2)) + 4))).1) ((s_X5_addSpar N1 V1 A1 (A1 16 (((50 * k0.toNatClampNeg) + i0.toNatClampNeg) + (5 * k2))) (A1 16 ((((50 * k0.toNatClampNeg) + i0.toNatClampNeg) + (5 * k2)) + 1)) (A1 16 ((((50 * k0.toNatClampNeg) + i0.toNatClampNeg) + (5 * k2)) + 2)) (A1 16 ((((50 * k0.toNatClampNeg) + i0.toNatClampNeg) + (5 * k2)) + 3)) (A1 16 ((((50 * k0.toNatClampNeg) + i0.toNatClampNeg) + (5 * k2)) + 4))).2.1) ((s_X5_addSpar N1 V1 A1 (A1 16 (((50 * k0.toNatClampNeg) + i0.toNatClampNeg) + (5 * k2))) (A1 16 ((((50 * k0.toNatClampNeg) + i0.toNatClampNeg) + (5 * k2)) + 1)) (A1 16 ((((50 * k0.toNatClampNeg) + i0.toNatClampNeg) + (5 * k2)) + 2)) (A1 16 ((((50 * k0.toNatClampNeg) + i0.toNatClampNeg) + (5 * k2)) + 3)) (A1 16 ((((50 * k0.toNatClampNeg) + i0.toNatClampNeg) + (5 * k2)) + 4))).2.2) _ _ hP hD hS _ (by omega) (by rw [addSpar_0]; omega) (hF.trans (by rw [s_X5_plan_L2])) (lv_sub hl [0, 2, 3, 4, 5, 6, 7] rfl)
                  exact LL2 n0.toNatClampNeg 0 N V A _ _ hP hD hS _ (by omega) rfl rfl (lv_sub hl [0, 1, 2, 3, 4, 5, 6] rfl)
                | succ n ih =>
                  intro k H locs hP hD hS ls hk hI hF hl
                  refine lv_iload hx hb dX5_plan_120 (lv_at hl 0 rfl) ?_
                  refine lv_iload hx hb dX5_plan_122 (lv_at hl 6 rfl) ?_
                  refine lv_icmp_ge (tgt := 218) hx hb dX5_plan_124 (by decide) (fun c_13 => absurd c_13 (nI_ge (by omega) (by omega))) (fun _ => ?_)
                  refine lv_iload hx hb dX5_plan_127 (lv_at hl 1 rfl) ?_
                  refine lv_iconst (v := (5)) hx hb dX5_plan_129 (by decide) ?_
                  refine lv_iload hx hb dX5_plan_130 (lv_at hl 0 rfl) ?_
                  refine lv_imul hx hb dX5_plan_132 ?_
                  rw [show (5 : Int32) * nI k = nI (5 * k) from pk_mul 5 k]
                  refine lv_iadd hx hb dX5_plan_133 ?_
                  rw [nI_add ((50 * k0.toNatClampNeg) + i0.toNatClampNeg) (5 * k)]
                  refine lv_istore (lv' := [(7, .int (nI (((50 * k0.toNatClampNeg) + i0.toNatClampNeg) + (5 * k)))), (6, .int (nI k)), (5, .int (nI ((50 * k0.toNatClampNeg) + i0.toNatClampNeg))), (0, .ref (q 0)), (1, .int (nI k0.toNatClampNeg)), (2, .int l0), (3, .int (nI i0.toNatClampNeg)), (4, .int (nI n0.toNatClampNeg))]) hx hb dX5_plan_134 hl (by decide) rfl (fun ls hl => ?_)
                  refine lv_aload_n hx hb dX5_plan_136 rfl (lv_at hl 3 rfl) ?_
                  refine lv_aload_n hx hb dX5_plan_137 rfl (lv_at hl 3 rfl) ?_
                  refine va_get (D := D) (ci := 5) (v := .ref (q 16)) (C := RX5) (T := TX5) (N := 22) hx hb hts hin5 hown hK hP 0 rfl rfl 19 (by decide) (hts (.fieldLink RX5 56 "NeckShipModel" "sheet" "[I") (by decide +kernel)) (fun _ h9 => h9) rfl dX5_plan_138 ?_
                  refine lv_iload hx hb dX5_plan_141 (lv_at hl 0 rfl) ?_
                  refine va_ialdN (i := (((50 * k0.toNatClampNeg) + i0.toNatClampNeg) + (5 * k))) hx hb hK hP 16 0 rfl rfl (by decide) (by omega) dX5_plan_143 ?_
                  refine lv_aload_n hx hb dX5_plan_144 rfl (lv_at hl 3 rfl) ?_
                  refine va_get (D := D) (ci := 5) (v := .ref (q 16)) (C := RX5) (T := TX5) (N := 22) hx hb hts hin5 hown hK hP 0 rfl rfl 19 (by decide) (hts (.fieldLink RX5 56 "NeckShipModel" "sheet" "[I") (by decide +kernel)) (fun _ h9 => h9) rfl dX5_plan_145 ?_
                  refine lv_iload hx hb dX5_plan_148 (lv_at hl 0 rfl) ?_
                  refine lv_iconst (v := (1)) hx hb dX5_plan_150 (by decide) ?_
                  refine lv_iadd hx hb dX5_plan_151 ?_
                  rw [nI_1 (((50 * k0.toNatClampNeg) + i0.toNatClampNeg) + (5 * k))]
                  refine va_ialdN (i := ((((50 * k0.toNatClampNeg) + i0.toNatClampNeg) + (5 * k)) + 1)) hx hb hK hP 16 0 rfl rfl (by decide) (by omega) dX5_plan_152 ?_
                  refine lv_aload_n hx hb dX5_plan_153 rfl (lv_at hl 3 rfl) ?_
                  refine va_get (D := D) (ci := 5) (v := .ref (q 16)) (C := RX5) (T := TX5) (N := 22) hx hb hts hin5 hown hK hP 0 rfl rfl 19 (by decide) (hts (.fieldLink RX5 56 "NeckShipModel" "sheet" "[I") (by decide +kernel)) (fun _ h9 => h9) rfl dX5_plan_154 ?_
                  refine lv_iload hx hb dX5_plan_157 (lv_at hl 0 rfl) ?_
                  refine lv_iconst (v := (2)) hx hb dX5_plan_159 (by decide) ?_
                  refine lv_iadd hx hb dX5_plan_160 ?_
                  rw [show nI (((50 * k0.toNatClampNeg) + i0.toNatClampNeg) + (5 * k)) + (2 : Int32) = nI ((((50 * k0.toNatClampNeg) + i0.toNatClampNeg) + (5 * k)) + 2) from nI_add (((50 * k0.toNatClampNeg) + i0.toNatClampNeg) + (5 * k)) 2]
                  refine va_ialdN (i := ((((50 * k0.toNatClampNeg) + i0.toNatClampNeg) + (5 * k)) + 2)) hx hb hK hP 16 0 rfl rfl (by decide) (by omega) dX5_plan_161 ?_
                  refine lv_aload_n hx hb dX5_plan_162 rfl (lv_at hl 3 rfl) ?_
                  refine va_get (D := D) (ci := 5) (v := .ref (q 16)) (C := RX5) (T := TX5) (N := 22) hx hb hts hin5 hown hK hP 0 rfl rfl 19 (by decide) (hts (.fieldLink RX5 56 "NeckShipModel" "sheet" "[I") (by decide +kernel)) (fun _ h9 => h9) rfl dX5_plan_163 ?_
                  refine lv_iload hx hb dX5_plan_166 (lv_at hl 0 rfl) ?_
                  refine lv_iconst (v := (3)) hx hb dX5_plan_168 (by decide) ?_
                  refine lv_iadd hx hb dX5_plan_169 ?_
                  rw [show nI (((50 * k0.toNatClampNeg) + i0.toNatClampNeg) + (5 * k)) + (3 : Int32) = nI ((((50 * k0.toNatClampNeg) + i0.toNatClampNeg) + (5 * k)) + 3) from nI_add (((50 * k0.toNatClampNeg) + i0.toNatClampNeg) + (5 * k)) 3]
                  refine va_ialdN (i := ((((50 * k0.toNatClampNeg) + i0.toNatClampNeg) + (5 * k)) + 3)) hx hb hK hP 16 0 rfl rfl (by decide) (by omega) dX5_plan_170 ?_
                  refine lv_aload_n hx hb dX5_plan_171 rfl (lv_at hl 3 rfl) ?_
                  refine va_get (D := D) (ci := 5) (v := .ref (q 16)) (C := RX5) (T := TX5) (N := 22) hx hb hts hin5 hown hK hP 0 rfl rfl 19 (by decide) (hts (.fieldLink RX5 56 "NeckShipModel" "sheet" "[I") (by decide +kernel)) (fun _ h9 => h9) rfl dX5_plan_172 ?_
                  refine lv_iload hx hb dX5_plan_175 (lv_at hl 0 rfl) ?_
                  refine lv_iconst (v := (4)) hx hb dX5_plan_177 (by decide) ?_
                  refine lv_iadd hx hb dX5_plan_178 ?_
                  rw [show nI (((50 * k0.toNatClampNeg) + i0.toNatClampNeg) + (5 * k)) + (4 : Int32) = nI ((((50 * k0.toNatClampNeg) + i0.toNatClampNeg) + (5 * k)) + 4) from nI_add (((50 * k0.toNatClampNeg) + i0.toNatClampNeg) + (5 * k)) 4]
                  refine va_ialdN (i := ((((50 * k0.toNatClampNeg) + i0.toNatClampNeg) + (5 * k)) + 4)) hx hb hK hP 16 0 rfl rfl (by decide) (by omega) dX5_plan_179 ?_
                  refine vp_callSi (W.runV (As := [.int (A 16 (((50 * k0.toNatClampNeg) + i0.toNatClampNeg) + (5 * k))), .int (A 16 ((((50 * k0.toNatClampNeg) + i0.toNatClampNeg) + (5 * k)) + 1)), .int (A 16 ((((50 * k0.toNatClampNeg) + i0.toNatClampNeg) + (5 * k)) + 2)), .int (A 16 ((((50 * k0.toNatClampNeg) + i0.toNatClampNeg) + (5 * k)) + 3)), .int (A 16 ((((50 * k0.toNatClampNeg) + i0.toNatClampNeg) + (5 * k)) + 4))]) (rest := []) ⟨hx, hb, hml, hown, hts⟩ (c_X5_isSpar l D cI cZ cS q N V A (A 16 (((50 * k0.toNatClampNeg) + i0.toNatClampNeg) + (5 * k))) (A 16 ((((50 * k0.toNatClampNeg) + i0.toNatClampNeg) + (5 * k)) + 1)) (A 16 ((((50 * k0.toNatClampNeg) + i0.toNatClampNeg) + (5 * k)) + 2)) (A 16 ((((50 * k0.toNatClampNeg) + i0.toNatClampNeg) + (5 * k)) + 3)) (A 16 ((((50 * k0.toNatClampNeg) + i0.toNatClampNeg) + (5 * k)) + 4))) (cwV 5 hts gX5_plan_X5_isSpar rfl rfl rfl (by decide +kernel) ⟨Nat.le_of_ble_eq_true rfl, Nat.le_of_ble_eq_true rfl⟩) (preM hK hP) rfl rfl hl.1 rfl (lv_room (Nat.le_of_ble_eq_true rfl)) dX5_plan_180 ⟨Nat.zero_le _, Nat.zero_le _⟩) (fun r_14 er_14 => ?_)
                  subst er_14
                  refine lz_if_ne (tgt := 193) hx hb dX5_plan_183 (by decide) (fun c_15 => ?_) (fun c_15 => ?_)
                  · refine lv_aload_n hx hb dX5_plan_193 rfl (lv_at hl 3 rfl) ?_
                    refine va_get (D := D) (ci := 5) (v := .int (nI (N 0))) (C := RX5) (T := TX5) (N := 22) hx hb hts hin5 hown hK hP 0 rfl rfl 2 (by decide) (hts (.fieldLink RX5 72 "NeckShipModel" "spars" "I") (by decide +kernel)) (fun _ h9 => h9) rfl dX5_plan_194 ?_
                    refine lv_iload hx hb dX5_plan_197 (lv_at hl 1 rfl) ?_
                    refine lv_iadd hx hb dX5_plan_199 ?_
                    rw [nI_add (N 0) k]
                    refine lv_bipush (v := (10)) hx hb dX5_plan_200 (by decide) ?_
                    refine lv_icmp_lt (tgt := 212) hx hb dX5_plan_202 (by decide) (fun c_16 => ?_) (fun c_16 => ?_)
                    · have hlt10 := lt10 c_16 (by omega)
                      refine lv_iinc (v := nI (k + 1)) (lv' := [(6, .int (nI (k + 1))), (7, .int (nI (((50 * k0.toNatClampNeg) + i0.toNatClampNeg) + (5 * k)))), (5, .int (nI ((50 * k0.toNatClampNeg) + i0.toNatClampNeg))), (0, .ref (q 0)), (1, .int (nI k0.toNatClampNeg)), (2, .int l0), (3, .int (nI i0.toNatClampNeg)), (4, .int (nI n0.toNatClampNeg))]) hx hb dX5_plan_212 hl (k := 1) rfl (nI_1 k) (by decide) rfl (fun ls hl => ?_)
                      refine lv_goto (tgt := 120) hx hb dX5_plan_215 (by decide) ?_
                      exact ih (k + 1) _ _ hP hD hS _ (by omega) (Or.inr (by omega)) (hF.trans (by rw [s_X5_plan_L1, if_pos c_15, if_pos c_16])) (lv_sub hl [0, 2, 3, 4, 5, 6, 7] rfl)
                    · refine lv_aload_n hx hb dX5_plan_205 rfl (lv_at hl 3 rfl) ?_
                      refine lv_bipush (v := (-4)) hx hb dX5_plan_206 (by decide) ?_
                      refine callMi (va_runV (As := [.int (-4 : Int32)]) (rest := []) ⟨hx, hb, hml, hown, hts⟩ (c_X5_refused l D cI cZ cS q N V A H.size (-4 : Int32)) (cwV 1 hts gX5_plan_X5_refused rfl rfl rfl (by decide +kernel) ⟨Nat.le_of_ble_eq_true rfl, Nat.le_of_ble_eq_true rfl⟩) (preMm hK hP hD) rfl rfl hl.1 rfl (lv_room (Nat.le_of_ble_eq_true rfl)) dX5_plan_208 ⟨Nat.zero_le _, Nat.zero_le _⟩) hD hS hA (fun H locs hP hD hS => ?_)
                      have hEE : s_X5_plan N V A k0 l0 i0 n0 = ((s_X5_refused N V A (-4 : Int32)).1, (s_X5_refused N V A (-4 : Int32)).2.1, (s_X5_refused N V A (-4 : Int32)).2.2.1, (s_X5_refused N V A (-4 : Int32)).2.2.2) := (by rw [hF, s_X5_plan_L1, if_pos c_15, if_neg c_16])
                      rw [hEE]
                      exact W.iret (v := (s_X5_refused N V A (-4 : Int32)).1) hx hb hr (fun t ht hW => ⟨⟨_, (), rfl, rfl, ⟨by rw [ht]; exact hP, va_K.moved hW.alike hK⟩, hD⟩, hS.F ht⟩) hS.2.2 dX5_plan_211
                  · refine lv_aload_n hx hb dX5_plan_186 rfl (lv_at hl 3 rfl) ?_
                    refine lv_bipush (v := (-2)) hx hb dX5_plan_187 (by decide) ?_
                    refine callMi (va_runV (As := [.int (-2 : Int32)]) (rest := []) ⟨hx, hb, hml, hown, hts⟩ (c_X5_refused l D cI cZ cS q N V A H.size (-2 : Int32)) (cwV 1 hts gX5_plan_X5_refused rfl rfl rfl (by decide +kernel) ⟨Nat.le_of_ble_eq_true rfl, Nat.le_of_ble_eq_true rfl⟩) (preMm hK hP hD) rfl rfl hl.1 rfl (lv_room (Nat.le_of_ble_eq_true rfl)) dX5_plan_189 ⟨Nat.zero_le _, Nat.zero_le _⟩) hD hS hA (fun H locs hP hD hS => ?_)
                    have hEE : s_X5_plan N V A k0 l0 i0 n0 = ((s_X5_refused N V A (-2 : Int32)).1, (s_X5_refused N V A (-2 : Int32)).2.1, (s_X5_refused N V A (-2 : Int32)).2.2.1, (s_X5_refused N V A (-2 : Int32)).2.2.2) := (by rw [hF, s_X5_plan_L1, if_neg (nb c_15)])
                    rw [hEE]
                    exact W.iret (v := (s_X5_refused N V A (-2 : Int32)).1) hx hb hr (fun t ht hW => ⟨⟨_, (), rfl, rfl, ⟨by rw [ht]; exact hP, va_K.moved hW.alike hK⟩, hD⟩, hS.F ht⟩) hS.2.2 dX5_plan_192
              exact LL1 n0.toNatClampNeg 0  _ _ hP hD hS _ (by omega) (Or.inl rfl) (by rw [s_X5_plan, if_neg (nb c_2), if_pos c_4, if_pos c_5, if_pos c_6, if_pos c_7, if_neg (nb c_9)]) (lv_sub hl [0, 1, 2, 3, 4, 5, 6] rfl)
            · refine lv_aload_n hx hb dX5_plan_103 rfl (lv_at hl 0 rfl) ?_
              refine lv_iconst (v := (3)) hx hb dX5_plan_104 (by decide) ?_
              refine callMi (va_runV (As := [.int (3 : Int32)]) (rest := []) ⟨hx, hb, hml, hown, hts⟩ (c_X5_failed l D cI cZ cS q N V A s.heap.size (3 : Int32)) (cwV 1 hts gX5_plan_X5_failed rfl rfl rfl (by decide +kernel) ⟨Nat.le_of_ble_eq_true rfl, Nat.le_of_ble_eq_true rfl⟩) (preMm hK hP hD) rfl rfl hl.1 rfl (lv_room (Nat.le_of_ble_eq_true rfl)) dX5_plan_105 ⟨Nat.zero_le _, Nat.zero_le _⟩) hD hS hA (fun H locs hP hD hS => ?_)
              have hEE : s_X5_plan N V A k0 l0 i0 n0 = ((s_X5_failed N V A (3 : Int32)).1, (s_X5_failed N V A (3 : Int32)).2.1, (s_X5_failed N V A (3 : Int32)).2.2.1, (s_X5_failed N V A (3 : Int32)).2.2.2) := (by rw [s_X5_plan, if_neg (nb c_2), if_pos c_4, if_pos c_5, if_pos c_6, if_pos c_7, if_pos c_9])
              rw [hEE]
              exact W.iret (v := (s_X5_failed N V A (3 : Int32)).1) hx hb hr (fun t ht hW => ⟨⟨_, (), rfl, rfl, ⟨by rw [ht]; exact hP, va_K.moved hW.alike hK⟩, hD⟩, hS.F ht⟩) hS.2.2 dX5_plan_108
          · refine lv_aload_n hx hb dX5_plan_77 rfl (lv_at hl 0 rfl) ?_
            refine lv_iconst (v := (4)) hx hb dX5_plan_78 (by decide) ?_
            refine callMi (va_runV (As := [.int (4 : Int32)]) (rest := []) ⟨hx, hb, hml, hown, hts⟩ (c_X5_failed l D cI cZ cS q N V A s.heap.size (4 : Int32)) (cwV 1 hts gX5_plan_X5_failed rfl rfl rfl (by decide +kernel) ⟨Nat.le_of_ble_eq_true rfl, Nat.le_of_ble_eq_true rfl⟩) (preMm hK hP hD) rfl rfl hl.1 rfl (lv_room (Nat.le_of_ble_eq_true rfl)) dX5_plan_79 ⟨Nat.zero_le _, Nat.zero_le _⟩) hD hS hA (fun H locs hP hD hS => ?_)
            have hEE : s_X5_plan N V A k0 l0 i0 n0 = ((s_X5_failed N V A (4 : Int32)).1, (s_X5_failed N V A (4 : Int32)).2.1, (s_X5_failed N V A (4 : Int32)).2.2.1, (s_X5_failed N V A (4 : Int32)).2.2.2) := (by rw [s_X5_plan, if_neg (nb c_2), if_pos c_4, if_pos c_5, if_pos c_6, if_neg c_7])
            rw [hEE]
            exact W.iret (v := (s_X5_failed N V A (4 : Int32)).1) hx hb hr (fun t ht hW => ⟨⟨_, (), rfl, rfl, ⟨by rw [ht]; exact hP, va_K.moved hW.alike hK⟩, hD⟩, hS.F ht⟩) hS.2.2 dX5_plan_82
        · refine lv_aload_n hx hb dX5_plan_66 rfl (lv_at hl 0 rfl) ?_
          refine lv_iconst (v := (1)) hx hb dX5_plan_67 (by decide) ?_
          refine callMi (va_runV (As := [.int (1 : Int32)]) (rest := []) ⟨hx, hb, hml, hown, hts⟩ (c_X5_failed l D cI cZ cS q N V A s.heap.size (1 : Int32)) (cwV 1 hts gX5_plan_X5_failed rfl rfl rfl (by decide +kernel) ⟨Nat.le_of_ble_eq_true rfl, Nat.le_of_ble_eq_true rfl⟩) (preMm hK hP hD) rfl rfl hl.1 rfl (lv_room (Nat.le_of_ble_eq_true rfl)) dX5_plan_68 ⟨Nat.zero_le _, Nat.zero_le _⟩) hD hS hA (fun H locs hP hD hS => ?_)
          have hEE : s_X5_plan N V A k0 l0 i0 n0 = ((s_X5_failed N V A (1 : Int32)).1, (s_X5_failed N V A (1 : Int32)).2.1, (s_X5_failed N V A (1 : Int32)).2.2.1, (s_X5_failed N V A (1 : Int32)).2.2.2) := (by rw [s_X5_plan, if_neg (nb c_2), if_pos c_4, if_pos c_5, if_neg c_6])
          rw [hEE]
          exact W.iret (v := (s_X5_failed N V A (1 : Int32)).1) hx hb hr (fun t ht hW => ⟨⟨_, (), rfl, rfl, ⟨by rw [ht]; exact hP, va_K.moved hW.alike hK⟩, hD⟩, hS.F ht⟩) hS.2.2 dX5_plan_71
      · refine lv_aload_n hx hb dX5_plan_41 rfl (lv_at hl 0 rfl) ?_
        refine va_get (D := D) (ci := 5) (v := .ref (q 15)) (C := RX5) (T := TX5) (N := 22) hx hb hts hin5 hown hK hP 0 rfl rfl 18 (by decide) (hts (.fieldLink RX5 53 "NeckShipModel" "sheetLane" "[I") (by decide +kernel)) (fun _ h9 => h9) rfl dX5_plan_42 ?_
        refine lv_iload_n hx hb dX5_plan_45 rfl (lv_at hl 1 rfl) ?_
        refine va_ialdN (i := k0.toNatClampNeg) hx hb hK hP 15 0 rfl rfl (by decide) (by omega) dX5_plan_46 ?_
        refine lv_iload_n hx hb dX5_plan_47 rfl (lv_at hl 2 rfl) ?_
        refine lv_icmp_eq (tgt := 57) hx hb dX5_plan_48 (by decide) (fun c_17 => ?_) (fun c_17 => ?_)
        · refine lv_aload_n hx hb dX5_plan_57 rfl (lv_at hl 0 rfl) ?_
          refine va_get (D := D) (ci := 5) (v := .ref (q 14)) (C := RX5) (T := TX5) (N := 22) hx hb hts hin5 hown hK hP 0 rfl rfl 17 (by decide) (hts (.fieldLink RX5 50 "NeckShipModel" "sheetSize" "[I") (by decide +kernel)) (fun _ h9 => h9) rfl dX5_plan_58 ?_
          refine lv_iload_n hx hb dX5_plan_61 rfl (lv_at hl 1 rfl) ?_
          refine va_ialdN (i := k0.toNatClampNeg) hx hb hK hP 14 0 rfl rfl (by decide) (by omega) dX5_plan_62 ?_
          refine lv_if_ge (tgt := 72) hx hb dX5_plan_63 (by decide) (fun c_18 => ?_) (fun c_18 => ?_)
          · refine lv_iload hx hb dX5_plan_72 (lv_at hl 4 rfl) ?_
            refine lv_if_ge (tgt := 83) hx hb dX5_plan_74 (by decide) (fun c_19 => ?_) (fun c_19 => ?_)
            · have hn0 := c_19
              refine lv_iload_n hx hb dX5_plan_83 rfl (lv_at hl 3 rfl) ?_
              refine lv_ldc2 (v := (5)) hx hb hown (hts (.constantLong RX5 197 (5)) (by decide +kernel)) dX5_plan_84 ?_
              refine lv_iload hx hb dX5_plan_87 (lv_at hl 4 rfl) ?_
              refine lv_i2l (v := (n0).toInt64) hx hb dX5_plan_89 rfl ?_
              refine lv_lmul hx hb dX5_plan_90 ?_
              refine lv_aload_n hx hb dX5_plan_91 rfl (lv_at hl 0 rfl) ?_
              refine va_get (D := D) (ci := 5) (v := .ref (q 14)) (C := RX5) (T := TX5) (N := 22) hx hb hts hin5 hown hK hP 0 rfl rfl 17 (by decide) (hts (.fieldLink RX5 50 "NeckShipModel" "sheetSize" "[I") (by decide +kernel)) (fun _ h9 => h9) rfl dX5_plan_92 ?_
              refine lv_iload_n hx hb dX5_plan_95 rfl (lv_at hl 1 rfl) ?_
              refine va_ialdN (i := k0.toNatClampNeg) hx hb hK hP 14 0 rfl rfl (by decide) (by omega) dX5_plan_96 ?_
              refine vp_callSi (W.runS (As := [.int i0, .long ((5 : Int64) * (n0).toInt64), .int (A 14 k0.toNatClampNeg)]) (rest := []) ⟨hx, hb, hml, hown, hts⟩ (c_X5_isBeyond l i0 ((5 : Int64) * (n0).toInt64) (A 14 k0.toNatClampNeg)) (cwS 3 hts gX5_plan_X5_isBeyond rfl rfl rfl (by decide +kernel) ⟨Nat.le_of_ble_eq_true rfl, Nat.le_of_ble_eq_true rfl⟩) (preEq) rfl rfl hl.1 rfl (lv_room (Nat.le_of_ble_eq_true rfl)) dX5_plan_97 ⟨Nat.zero_le _, Nat.zero_le _⟩) (fun r_20 er_20 => ?_)
              subst er_20
              refine lz_if_eq (tgt := 109) hx hb dX5_plan_100 (by decide) (fun c_21 => ?_) (fun c_21 => ?_)
              · obtain ⟨hle_a, heq_i0, heq_n0⟩ := beyond_5 (h_2 _ (by omega)) hn0 c_21
                have hl : lv_has ls 8 [(0, .ref (q 0)), (1, .int (nI k0.toNatClampNeg)), (2, .int l0), (3, .int (nI i0.toNatClampNeg)), (4, .int (nI n0.toNatClampNeg))] := by rw [heq_i0, heq_n0]; exact hl
                refine lv_bipush (v := (50)) hx hb dX5_plan_109 (by decide) ?_
                refine lv_iload_n hx hb dX5_plan_111 rfl (lv_at hl 1 rfl) ?_
                refine lv_imul hx hb dX5_plan_112 ?_
                rw [show (50 : Int32) * nI k0.toNatClampNeg = nI (50 * k0.toNatClampNeg) from pk_mul 50 k0.toNatClampNeg]
                refine lv_iload_n hx hb dX5_plan_113 rfl (lv_at hl 3 rfl) ?_
                refine lv_iadd hx hb dX5_plan_114 ?_
                rw [nI_add (50 * k0.toNatClampNeg) i0.toNatClampNeg]
                refine lv_istore (lv' := [(5, .int (nI ((50 * k0.toNatClampNeg) + i0.toNatClampNeg))), (0, .ref (q 0)), (1, .int (nI k0.toNatClampNeg)), (2, .int l0), (3, .int (nI i0.toNatClampNeg)), (4, .int (nI n0.toNatClampNeg))]) hx hb dX5_plan_115 hl (by decide) rfl (fun ls hl => ?_)
                refine lv_iconst (v := (0)) hx hb dX5_plan_117 (by decide) ?_
                refine lv_istore (lv' := [(6, .int (0)), (5, .int (nI ((50 * k0.toNatClampNeg) + i0.toNatClampNeg))), (0, .ref (q 0)), (1, .int (nI k0.toNatClampNeg)), (2, .int l0), (3, .int (nI i0.toNatClampNeg)), (4, .int (nI n0.toNatClampNeg))]) hx hb dX5_plan_118 hl (by decide) rfl (fun ls hl => ?_)
                have LL1 : ∀ (n k : Nat)  (H : Heap) (locs : List Loc), va_P D vwCl (wM cI cZ q N V A) H → va_D Ar (wM cI cZ q N V A) → va_S Ar s.heap H locs → ∀ (ls : Array Slot), k + n = n0.toNatClampNeg → k = 0 ∨ N 0 + k ≤ 10 → s_X5_plan N V A k0 l0 i0 n0 = s_X5_plan_L1 N V A k0 l0 i0 n0 n k → lv_has ls 8 [(6, .int (nI k)), (5, .int (nI ((50 * k0.toNatClampNeg) + i0.toNatClampNeg))), (0, .ref (q 0)), (1, .int (nI k0.toNatClampNeg)), (2, .int l0), (3, .int (nI i0.toNatClampNeg)), (4, .int (nI n0.toNatClampNeg))] → W p l e (headSpec wsX5_plan ({ frames := 2, cells := 0, slots := 0, locals := 50 })).room s m ([.ref (q 0), .int k0, .int l0, .int i0, .int n0] : List Value).toArray below meth c H locs 0 0 (MQ below (va_Qi (fun r (_ : Unit) => r = (s_X5_plan N V A k0 l0 i0 n0).1) (fun _ t => PM D cI cZ cS q (s_X5_plan N V A k0 l0 i0 n0).2.1 (s_X5_plan N V A k0 l0 i0 n0).2.2.1 (s_X5_plan N V A k0 l0 i0 n0).2.2.2 t ∧ va_D Ar (wM cI cZ q (s_X5_plan N V A k0 l0 i0 n0).2.1 (s_X5_plan N V A k0 l0 i0 n0).2.2.1 (s_X5_plan N V A k0 l0 i0 n0).2.2.2)) Ar) ([.ref (q 0), .int k0, .int l0, .int i0, .int n0] : List Value).toArray s 0 0 Ar) (F0 m 120 ls []) := by
                  intro n
                  induction n with
                  | zero =>
                    intro k H locs hP hD hS ls hk hI hF hl
                    refine lv_iload hx hb dX5_plan_120 (lv_at hl 0 rfl) ?_
                    refine lv_iload hx hb dX5_plan_122 (lv_at hl 6 rfl) ?_
                    refine lv_icmp_ge (tgt := 218) hx hb dX5_plan_124 (by decide) (fun _ => ?_) (fun c_22 => absurd (nI_le (by omega) (by omega)) c_22)
                    refine lv_iconst (v := (0)) hx hb dX5_plan_218 (by decide) ?_
                    refine lv_istore (lv' := [(6, .int (0)), (5, .int (nI ((50 * k0.toNatClampNeg) + i0.toNatClampNeg))), (0, .ref (q 0)), (1, .int (nI k0.toNatClampNeg)), (2, .int l0), (3, .int (nI i0.toNatClampNeg)), (4, .int (nI n0.toNatClampNeg))]) hx hb dX5_plan_219 hl (by decide) rfl (fun ls hl => ?_)
                    have KL2 : ∀ (H : Heap) (locs : List Loc), va_P D vwCl (wM cI cZ q ((s_X5_plan_L2 N V A k0 l0 i0 n0 k n0.toNatClampNeg 0 N V A).1) ((s_X5_plan_L2 N V A k0 l0 i0 n0 k n0.toNatClampNeg 0 N V A).2.1) ((s_X5_plan_L2 N V A k0 l0 i0 n0 k n0.toNatClampNeg 0 N V A).2.2)) H → va_D Ar (wM cI cZ q ((s_X5_plan_L2 N V A k0 l0 i0 n0 k n0.toNatClampNeg 0 N V A).1) ((s_X5_plan_L2 N V A k0 l0 i0 n0 k n0.toNatClampNeg 0 N V A).2.1) ((s_X5_plan_L2 N V A k0 l0 i0 n0 k n0.toNatClampNeg 0 N V A).2.2)) → va_S Ar s.heap H locs → ∀ (ls : Array Slot), ((s_X5_plan_L2 N V A k0 l0 i0 n0 k n0.toNatClampNeg 0 N V A).1) 0 = N 0 + (n0.toNatClampNeg) → lv_has ls 8 [(5, .int (nI ((50 * k0.toNatClampNeg) + i0.toNatClampNeg))), (0, .ref (q 0)), (1, .int (nI k0.toNatClampNeg)), (2, .int l0), (3, .int (nI i0.toNatClampNeg)), (4, .int (nI n0.toNatClampNeg))] → W p l e (headSpec wsX5_plan ({ frames := 2, cells := 0, slots := 0, locals := 50 })).room s m ([.ref (q 0), .int k0, .int l0, .int i0, .int n0] : List Value).toArray below meth c H locs 0 0 (MQ below (va_Qi (fun r (_ : Unit) => r = (s_X5_plan N V A k0 l0 i0 n0).1) (fun _ t => PM D cI cZ cS q (s_X5_plan N V A k0 l0 i0 n0).2.1 (s_X5_plan N V A k0 l0 i0 n0).2.2.1 (s_X5_plan N V A k0 l0 i0 n0).2.2.2 t ∧ va_D Ar (wM cI cZ q (s_X5_plan N V A k0 l0 i0 n0).2.1 (s_X5_plan N V A k0 l0 i0 n0).2.2.1 (s_X5_plan N V A k0 l0 i0 n0).2.2.2)) Ar) ([.ref (q 0), .int k0, .int l0, .int i0, .int n0] : List Value).toArray s 0 0 Ar) (F0 m 290 ls []) := by
                      intro H locs hP hD hS ls hI hl
                      refine lv_aload_n hx hb dX5_plan_290 rfl (lv_at hl 1 rfl) ?_
                      refine lv_aload_n hx hb dX5_plan_291 rfl (lv_at hl 1 rfl) ?_
                      refine va_get (D := D) (ci := 5) (v := .int (nI ((s_X5_plan_L2 N V A k0 l0 i0 n0 k n0.toNatClampNeg 0 N V A).1 0))) (C := RX5) (T := TX5) (N := 22) hx hb hts hin5 hown hK hP 0 rfl rfl 2 (by decide) (hts (.fieldLink RX5 72 "NeckShipModel" "spars" "I") (by decide +kernel)) (fun _ h9 => h9) rfl dX5_plan_292 ?_
                      refine callMi (va_runV (As := [.int (nI ((s_X5_plan_L2 N V A k0 l0 i0 n0 k n0.toNatClampNeg 0 N V A).1 0))]) (rest := []) ⟨hx, hb, hml, hown, hts⟩ (c_X5_refused l D cI cZ cS q ((s_X5_plan_L2 N V A k0 l0 i0 n0 k n0.toNatClampNeg 0 N V A).1) ((s_X5_plan_L2 N V A k0 l0 i0 n0 k n0.toNatClampNeg 0 N V A).2.1) ((s_X5_plan_L2 N V A k0 l0 i0 n0 k n0.toNatClampNeg 0 N V A).2.2) H.size (nI ((s_X5_plan_L2 N V A k0 l0 i0 n0 k n0.toNatClampNeg 0 N V A).1 0))) (cwV 1 hts gX5_plan_X5_refused rfl rfl rfl (by decide +kernel) ⟨Nat.le_of_ble_eq_true rfl, Nat.le_of_ble_eq_true rfl⟩) (preMm hK hP hD) rfl rfl hl.1 rfl (lv_room (Nat.le_of_ble_eq_true rfl)) dX5_plan_295 ⟨Nat.zero_le _, Nat.zero_le _⟩) hD hS hA (fun H locs hP hD hS => ?_)
                      have hEE : s_X5_plan N V A k0 l0 i0 n0 = ((s_X5_refused ((s_X5_plan_L2 N V A k0 l0 i0 n0 k n0.toNatClampNeg 0 N V A).1) ((s_X5_plan_L2 N V A k0 l0 i0 n0 k n0.toNatClampNeg 0 N V A).2.1) ((s_X5_plan_L2 N V A k0 l0 i0 n0 k n0.toNatClampNeg 0 N V A).2.2) (nI ((s_X5_plan_L2 N V A k0 l0 i0 n0 k n0.toNatClampNeg 0 N V A).1 0))).1, (s_X5_refused ((s_X5_plan_L2 N V A k0 l0 i0 n0 k n0.toNatClampNeg 0 N V A).1) ((s_X5_plan_L2 N V A k0 l0 i0 n0 k n0.toNatClampNeg 0 N V A).2.1) ((s_X5_plan_L2 N V A k0 l0 i0 n0 k n0.toNatClampNeg 0 N V A).2.2) (nI ((s_X5_plan_L2 N V A k0 l0 i0 n0 k n0.toNatClampNeg 0 N V A).1 0))).2.1, (s_X5_refused ((s_X5_plan_L2 N V A k0 l0 i0 n0 k n0.toNatClampNeg 0 N V A).1) ((s_X5_plan_L2 N V A k0 l0 i0 n0 k n0.toNatClampNeg 0 N V A).2.1) ((s_X5_plan_L2 N V A k0 l0 i0 n0 k n0.toNatClampNeg 0 N V A).2.2) (nI ((s_X5_plan_L2 N V A k0 l0 i0 n0 k n0.toNatClampNeg 0 N V A).1 0))).2.2.1, (s_X5_refused ((s_X5_plan_L2 N V A k0 l0 i0 n0 k n0.toNatClampNeg 0 N V A).1) ((s_X5_plan_L2 N V A k0 l0 i0 n0 k n0.toNatClampNeg 0 N V A).2.1) ((s_X5_plan_L2 N V A k0 l0 i0 n0 k n0.toNatClampNeg 0 N V A).2.2) (nI ((s_X5_plan_L2 N V A k0 l0 i0 n0 k n0.toNatClampNeg 0 N V A).1 0))).2.2.2) := (by rw [hF, s_X5_plan_L1])
                      rw [hEE]
                      exact W.iret (v := (s_X5_refused ((s_X5_plan_L2 N V A k0 l0 i0 n0 k n0.toNatClampNeg 0 N V A).1) ((s_X5_plan_L2 N V A k0 l0 i0 n0 k n0.toNatClampNeg 0 N V A).2.1) ((s_X5_plan_L2 N V A k0 l0 i0 n0 k n0.toNatClampNeg 0 N V A).2.2) (nI ((s_X5_plan_L2 N V A k0 l0 i0 n0 k n0.toNatClampNeg 0 N V A).1 0))).1) hx hb hr (fun t ht hW => ⟨⟨_, (), rfl, rfl, ⟨by rw [ht]; exact hP, va_K.moved hW.alike hK⟩, hD⟩, hS.F ht⟩) hS.2.2 dX5_plan_298
                    have LL2 : ∀ (n2 k2 : Nat) (N1 : Nat → Nat) (V1 : Nat → Int32) (A1 : Nat → Nat → Int32) (H : Heap) (locs : List Loc), va_P D vwCl (wM cI cZ q N1 V1 A1) H → va_D Ar (wM cI cZ q N1 V1 A1) → va_S Ar s.heap H locs → ∀ (ls : Array Slot), k2 + n2 = n0.toNatClampNeg → N1 0 = N 0 + k2 → s_X5_plan_L2 N V A k0 l0 i0 n0 k n0.toNatClampNeg 0 N V A = s_X5_plan_L2 N V A k0 l0 i0 n0 k n2 k2 N1 V1 A1 → lv_has ls 8 [(6, .int (nI k2)), (5, .int (nI ((50 * k0.toNatClampNeg) + i0.toNatClampNeg))), (0, .ref (q 0)), (1, .int (nI k0.toNatClampNeg)), (2, .int l0), (3, .int (nI i0.toNatClampNeg)), (4, .int (nI n0.toNatClampNeg))] → W p l e (headSpec wsX5_plan ({ frames := 2, cells := 0, slots := 0, locals := 50 })).room s m ([.ref (q 0), .int k0, .int l0, .int i0, .int n0] : List Value).toArray below meth c H locs 0 0 (MQ below (va_Qi (fun r (_ : Unit) => r = (s_X5_plan N V A k0 l0 i0 n0).1) (fun _ t => PM D cI cZ cS q (s_X5_plan N V A k0 l0 i0 n0).2.1 (s_X5_plan N V A k0 l0 i0 n0).2.2.1 (s_X5_plan N V A k0 l0 i0 n0).2.2.2 t ∧ va_D Ar (wM cI cZ q (s_X5_plan N V A k0 l0 i0 n0).2.1 (s_X5_plan N V A k0 l0 i0 n0).2.2.1 (s_X5_plan N V A k0 l0 i0 n0).2.2.2)) Ar) ([.ref (q 0), .int k0, .int l0, .int i0, .int n0] : List Value).toArray s 0 0 Ar) (F0 m 221 ls []) := by
                      intro n2
                      induction n2 with
                      | zero =>
                        intro k2 N1 V1 A1 H locs hP hD hS ls hk hI hF hl
                        refine lv_iload hx hb dX5_plan_221 (lv_at hl 0 rfl) ?_
                        refine lv_iload hx hb dX5_plan_223 (lv_at hl 6 rfl) ?_
                        refine lv_icmp_ge (tgt := 290) hx hb dX5_plan_225 (by decide) (fun _ => ?_) (fun c_23 => absurd (nI_le (by omega) (by omega)) c_23)
                        have hF : s_X5_plan_L2 N V A k0 l0 i0 n0 k n0.toNatClampNeg 0 N V A = (N1, V1, A1) := hF.trans (by rw [s_X5_plan_L2])
                        have hF0 := congrArg (fun z => z.1) hF
                        have hF1 := congrArg (fun z => z.2.1) hF
                        have hF2 := congrArg (fun z => z.2.2) hF
                        dsimp only at hF0 hF1 hF2
                        exact KL2 _ _ (by (try rw [hF0]); (try rw [hF1]); (try rw [hF2]); exact hP) (by (try rw [hF0]); (try rw [hF1]); (try rw [hF2]); exact hD) hS _ (by (try rw [hF0]); (try rw [hF1]); (try rw [hF2]); exact (by omega)) (by (try rw [hF0]); (try rw [hF1]); (try rw [hF2]); exact lv_sub hl [1, 2, 3, 4, 5, 6] rfl)
                      | succ n2 ih =>
                        intro k2 N1 V1 A1 H locs hP hD hS ls hk hI hF hl
                        refine lv_iload hx hb dX5_plan_221 (lv_at hl 0 rfl) ?_
                        refine lv_iload hx hb dX5_plan_223 (lv_at hl 6 rfl) ?_
                        refine lv_icmp_ge (tgt := 290) hx hb dX5_plan_225 (by decide) (fun c_24 => absurd c_24 (nI_ge (by omega) (by omega))) (fun _ => ?_)
                        refine lv_iload hx hb dX5_plan_228 (lv_at hl 1 rfl) ?_
                        refine lv_iconst (v := (5)) hx hb dX5_plan_230 (by decide) ?_
                        refine lv_iload hx hb dX5_plan_231 (lv_at hl 0 rfl) ?_
                        refine lv_imul hx hb dX5_plan_233 ?_
                        rw [show (5 : Int32) * nI k2 = nI (5 * k2) from pk_mul 5 k2]
                        refine lv_iadd hx hb dX5_plan_234 ?_
                        rw [nI_add ((50 * k0.toNatClampNeg) + i0.toNatClampNeg) (5 * k2)]
                        refine lv_istore (lv' := [(7, .int (nI (((50 * k0.toNatClampNeg) + i0.toNatClampNeg) + (5 * k2)))), (6, .int (nI k2)), (5, .int (nI ((50 * k0.toNatClampNeg) + i0.toNatClampNeg))), (0, .ref (q 0)), (1, .int (nI k0.toNatClampNeg)), (2, .int l0), (3, .int (nI i0.toNatClampNeg)), (4, .int (nI n0.toNatClampNeg))]) hx hb dX5_plan_235 hl (by decide) rfl (fun ls hl => ?_)
                        refine lv_aload_n hx hb dX5_plan_237 rfl (lv_at hl 3 rfl) ?_
                        refine lv_aload_n hx hb dX5_plan_238 rfl (lv_at hl 3 rfl) ?_
                        refine va_get (D := D) (ci := 5) (v := .ref (q 16)) (C := RX5) (T := TX5) (N := 22) hx hb hts hin5 hown hK hP 0 rfl rfl 19 (by decide) (hts (.fieldLink RX5 56 "NeckShipModel" "sheet" "[I") (by decide +kernel)) (fun _ h9 => h9) rfl dX5_plan_239 ?_
                        refine lv_iload hx hb dX5_plan_242 (lv_at hl 0 rfl) ?_
                        refine va_ialdN (i := (((50 * k0.toNatClampNeg) + i0.toNatClampNeg) + (5 * k2))) hx hb hK hP 16 0 rfl rfl (by decide) (by omega) dX5_plan_244 ?_
                        refine lv_aload_n hx hb dX5_plan_245 rfl (lv_at hl 3 rfl) ?_
                        refine va_get (D := D) (ci := 5) (v := .ref (q 16)) (C := RX5) (T := TX5) (N := 22) hx hb hts hin5 hown hK hP 0 rfl rfl 19 (by decide) (hts (.fieldLink RX5 56 "NeckShipModel" "sheet" "[I") (by decide +kernel)) (fun _ h9 => h9) rfl dX5_plan_246 ?_
                        refine lv_iload hx hb dX5_plan_249 (lv_at hl 0 rfl) ?_
                        refine lv_iconst (v := (1)) hx hb dX5_plan_251 (by decide) ?_
                        refine lv_iadd hx hb dX5_plan_252 ?_
                        rw [nI_1 (((50 * k0.toNatClampNeg) + i0.toNatClampNeg) + (5 * k2))]
                        refine va_ialdN (i := ((((50 * k0.toNatClampNeg) + i0.toNatClampNeg) + (5 * k2)) + 1)) hx hb hK hP 16 0 rfl rfl (by decide) (by omega) dX5_plan_253 ?_
                        refine lv_aload_n hx hb dX5_plan_254 rfl (lv_at hl 3 rfl) ?_
                        refine va_get (D := D) (ci := 5) (v := .ref (q 16)) (C := RX5) (T := TX5) (N := 22) hx hb hts hin5 hown hK hP 0 rfl rfl 19 (by decide) (hts (.fieldLink RX5 56 "NeckShipModel" "sheet" "[I") (by decide +kernel)) (fun _ h9 => h9) rfl dX5_plan_255 ?_
                        refine lv_iload hx hb dX5_plan_258 (lv_at hl 0 rfl) ?_
                        refine lv_iconst (v := (2)) hx hb dX5_plan_260 (by decide) ?_
                        refine lv_iadd hx hb dX5_plan_261 ?_
                        rw [show nI (((50 * k0.toNatClampNeg) + i0.toNatClampNeg) + (5 * k2)) + (2 : Int32) = nI ((((50 * k0.toNatClampNeg) + i0.toNatClampNeg) + (5 * k2)) + 2) from nI_add (((50 * k0.toNatClampNeg) + i0.toNatClampNeg) + (5 * k2)) 2]
                        refine va_ialdN (i := ((((50 * k0.toNatClampNeg) + i0.toNatClampNeg) + (5 * k2)) + 2)) hx hb hK hP 16 0 rfl rfl (by decide) (by omega) dX5_plan_262 ?_
                        refine lv_aload_n hx hb dX5_plan_263 rfl (lv_at hl 3 rfl) ?_
                        refine va_get (D := D) (ci := 5) (v := .ref (q 16)) (C := RX5) (T := TX5) (N := 22) hx hb hts hin5 hown hK hP 0 rfl rfl 19 (by decide) (hts (.fieldLink RX5 56 "NeckShipModel" "sheet" "[I") (by decide +kernel)) (fun _ h9 => h9) rfl dX5_plan_264 ?_
                        refine lv_iload hx hb dX5_plan_267 (lv_at hl 0 rfl) ?_
                        refine lv_iconst (v := (3)) hx hb dX5_plan_269 (by decide) ?_
                        refine lv_iadd hx hb dX5_plan_270 ?_
                        rw [show nI (((50 * k0.toNatClampNeg) + i0.toNatClampNeg) + (5 * k2)) + (3 : Int32) = nI ((((50 * k0.toNatClampNeg) + i0.toNatClampNeg) + (5 * k2)) + 3) from nI_add (((50 * k0.toNatClampNeg) + i0.toNatClampNeg) + (5 * k2)) 3]
                        refine va_ialdN (i := ((((50 * k0.toNatClampNeg) + i0.toNatClampNeg) + (5 * k2)) + 3)) hx hb hK hP 16 0 rfl rfl (by decide) (by omega) dX5_plan_271 ?_
                        refine lv_aload_n hx hb dX5_plan_272 rfl (lv_at hl 3 rfl) ?_
                        refine va_get (D := D) (ci := 5) (v := .ref (q 16)) (C := RX5) (T := TX5) (N := 22) hx hb hts hin5 hown hK hP 0 rfl rfl 19 (by decide) (hts (.fieldLink RX5 56 "NeckShipModel" "sheet" "[I") (by decide +kernel)) (fun _ h9 => h9) rfl dX5_plan_273 ?_
                        refine lv_iload hx hb dX5_plan_276 (lv_at hl 0 rfl) ?_
                        refine lv_iconst (v := (4)) hx hb dX5_plan_278 (by decide) ?_
                        refine lv_iadd hx hb dX5_plan_279 ?_
                        rw [show nI (((50 * k0.toNatClampNeg) + i0.toNatClampNeg) + (5 * k2)) + (4 : Int32) = nI ((((50 * k0.toNatClampNeg) + i0.toNatClampNeg) + (5 * k2)) + 4) from nI_add (((50 * k0.toNatClampNeg) + i0.toNatClampNeg) + (5 * k2)) 4]
                        refine va_ialdN (i := ((((50 * k0.toNatClampNeg) + i0.toNatClampNeg) + (5 * k2)) + 4)) hx hb hK hP 16 0 rfl rfl (by decide) (by omega) dX5_plan_280 ?_
                        refine callMv (va_runV (As := [.int (A1 16 (((50 * k0.toNatClampNeg) + i0.toNatClampNeg) + (5 * k2))), .int (A1 16 ((((50 * k0.toNatClampNeg) + i0.toNatClampNeg) + (5 * k2)) + 1)), .int (A1 16 ((((50 * k0.toNatClampNeg) + i0.toNatClampNeg) + (5 * k2)) + 2)), .int (A1 16 ((((50 * k0.toNatClampNeg) + i0.toNatClampNeg) + (5 * k2)) + 3)), .int (A1 16 ((((50 * k0.toNatClampNeg) + i0.toNatClampNeg) + (5 * k2)) + 4))]) (rest := []) ⟨hx, hb, hml, hown, hts⟩ (c_X5_addSpar l D cI cZ cS q N1 V1 A1 H.size (A1 16 (((50 * k0.toNatClampNeg) + i0.toNatClampNeg) + (5 * k2))) (A1 16 ((((50 * k0.toNatClampNeg) + i0.toNatClampNeg) + (5 * k2)) + 1)) (A1 16 ((((50 * k0.toNatClampNeg) + i0.toNatClampNeg) + (5 * k2)) + 2)) (A1 16 ((((50 * k0.toNatClampNeg) + i0.toNatClampNeg) + (5 * k2)) + 3)) (A1 16 ((((50 * k0.toNatClampNeg) + i0.toNatClampNeg) + (5 * k2)) + 4)) (by omega)) (cwV 5 hts gX5_plan_X5_addSpar rfl rfl rfl (by decide +kernel) ⟨Nat.le_of_ble_eq_true rfl, Nat.le_of_ble_eq_true rfl⟩) (preMm hK hP hD) rfl rfl hl.1 rfl (lv_room (Nat.le_of_ble_eq_true rfl)) dX5_plan_281 ⟨Nat.zero_le _, Nat.zero_le _⟩) hD hS hA (fun H locs hP hD hS => ?_)
                        refine lv_iinc (v := nI (k2 + 1)) (lv' := [(6, .int (nI (k2 + 1))), (7, .int (nI (((50 * k0.toNatClampNeg) + i0.toNatClampNeg) + (5 * k2)))), (5, .int (nI ((50 * k0.toNatClampNeg) + i0.toNatClampNeg))), (0, .ref (q 0)), (1, .int (nI k0.toNatClampNeg)), (2, .int l0), (3, .int (nI i0.toNatClampNeg)), (4, .int (nI n0.toNatClampNeg))]) hx hb dX5_plan_284 hl (k := 1) rfl (nI_1 k2) (by decide) rfl (fun ls hl => ?_)
                        refine lv_goto (tgt := 221) hx hb dX5_plan_287 (by decide) ?_
                        exact ih (k2 + 1) ((s_X5_addSpar N1 V1 A1 (A1 16 (((50 * k0.toNatClampNeg) + i0.toNatClampNeg) + (5 * k2))) (A1 16 ((((50 * k0.toNatClampNeg) + i0.toNatClampNeg) + (5 * k2)) + 1)) (A1 16 ((((50 * k0.toNatClampNeg) + i0.toNatClampNeg) + (5 * k2)) + 2)) (A1 16 ((((50 * k0.toNatClampNeg) + i0.toNatClampNeg) + (5 * k2)) + 3)) (A1 16 ((((50 * k0.toNatClampNeg) + i0.toNatClampNeg) + (5 * k2)) + 4))).1) ((s_X5_addSpar N1 V1 A1 (A1 16 (((50 * k0.toNatClampNeg) + i0.toNatClampNeg) + (5 * k2))) (A1 16 ((((50 * k0.toNatClampNeg) + i0.toNatClampNeg) + (5 * k2)) + 1)) (A1 16 ((((50 * k0.toNatClampNeg) + i0.toNatClampNeg) + (5 * k2)) + 2)) (A1 16 ((((50 * k0.toNatClampNeg) + i0.toNatClampNeg) + (5 * k2)) + 3)) (A1 16 ((((50 * k0.toNatClampNeg) + i0.toNatClampNeg) + (5 * k2)) + 4))).2.1) ((s_X5_addSpar N1 V1 A1 (A1 16 (((50 * k0.toNatClampNeg) + i0.toNatClampNeg) + (5 * k2))) (A1 16 ((((50 * k0.toNatClampNeg) + i0.toNatClampNeg) + (5 * k2)) + 1)) (A1 16 ((((50 * k0.toNatClampNeg) + i0.toNatClampNeg) + (5 * k2)) + 2)) (A1 16 ((((50 * k0.toNatClampNeg) + i0.toNatClampNeg) + (5 * k2)) + 3)) (A1 16 ((((50 * k0.toNatClampNeg) + i0.toNatClampNeg) + (5 * k2)) + 4))).2.2) _ _ hP hD hS _ (by omega) (by rw [addSpar_0]; omega) (hF.trans (by rw [s_X5_plan_L2])) (lv_sub hl [0, 2, 3, 4, 5, 6, 7] rfl)
                    exact LL2 n0.toNatClampNeg 0 N V A _ _ hP hD hS _ (by omega) rfl rfl (lv_sub hl [0, 1, 2, 3, 4, 5, 6] rfl)
                  | succ n ih =>
                    intro k H locs hP hD hS ls hk hI hF hl
                    refine lv_iload hx hb dX5_plan_120 (lv_at hl 0 rfl) ?_
                    refine lv_iload hx hb dX5_plan_122 (lv_at hl 6 rfl) ?_
                    refine lv_icmp_ge (tgt := 218) hx hb dX5_plan_124 (by decide) (fun c_25 => absurd c_25 (nI_ge (by omega) (by omega))) (fun _ => ?_)
                    refine lv_iload hx hb dX5_plan_127 (lv_at hl 1 rfl) ?_
                    refine lv_iconst (v := (5)) hx hb dX5_plan_129 (by decide) ?_
                    refine lv_iload hx hb dX5_plan_130 (lv_at hl 0 rfl) ?_
                    refine lv_imul hx hb dX5_plan_132 ?_
                    rw [show (5 : Int32) * nI k = nI (5 * k) from pk_mul 5 k]
                    refine lv_iadd hx hb dX5_plan_133 ?_
                    rw [nI_add ((50 * k0.toNatClampNeg) + i0.toNatClampNeg) (5 * k)]
                    refine lv_istore (lv' := [(7, .int (nI (((50 * k0.toNatClampNeg) + i0.toNatClampNeg) + (5 * k)))), (6, .int (nI k)), (5, .int (nI ((50 * k0.toNatClampNeg) + i0.toNatClampNeg))), (0, .ref (q 0)), (1, .int (nI k0.toNatClampNeg)), (2, .int l0), (3, .int (nI i0.toNatClampNeg)), (4, .int (nI n0.toNatClampNeg))]) hx hb dX5_plan_134 hl (by decide) rfl (fun ls hl => ?_)
                    refine lv_aload_n hx hb dX5_plan_136 rfl (lv_at hl 3 rfl) ?_
                    refine lv_aload_n hx hb dX5_plan_137 rfl (lv_at hl 3 rfl) ?_
                    refine va_get (D := D) (ci := 5) (v := .ref (q 16)) (C := RX5) (T := TX5) (N := 22) hx hb hts hin5 hown hK hP 0 rfl rfl 19 (by decide) (hts (.fieldLink RX5 56 "NeckShipModel" "sheet" "[I") (by decide +kernel)) (fun _ h9 => h9) rfl dX5_plan_138 ?_
                    refine lv_iload hx hb dX5_plan_141 (lv_at hl 0 rfl) ?_
                    refine va_ialdN (i := (((50 * k0.toNatClampNeg) + i0.toNatClampNeg) + (5 * k))) hx hb hK hP 16 0 rfl rfl (by decide) (by omega) dX5_plan_143 ?_
                    refine lv_aload_n hx hb dX5_plan_144 rfl (lv_at hl 3 rfl) ?_
                    refine va_get (D := D) (ci := 5) (v := .ref (q 16)) (C := RX5) (T := TX5) (N := 22) hx hb hts hin5 hown hK hP 0 rfl rfl 19 (by decide) (hts (.fieldLink RX5 56 "NeckShipModel" "sheet" "[I") (by decide +kernel)) (fun _ h9 => h9) rfl dX5_plan_145 ?_
                    refine lv_iload hx hb dX5_plan_148 (lv_at hl 0 rfl) ?_
                    refine lv_iconst (v := (1)) hx hb dX5_plan_150 (by decide) ?_
                    refine lv_iadd hx hb dX5_plan_151 ?_
                    rw [nI_1 (((50 * k0.toNatClampNeg) + i0.toNatClampNeg) + (5 * k))]
                    refine va_ialdN (i := ((((50 * k0.toNatClampNeg) + i0.toNatClampNeg) + (5 * k)) + 1)) hx hb hK hP 16 0 rfl rfl (by decide) (by omega) dX5_plan_152 ?_
                    refine lv_aload_n hx hb dX5_plan_153 rfl (lv_at hl 3 rfl) ?_
                    refine va_get (D := D) (ci := 5) (v := .ref (q 16)) (C := RX5) (T := TX5) (N := 22) hx hb hts hin5 hown hK hP 0 rfl rfl 19 (by decide) (hts (.fieldLink RX5 56 "NeckShipModel" "sheet" "[I") (by decide +kernel)) (fun _ h9 => h9) rfl dX5_plan_154 ?_
                    refine lv_iload hx hb dX5_plan_157 (lv_at hl 0 rfl) ?_
                    refine lv_iconst (v := (2)) hx hb dX5_plan_159 (by decide) ?_
                    refine lv_iadd hx hb dX5_plan_160 ?_
                    rw [show nI (((50 * k0.toNatClampNeg) + i0.toNatClampNeg) + (5 * k)) + (2 : Int32) = nI ((((50 * k0.toNatClampNeg) + i0.toNatClampNeg) + (5 * k)) + 2) from nI_add (((50 * k0.toNatClampNeg) + i0.toNatClampNeg) + (5 * k)) 2]
                    refine va_ialdN (i := ((((50 * k0.toNatClampNeg) + i0.toNatClampNeg) + (5 * k)) + 2)) hx hb hK hP 16 0 rfl rfl (by decide) (by omega) dX5_plan_161 ?_
                    refine lv_aload_n hx hb dX5_plan_162 rfl (lv_at hl 3 rfl) ?_
                    refine va_get (D := D) (ci := 5) (v := .ref (q 16)) (C := RX5) (T := TX5) (N := 22) hx hb hts hin5 hown hK hP 0 rfl rfl 19 (by decide) (hts (.fieldLink RX5 56 "NeckShipModel" "sheet" "[I") (by decide +kernel)) (fun _ h9 => h9) rfl dX5_plan_163 ?_
                    refine lv_iload hx hb dX5_plan_166 (lv_at hl 0 rfl) ?_
                    refine lv_iconst (v := (3)) hx hb dX5_plan_168 (by decide) ?_
                    refine lv_iadd hx hb dX5_plan_169 ?_
                    rw [show nI (((50 * k0.toNatClampNeg) + i0.toNatClampNeg) + (5 * k)) + (3 : Int32) = nI ((((50 * k0.toNatClampNeg) + i0.toNatClampNeg) + (5 * k)) + 3) from nI_add (((50 * k0.toNatClampNeg) + i0.toNatClampNeg) + (5 * k)) 3]
                    refine va_ialdN (i := ((((50 * k0.toNatClampNeg) + i0.toNatClampNeg) + (5 * k)) + 3)) hx hb hK hP 16 0 rfl rfl (by decide) (by omega) dX5_plan_170 ?_
                    refine lv_aload_n hx hb dX5_plan_171 rfl (lv_at hl 3 rfl) ?_
                    refine va_get (D := D) (ci := 5) (v := .ref (q 16)) (C := RX5) (T := TX5) (N := 22) hx hb hts hin5 hown hK hP 0 rfl rfl 19 (by decide) (hts (.fieldLink RX5 56 "NeckShipModel" "sheet" "[I") (by decide +kernel)) (fun _ h9 => h9) rfl dX5_plan_172 ?_
                    refine lv_iload hx hb dX5_plan_175 (lv_at hl 0 rfl) ?_
                    refine lv_iconst (v := (4)) hx hb dX5_plan_177 (by decide) ?_
                    refine lv_iadd hx hb dX5_plan_178 ?_
                    rw [show nI (((50 * k0.toNatClampNeg) + i0.toNatClampNeg) + (5 * k)) + (4 : Int32) = nI ((((50 * k0.toNatClampNeg) + i0.toNatClampNeg) + (5 * k)) + 4) from nI_add (((50 * k0.toNatClampNeg) + i0.toNatClampNeg) + (5 * k)) 4]
                    refine va_ialdN (i := ((((50 * k0.toNatClampNeg) + i0.toNatClampNeg) + (5 * k)) + 4)) hx hb hK hP 16 0 rfl rfl (by decide) (by omega) dX5_plan_179 ?_
                    refine vp_callSi (W.runV (As := [.int (A 16 (((50 * k0.toNatClampNeg) + i0.toNatClampNeg) + (5 * k))), .int (A 16 ((((50 * k0.toNatClampNeg) + i0.toNatClampNeg) + (5 * k)) + 1)), .int (A 16 ((((50 * k0.toNatClampNeg) + i0.toNatClampNeg) + (5 * k)) + 2)), .int (A 16 ((((50 * k0.toNatClampNeg) + i0.toNatClampNeg) + (5 * k)) + 3)), .int (A 16 ((((50 * k0.toNatClampNeg) + i0.toNatClampNeg) + (5 * k)) + 4))]) (rest := []) ⟨hx, hb, hml, hown, hts⟩ (c_X5_isSpar l D cI cZ cS q N V A (A 16 (((50 * k0.toNatClampNeg) + i0.toNatClampNeg) + (5 * k))) (A 16 ((((50 * k0.toNatClampNeg) + i0.toNatClampNeg) + (5 * k)) + 1)) (A 16 ((((50 * k0.toNatClampNeg) + i0.toNatClampNeg) + (5 * k)) + 2)) (A 16 ((((50 * k0.toNatClampNeg) + i0.toNatClampNeg) + (5 * k)) + 3)) (A 16 ((((50 * k0.toNatClampNeg) + i0.toNatClampNeg) + (5 * k)) + 4))) (cwV 5 hts gX5_plan_X5_isSpar rfl rfl rfl (by decide +kernel) ⟨Nat.le_of_ble_eq_true rfl, Nat.le_of_ble_eq_true rfl⟩) (preM hK hP) rfl rfl hl.1 rfl (lv_room (Nat.le_of_ble_eq_true rfl)) dX5_plan_180 ⟨Nat.zero_le _, Nat.zero_le _⟩) (fun r_26 er_26 => ?_)
                    subst er_26
                    refine lz_if_ne (tgt := 193) hx hb dX5_plan_183 (by decide) (fun c_27 => ?_) (fun c_27 => ?_)
                    · refine lv_aload_n hx hb dX5_plan_193 rfl (lv_at hl 3 rfl) ?_
                      refine va_get (D := D) (ci := 5) (v := .int (nI (N 0))) (C := RX5) (T := TX5) (N := 22) hx hb hts hin5 hown hK hP 0 rfl rfl 2 (by decide) (hts (.fieldLink RX5 72 "NeckShipModel" "spars" "I") (by decide +kernel)) (fun _ h9 => h9) rfl dX5_plan_194 ?_
                      refine lv_iload hx hb dX5_plan_197 (lv_at hl 1 rfl) ?_
                      refine lv_iadd hx hb dX5_plan_199 ?_
                      rw [nI_add (N 0) k]
                      refine lv_bipush (v := (10)) hx hb dX5_plan_200 (by decide) ?_
                      refine lv_icmp_lt (tgt := 212) hx hb dX5_plan_202 (by decide) (fun c_28 => ?_) (fun c_28 => ?_)
                      · have hlt10 := lt10 c_28 (by omega)
                        refine lv_iinc (v := nI (k + 1)) (lv' := [(6, .int (nI (k + 1))), (7, .int (nI (((50 * k0.toNatClampNeg) + i0.toNatClampNeg) + (5 * k)))), (5, .int (nI ((50 * k0.toNatClampNeg) + i0.toNatClampNeg))), (0, .ref (q 0)), (1, .int (nI k0.toNatClampNeg)), (2, .int l0), (3, .int (nI i0.toNatClampNeg)), (4, .int (nI n0.toNatClampNeg))]) hx hb dX5_plan_212 hl (k := 1) rfl (nI_1 k) (by decide) rfl (fun ls hl => ?_)
                        refine lv_goto (tgt := 120) hx hb dX5_plan_215 (by decide) ?_
                        exact ih (k + 1) _ _ hP hD hS _ (by omega) (Or.inr (by omega)) (hF.trans (by rw [s_X5_plan_L1, if_pos c_27, if_pos c_28])) (lv_sub hl [0, 2, 3, 4, 5, 6, 7] rfl)
                      · refine lv_aload_n hx hb dX5_plan_205 rfl (lv_at hl 3 rfl) ?_
                        refine lv_bipush (v := (-4)) hx hb dX5_plan_206 (by decide) ?_
                        refine callMi (va_runV (As := [.int (-4 : Int32)]) (rest := []) ⟨hx, hb, hml, hown, hts⟩ (c_X5_refused l D cI cZ cS q N V A H.size (-4 : Int32)) (cwV 1 hts gX5_plan_X5_refused rfl rfl rfl (by decide +kernel) ⟨Nat.le_of_ble_eq_true rfl, Nat.le_of_ble_eq_true rfl⟩) (preMm hK hP hD) rfl rfl hl.1 rfl (lv_room (Nat.le_of_ble_eq_true rfl)) dX5_plan_208 ⟨Nat.zero_le _, Nat.zero_le _⟩) hD hS hA (fun H locs hP hD hS => ?_)
                        have hEE : s_X5_plan N V A k0 l0 i0 n0 = ((s_X5_refused N V A (-4 : Int32)).1, (s_X5_refused N V A (-4 : Int32)).2.1, (s_X5_refused N V A (-4 : Int32)).2.2.1, (s_X5_refused N V A (-4 : Int32)).2.2.2) := (by rw [hF, s_X5_plan_L1, if_pos c_27, if_neg c_28])
                        rw [hEE]
                        exact W.iret (v := (s_X5_refused N V A (-4 : Int32)).1) hx hb hr (fun t ht hW => ⟨⟨_, (), rfl, rfl, ⟨by rw [ht]; exact hP, va_K.moved hW.alike hK⟩, hD⟩, hS.F ht⟩) hS.2.2 dX5_plan_211
                    · refine lv_aload_n hx hb dX5_plan_186 rfl (lv_at hl 3 rfl) ?_
                      refine lv_bipush (v := (-2)) hx hb dX5_plan_187 (by decide) ?_
                      refine callMi (va_runV (As := [.int (-2 : Int32)]) (rest := []) ⟨hx, hb, hml, hown, hts⟩ (c_X5_refused l D cI cZ cS q N V A H.size (-2 : Int32)) (cwV 1 hts gX5_plan_X5_refused rfl rfl rfl (by decide +kernel) ⟨Nat.le_of_ble_eq_true rfl, Nat.le_of_ble_eq_true rfl⟩) (preMm hK hP hD) rfl rfl hl.1 rfl (lv_room (Nat.le_of_ble_eq_true rfl)) dX5_plan_189 ⟨Nat.zero_le _, Nat.zero_le _⟩) hD hS hA (fun H locs hP hD hS => ?_)
                      have hEE : s_X5_plan N V A k0 l0 i0 n0 = ((s_X5_refused N V A (-2 : Int32)).1, (s_X5_refused N V A (-2 : Int32)).2.1, (s_X5_refused N V A (-2 : Int32)).2.2.1, (s_X5_refused N V A (-2 : Int32)).2.2.2) := (by rw [hF, s_X5_plan_L1, if_neg (nb c_27)])
                      rw [hEE]
                      exact W.iret (v := (s_X5_refused N V A (-2 : Int32)).1) hx hb hr (fun t ht hW => ⟨⟨_, (), rfl, rfl, ⟨by rw [ht]; exact hP, va_K.moved hW.alike hK⟩, hD⟩, hS.F ht⟩) hS.2.2 dX5_plan_192
                exact LL1 n0.toNatClampNeg 0  _ _ hP hD hS _ (by omega) (Or.inl rfl) (by rw [s_X5_plan, if_neg (nb c_2), if_pos c_4, if_neg c_5, if_pos c_17, if_pos c_18, if_pos c_19, if_neg (nb c_21)]) (lv_sub hl [0, 1, 2, 3, 4, 5, 6] rfl)
              · refine lv_aload_n hx hb dX5_plan_103 rfl (lv_at hl 0 rfl) ?_
                refine lv_iconst (v := (3)) hx hb dX5_plan_104 (by decide) ?_
                refine callMi (va_runV (As := [.int (3 : Int32)]) (rest := []) ⟨hx, hb, hml, hown, hts⟩ (c_X5_failed l D cI cZ cS q N V A s.heap.size (3 : Int32)) (cwV 1 hts gX5_plan_X5_failed rfl rfl rfl (by decide +kernel) ⟨Nat.le_of_ble_eq_true rfl, Nat.le_of_ble_eq_true rfl⟩) (preMm hK hP hD) rfl rfl hl.1 rfl (lv_room (Nat.le_of_ble_eq_true rfl)) dX5_plan_105 ⟨Nat.zero_le _, Nat.zero_le _⟩) hD hS hA (fun H locs hP hD hS => ?_)
                have hEE : s_X5_plan N V A k0 l0 i0 n0 = ((s_X5_failed N V A (3 : Int32)).1, (s_X5_failed N V A (3 : Int32)).2.1, (s_X5_failed N V A (3 : Int32)).2.2.1, (s_X5_failed N V A (3 : Int32)).2.2.2) := (by rw [s_X5_plan, if_neg (nb c_2), if_pos c_4, if_neg c_5, if_pos c_17, if_pos c_18, if_pos c_19, if_pos c_21])
                rw [hEE]
                exact W.iret (v := (s_X5_failed N V A (3 : Int32)).1) hx hb hr (fun t ht hW => ⟨⟨_, (), rfl, rfl, ⟨by rw [ht]; exact hP, va_K.moved hW.alike hK⟩, hD⟩, hS.F ht⟩) hS.2.2 dX5_plan_108
            · refine lv_aload_n hx hb dX5_plan_77 rfl (lv_at hl 0 rfl) ?_
              refine lv_iconst (v := (4)) hx hb dX5_plan_78 (by decide) ?_
              refine callMi (va_runV (As := [.int (4 : Int32)]) (rest := []) ⟨hx, hb, hml, hown, hts⟩ (c_X5_failed l D cI cZ cS q N V A s.heap.size (4 : Int32)) (cwV 1 hts gX5_plan_X5_failed rfl rfl rfl (by decide +kernel) ⟨Nat.le_of_ble_eq_true rfl, Nat.le_of_ble_eq_true rfl⟩) (preMm hK hP hD) rfl rfl hl.1 rfl (lv_room (Nat.le_of_ble_eq_true rfl)) dX5_plan_79 ⟨Nat.zero_le _, Nat.zero_le _⟩) hD hS hA (fun H locs hP hD hS => ?_)
              have hEE : s_X5_plan N V A k0 l0 i0 n0 = ((s_X5_failed N V A (4 : Int32)).1, (s_X5_failed N V A (4 : Int32)).2.1, (s_X5_failed N V A (4 : Int32)).2.2.1, (s_X5_failed N V A (4 : Int32)).2.2.2) := (by rw [s_X5_plan, if_neg (nb c_2), if_pos c_4, if_neg c_5, if_pos c_17, if_pos c_18, if_neg c_19])
              rw [hEE]
              exact W.iret (v := (s_X5_failed N V A (4 : Int32)).1) hx hb hr (fun t ht hW => ⟨⟨_, (), rfl, rfl, ⟨by rw [ht]; exact hP, va_K.moved hW.alike hK⟩, hD⟩, hS.F ht⟩) hS.2.2 dX5_plan_82
          · refine lv_aload_n hx hb dX5_plan_66 rfl (lv_at hl 0 rfl) ?_
            refine lv_iconst (v := (1)) hx hb dX5_plan_67 (by decide) ?_
            refine callMi (va_runV (As := [.int (1 : Int32)]) (rest := []) ⟨hx, hb, hml, hown, hts⟩ (c_X5_failed l D cI cZ cS q N V A s.heap.size (1 : Int32)) (cwV 1 hts gX5_plan_X5_failed rfl rfl rfl (by decide +kernel) ⟨Nat.le_of_ble_eq_true rfl, Nat.le_of_ble_eq_true rfl⟩) (preMm hK hP hD) rfl rfl hl.1 rfl (lv_room (Nat.le_of_ble_eq_true rfl)) dX5_plan_68 ⟨Nat.zero_le _, Nat.zero_le _⟩) hD hS hA (fun H locs hP hD hS => ?_)
            have hEE : s_X5_plan N V A k0 l0 i0 n0 = ((s_X5_failed N V A (1 : Int32)).1, (s_X5_failed N V A (1 : Int32)).2.1, (s_X5_failed N V A (1 : Int32)).2.2.1, (s_X5_failed N V A (1 : Int32)).2.2.2) := (by rw [s_X5_plan, if_neg (nb c_2), if_pos c_4, if_neg c_5, if_pos c_17, if_neg c_18])
            rw [hEE]
            exact W.iret (v := (s_X5_failed N V A (1 : Int32)).1) hx hb hr (fun t ht hW => ⟨⟨_, (), rfl, rfl, ⟨by rw [ht]; exact hP, va_K.moved hW.alike hK⟩, hD⟩, hS.F ht⟩) hS.2.2 dX5_plan_71
        · refine lv_aload_n hx hb dX5_plan_51 rfl (lv_at hl 0 rfl) ?_
          refine lv_iconst (v := (2)) hx hb dX5_plan_52 (by decide) ?_
          refine callMi (va_runV (As := [.int (2 : Int32)]) (rest := []) ⟨hx, hb, hml, hown, hts⟩ (c_X5_failed l D cI cZ cS q N V A s.heap.size (2 : Int32)) (cwV 1 hts gX5_plan_X5_failed rfl rfl rfl (by decide +kernel) ⟨Nat.le_of_ble_eq_true rfl, Nat.le_of_ble_eq_true rfl⟩) (preMm hK hP hD) rfl rfl hl.1 rfl (lv_room (Nat.le_of_ble_eq_true rfl)) dX5_plan_53 ⟨Nat.zero_le _, Nat.zero_le _⟩) hD hS hA (fun H locs hP hD hS => ?_)
          have hEE : s_X5_plan N V A k0 l0 i0 n0 = ((s_X5_failed N V A (2 : Int32)).1, (s_X5_failed N V A (2 : Int32)).2.1, (s_X5_failed N V A (2 : Int32)).2.2.1, (s_X5_failed N V A (2 : Int32)).2.2.2) := (by rw [s_X5_plan, if_neg (nb c_2), if_pos c_4, if_neg c_5, if_neg c_17])
          rw [hEE]
          exact W.iret (v := (s_X5_failed N V A (2 : Int32)).1) hx hb hr (fun t ht hW => ⟨⟨_, (), rfl, rfl, ⟨by rw [ht]; exact hP, va_K.moved hW.alike hK⟩, hD⟩, hS.F ht⟩) hS.2.2 dX5_plan_56
    · refine lv_aload_n hx hb dX5_plan_25 rfl (lv_at hl 0 rfl) ?_
      refine lv_bipush (v := (-2)) hx hb dX5_plan_26 (by decide) ?_
      refine callMi (va_runV (As := [.int (-2 : Int32)]) (rest := []) ⟨hx, hb, hml, hown, hts⟩ (c_X5_refused l D cI cZ cS q N V A s.heap.size (-2 : Int32)) (cwV 1 hts gX5_plan_X5_refused rfl rfl rfl (by decide +kernel) ⟨Nat.le_of_ble_eq_true rfl, Nat.le_of_ble_eq_true rfl⟩) (preMm hK hP hD) rfl rfl hl.1 rfl (lv_room (Nat.le_of_ble_eq_true rfl)) dX5_plan_28 ⟨Nat.zero_le _, Nat.zero_le _⟩) hD hS hA (fun H locs hP hD hS => ?_)
      have hEE : s_X5_plan N V A k0 l0 i0 n0 = ((s_X5_refused N V A (-2 : Int32)).1, (s_X5_refused N V A (-2 : Int32)).2.1, (s_X5_refused N V A (-2 : Int32)).2.2.1, (s_X5_refused N V A (-2 : Int32)).2.2.2) := (by rw [s_X5_plan, if_neg (nb c_2), if_neg (nb c_4)])
      rw [hEE]
      exact W.iret (v := (s_X5_refused N V A (-2 : Int32)).1) hx hb hr (fun t ht hW => ⟨⟨_, (), rfl, rfl, ⟨by rw [ht]; exact hP, va_K.moved hW.alike hK⟩, hD⟩, hS.F ht⟩) hS.2.2 dX5_plan_31
  · refine lv_aload_n hx hb dX5_plan_7 rfl (lv_at hl 0 rfl) ?_
    refine lv_iconst (v := (-1)) hx hb dX5_plan_8 (by decide) ?_
    refine callMi (va_runV (As := [.int (-1 : Int32)]) (rest := []) ⟨hx, hb, hml, hown, hts⟩ (c_X5_refused l D cI cZ cS q N V A s.heap.size (-1 : Int32)) (cwV 1 hts gX5_plan_X5_refused rfl rfl rfl (by decide +kernel) ⟨Nat.le_of_ble_eq_true rfl, Nat.le_of_ble_eq_true rfl⟩) (preMm hK hP hD) rfl rfl hl.1 rfl (lv_room (Nat.le_of_ble_eq_true rfl)) dX5_plan_9 ⟨Nat.zero_le _, Nat.zero_le _⟩) hD hS hA (fun H locs hP hD hS => ?_)
    have hEE : s_X5_plan N V A k0 l0 i0 n0 = ((s_X5_refused N V A (-1 : Int32)).1, (s_X5_refused N V A (-1 : Int32)).2.1, (s_X5_refused N V A (-1 : Int32)).2.2.1, (s_X5_refused N V A (-1 : Int32)).2.2.2) := (by rw [s_X5_plan, if_pos c_2])
    rw [hEE]
    exact W.iret (v := (s_X5_refused N V A (-1 : Int32)).1) hx hb hr (fun t ht hW => ⟨⟨_, (), rfl, rfl, ⟨by rw [ht]; exact hP, va_K.moved hW.alike hK⟩, hD⟩, hS.F ht⟩) hS.2.2 dX5_plan_12
def s_X5_tell (N : Nat → Nat) (V : Nat → Int32) (A : Nat → Nat → Int32)  (s0 : Int32) : Int32 × St :=
  if (s_X5_noSpar N V A s0) = true then
    ((-1 : Int32), N, V, A)
  else
    if A 2 s0.toNatClampNeg ≤ 0 then
      if (s_X5_traced N V A (1 : Int32)).2.2 2 s0.toNatClampNeg = 0 then
        ((s_X5_traced N V A (1 : Int32)).2.2 4 s0.toNatClampNeg, (s_X5_traced N V A (1 : Int32)).1, (s_X5_traced N V A (1 : Int32)).2.1, (s_X5_traced N V A (1 : Int32)).2.2)
      else
        if (s_X5_traced N V A (1 : Int32)).2.2 2 s0.toNatClampNeg = (1 : Int32) then
          (((s_X5_traced N V A (1 : Int32)).2.2 4 s0.toNatClampNeg + (s_X5_traced N V A (1 : Int32)).2.2 3 s0.toNatClampNeg), (s_X5_traced N V A (1 : Int32)).1, (s_X5_traced N V A (1 : Int32)).2.1, (s_X5_traced N V A (1 : Int32)).2.2)
        else
          (((s_X5_traced N V A (1 : Int32)).2.2 4 s0.toNatClampNeg * (s_X5_traced N V A (1 : Int32)).2.2 6 s0.toNatClampNeg), (s_X5_traced N V A (1 : Int32)).1, (s_X5_traced N V A (1 : Int32)).2.1, (s_X5_traced N V A (1 : Int32)).2.2)
    else
      if (s_X5_traced ((s_X5_traced N V A (A 2 s0.toNatClampNeg + (1 : Int32))).1) ((s_X5_traced N V A (A 2 s0.toNatClampNeg + (1 : Int32))).2.1) ((s_X5_traced N V A (A 2 s0.toNatClampNeg + (1 : Int32))).2.2) (1 : Int32)).2.2 2 s0.toNatClampNeg = 0 then
        ((s_X5_traced ((s_X5_traced N V A (A 2 s0.toNatClampNeg + (1 : Int32))).1) ((s_X5_traced N V A (A 2 s0.toNatClampNeg + (1 : Int32))).2.1) ((s_X5_traced N V A (A 2 s0.toNatClampNeg + (1 : Int32))).2.2) (1 : Int32)).2.2 4 s0.toNatClampNeg, (s_X5_traced ((s_X5_traced N V A (A 2 s0.toNatClampNeg + (1 : Int32))).1) ((s_X5_traced N V A (A 2 s0.toNatClampNeg + (1 : Int32))).2.1) ((s_X5_traced N V A (A 2 s0.toNatClampNeg + (1 : Int32))).2.2) (1 : Int32)).1, (s_X5_traced ((s_X5_traced N V A (A 2 s0.toNatClampNeg + (1 : Int32))).1) ((s_X5_traced N V A (A 2 s0.toNatClampNeg + (1 : Int32))).2.1) ((s_X5_traced N V A (A 2 s0.toNatClampNeg + (1 : Int32))).2.2) (1 : Int32)).2.1, (s_X5_traced ((s_X5_traced N V A (A 2 s0.toNatClampNeg + (1 : Int32))).1) ((s_X5_traced N V A (A 2 s0.toNatClampNeg + (1 : Int32))).2.1) ((s_X5_traced N V A (A 2 s0.toNatClampNeg + (1 : Int32))).2.2) (1 : Int32)).2.2)
      else
        if (s_X5_traced ((s_X5_traced N V A (A 2 s0.toNatClampNeg + (1 : Int32))).1) ((s_X5_traced N V A (A 2 s0.toNatClampNeg + (1 : Int32))).2.1) ((s_X5_traced N V A (A 2 s0.toNatClampNeg + (1 : Int32))).2.2) (1 : Int32)).2.2 2 s0.toNatClampNeg = (1 : Int32) then
          (((s_X5_traced ((s_X5_traced N V A (A 2 s0.toNatClampNeg + (1 : Int32))).1) ((s_X5_traced N V A (A 2 s0.toNatClampNeg + (1 : Int32))).2.1) ((s_X5_traced N V A (A 2 s0.toNatClampNeg + (1 : Int32))).2.2) (1 : Int32)).2.2 4 s0.toNatClampNeg + (s_X5_traced ((s_X5_traced N V A (A 2 s0.toNatClampNeg + (1 : Int32))).1) ((s_X5_traced N V A (A 2 s0.toNatClampNeg + (1 : Int32))).2.1) ((s_X5_traced N V A (A 2 s0.toNatClampNeg + (1 : Int32))).2.2) (1 : Int32)).2.2 3 s0.toNatClampNeg), (s_X5_traced ((s_X5_traced N V A (A 2 s0.toNatClampNeg + (1 : Int32))).1) ((s_X5_traced N V A (A 2 s0.toNatClampNeg + (1 : Int32))).2.1) ((s_X5_traced N V A (A 2 s0.toNatClampNeg + (1 : Int32))).2.2) (1 : Int32)).1, (s_X5_traced ((s_X5_traced N V A (A 2 s0.toNatClampNeg + (1 : Int32))).1) ((s_X5_traced N V A (A 2 s0.toNatClampNeg + (1 : Int32))).2.1) ((s_X5_traced N V A (A 2 s0.toNatClampNeg + (1 : Int32))).2.2) (1 : Int32)).2.1, (s_X5_traced ((s_X5_traced N V A (A 2 s0.toNatClampNeg + (1 : Int32))).1) ((s_X5_traced N V A (A 2 s0.toNatClampNeg + (1 : Int32))).2.1) ((s_X5_traced N V A (A 2 s0.toNatClampNeg + (1 : Int32))).2.2) (1 : Int32)).2.2)
        else
          (((s_X5_traced ((s_X5_traced N V A (A 2 s0.toNatClampNeg + (1 : Int32))).1) ((s_X5_traced N V A (A 2 s0.toNatClampNeg + (1 : Int32))).2.1) ((s_X5_traced N V A (A 2 s0.toNatClampNeg + (1 : Int32))).2.2) (1 : Int32)).2.2 4 s0.toNatClampNeg * (s_X5_traced ((s_X5_traced N V A (A 2 s0.toNatClampNeg + (1 : Int32))).1) ((s_X5_traced N V A (A 2 s0.toNatClampNeg + (1 : Int32))).2.1) ((s_X5_traced N V A (A 2 s0.toNatClampNeg + (1 : Int32))).2.2) (1 : Int32)).2.2 6 s0.toNatClampNeg), (s_X5_traced ((s_X5_traced N V A (A 2 s0.toNatClampNeg + (1 : Int32))).1) ((s_X5_traced N V A (A 2 s0.toNatClampNeg + (1 : Int32))).2.1) ((s_X5_traced N V A (A 2 s0.toNatClampNeg + (1 : Int32))).2.2) (1 : Int32)).1, (s_X5_traced ((s_X5_traced N V A (A 2 s0.toNatClampNeg + (1 : Int32))).1) ((s_X5_traced N V A (A 2 s0.toNatClampNeg + (1 : Int32))).2.1) ((s_X5_traced N V A (A 2 s0.toNatClampNeg + (1 : Int32))).2.2) (1 : Int32)).2.1, (s_X5_traced ((s_X5_traced N V A (A 2 s0.toNatClampNeg + (1 : Int32))).1) ((s_X5_traced N V A (A 2 s0.toNatClampNeg + (1 : Int32))).2.1) ((s_X5_traced N V A (A 2 s0.toNatClampNeg + (1 : Int32))).2.2) (1 : Int32)).2.2)
set_option maxHeartbeats 4000000 in
set_option maxRecDepth 100000 in
theorem c_X5_tell (l : Launch) (D : va_G) (cI cZ cS : ClassId) (q : Nat → Nat) (N : Nat → Nat) (V : Nat → Int32) (A : Nat → Nat → Int32) (sz : Nat) (s0 : Int32) (h_1 : okM N A) : Met l yX5_tell wsX5_tell ({ frames := 2, cells := 0, slots := 0, locals := 46 }) (va_Pc [.ref (q 0), .int s0] (fun U => U.heap.size = sz ∧ PM D cI cZ cS q N V A U ∧ va_D (fun _ => True) (wM cI cZ q N V A))) (va_Qi (fun r (_ : Unit) => r = (s_X5_tell N V A s0).1) (fun _ t => PM D cI cZ cS q (s_X5_tell N V A s0).2.1 (s_X5_tell N V A s0).2.2.1 (s_X5_tell N V A s0).2.2.2 t ∧ va_D (va_A (wM cI cZ q N V A) sz) (wM cI cZ q (s_X5_tell N V A s0).2.1 (s_X5_tell N V A s0).2.2.1 (s_X5_tell N V A s0).2.2.2)) (va_A (wM cI cZ q N V A) sz)) 0 0 (va_A (wM cI cZ q N V A) sz) := by
  refine Met.ofW (cc := cX5_tell) (maxL := 2) (ret := (some .int)) (by decide) rfl ?_
  intro p e s m args below meth c s₁ B hml hv
  obtain ⟨rfl, hsz, ⟨hP, hK⟩, hD0⟩ := hv
  have hx := B.exec
  have hb := B.bytes
  have hr := B.returns
  have hts := atoms_spec (ws := wsX5_tell) B.pre
  have hown : s.vm.findClass RX5 = some m.cls := findClass_of_methodNamed B.named
  have hlocks := B.notSynchronized
  have hin5 : ∀ w ∈ u_ws RX5 TX5 22, w ∈ wsX5_tell := by decide +kernel
  subst hsz
  have hD := hD0.self (sz := s.heap.size)
  generalize hAe : va_A (wM cI cZ q N V A) s.heap.size = Ar at hD ⊢
  have hA : ∀ q : Nat, s.heap.size ≤ q → Ar q := fun q h => by rw [← hAe]; exact Or.inr h
  have hS : va_S Ar s.heap s.heap [] := va_S.rf
  obtain ⟨o1, o2, o3, o4, o5, o6, o7⟩ := id h_1
  have hl := lv_entry ([.ref (q 0), .int s0]) (n := 2) (Nat.le_of_ble_eq_true rfl)
  rw [lg_entry_eq]
  generalize (lg_sl ([.ref (q 0), .int s0]) ++ List.replicate (2 - (lg_sl ([.ref (q 0), .int s0])).length) Slot.unset).toArray = ls at hl ⊢
  have hl : lv_has ls 2 [(0, .ref (q 0)), (1, .int s0)] := hl
  refine lv_aload_n hx hb dX5_tell_0 rfl (lv_at hl 0 rfl) ?_
  refine lv_iload_n hx hb dX5_tell_1 rfl (lv_at hl 1 rfl) ?_
  refine vp_callSi (W.runV (As := [.int s0]) (rest := []) ⟨hx, hb, hml, hown, hts⟩ (c_X5_noSpar l D cI cZ cS q N V A s0) (cwV 1 hts gX5_tell_X5_noSpar rfl rfl rfl (by decide +kernel) ⟨Nat.le_of_ble_eq_true rfl, Nat.le_of_ble_eq_true rfl⟩) (preM hK hP) rfl rfl hl.1 rfl (lv_room (Nat.le_of_ble_eq_true rfl)) dX5_tell_2 ⟨Nat.zero_le _, Nat.zero_le _⟩) (fun r_1 er_1 => ?_)
  subst er_1
  refine lz_if_eq (tgt := 10) hx hb dX5_tell_5 (by decide) (fun c_2 => ?_) (fun c_2 => ?_)
  · obtain ⟨hlt_s0, heq_s0⟩ := noSpar_f o1 c_2
    have hl : lv_has ls 2 [(0, .ref (q 0)), (1, .int (nI s0.toNatClampNeg))] := by rw [heq_s0]; exact hl
    refine lv_aload_n hx hb dX5_tell_10 rfl (lv_at hl 0 rfl) ?_
    refine va_get (D := D) (ci := 5) (v := .ref (q 2)) (C := RX5) (T := TX5) (N := 22) hx hb hts hin5 hown hK hP 0 rfl rfl 3 (by decide) (hts (.fieldLink RX5 13 "NeckShipModel" "kind" "[I") (by decide +kernel)) (fun _ h9 => h9) rfl dX5_tell_11 ?_
    refine lv_iload_n hx hb dX5_tell_14 rfl (lv_at hl 1 rfl) ?_
    refine va_ialdN (i := s0.toNatClampNeg) hx hb hK hP 2 0 rfl rfl (by decide) (by omega) dX5_tell_15 ?_
    refine lv_if_le (tgt := 31) hx hb dX5_tell_16 (by decide) (fun c_3 => ?_) (fun c_3 => ?_)
    · refine lv_aload_n hx hb dX5_tell_31 rfl (lv_at hl 0 rfl) ?_
      refine lv_iconst (v := (1)) hx hb dX5_tell_32 (by decide) ?_
      refine callMv (va_runV (As := [.int (1 : Int32)]) (rest := []) ⟨hx, hb, hml, hown, hts⟩ (c_X5_traced l D cI cZ cS q N V A s.heap.size (1 : Int32)) (cwV 1 hts gX5_tell_X5_traced rfl rfl rfl (by decide +kernel) ⟨Nat.le_of_ble_eq_true rfl, Nat.le_of_ble_eq_true rfl⟩) (preMm hK hP hD) rfl rfl hl.1 rfl (lv_room (Nat.le_of_ble_eq_true rfl)) dX5_tell_33 ⟨Nat.zero_le _, Nat.zero_le _⟩) hD hS hA (fun H locs hP hD hS => ?_)
      refine lv_aload_n hx hb dX5_tell_36 rfl (lv_at hl 0 rfl) ?_
      refine va_get (D := D) (ci := 5) (v := .ref (q 2)) (C := RX5) (T := TX5) (N := 22) hx hb hts hin5 hown hK hP 0 rfl rfl 3 (by decide) (hts (.fieldLink RX5 13 "NeckShipModel" "kind" "[I") (by decide +kernel)) (fun _ h9 => h9) rfl dX5_tell_37 ?_
      refine lv_iload_n hx hb dX5_tell_40 rfl (lv_at hl 1 rfl) ?_
      refine va_ialdN (i := s0.toNatClampNeg) hx hb hK hP 2 0 rfl rfl (by decide) (by omega) dX5_tell_41 ?_
      refine lv_if_ne (tgt := 54) hx hb dX5_tell_42 (by decide) (fun c_4 => ?_) (fun c_4 => ?_)
      · refine lv_aload_n hx hb dX5_tell_54 rfl (lv_at hl 0 rfl) ?_
        refine va_get (D := D) (ci := 5) (v := .ref (q 2)) (C := RX5) (T := TX5) (N := 22) hx hb hts hin5 hown hK hP 0 rfl rfl 3 (by decide) (hts (.fieldLink RX5 13 "NeckShipModel" "kind" "[I") (by decide +kernel)) (fun _ h9 => h9) rfl dX5_tell_55 ?_
        refine lv_iload_n hx hb dX5_tell_58 rfl (lv_at hl 1 rfl) ?_
        refine va_ialdN (i := s0.toNatClampNeg) hx hb hK hP 2 0 rfl rfl (by decide) (by omega) dX5_tell_59 ?_
        refine lv_iconst (v := (1)) hx hb dX5_tell_60 (by decide) ?_
        refine lv_icmp_ne (tgt := 80) hx hb dX5_tell_61 (by decide) (fun c_5 => ?_) (fun c_5 => ?_)
        · refine lv_aload_n hx hb dX5_tell_80 rfl (lv_at hl 0 rfl) ?_
          refine va_get (D := D) (ci := 5) (v := .ref (q 4)) (C := RX5) (T := TX5) (N := 22) hx hb hts hin5 hown hK hP 0 rfl rfl 5 (by decide) (hts (.fieldLink RX5 19 "NeckShipModel" "size" "[I") (by decide +kernel)) (fun _ h9 => h9) rfl dX5_tell_81 ?_
          refine lv_iload_n hx hb dX5_tell_84 rfl (lv_at hl 1 rfl) ?_
          refine va_ialdN (i := s0.toNatClampNeg) hx hb hK hP 4 0 rfl rfl (by decide) (by omega) dX5_tell_85 ?_
          refine lv_aload_n hx hb dX5_tell_86 rfl (lv_at hl 0 rfl) ?_
          refine va_get (D := D) (ci := 5) (v := .ref (q 6)) (C := RX5) (T := TX5) (N := 22) hx hb hts hin5 hown hK hP 0 rfl rfl 7 (by decide) (hts (.fieldLink RX5 25 "NeckShipModel" "way" "[I") (by decide +kernel)) (fun _ h9 => h9) rfl dX5_tell_87 ?_
          refine lv_iload_n hx hb dX5_tell_90 rfl (lv_at hl 1 rfl) ?_
          refine va_ialdN (i := s0.toNatClampNeg) hx hb hK hP 6 0 rfl rfl (by decide) (by omega) dX5_tell_91 ?_
          refine lv_imul hx hb dX5_tell_92 ?_
          have hEE : s_X5_tell N V A s0 = (((s_X5_traced N V A (1 : Int32)).2.2 4 s0.toNatClampNeg * (s_X5_traced N V A (1 : Int32)).2.2 6 s0.toNatClampNeg), (s_X5_traced N V A (1 : Int32)).1, (s_X5_traced N V A (1 : Int32)).2.1, (s_X5_traced N V A (1 : Int32)).2.2) := (by rw [s_X5_tell, if_neg (nb c_2), if_pos c_3, if_neg c_4, if_neg c_5])
          rw [hEE]
          exact W.iret (v := ((s_X5_traced N V A (1 : Int32)).2.2 4 s0.toNatClampNeg * (s_X5_traced N V A (1 : Int32)).2.2 6 s0.toNatClampNeg)) hx hb hr (fun t ht hW => ⟨⟨_, (), rfl, rfl, ⟨by rw [ht]; exact hP, va_K.moved hW.alike hK⟩, hD⟩, hS.F ht⟩) hS.2.2 dX5_tell_93
        · refine lv_aload_n hx hb dX5_tell_64 rfl (lv_at hl 0 rfl) ?_
          refine va_get (D := D) (ci := 5) (v := .ref (q 4)) (C := RX5) (T := TX5) (N := 22) hx hb hts hin5 hown hK hP 0 rfl rfl 5 (by decide) (hts (.fieldLink RX5 19 "NeckShipModel" "size" "[I") (by decide +kernel)) (fun _ h9 => h9) rfl dX5_tell_65 ?_
          refine lv_iload_n hx hb dX5_tell_68 rfl (lv_at hl 1 rfl) ?_
          refine va_ialdN (i := s0.toNatClampNeg) hx hb hK hP 4 0 rfl rfl (by decide) (by omega) dX5_tell_69 ?_
          refine lv_aload_n hx hb dX5_tell_70 rfl (lv_at hl 0 rfl) ?_
          refine va_get (D := D) (ci := 5) (v := .ref (q 3)) (C := RX5) (T := TX5) (N := 22) hx hb hts hin5 hown hK hP 0 rfl rfl 4 (by decide) (hts (.fieldLink RX5 16 "NeckShipModel" "foot" "[I") (by decide +kernel)) (fun _ h9 => h9) rfl dX5_tell_71 ?_
          refine lv_iload_n hx hb dX5_tell_74 rfl (lv_at hl 1 rfl) ?_
          refine va_ialdN (i := s0.toNatClampNeg) hx hb hK hP 3 0 rfl rfl (by decide) (by omega) dX5_tell_75 ?_
          refine lv_iadd hx hb dX5_tell_76 ?_
          refine lv_goto (tgt := 93) hx hb dX5_tell_77 (by decide) ?_
          have hEE : s_X5_tell N V A s0 = (((s_X5_traced N V A (1 : Int32)).2.2 4 s0.toNatClampNeg + (s_X5_traced N V A (1 : Int32)).2.2 3 s0.toNatClampNeg), (s_X5_traced N V A (1 : Int32)).1, (s_X5_traced N V A (1 : Int32)).2.1, (s_X5_traced N V A (1 : Int32)).2.2) := (by rw [s_X5_tell, if_neg (nb c_2), if_pos c_3, if_neg c_4, if_pos c_5])
          rw [hEE]
          exact W.iret (v := ((s_X5_traced N V A (1 : Int32)).2.2 4 s0.toNatClampNeg + (s_X5_traced N V A (1 : Int32)).2.2 3 s0.toNatClampNeg)) hx hb hr (fun t ht hW => ⟨⟨_, (), rfl, rfl, ⟨by rw [ht]; exact hP, va_K.moved hW.alike hK⟩, hD⟩, hS.F ht⟩) hS.2.2 dX5_tell_93
      · refine lv_aload_n hx hb dX5_tell_45 rfl (lv_at hl 0 rfl) ?_
        refine va_get (D := D) (ci := 5) (v := .ref (q 4)) (C := RX5) (T := TX5) (N := 22) hx hb hts hin5 hown hK hP 0 rfl rfl 5 (by decide) (hts (.fieldLink RX5 19 "NeckShipModel" "size" "[I") (by decide +kernel)) (fun _ h9 => h9) rfl dX5_tell_46 ?_
        refine lv_iload_n hx hb dX5_tell_49 rfl (lv_at hl 1 rfl) ?_
        refine va_ialdN (i := s0.toNatClampNeg) hx hb hK hP 4 0 rfl rfl (by decide) (by omega) dX5_tell_50 ?_
        refine lv_goto (tgt := 93) hx hb dX5_tell_51 (by decide) ?_
        have hEE : s_X5_tell N V A s0 = ((s_X5_traced N V A (1 : Int32)).2.2 4 s0.toNatClampNeg, (s_X5_traced N V A (1 : Int32)).1, (s_X5_traced N V A (1 : Int32)).2.1, (s_X5_traced N V A (1 : Int32)).2.2) := (by rw [s_X5_tell, if_neg (nb c_2), if_pos c_3, if_pos c_4])
        rw [hEE]
        exact W.iret (v := (s_X5_traced N V A (1 : Int32)).2.2 4 s0.toNatClampNeg) hx hb hr (fun t ht hW => ⟨⟨_, (), rfl, rfl, ⟨by rw [ht]; exact hP, va_K.moved hW.alike hK⟩, hD⟩, hS.F ht⟩) hS.2.2 dX5_tell_93
    · refine lv_aload_n hx hb dX5_tell_19 rfl (lv_at hl 0 rfl) ?_
      refine lv_aload_n hx hb dX5_tell_20 rfl (lv_at hl 0 rfl) ?_
      refine va_get (D := D) (ci := 5) (v := .ref (q 2)) (C := RX5) (T := TX5) (N := 22) hx hb hts hin5 hown hK hP 0 rfl rfl 3 (by decide) (hts (.fieldLink RX5 13 "NeckShipModel" "kind" "[I") (by decide +kernel)) (fun _ h9 => h9) rfl dX5_tell_21 ?_
      refine lv_iload_n hx hb dX5_tell_24 rfl (lv_at hl 1 rfl) ?_
      refine va_ialdN (i := s0.toNatClampNeg) hx hb hK hP 2 0 rfl rfl (by decide) (by omega) dX5_tell_25 ?_
      refine lv_iconst (v := (1)) hx hb dX5_tell_26 (by decide) ?_
      refine lv_iadd hx hb dX5_tell_27 ?_
      refine callMv (va_runV (As := [.int (A 2 s0.toNatClampNeg + (1 : Int32))]) (rest := []) ⟨hx, hb, hml, hown, hts⟩ (c_X5_traced l D cI cZ cS q N V A s.heap.size (A 2 s0.toNatClampNeg + (1 : Int32))) (cwV 1 hts gX5_tell_X5_traced rfl rfl rfl (by decide +kernel) ⟨Nat.le_of_ble_eq_true rfl, Nat.le_of_ble_eq_true rfl⟩) (preMm hK hP hD) rfl rfl hl.1 rfl (lv_room (Nat.le_of_ble_eq_true rfl)) dX5_tell_28 ⟨Nat.zero_le _, Nat.zero_le _⟩) hD hS hA (fun H locs hP hD hS => ?_)
      refine lv_aload_n hx hb dX5_tell_31 rfl (lv_at hl 0 rfl) ?_
      refine lv_iconst (v := (1)) hx hb dX5_tell_32 (by decide) ?_
      refine callMv (va_runV (As := [.int (1 : Int32)]) (rest := []) ⟨hx, hb, hml, hown, hts⟩ (c_X5_traced l D cI cZ cS q ((s_X5_traced N V A (A 2 s0.toNatClampNeg + (1 : Int32))).1) ((s_X5_traced N V A (A 2 s0.toNatClampNeg + (1 : Int32))).2.1) ((s_X5_traced N V A (A 2 s0.toNatClampNeg + (1 : Int32))).2.2) H.size (1 : Int32)) (cwV 1 hts gX5_tell_X5_traced rfl rfl rfl (by decide +kernel) ⟨Nat.le_of_ble_eq_true rfl, Nat.le_of_ble_eq_true rfl⟩) (preMm hK hP hD) rfl rfl hl.1 rfl (lv_room (Nat.le_of_ble_eq_true rfl)) dX5_tell_33 ⟨Nat.zero_le _, Nat.zero_le _⟩) hD hS hA (fun H locs hP hD hS => ?_)
      refine lv_aload_n hx hb dX5_tell_36 rfl (lv_at hl 0 rfl) ?_
      refine va_get (D := D) (ci := 5) (v := .ref (q 2)) (C := RX5) (T := TX5) (N := 22) hx hb hts hin5 hown hK hP 0 rfl rfl 3 (by decide) (hts (.fieldLink RX5 13 "NeckShipModel" "kind" "[I") (by decide +kernel)) (fun _ h9 => h9) rfl dX5_tell_37 ?_
      refine lv_iload_n hx hb dX5_tell_40 rfl (lv_at hl 1 rfl) ?_
      refine va_ialdN (i := s0.toNatClampNeg) hx hb hK hP 2 0 rfl rfl (by decide) (by omega) dX5_tell_41 ?_
      refine lv_if_ne (tgt := 54) hx hb dX5_tell_42 (by decide) (fun c_6 => ?_) (fun c_6 => ?_)
      · refine lv_aload_n hx hb dX5_tell_54 rfl (lv_at hl 0 rfl) ?_
        refine va_get (D := D) (ci := 5) (v := .ref (q 2)) (C := RX5) (T := TX5) (N := 22) hx hb hts hin5 hown hK hP 0 rfl rfl 3 (by decide) (hts (.fieldLink RX5 13 "NeckShipModel" "kind" "[I") (by decide +kernel)) (fun _ h9 => h9) rfl dX5_tell_55 ?_
        refine lv_iload_n hx hb dX5_tell_58 rfl (lv_at hl 1 rfl) ?_
        refine va_ialdN (i := s0.toNatClampNeg) hx hb hK hP 2 0 rfl rfl (by decide) (by omega) dX5_tell_59 ?_
        refine lv_iconst (v := (1)) hx hb dX5_tell_60 (by decide) ?_
        refine lv_icmp_ne (tgt := 80) hx hb dX5_tell_61 (by decide) (fun c_7 => ?_) (fun c_7 => ?_)
        · refine lv_aload_n hx hb dX5_tell_80 rfl (lv_at hl 0 rfl) ?_
          refine va_get (D := D) (ci := 5) (v := .ref (q 4)) (C := RX5) (T := TX5) (N := 22) hx hb hts hin5 hown hK hP 0 rfl rfl 5 (by decide) (hts (.fieldLink RX5 19 "NeckShipModel" "size" "[I") (by decide +kernel)) (fun _ h9 => h9) rfl dX5_tell_81 ?_
          refine lv_iload_n hx hb dX5_tell_84 rfl (lv_at hl 1 rfl) ?_
          refine va_ialdN (i := s0.toNatClampNeg) hx hb hK hP 4 0 rfl rfl (by decide) (by omega) dX5_tell_85 ?_
          refine lv_aload_n hx hb dX5_tell_86 rfl (lv_at hl 0 rfl) ?_
          refine va_get (D := D) (ci := 5) (v := .ref (q 6)) (C := RX5) (T := TX5) (N := 22) hx hb hts hin5 hown hK hP 0 rfl rfl 7 (by decide) (hts (.fieldLink RX5 25 "NeckShipModel" "way" "[I") (by decide +kernel)) (fun _ h9 => h9) rfl dX5_tell_87 ?_
          refine lv_iload_n hx hb dX5_tell_90 rfl (lv_at hl 1 rfl) ?_
          refine va_ialdN (i := s0.toNatClampNeg) hx hb hK hP 6 0 rfl rfl (by decide) (by omega) dX5_tell_91 ?_
          refine lv_imul hx hb dX5_tell_92 ?_
          have hEE : s_X5_tell N V A s0 = (((s_X5_traced ((s_X5_traced N V A (A 2 s0.toNatClampNeg + (1 : Int32))).1) ((s_X5_traced N V A (A 2 s0.toNatClampNeg + (1 : Int32))).2.1) ((s_X5_traced N V A (A 2 s0.toNatClampNeg + (1 : Int32))).2.2) (1 : Int32)).2.2 4 s0.toNatClampNeg * (s_X5_traced ((s_X5_traced N V A (A 2 s0.toNatClampNeg + (1 : Int32))).1) ((s_X5_traced N V A (A 2 s0.toNatClampNeg + (1 : Int32))).2.1) ((s_X5_traced N V A (A 2 s0.toNatClampNeg + (1 : Int32))).2.2) (1 : Int32)).2.2 6 s0.toNatClampNeg), (s_X5_traced ((s_X5_traced N V A (A 2 s0.toNatClampNeg + (1 : Int32))).1) ((s_X5_traced N V A (A 2 s0.toNatClampNeg + (1 : Int32))).2.1) ((s_X5_traced N V A (A 2 s0.toNatClampNeg + (1 : Int32))).2.2) (1 : Int32)).1, (s_X5_traced ((s_X5_traced N V A (A 2 s0.toNatClampNeg + (1 : Int32))).1) ((s_X5_traced N V A (A 2 s0.toNatClampNeg + (1 : Int32))).2.1) ((s_X5_traced N V A (A 2 s0.toNatClampNeg + (1 : Int32))).2.2) (1 : Int32)).2.1, (s_X5_traced ((s_X5_traced N V A (A 2 s0.toNatClampNeg + (1 : Int32))).1) ((s_X5_traced N V A (A 2 s0.toNatClampNeg + (1 : Int32))).2.1) ((s_X5_traced N V A (A 2 s0.toNatClampNeg + (1 : Int32))).2.2) (1 : Int32)).2.2) := (by rw [s_X5_tell, if_neg (nb c_2), if_neg c_3, if_neg c_6, if_neg c_7])
          rw [hEE]
          exact W.iret (v := ((s_X5_traced ((s_X5_traced N V A (A 2 s0.toNatClampNeg + (1 : Int32))).1) ((s_X5_traced N V A (A 2 s0.toNatClampNeg + (1 : Int32))).2.1) ((s_X5_traced N V A (A 2 s0.toNatClampNeg + (1 : Int32))).2.2) (1 : Int32)).2.2 4 s0.toNatClampNeg * (s_X5_traced ((s_X5_traced N V A (A 2 s0.toNatClampNeg + (1 : Int32))).1) ((s_X5_traced N V A (A 2 s0.toNatClampNeg + (1 : Int32))).2.1) ((s_X5_traced N V A (A 2 s0.toNatClampNeg + (1 : Int32))).2.2) (1 : Int32)).2.2 6 s0.toNatClampNeg)) hx hb hr (fun t ht hW => ⟨⟨_, (), rfl, rfl, ⟨by rw [ht]; exact hP, va_K.moved hW.alike hK⟩, hD⟩, hS.F ht⟩) hS.2.2 dX5_tell_93
        · refine lv_aload_n hx hb dX5_tell_64 rfl (lv_at hl 0 rfl) ?_
          refine va_get (D := D) (ci := 5) (v := .ref (q 4)) (C := RX5) (T := TX5) (N := 22) hx hb hts hin5 hown hK hP 0 rfl rfl 5 (by decide) (hts (.fieldLink RX5 19 "NeckShipModel" "size" "[I") (by decide +kernel)) (fun _ h9 => h9) rfl dX5_tell_65 ?_
          refine lv_iload_n hx hb dX5_tell_68 rfl (lv_at hl 1 rfl) ?_
          refine va_ialdN (i := s0.toNatClampNeg) hx hb hK hP 4 0 rfl rfl (by decide) (by omega) dX5_tell_69 ?_
          refine lv_aload_n hx hb dX5_tell_70 rfl (lv_at hl 0 rfl) ?_
          refine va_get (D := D) (ci := 5) (v := .ref (q 3)) (C := RX5) (T := TX5) (N := 22) hx hb hts hin5 hown hK hP 0 rfl rfl 4 (by decide) (hts (.fieldLink RX5 16 "NeckShipModel" "foot" "[I") (by decide +kernel)) (fun _ h9 => h9) rfl dX5_tell_71 ?_
          refine lv_iload_n hx hb dX5_tell_74 rfl (lv_at hl 1 rfl) ?_
          refine va_ialdN (i := s0.toNatClampNeg) hx hb hK hP 3 0 rfl rfl (by decide) (by omega) dX5_tell_75 ?_
          refine lv_iadd hx hb dX5_tell_76 ?_
          refine lv_goto (tgt := 93) hx hb dX5_tell_77 (by decide) ?_
          have hEE : s_X5_tell N V A s0 = (((s_X5_traced ((s_X5_traced N V A (A 2 s0.toNatClampNeg + (1 : Int32))).1) ((s_X5_traced N V A (A 2 s0.toNatClampNeg + (1 : Int32))).2.1) ((s_X5_traced N V A (A 2 s0.toNatClampNeg + (1 : Int32))).2.2) (1 : Int32)).2.2 4 s0.toNatClampNeg + (s_X5_traced ((s_X5_traced N V A (A 2 s0.toNatClampNeg + (1 : Int32))).1) ((s_X5_traced N V A (A 2 s0.toNatClampNeg + (1 : Int32))).2.1) ((s_X5_traced N V A (A 2 s0.toNatClampNeg + (1 : Int32))).2.2) (1 : Int32)).2.2 3 s0.toNatClampNeg), (s_X5_traced ((s_X5_traced N V A (A 2 s0.toNatClampNeg + (1 : Int32))).1) ((s_X5_traced N V A (A 2 s0.toNatClampNeg + (1 : Int32))).2.1) ((s_X5_traced N V A (A 2 s0.toNatClampNeg + (1 : Int32))).2.2) (1 : Int32)).1, (s_X5_traced ((s_X5_traced N V A (A 2 s0.toNatClampNeg + (1 : Int32))).1) ((s_X5_traced N V A (A 2 s0.toNatClampNeg + (1 : Int32))).2.1) ((s_X5_traced N V A (A 2 s0.toNatClampNeg + (1 : Int32))).2.2) (1 : Int32)).2.1, (s_X5_traced ((s_X5_traced N V A (A 2 s0.toNatClampNeg + (1 : Int32))).1) ((s_X5_traced N V A (A 2 s0.toNatClampNeg + (1 : Int32))).2.1) ((s_X5_traced N V A (A 2 s0.toNatClampNeg + (1 : Int32))).2.2) (1 : Int32)).2.2) := (by rw [s_X5_tell, if_neg (nb c_2), if_neg c_3, if_neg c_6, if_pos c_7])
          rw [hEE]
          exact W.iret (v := ((s_X5_traced ((s_X5_traced N V A (A 2 s0.toNatClampNeg + (1 : Int32))).1) ((s_X5_traced N V A (A 2 s0.toNatClampNeg + (1 : Int32))).2.1) ((s_X5_traced N V A (A 2 s0.toNatClampNeg + (1 : Int32))).2.2) (1 : Int32)).2.2 4 s0.toNatClampNeg + (s_X5_traced ((s_X5_traced N V A (A 2 s0.toNatClampNeg + (1 : Int32))).1) ((s_X5_traced N V A (A 2 s0.toNatClampNeg + (1 : Int32))).2.1) ((s_X5_traced N V A (A 2 s0.toNatClampNeg + (1 : Int32))).2.2) (1 : Int32)).2.2 3 s0.toNatClampNeg)) hx hb hr (fun t ht hW => ⟨⟨_, (), rfl, rfl, ⟨by rw [ht]; exact hP, va_K.moved hW.alike hK⟩, hD⟩, hS.F ht⟩) hS.2.2 dX5_tell_93
      · refine lv_aload_n hx hb dX5_tell_45 rfl (lv_at hl 0 rfl) ?_
        refine va_get (D := D) (ci := 5) (v := .ref (q 4)) (C := RX5) (T := TX5) (N := 22) hx hb hts hin5 hown hK hP 0 rfl rfl 5 (by decide) (hts (.fieldLink RX5 19 "NeckShipModel" "size" "[I") (by decide +kernel)) (fun _ h9 => h9) rfl dX5_tell_46 ?_
        refine lv_iload_n hx hb dX5_tell_49 rfl (lv_at hl 1 rfl) ?_
        refine va_ialdN (i := s0.toNatClampNeg) hx hb hK hP 4 0 rfl rfl (by decide) (by omega) dX5_tell_50 ?_
        refine lv_goto (tgt := 93) hx hb dX5_tell_51 (by decide) ?_
        have hEE : s_X5_tell N V A s0 = ((s_X5_traced ((s_X5_traced N V A (A 2 s0.toNatClampNeg + (1 : Int32))).1) ((s_X5_traced N V A (A 2 s0.toNatClampNeg + (1 : Int32))).2.1) ((s_X5_traced N V A (A 2 s0.toNatClampNeg + (1 : Int32))).2.2) (1 : Int32)).2.2 4 s0.toNatClampNeg, (s_X5_traced ((s_X5_traced N V A (A 2 s0.toNatClampNeg + (1 : Int32))).1) ((s_X5_traced N V A (A 2 s0.toNatClampNeg + (1 : Int32))).2.1) ((s_X5_traced N V A (A 2 s0.toNatClampNeg + (1 : Int32))).2.2) (1 : Int32)).1, (s_X5_traced ((s_X5_traced N V A (A 2 s0.toNatClampNeg + (1 : Int32))).1) ((s_X5_traced N V A (A 2 s0.toNatClampNeg + (1 : Int32))).2.1) ((s_X5_traced N V A (A 2 s0.toNatClampNeg + (1 : Int32))).2.2) (1 : Int32)).2.1, (s_X5_traced ((s_X5_traced N V A (A 2 s0.toNatClampNeg + (1 : Int32))).1) ((s_X5_traced N V A (A 2 s0.toNatClampNeg + (1 : Int32))).2.1) ((s_X5_traced N V A (A 2 s0.toNatClampNeg + (1 : Int32))).2.2) (1 : Int32)).2.2) := (by rw [s_X5_tell, if_neg (nb c_2), if_neg c_3, if_pos c_6])
        rw [hEE]
        exact W.iret (v := (s_X5_traced ((s_X5_traced N V A (A 2 s0.toNatClampNeg + (1 : Int32))).1) ((s_X5_traced N V A (A 2 s0.toNatClampNeg + (1 : Int32))).2.1) ((s_X5_traced N V A (A 2 s0.toNatClampNeg + (1 : Int32))).2.2) (1 : Int32)).2.2 4 s0.toNatClampNeg) hx hb hr (fun t ht hW => ⟨⟨_, (), rfl, rfl, ⟨by rw [ht]; exact hP, va_K.moved hW.alike hK⟩, hD⟩, hS.F ht⟩) hS.2.2 dX5_tell_93
  · refine lv_iconst (v := (-1)) hx hb dX5_tell_8 (by decide) ?_
    have hEE : s_X5_tell N V A s0 = ((-1 : Int32), N, V, A) := (by rw [s_X5_tell, if_pos c_2])
    rw [hEE]
    exact W.iret (v := (-1 : Int32)) hx hb hr (fun t ht hW => ⟨⟨_, (), rfl, rfl, ⟨by rw [ht]; exact hP, va_K.moved hW.alike hK⟩, hD⟩, hS.F ht⟩) hS.2.2 dX5_tell_9
def s_X5_name (N : Nat → Nat) (V : Nat → Int32) (A : Nat → Nat → Int32)  (s0 : Int32) : Int32 × St :=
  if (s_X5_noSpar N V A s0) = true then
    ((-1 : Int32), N, V, A)
  else
    if A 2 s0.toNatClampNeg = (2 : Int32) then
      if (s_X5_traced N V A (5 : Int32)).2.2 2 s0.toNatClampNeg = (2 : Int32) then
        ((40 : Int32), (s_X5_traced N V A (5 : Int32)).1, (s_X5_traced N V A (5 : Int32)).2.1, (s_X5_traced N V A (5 : Int32)).2.2)
      else
        ((nI s0.toNatClampNeg + ((10 : Int32) * (s_X5_traced N V A (5 : Int32)).2.2 5 s0.toNatClampNeg)), (s_X5_traced N V A (5 : Int32)).1, (s_X5_traced N V A (5 : Int32)).2.1, (s_X5_traced N V A (5 : Int32)).2.2)
    else
      if (s_X5_traced N V A (4 : Int32)).2.2 2 s0.toNatClampNeg = (2 : Int32) then
        ((40 : Int32), (s_X5_traced N V A (4 : Int32)).1, (s_X5_traced N V A (4 : Int32)).2.1, (s_X5_traced N V A (4 : Int32)).2.2)
      else
        ((nI s0.toNatClampNeg + ((10 : Int32) * (s_X5_traced N V A (4 : Int32)).2.2 5 s0.toNatClampNeg)), (s_X5_traced N V A (4 : Int32)).1, (s_X5_traced N V A (4 : Int32)).2.1, (s_X5_traced N V A (4 : Int32)).2.2)
set_option maxHeartbeats 4000000 in
set_option maxRecDepth 100000 in
theorem c_X5_name (l : Launch) (D : va_G) (cI cZ cS : ClassId) (q : Nat → Nat) (N : Nat → Nat) (V : Nat → Int32) (A : Nat → Nat → Int32) (sz : Nat) (s0 : Int32) (h_1 : okM N A) : Met l yX5_name wsX5_name ({ frames := 2, cells := 0, slots := 0, locals := 46 }) (va_Pc [.ref (q 0), .int s0] (fun U => U.heap.size = sz ∧ PM D cI cZ cS q N V A U ∧ va_D (fun _ => True) (wM cI cZ q N V A))) (va_Qi (fun r (_ : Unit) => r = (s_X5_name N V A s0).1) (fun _ t => PM D cI cZ cS q (s_X5_name N V A s0).2.1 (s_X5_name N V A s0).2.2.1 (s_X5_name N V A s0).2.2.2 t ∧ va_D (va_A (wM cI cZ q N V A) sz) (wM cI cZ q (s_X5_name N V A s0).2.1 (s_X5_name N V A s0).2.2.1 (s_X5_name N V A s0).2.2.2)) (va_A (wM cI cZ q N V A) sz)) 0 0 (va_A (wM cI cZ q N V A) sz) := by
  refine Met.ofW (cc := cX5_name) (maxL := 2) (ret := (some .int)) (by decide) rfl ?_
  intro p e s m args below meth c s₁ B hml hv
  obtain ⟨rfl, hsz, ⟨hP, hK⟩, hD0⟩ := hv
  have hx := B.exec
  have hb := B.bytes
  have hr := B.returns
  have hts := atoms_spec (ws := wsX5_name) B.pre
  have hown : s.vm.findClass RX5 = some m.cls := findClass_of_methodNamed B.named
  have hlocks := B.notSynchronized
  have hin5 : ∀ w ∈ u_ws RX5 TX5 22, w ∈ wsX5_name := by decide +kernel
  subst hsz
  have hD := hD0.self (sz := s.heap.size)
  generalize hAe : va_A (wM cI cZ q N V A) s.heap.size = Ar at hD ⊢
  have hA : ∀ q : Nat, s.heap.size ≤ q → Ar q := fun q h => by rw [← hAe]; exact Or.inr h
  have hS : va_S Ar s.heap s.heap [] := va_S.rf
  obtain ⟨o1, o2, o3, o4, o5, o6, o7⟩ := id h_1
  have hl := lv_entry ([.ref (q 0), .int s0]) (n := 2) (Nat.le_of_ble_eq_true rfl)
  rw [lg_entry_eq]
  generalize (lg_sl ([.ref (q 0), .int s0]) ++ List.replicate (2 - (lg_sl ([.ref (q 0), .int s0])).length) Slot.unset).toArray = ls at hl ⊢
  have hl : lv_has ls 2 [(0, .ref (q 0)), (1, .int s0)] := hl
  refine lv_aload_n hx hb dX5_name_0 rfl (lv_at hl 0 rfl) ?_
  refine lv_iload_n hx hb dX5_name_1 rfl (lv_at hl 1 rfl) ?_
  refine vp_callSi (W.runV (As := [.int s0]) (rest := []) ⟨hx, hb, hml, hown, hts⟩ (c_X5_noSpar l D cI cZ cS q N V A s0) (cwV 1 hts gX5_name_X5_noSpar rfl rfl rfl (by decide +kernel) ⟨Nat.le_of_ble_eq_true rfl, Nat.le_of_ble_eq_true rfl⟩) (preM hK hP) rfl rfl hl.1 rfl (lv_room (Nat.le_of_ble_eq_true rfl)) dX5_name_2 ⟨Nat.zero_le _, Nat.zero_le _⟩) (fun r_1 er_1 => ?_)
  subst er_1
  refine lz_if_eq (tgt := 10) hx hb dX5_name_5 (by decide) (fun c_2 => ?_) (fun c_2 => ?_)
  · obtain ⟨hlt_s0, heq_s0⟩ := noSpar_f o1 c_2
    have hl : lv_has ls 2 [(0, .ref (q 0)), (1, .int (nI s0.toNatClampNeg))] := by rw [heq_s0]; exact hl
    refine lv_aload_n hx hb dX5_name_10 rfl (lv_at hl 0 rfl) ?_
    refine lv_aload_n hx hb dX5_name_11 rfl (lv_at hl 0 rfl) ?_
    refine va_get (D := D) (ci := 5) (v := .ref (q 2)) (C := RX5) (T := TX5) (N := 22) hx hb hts hin5 hown hK hP 0 rfl rfl 3 (by decide) (hts (.fieldLink RX5 13 "NeckShipModel" "kind" "[I") (by decide +kernel)) (fun _ h9 => h9) rfl dX5_name_12 ?_
    refine lv_iload_n hx hb dX5_name_15 rfl (lv_at hl 1 rfl) ?_
    refine va_ialdN (i := s0.toNatClampNeg) hx hb hK hP 2 0 rfl rfl (by decide) (by omega) dX5_name_16 ?_
    refine lv_iconst (v := (2)) hx hb dX5_name_17 (by decide) ?_
    refine lv_icmp_ne (tgt := 25) hx hb dX5_name_18 (by decide) (fun c_3 => ?_) (fun c_3 => ?_)
    · refine lv_iconst (v := (4)) hx hb dX5_name_25 (by decide) ?_
      refine callMv (va_runV (As := [.int (4 : Int32)]) (rest := []) ⟨hx, hb, hml, hown, hts⟩ (c_X5_traced l D cI cZ cS q N V A s.heap.size (4 : Int32)) (cwV 1 hts gX5_name_X5_traced rfl rfl rfl (by decide +kernel) ⟨Nat.le_of_ble_eq_true rfl, Nat.le_of_ble_eq_true rfl⟩) (preMm hK hP hD) rfl rfl hl.1 rfl (lv_room (Nat.le_of_ble_eq_true rfl)) dX5_name_26 ⟨Nat.zero_le _, Nat.zero_le _⟩) hD hS hA (fun H locs hP hD hS => ?_)
      refine lv_aload_n hx hb dX5_name_29 rfl (lv_at hl 0 rfl) ?_
      refine va_get (D := D) (ci := 5) (v := .ref (q 2)) (C := RX5) (T := TX5) (N := 22) hx hb hts hin5 hown hK hP 0 rfl rfl 3 (by decide) (hts (.fieldLink RX5 13 "NeckShipModel" "kind" "[I") (by decide +kernel)) (fun _ h9 => h9) rfl dX5_name_30 ?_
      refine lv_iload_n hx hb dX5_name_33 rfl (lv_at hl 1 rfl) ?_
      refine va_ialdN (i := s0.toNatClampNeg) hx hb hK hP 2 0 rfl rfl (by decide) (by omega) dX5_name_34 ?_
      refine lv_iconst (v := (2)) hx hb dX5_name_35 (by decide) ?_
      refine lv_icmp_ne (tgt := 44) hx hb dX5_name_36 (by decide) (fun c_4 => ?_) (fun c_4 => ?_)
      · refine lv_iload_n hx hb dX5_name_44 rfl (lv_at hl 1 rfl) ?_
        refine lv_bipush (v := (10)) hx hb dX5_name_45 (by decide) ?_
        refine lv_aload_n hx hb dX5_name_47 rfl (lv_at hl 0 rfl) ?_
        refine va_get (D := D) (ci := 5) (v := .ref (q 5)) (C := RX5) (T := TX5) (N := 22) hx hb hts hin5 hown hK hP 0 rfl rfl 6 (by decide) (hts (.fieldLink RX5 22 "NeckShipModel" "thick" "[I") (by decide +kernel)) (fun _ h9 => h9) rfl dX5_name_48 ?_
        refine lv_iload_n hx hb dX5_name_51 rfl (lv_at hl 1 rfl) ?_
        refine va_ialdN (i := s0.toNatClampNeg) hx hb hK hP 5 0 rfl rfl (by decide) (by omega) dX5_name_52 ?_
        refine lv_imul hx hb dX5_name_53 ?_
        refine lv_iadd hx hb dX5_name_54 ?_
        have hEE : s_X5_name N V A s0 = ((nI s0.toNatClampNeg + ((10 : Int32) * (s_X5_traced N V A (4 : Int32)).2.2 5 s0.toNatClampNeg)), (s_X5_traced N V A (4 : Int32)).1, (s_X5_traced N V A (4 : Int32)).2.1, (s_X5_traced N V A (4 : Int32)).2.2) := (by rw [s_X5_name, if_neg (nb c_2), if_neg c_3, if_neg c_4])
        rw [hEE]
        exact W.iret (v := (nI s0.toNatClampNeg + ((10 : Int32) * (s_X5_traced N V A (4 : Int32)).2.2 5 s0.toNatClampNeg))) hx hb hr (fun t ht hW => ⟨⟨_, (), rfl, rfl, ⟨by rw [ht]; exact hP, va_K.moved hW.alike hK⟩, hD⟩, hS.F ht⟩) hS.2.2 dX5_name_55
      · refine lv_bipush (v := (40)) hx hb dX5_name_39 (by decide) ?_
        refine lv_goto (tgt := 55) hx hb dX5_name_41 (by decide) ?_
        have hEE : s_X5_name N V A s0 = ((40 : Int32), (s_X5_traced N V A (4 : Int32)).1, (s_X5_traced N V A (4 : Int32)).2.1, (s_X5_traced N V A (4 : Int32)).2.2) := (by rw [s_X5_name, if_neg (nb c_2), if_neg c_3, if_pos c_4])
        rw [hEE]
        exact W.iret (v := (40 : Int32)) hx hb hr (fun t ht hW => ⟨⟨_, (), rfl, rfl, ⟨by rw [ht]; exact hP, va_K.moved hW.alike hK⟩, hD⟩, hS.F ht⟩) hS.2.2 dX5_name_55
    · refine lv_iconst (v := (5)) hx hb dX5_name_21 (by decide) ?_
      refine lv_goto (tgt := 26) hx hb dX5_name_22 (by decide) ?_
      refine callMv (va_runV (As := [.int (5 : Int32)]) (rest := []) ⟨hx, hb, hml, hown, hts⟩ (c_X5_traced l D cI cZ cS q N V A s.heap.size (5 : Int32)) (cwV 1 hts gX5_name_X5_traced rfl rfl rfl (by decide +kernel) ⟨Nat.le_of_ble_eq_true rfl, Nat.le_of_ble_eq_true rfl⟩) (preMm hK hP hD) rfl rfl hl.1 rfl (lv_room (Nat.le_of_ble_eq_true rfl)) dX5_name_26 ⟨Nat.zero_le _, Nat.zero_le _⟩) hD hS hA (fun H locs hP hD hS => ?_)
      refine lv_aload_n hx hb dX5_name_29 rfl (lv_at hl 0 rfl) ?_
      refine va_get (D := D) (ci := 5) (v := .ref (q 2)) (C := RX5) (T := TX5) (N := 22) hx hb hts hin5 hown hK hP 0 rfl rfl 3 (by decide) (hts (.fieldLink RX5 13 "NeckShipModel" "kind" "[I") (by decide +kernel)) (fun _ h9 => h9) rfl dX5_name_30 ?_
      refine lv_iload_n hx hb dX5_name_33 rfl (lv_at hl 1 rfl) ?_
      refine va_ialdN (i := s0.toNatClampNeg) hx hb hK hP 2 0 rfl rfl (by decide) (by omega) dX5_name_34 ?_
      refine lv_iconst (v := (2)) hx hb dX5_name_35 (by decide) ?_
      refine lv_icmp_ne (tgt := 44) hx hb dX5_name_36 (by decide) (fun c_5 => ?_) (fun c_5 => ?_)
      · refine lv_iload_n hx hb dX5_name_44 rfl (lv_at hl 1 rfl) ?_
        refine lv_bipush (v := (10)) hx hb dX5_name_45 (by decide) ?_
        refine lv_aload_n hx hb dX5_name_47 rfl (lv_at hl 0 rfl) ?_
        refine va_get (D := D) (ci := 5) (v := .ref (q 5)) (C := RX5) (T := TX5) (N := 22) hx hb hts hin5 hown hK hP 0 rfl rfl 6 (by decide) (hts (.fieldLink RX5 22 "NeckShipModel" "thick" "[I") (by decide +kernel)) (fun _ h9 => h9) rfl dX5_name_48 ?_
        refine lv_iload_n hx hb dX5_name_51 rfl (lv_at hl 1 rfl) ?_
        refine va_ialdN (i := s0.toNatClampNeg) hx hb hK hP 5 0 rfl rfl (by decide) (by omega) dX5_name_52 ?_
        refine lv_imul hx hb dX5_name_53 ?_
        refine lv_iadd hx hb dX5_name_54 ?_
        have hEE : s_X5_name N V A s0 = ((nI s0.toNatClampNeg + ((10 : Int32) * (s_X5_traced N V A (5 : Int32)).2.2 5 s0.toNatClampNeg)), (s_X5_traced N V A (5 : Int32)).1, (s_X5_traced N V A (5 : Int32)).2.1, (s_X5_traced N V A (5 : Int32)).2.2) := (by rw [s_X5_name, if_neg (nb c_2), if_pos c_3, if_neg c_5])
        rw [hEE]
        exact W.iret (v := (nI s0.toNatClampNeg + ((10 : Int32) * (s_X5_traced N V A (5 : Int32)).2.2 5 s0.toNatClampNeg))) hx hb hr (fun t ht hW => ⟨⟨_, (), rfl, rfl, ⟨by rw [ht]; exact hP, va_K.moved hW.alike hK⟩, hD⟩, hS.F ht⟩) hS.2.2 dX5_name_55
      · refine lv_bipush (v := (40)) hx hb dX5_name_39 (by decide) ?_
        refine lv_goto (tgt := 55) hx hb dX5_name_41 (by decide) ?_
        have hEE : s_X5_name N V A s0 = ((40 : Int32), (s_X5_traced N V A (5 : Int32)).1, (s_X5_traced N V A (5 : Int32)).2.1, (s_X5_traced N V A (5 : Int32)).2.2) := (by rw [s_X5_name, if_neg (nb c_2), if_pos c_3, if_pos c_5])
        rw [hEE]
        exact W.iret (v := (40 : Int32)) hx hb hr (fun t ht hW => ⟨⟨_, (), rfl, rfl, ⟨by rw [ht]; exact hP, va_K.moved hW.alike hK⟩, hD⟩, hS.F ht⟩) hS.2.2 dX5_name_55
  · refine lv_iconst (v := (-1)) hx hb dX5_name_8 (by decide) ?_
    have hEE : s_X5_name N V A s0 = ((-1 : Int32), N, V, A) := (by rw [s_X5_name, if_pos c_2])
    rw [hEE]
    exact W.iret (v := (-1 : Int32)) hx hb hr (fun t ht hW => ⟨⟨_, (), rfl, rfl, ⟨by rw [ht]; exact hP, va_K.moved hW.alike hK⟩, hD⟩, hS.F ht⟩) hS.2.2 dX5_name_9
def s_X5_as (N : Nat → Nat) (V : Nat → Int32) (A : Nat → Nat → Int32)  (s0 : Int32) (k0 : Int32) : Int32 × St :=
  if (s_X5_noSpar N V A s0) = true then
    ((s_X5_refused N V A (-1 : Int32)).1, (s_X5_refused N V A (-1 : Int32)).2.1, (s_X5_refused N V A (-1 : Int32)).2.2.1, (s_X5_refused N V A (-1 : Int32)).2.2.2)
  else
    if (s_X5_in ((k0).toInt64) (0 : Int64) (2 : Int64)) = true then
      if A 2 s0.toNatClampNeg < k0 then
        ((s_X5_failed N V A (2 : Int32)).1, (s_X5_failed N V A (2 : Int32)).2.1, (s_X5_failed N V A (2 : Int32)).2.2.1, (s_X5_failed N V A (2 : Int32)).2.2.2)
      else
        ((s_X5_refused N V A (1 : Int32)).1, (s_X5_refused N V A (1 : Int32)).2.1, (s_X5_refused N V A (1 : Int32)).2.2.1, (s_X5_refused N V A (1 : Int32)).2.2.2)
    else
      ((s_X5_refused N V A (-2 : Int32)).1, (s_X5_refused N V A (-2 : Int32)).2.1, (s_X5_refused N V A (-2 : Int32)).2.2.1, (s_X5_refused N V A (-2 : Int32)).2.2.2)
set_option maxHeartbeats 4000000 in
set_option maxRecDepth 100000 in
theorem c_X5_as (l : Launch) (D : va_G) (cI cZ cS : ClassId) (q : Nat → Nat) (N : Nat → Nat) (V : Nat → Int32) (A : Nat → Nat → Int32) (sz : Nat) (s0 : Int32) (k0 : Int32) (h_1 : okM N A) : Met l yX5_as wsX5_as ({ frames := 2, cells := 0, slots := 0, locals := 46 }) (va_Pc [.ref (q 0), .int s0, .int k0] (fun U => U.heap.size = sz ∧ PM D cI cZ cS q N V A U ∧ va_D (fun _ => True) (wM cI cZ q N V A))) (va_Qi (fun r (_ : Unit) => r = (s_X5_as N V A s0 k0).1) (fun _ t => PM D cI cZ cS q (s_X5_as N V A s0 k0).2.1 (s_X5_as N V A s0 k0).2.2.1 (s_X5_as N V A s0 k0).2.2.2 t ∧ va_D (va_A (wM cI cZ q N V A) sz) (wM cI cZ q (s_X5_as N V A s0 k0).2.1 (s_X5_as N V A s0 k0).2.2.1 (s_X5_as N V A s0 k0).2.2.2)) (va_A (wM cI cZ q N V A) sz)) 0 0 (va_A (wM cI cZ q N V A) sz) := by
  refine Met.ofW (cc := cX5_as) (maxL := 3) (ret := (some .int)) (by decide) rfl ?_
  intro p e s m args below meth c s₁ B hml hv
  obtain ⟨rfl, hsz, ⟨hP, hK⟩, hD0⟩ := hv
  have hx := B.exec
  have hb := B.bytes
  have hr := B.returns
  have hts := atoms_spec (ws := wsX5_as) B.pre
  have hown : s.vm.findClass RX5 = some m.cls := findClass_of_methodNamed B.named
  have hlocks := B.notSynchronized
  have hin5 : ∀ w ∈ u_ws RX5 TX5 22, w ∈ wsX5_as := by decide +kernel
  subst hsz
  have hD := hD0.self (sz := s.heap.size)
  generalize hAe : va_A (wM cI cZ q N V A) s.heap.size = Ar at hD ⊢
  have hA : ∀ q : Nat, s.heap.size ≤ q → Ar q := fun q h => by rw [← hAe]; exact Or.inr h
  have hS : va_S Ar s.heap s.heap [] := va_S.rf
  obtain ⟨o1, o2, o3, o4, o5, o6, o7⟩ := id h_1
  have hl := lv_entry ([.ref (q 0), .int s0, .int k0]) (n := 3) (Nat.le_of_ble_eq_true rfl)
  rw [lg_entry_eq]
  generalize (lg_sl ([.ref (q 0), .int s0, .int k0]) ++ List.replicate (3 - (lg_sl ([.ref (q 0), .int s0, .int k0])).length) Slot.unset).toArray = ls at hl ⊢
  have hl : lv_has ls 3 [(0, .ref (q 0)), (1, .int s0), (2, .int k0)] := hl
  refine lv_aload_n hx hb dX5_as_0 rfl (lv_at hl 0 rfl) ?_
  refine lv_iload_n hx hb dX5_as_1 rfl (lv_at hl 1 rfl) ?_
  refine vp_callSi (W.runV (As := [.int s0]) (rest := []) ⟨hx, hb, hml, hown, hts⟩ (c_X5_noSpar l D cI cZ cS q N V A s0) (cwV 1 hts gX5_as_X5_noSpar rfl rfl rfl (by decide +kernel) ⟨Nat.le_of_ble_eq_true rfl, Nat.le_of_ble_eq_true rfl⟩) (preM hK hP) rfl rfl hl.1 rfl (lv_room (Nat.le_of_ble_eq_true rfl)) dX5_as_2 ⟨Nat.zero_le _, Nat.zero_le _⟩) (fun r_1 er_1 => ?_)
  subst er_1
  refine lz_if_eq (tgt := 14) hx hb dX5_as_5 (by decide) (fun c_2 => ?_) (fun c_2 => ?_)
  · obtain ⟨hlt_s0, heq_s0⟩ := noSpar_f o1 c_2
    have hl : lv_has ls 3 [(0, .ref (q 0)), (1, .int (nI s0.toNatClampNeg)), (2, .int k0)] := by rw [heq_s0]; exact hl
    refine lv_iload_n hx hb dX5_as_14 rfl (lv_at hl 2 rfl) ?_
    refine lv_i2l (v := (k0).toInt64) hx hb dX5_as_15 rfl ?_
    refine lv_lconst (v := (0)) hx hb dX5_as_16 (by decide) ?_
    refine lv_ldc2 (v := (2)) hx hb hown (hts (.constantLong RX5 92 (2)) (by decide +kernel)) dX5_as_17 ?_
    refine vp_callSi (W.runS (As := [.long ((k0).toInt64), .long (0 : Int64), .long (2 : Int64)]) (rest := []) ⟨hx, hb, hml, hown, hts⟩ (c_X5_in l ((k0).toInt64) (0 : Int64) (2 : Int64)) (cwS 3 hts gX5_as_X5_in rfl rfl rfl (by decide +kernel) ⟨Nat.le_of_ble_eq_true rfl, Nat.le_of_ble_eq_true rfl⟩) (preEq) rfl rfl hl.1 rfl (lv_room (Nat.le_of_ble_eq_true rfl)) dX5_as_20 ⟨Nat.zero_le _, Nat.zero_le _⟩) (fun r_3 er_3 => ?_)
    subst er_3
    refine lz_if_ne (tgt := 33) hx hb dX5_as_23 (by decide) (fun c_4 => ?_) (fun c_4 => ?_)
    · refine lv_aload_n hx hb dX5_as_33 rfl (lv_at hl 0 rfl) ?_
      refine va_get (D := D) (ci := 5) (v := .ref (q 2)) (C := RX5) (T := TX5) (N := 22) hx hb hts hin5 hown hK hP 0 rfl rfl 3 (by decide) (hts (.fieldLink RX5 13 "NeckShipModel" "kind" "[I") (by decide +kernel)) (fun _ h9 => h9) rfl dX5_as_34 ?_
      refine lv_iload_n hx hb dX5_as_37 rfl (lv_at hl 1 rfl) ?_
      refine va_ialdN (i := s0.toNatClampNeg) hx hb hK hP 2 0 rfl rfl (by decide) (by omega) dX5_as_38 ?_
      refine lv_iload_n hx hb dX5_as_39 rfl (lv_at hl 2 rfl) ?_
      refine lv_icmp_lt (tgt := 51) hx hb dX5_as_40 (by decide) (fun c_5 => ?_) (fun c_5 => ?_)
      · refine lv_aload_n hx hb dX5_as_51 rfl (lv_at hl 0 rfl) ?_
        refine lv_iconst (v := (2)) hx hb dX5_as_52 (by decide) ?_
        refine callMi (va_runV (As := [.int (2 : Int32)]) (rest := []) ⟨hx, hb, hml, hown, hts⟩ (c_X5_failed l D cI cZ cS q N V A s.heap.size (2 : Int32)) (cwV 1 hts gX5_as_X5_failed rfl rfl rfl (by decide +kernel) ⟨Nat.le_of_ble_eq_true rfl, Nat.le_of_ble_eq_true rfl⟩) (preMm hK hP hD) rfl rfl hl.1 rfl (lv_room (Nat.le_of_ble_eq_true rfl)) dX5_as_53 ⟨Nat.zero_le _, Nat.zero_le _⟩) hD hS hA (fun H locs hP hD hS => ?_)
        have hEE : s_X5_as N V A s0 k0 = ((s_X5_failed N V A (2 : Int32)).1, (s_X5_failed N V A (2 : Int32)).2.1, (s_X5_failed N V A (2 : Int32)).2.2.1, (s_X5_failed N V A (2 : Int32)).2.2.2) := (by rw [s_X5_as, if_neg (nb c_2), if_pos c_4, if_pos c_5])
        rw [hEE]
        exact W.iret (v := (s_X5_failed N V A (2 : Int32)).1) hx hb hr (fun t ht hW => ⟨⟨_, (), rfl, rfl, ⟨by rw [ht]; exact hP, va_K.moved hW.alike hK⟩, hD⟩, hS.F ht⟩) hS.2.2 dX5_as_56
      · refine lv_aload_n hx hb dX5_as_43 rfl (lv_at hl 0 rfl) ?_
        refine lv_iconst (v := (1)) hx hb dX5_as_44 (by decide) ?_
        refine callMi (va_runV (As := [.int (1 : Int32)]) (rest := []) ⟨hx, hb, hml, hown, hts⟩ (c_X5_refused l D cI cZ cS q N V A s.heap.size (1 : Int32)) (cwV 1 hts gX5_as_X5_refused rfl rfl rfl (by decide +kernel) ⟨Nat.le_of_ble_eq_true rfl, Nat.le_of_ble_eq_true rfl⟩) (preMm hK hP hD) rfl rfl hl.1 rfl (lv_room (Nat.le_of_ble_eq_true rfl)) dX5_as_45 ⟨Nat.zero_le _, Nat.zero_le _⟩) hD hS hA (fun H locs hP hD hS => ?_)
        refine lv_goto (tgt := 56) hx hb dX5_as_48 (by decide) ?_
        have hEE : s_X5_as N V A s0 k0 = ((s_X5_refused N V A (1 : Int32)).1, (s_X5_refused N V A (1 : Int32)).2.1, (s_X5_refused N V A (1 : Int32)).2.2.1, (s_X5_refused N V A (1 : Int32)).2.2.2) := (by rw [s_X5_as, if_neg (nb c_2), if_pos c_4, if_neg c_5])
        rw [hEE]
        exact W.iret (v := (s_X5_refused N V A (1 : Int32)).1) hx hb hr (fun t ht hW => ⟨⟨_, (), rfl, rfl, ⟨by rw [ht]; exact hP, va_K.moved hW.alike hK⟩, hD⟩, hS.F ht⟩) hS.2.2 dX5_as_56
    · refine lv_aload_n hx hb dX5_as_26 rfl (lv_at hl 0 rfl) ?_
      refine lv_bipush (v := (-2)) hx hb dX5_as_27 (by decide) ?_
      refine callMi (va_runV (As := [.int (-2 : Int32)]) (rest := []) ⟨hx, hb, hml, hown, hts⟩ (c_X5_refused l D cI cZ cS q N V A s.heap.size (-2 : Int32)) (cwV 1 hts gX5_as_X5_refused rfl rfl rfl (by decide +kernel) ⟨Nat.le_of_ble_eq_true rfl, Nat.le_of_ble_eq_true rfl⟩) (preMm hK hP hD) rfl rfl hl.1 rfl (lv_room (Nat.le_of_ble_eq_true rfl)) dX5_as_29 ⟨Nat.zero_le _, Nat.zero_le _⟩) hD hS hA (fun H locs hP hD hS => ?_)
      have hEE : s_X5_as N V A s0 k0 = ((s_X5_refused N V A (-2 : Int32)).1, (s_X5_refused N V A (-2 : Int32)).2.1, (s_X5_refused N V A (-2 : Int32)).2.2.1, (s_X5_refused N V A (-2 : Int32)).2.2.2) := (by rw [s_X5_as, if_neg (nb c_2), if_neg (nb c_4)])
      rw [hEE]
      exact W.iret (v := (s_X5_refused N V A (-2 : Int32)).1) hx hb hr (fun t ht hW => ⟨⟨_, (), rfl, rfl, ⟨by rw [ht]; exact hP, va_K.moved hW.alike hK⟩, hD⟩, hS.F ht⟩) hS.2.2 dX5_as_32
  · refine lv_aload_n hx hb dX5_as_8 rfl (lv_at hl 0 rfl) ?_
    refine lv_iconst (v := (-1)) hx hb dX5_as_9 (by decide) ?_
    refine callMi (va_runV (As := [.int (-1 : Int32)]) (rest := []) ⟨hx, hb, hml, hown, hts⟩ (c_X5_refused l D cI cZ cS q N V A s.heap.size (-1 : Int32)) (cwV 1 hts gX5_as_X5_refused rfl rfl rfl (by decide +kernel) ⟨Nat.le_of_ble_eq_true rfl, Nat.le_of_ble_eq_true rfl⟩) (preMm hK hP hD) rfl rfl hl.1 rfl (lv_room (Nat.le_of_ble_eq_true rfl)) dX5_as_10 ⟨Nat.zero_le _, Nat.zero_le _⟩) hD hS hA (fun H locs hP hD hS => ?_)
    have hEE : s_X5_as N V A s0 k0 = ((s_X5_refused N V A (-1 : Int32)).1, (s_X5_refused N V A (-1 : Int32)).2.1, (s_X5_refused N V A (-1 : Int32)).2.2.1, (s_X5_refused N V A (-1 : Int32)).2.2.2) := (by rw [s_X5_as, if_pos c_2])
    rw [hEE]
    exact W.iret (v := (s_X5_refused N V A (-1 : Int32)).1) hx hb hr (fun t ht hW => ⟨⟨_, (), rfl, rfl, ⟨by rw [ht]; exact hP, va_K.moved hW.alike hK⟩, hD⟩, hS.F ht⟩) hS.2.2 dX5_as_13
