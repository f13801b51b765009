def s_X5_noCell (N : Nat → Nat) (V : Nat → Int32) (A : Nat → Nat → Int32)  (k0 : Nat) (i0 : Int32) : Int32 :=
  if 0 ≤ A 14 k0 then
    if (s_X5_in ((i0).toInt64) (0 : Int64) ((A 14 k0).toInt64 - (1 : Int64))) = true then
      (0 : Int32)
    else
      (3 : Int32)
  else
    (1 : Int32)
set_option maxHeartbeats 4000000 in
set_option maxRecDepth 100000 in
theorem c_X5_noCell (l : Launch) (D : va_G) (cI cZ cS : ClassId) (q : Nat → Nat) (N : Nat → Nat) (V : Nat → Int32) (A : Nat → Nat → Int32) (k0 : Nat) (i0 : Int32) (h_1 : k0 < 4) : Met l yX5_noCell wsX5_noCell ({ frames := 1, cells := 0, slots := 0, locals := 25 }) (va_Pc [.ref (q 0), .int (nI k0), .int i0] (PM D cI cZ cS q N V A)) (vp_Si (fun r => r = (s_X5_noCell N V A k0 i0))) 0 0 (fun _ => False) := by
  refine Met.ofW (cc := cX5_noCell) (maxL := 3) (ret := (some .int)) (by decide) rfl ?_
  intro p e s m args below meth c s₁ B hml hv
  obtain ⟨rfl, hP, hK⟩ := hv
  have hx := B.exec
  have hb := B.bytes
  have hr := B.returns
  have hts := atoms_spec (ws := wsX5_noCell) B.pre
  have hown : s.vm.findClass RX5 = some m.cls := findClass_of_methodNamed B.named
  have hlocks := B.notSynchronized
  have hin5 : ∀ w ∈ u_ws RX5 TX5 22, w ∈ wsX5_noCell := by decide +kernel
  have hl := lv_entry ([.ref (q 0), .int (nI k0), .int i0]) (n := 3) (Nat.le_of_ble_eq_true rfl)
  rw [lg_entry_eq]
  generalize (lg_sl ([.ref (q 0), .int (nI k0), .int i0]) ++ List.replicate (3 - (lg_sl ([.ref (q 0), .int (nI k0), .int i0])).length) Slot.unset).toArray = ls at hl ⊢
  have hl : lv_has ls 3 [(0, .ref (q 0)), (1, .int (nI k0)), (2, .int i0)] := hl
  refine lv_aload_n hx hb dX5_noCell_0 rfl (lv_at hl 0 rfl) ?_
  refine va_get (D := D) (ci := 5) (v := .ref (q 14)) (C := RX5) (T := TX5) (N := 22) hx hb hts hin5 hown hK hP 0 rfl rfl 17 (by decide) (hts (.fieldLink RX5 50 "NeckShipModel" "sheetSize" "[I") (by decide +kernel)) (fun _ h9 => h9) rfl dX5_noCell_1 ?_
  refine lv_iload_n hx hb dX5_noCell_4 rfl (lv_at hl 1 rfl) ?_
  refine va_ialdN (i := k0) hx hb hK hP 14 0 rfl rfl (by decide) (by omega) dX5_noCell_5 ?_
  refine lv_if_ge (tgt := 13) hx hb dX5_noCell_6 (by decide) (fun c_1 => ?_) (fun c_1 => ?_)
  · refine lv_iload_n hx hb dX5_noCell_13 rfl (lv_at hl 2 rfl) ?_
    refine lv_i2l (v := (i0).toInt64) hx hb dX5_noCell_14 rfl ?_
    refine lv_lconst (v := (0)) hx hb dX5_noCell_15 (by decide) ?_
    refine lv_aload_n hx hb dX5_noCell_16 rfl (lv_at hl 0 rfl) ?_
    refine va_get (D := D) (ci := 5) (v := .ref (q 14)) (C := RX5) (T := TX5) (N := 22) hx hb hts hin5 hown hK hP 0 rfl rfl 17 (by decide) (hts (.fieldLink RX5 50 "NeckShipModel" "sheetSize" "[I") (by decide +kernel)) (fun _ h9 => h9) rfl dX5_noCell_17 ?_
    refine lv_iload_n hx hb dX5_noCell_20 rfl (lv_at hl 1 rfl) ?_
    refine va_ialdN (i := k0) hx hb hK hP 14 0 rfl rfl (by decide) (by omega) dX5_noCell_21 ?_
    refine lv_i2l (v := (A 14 k0).toInt64) hx hb dX5_noCell_22 rfl ?_
    refine lv_lconst (v := (1)) hx hb dX5_noCell_23 (by decide) ?_
    refine lv_lsub hx hb dX5_noCell_24 ?_
    refine vp_callSi (W.runS (As := [.long ((i0).toInt64), .long (0 : Int64), .long ((A 14 k0).toInt64 - (1 : Int64))]) (rest := []) ⟨hx, hb, hml, hown, hts⟩ (c_X5_in l ((i0).toInt64) (0 : Int64) ((A 14 k0).toInt64 - (1 : Int64))) (cwS 3 hts gX5_noCell_X5_in rfl rfl rfl (by decide +kernel) ⟨Nat.le_of_ble_eq_true rfl, Nat.le_of_ble_eq_true rfl⟩) (preEq) rfl rfl hl.1 rfl (lv_room (Nat.le_of_ble_eq_true rfl)) dX5_noCell_25 ⟨Nat.zero_le _, Nat.zero_le _⟩) (fun r_2 er_2 => ?_)
    subst er_2
    refine lz_if_eq (tgt := 35) hx hb dX5_noCell_28 (by decide) (fun c_3 => ?_) (fun c_3 => ?_)
    · refine lv_iconst (v := (3)) hx hb dX5_noCell_35 (by decide) ?_
      exact W.iret (v := (3 : Int32)) hx hb hr (fun t ht hW => ⟨_, rfl, (by rw [s_X5_noCell, if_pos c_1, if_neg (nb c_3)]), ht⟩) (fun _ h => by cases h) dX5_noCell_36
    · refine lv_iconst (v := (0)) hx hb dX5_noCell_31 (by decide) ?_
      refine lv_goto (tgt := 36) hx hb dX5_noCell_32 (by decide) ?_
      exact W.iret (v := (0 : Int32)) hx hb hr (fun t ht hW => ⟨_, rfl, (by rw [s_X5_noCell, if_pos c_1, if_pos c_3]), ht⟩) (fun _ h => by cases h) dX5_noCell_36
  · refine lv_iconst (v := (1)) hx hb dX5_noCell_9 (by decide) ?_
    refine lv_goto (tgt := 36) hx hb dX5_noCell_10 (by decide) ?_
    exact W.iret (v := (1 : Int32)) hx hb hr (fun t ht hW => ⟨_, rfl, (by rw [s_X5_noCell, if_neg c_1]), ht⟩) (fun _ h => by cases h) dX5_noCell_36
theorem noCell_f {N : Nat → Nat} {V : Nat → Int32} {A : Nat → Nat → Int32} {k : Nat} {i : Int32} (o : (A 14 k).toInt ≤ 50) (h : s_X5_noCell N V A k i ≤ 0) : i.toNatClampNeg < 50 ∧ nI i.toNatClampNeg = i := by
  unfold s_X5_noCell at h
  split at h
  · split at h
    · rename_i e
      refine in_tn (by omega) ?_ e
      have h2 := fb_rng (A 14 k)
      rw [fb_subL (by rw [toL, show (1 : Int64).toInt = 1 from rfl]; omega) (by rw [toL, show (1 : Int64).toInt = 1 from rfl]; omega), toL, show (1 : Int64).toInt = 1 from rfl]
      omega
    · exact absurd h (by decide)
  · exact absurd h (by decide)
def s_X5_lose (N : Nat → Nat) (V : Nat → Int32) (A : Nat → Nat → Int32)  (k0 : Int32) : Int32 × St :=
  if (s_X5_noSheet k0) = true then
    ((-1 : Int32), N, V, A)
  else
    if 0 ≤ A 14 k0.toNatClampNeg then
      ((1 : Int32), N, V, (va_up A 14 (upd (A 14) k0.toNatClampNeg (-1 : Int32))))
    else
      ((0 : Int32), N, V, (va_up A 14 (upd (A 14) k0.toNatClampNeg (-1 : Int32))))
set_option maxHeartbeats 4000000 in
set_option maxRecDepth 100000 in
theorem c_X5_lose (l : Launch) (D : va_G) (cI cZ cS : ClassId) (q : Nat → Nat) (N : Nat → Nat) (V : Nat → Int32) (A : Nat → Nat → Int32) (sz : Nat) (k0 : Int32) : Met l yX5_lose wsX5_lose ({ frames := 2, cells := 0, slots := 0, locals := 45 }) (va_Pc [.ref (q 0), .int k0] (fun U => U.heap.size = sz ∧ PM D cI cZ cS q N V A U ∧ va_D (fun _ => True) (wM cI cZ q N V A))) (va_Qi (fun r (_ : Unit) => r = (s_X5_lose N V A k0).1) (fun _ t => PM D cI cZ cS q (s_X5_lose N V A k0).2.1 (s_X5_lose N V A k0).2.2.1 (s_X5_lose N V A k0).2.2.2 t ∧ va_D (va_A (wM cI cZ q N V A) sz) (wM cI cZ q (s_X5_lose N V A k0).2.1 (s_X5_lose N V A k0).2.2.1 (s_X5_lose N V A k0).2.2.2)) (va_A (wM cI cZ q N V A) sz)) 0 0 (va_A (wM cI cZ q N V A) sz) := by
  refine Met.ofW (cc := cX5_lose) (maxL := 3) (ret := (some .int)) (by decide) rfl ?_
  intro p e s m args below meth c s₁ B hml hv
  obtain ⟨rfl, hsz, ⟨hP, hK⟩, hD0⟩ := hv
  have hx := B.exec
  have hb := B.bytes
  have hr := B.returns
  have hts := atoms_spec (ws := wsX5_lose) B.pre
  have hown : s.vm.findClass RX5 = some m.cls := findClass_of_methodNamed B.named
  have hlocks := B.notSynchronized
  have hin5 : ∀ w ∈ u_ws RX5 TX5 22, w ∈ wsX5_lose := by decide +kernel
  subst hsz
  have hD := hD0.self (sz := s.heap.size)
  generalize hAe : va_A (wM cI cZ q N V A) s.heap.size = Ar at hD ⊢
  have hA : ∀ q : Nat, s.heap.size ≤ q → Ar q := fun q h => by rw [← hAe]; exact Or.inr h
  have hS : va_S Ar s.heap s.heap [] := va_S.rf
  have hl := lv_entry ([.ref (q 0), .int k0]) (n := 3) (Nat.le_of_ble_eq_true rfl)
  rw [lg_entry_eq]
  generalize (lg_sl ([.ref (q 0), .int k0]) ++ List.replicate (3 - (lg_sl ([.ref (q 0), .int k0])).length) Slot.unset).toArray = ls at hl ⊢
  have hl : lv_has ls 3 [(0, .ref (q 0)), (1, .int k0)] := hl
  refine lv_iload_n hx hb dX5_lose_0 rfl (lv_at hl 1 rfl) ?_
  refine vp_callSi (W.runS (As := [.int k0]) (rest := []) ⟨hx, hb, hml, hown, hts⟩ (c_X5_noSheet l k0) (cwS 1 hts gX5_lose_X5_noSheet rfl rfl rfl (by decide +kernel) ⟨Nat.le_of_ble_eq_true rfl, Nat.le_of_ble_eq_true rfl⟩) (preEq) rfl rfl hl.1 rfl (lv_room (Nat.le_of_ble_eq_true rfl)) dX5_lose_1 ⟨Nat.zero_le _, Nat.zero_le _⟩) (fun r_1 er_1 => ?_)
  subst er_1
  refine lz_if_eq (tgt := 9) hx hb dX5_lose_4 (by decide) (fun c_2 => ?_) (fun c_2 => ?_)
  · obtain ⟨hlt_k0, heq_k0⟩ := noSheet_f c_2
    have hl : lv_has ls 3 [(0, .ref (q 0)), (1, .int (nI k0.toNatClampNeg))] := by rw [heq_k0]; exact hl
    refine lv_aload_n hx hb dX5_lose_9 rfl (lv_at hl 0 rfl) ?_
    refine va_get (D := D) (ci := 5) (v := .ref (q 14)) (C := RX5) (T := TX5) (N := 22) hx hb hts hin5 hown hK hP 0 rfl rfl 17 (by decide) (hts (.fieldLink RX5 50 "NeckShipModel" "sheetSize" "[I") (by decide +kernel)) (fun _ h9 => h9) rfl dX5_lose_10 ?_
    refine lv_iload_n hx hb dX5_lose_13 rfl (lv_at hl 1 rfl) ?_
    refine va_ialdN (i := k0.toNatClampNeg) hx hb hK hP 14 0 rfl rfl (by decide) (by omega) dX5_lose_14 ?_
    refine lv_if_ge (tgt := 22) hx hb dX5_lose_15 (by decide) (fun c_3 => ?_) (fun c_3 => ?_)
    · refine lv_iconst (v := (1)) hx hb dX5_lose_22 (by decide) ?_
      refine lv_istore_n (lv' := [(2, .int (1)), (0, .ref (q 0)), (1, .int (nI k0.toNatClampNeg))]) hx hb dX5_lose_23 rfl hl (by decide) rfl (fun ls hl => ?_)
      refine lv_aload_n hx hb dX5_lose_24 rfl (lv_at hl 1 rfl) ?_
      refine va_get (D := D) (ci := 5) (v := .ref (q 14)) (C := RX5) (T := TX5) (N := 22) hx hb hts hin5 hown hK hP 0 rfl rfl 17 (by decide) (hts (.fieldLink RX5 50 "NeckShipModel" "sheetSize" "[I") (by decide +kernel)) (fun _ h9 => h9) rfl dX5_lose_25 ?_
      refine lv_iload_n hx hb dX5_lose_28 rfl (lv_at hl 2 rfl) ?_
      refine lv_iconst (v := (-1)) hx hb dX5_lose_29 (by decide) ?_
      refine va_iastN (i := k0.toNatClampNeg) hx hb hK hP hD hS 14 0 rfl rfl (by decide) (by omega) dX5_lose_30 (fun H locs hP hD hS => ?_)
      have hP : va_P D vwCl (wM cI cZ q N V (va_up A 14 (upd (A 14) k0.toNatClampNeg (-1 : Int32)))) H := hP
      have hD : va_D Ar (wM cI cZ q N V (va_up A 14 (upd (A 14) k0.toNatClampNeg (-1 : Int32)))) := hD
      refine lv_iload_n hx hb dX5_lose_31 rfl (lv_at hl 0 rfl) ?_
      have hEE : s_X5_lose N V A k0 = ((1 : Int32), N, V, (va_up A 14 (upd (A 14) k0.toNatClampNeg (-1 : Int32)))) := (by rw [s_X5_lose, if_neg (nb c_2), if_pos c_3])
      rw [hEE]
      exact W.iret (v := (1 : Int32)) hx hb hr (fun t ht hW => ⟨⟨_, (), rfl, rfl, ⟨by rw [ht]; exact hP, va_K.moved hW.alike hK⟩, hD⟩, hS.F ht⟩) hS.2.2 dX5_lose_32
    · refine lv_iconst (v := (0)) hx hb dX5_lose_18 (by decide) ?_
      refine lv_goto (tgt := 23) hx hb dX5_lose_19 (by decide) ?_
      refine lv_istore_n (lv' := [(2, .int (0)), (0, .ref (q 0)), (1, .int (nI k0.toNatClampNeg))]) hx hb dX5_lose_23 rfl hl (by decide) rfl (fun ls hl => ?_)
      refine lv_aload_n hx hb dX5_lose_24 rfl (lv_at hl 1 rfl) ?_
      refine va_get (D := D) (ci := 5) (v := .ref (q 14)) (C := RX5) (T := TX5) (N := 22) hx hb hts hin5 hown hK hP 0 rfl rfl 17 (by decide) (hts (.fieldLink RX5 50 "NeckShipModel" "sheetSize" "[I") (by decide +kernel)) (fun _ h9 => h9) rfl dX5_lose_25 ?_
      refine lv_iload_n hx hb dX5_lose_28 rfl (lv_at hl 2 rfl) ?_
      refine lv_iconst (v := (-1)) hx hb dX5_lose_29 (by decide) ?_
      refine va_iastN (i := k0.toNatClampNeg) hx hb hK hP hD hS 14 0 rfl rfl (by decide) (by omega) dX5_lose_30 (fun H locs hP hD hS => ?_)
      have hP : va_P D vwCl (wM cI cZ q N V (va_up A 14 (upd (A 14) k0.toNatClampNeg (-1 : Int32)))) H := hP
      have hD : va_D Ar (wM cI cZ q N V (va_up A 14 (upd (A 14) k0.toNatClampNeg (-1 : Int32)))) := hD
      refine lv_iload_n hx hb dX5_lose_31 rfl (lv_at hl 0 rfl) ?_
      have hEE : s_X5_lose N V A k0 = ((0 : Int32), N, V, (va_up A 14 (upd (A 14) k0.toNatClampNeg (-1 : Int32)))) := (by rw [s_X5_lose, if_neg (nb c_2), if_neg c_3])
      rw [hEE]
      exact W.iret (v := (0 : Int32)) hx hb hr (fun t ht hW => ⟨⟨_, (), rfl, rfl, ⟨by rw [ht]; exact hP, va_K.moved hW.alike hK⟩, hD⟩, hS.F ht⟩) hS.2.2 dX5_lose_32
  · refine lv_iconst (v := (-1)) hx hb dX5_lose_7 (by decide) ?_
    have hEE : s_X5_lose N V A k0 = ((-1 : Int32), N, V, A) := (by rw [s_X5_lose, if_pos c_2])
    rw [hEE]
    exact W.iret (v := (-1 : Int32)) hx hb hr (fun t ht hW => ⟨⟨_, (), rfl, rfl, ⟨by rw [ht]; exact hP, va_K.moved hW.alike hK⟩, hD⟩, hS.F ht⟩) hS.2.2 dX5_lose_8
theorem tn51 {x : Int32} (h1 : x ≤ 50) (h2 : 0 ≤ x) : x.toNatClampNeg < 51 ∧ nI x.toNatClampNeg = x := by
  rw [Int32.le_iff_toInt_le] at h1 h2
  rw [show (50 : Int32).toInt = 50 from rfl] at h1
  rw [show (0 : Int32).toInt = 0 from rfl] at h2
  exact nI_tn h2 (by omega) (by omega)
theorem beyond_f {i all : Int32} {n : Int64} (hn : n.toInt ≤ 2 ^ 40) (h : s_X5_isBeyond i n all = false) : 0 ≤ i.toInt ∧ 0 ≤ n.toInt ∧ i.toInt + n.toInt ≤ all.toInt := by
  unfold s_X5_isBeyond at h
  split at h
  · cases h
  · rename_i h1
    split at h
    · cases h
    · rename_i h2
      split at h
      · rename_i h3
        have e1 : 0 ≤ i.toInt := by
          rw [Int32.lt_iff_toInt_lt, show (0 : Int32).toInt = 0 from rfl] at h1; omega
        have e2 : 0 ≤ n.toInt := by
          rw [lg_cmp_lt, Int64.lt_iff_toInt_lt, show (0 : Int64).toInt = 0 from rfl] at h2; omega
        have e3 := (lg_cmp_le _ _).mp h3
        have hr := fb_rng i
        rw [Int64.le_iff_toInt_le, fb_addL (by rw [toL]; omega) (by rw [toL]; omega), toL, toL] at e3
        exact ⟨e1, e2, e3⟩
      · cases h
theorem beyond_n {i n all : Int32} (o : all.toInt ≤ 50) (h : s_X5_isBeyond i n.toInt64 all = false) : i.toNatClampNeg + n.toNatClampNeg ≤ 50 ∧ nI i.toNatClampNeg = i ∧ nI n.toNatClampNeg = n := by
  have hr := fb_rng n
  obtain ⟨h1, h2, h3⟩ := beyond_f (by rw [toL]; omega) h
  rw [toL] at h2 h3
  obtain ⟨a1, a2⟩ := nI_tn (n := 51) h1 (by omega) (by omega)
  obtain ⟨b1, b2⟩ := nI_tn (n := 51) h2 (by omega) (by omega)
  have c1 : i.toInt = (i.toNatClampNeg : Int) := by rw [← nI_toInt (n := i.toNatClampNeg) (by omega), a2]
  have c2 : n.toInt = (n.toNatClampNeg : Int) := by rw [← nI_toInt (n := n.toNatClampNeg) (by omega), b2]
  exact ⟨by omega, a2, b2⟩
theorem beyond_5 {i n all : Int32} (o : all.toInt ≤ 50) (hn : 0 ≤ n) (h : s_X5_isBeyond i ((5 : Int64) * n.toInt64) all = false) : i.toNatClampNeg + 5 * n.toNatClampNeg ≤ 50 ∧ nI i.toNatClampNeg = i ∧ nI n.toNatClampNeg = n := by
  have hr := fb_rng n
  have e5 : ((5 : Int64) * n.toInt64).toInt = 5 * n.toInt := by
    rw [fb_mulL (by rw [toL, show (5 : Int64).toInt = 5 from rfl]; omega) (by rw [toL, show (5 : Int64).toInt = 5 from rfl]; omega), toL]; rfl
  obtain ⟨h1, h2, h3⟩ := beyond_f (by rw [e5]; omega) h
  rw [e5] at h2 h3
  obtain ⟨a1, a2⟩ := nI_tn (n := 51) h1 (by omega) (by omega)
  obtain ⟨b1, b2⟩ := nI_tn (x := n) (n := 51) (by omega) (by omega) (by omega)
  have c1 : i.toInt = (i.toNatClampNeg : Int) := by rw [← nI_toInt (n := i.toNatClampNeg) (by omega), a2]
  have c2 : n.toInt = (n.toNatClampNeg : Int) := by rw [← nI_toInt (n := n.toNatClampNeg) (by omega), b2]
  exact ⟨by omega, a2, b2⟩
theorem or1024 {a k : Nat} (ha : a < 1024) (hk : k < 10) : a ||| 2 ^ k < 1024 := or_lt (n := 10) ha (Nat.pow_lt_pow_right (by omega) hk)
def s_X5_sheet_L1 (N : Nat → Nat) (V : Nat → Int32) (A : Nat → Nat → Int32) (k0 : Int32) (l0 : Int32) (n0 : Int32) : Nat → Nat → (Nat → Nat → Int32) → (Nat → Nat → Int32)
  | 0, k, A1 =>
    A1
  | n + 1, k, A1 =>
    s_X5_sheet_L1 N V A k0 l0 n0 n (k + 1) (va_up A1 16 (upd (A1 16) ((50 * k0.toNatClampNeg) + k) (0 : Int32)))
def s_X5_sheet (N : Nat → Nat) (V : Nat → Int32) (A : Nat → Nat → Int32)  (k0 : Int32) (l0 : Int32) (n0 : Int32) : Int32 × St :=
  if (s_X5_noSheet k0) = true then
    ((s_X5_refused N V A (-1 : Int32)).1, (s_X5_refused N V A (-1 : Int32)).2.1, (s_X5_refused N V A (-1 : Int32)).2.2.1, (s_X5_refused N V A (-1 : Int32)).2.2.2)
  else
    if (s_X5_in ((l0).toInt64) (0 : Int64) (2 : Int64)) = true then
      if n0 ≤ (50 : Int32) then
        if 0 ≤ n0 then
          ((s_X5_refused N V (s_X5_sheet_L1 N V A k0 l0 n0 n0.toNatClampNeg 0 (va_up (va_up A 14 (upd (A 14) k0.toNatClampNeg (nI n0.toNatClampNeg))) 15 (upd ((va_up A 14 (upd (A 14) k0.toNatClampNeg (nI n0.toNatClampNeg))) 15) k0.toNatClampNeg l0))) (1 : Int32)).1, (s_X5_refused N V (s_X5_sheet_L1 N V A k0 l0 n0 n0.toNatClampNeg 0 (va_up (va_up A 14 (upd (A 14) k0.toNatClampNeg (nI n0.toNatClampNeg))) 15 (upd ((va_up A 14 (upd (A 14) k0.toNatClampNeg (nI n0.toNatClampNeg))) 15) k0.toNatClampNeg l0))) (1 : Int32)).2.1, (s_X5_refused N V (s_X5_sheet_L1 N V A k0 l0 n0 n0.toNatClampNeg 0 (va_up (va_up A 14 (upd (A 14) k0.toNatClampNeg (nI n0.toNatClampNeg))) 15 (upd ((va_up A 14 (upd (A 14) k0.toNatClampNeg (nI n0.toNatClampNeg))) 15) k0.toNatClampNeg l0))) (1 : Int32)).2.2.1, (s_X5_refused N V (s_X5_sheet_L1 N V A k0 l0 n0 n0.toNatClampNeg 0 (va_up (va_up A 14 (upd (A 14) k0.toNatClampNeg (nI n0.toNatClampNeg))) 15 (upd ((va_up A 14 (upd (A 14) k0.toNatClampNeg (nI n0.toNatClampNeg))) 15) k0.toNatClampNeg l0))) (1 : Int32)).2.2.2)
        else
          ((s_X5_failed N V A (4 : Int32)).1, (s_X5_failed N V A (4 : Int32)).2.1, (s_X5_failed N V A (4 : Int32)).2.2.1, (s_X5_failed N V A (4 : Int32)).2.2.2)
      else
        ((s_X5_refused N V A (-2 : Int32)).1, (s_X5_refused N V A (-2 : Int32)).2.1, (s_X5_refused N V A (-2 : Int32)).2.2.1, (s_X5_refused N V A (-2 : Int32)).2.2.2)
    else
      ((s_X5_refused N V A (-2 : Int32)).1, (s_X5_refused N V A (-2 : Int32)).2.1, (s_X5_refused N V A (-2 : Int32)).2.2.1, (s_X5_refused N V A (-2 : Int32)).2.2.2)
set_option maxHeartbeats 4000000 in
set_option maxRecDepth 100000 in
theorem c_X5_sheet (l : Launch) (D : va_G) (cI cZ cS : ClassId) (q : Nat → Nat) (N : Nat → Nat) (V : Nat → Int32) (A : Nat → Nat → Int32) (sz : Nat) (k0 : Int32) (l0 : Int32) (n0 : Int32) : Met l yX5_sheet wsX5_sheet ({ frames := 2, cells := 0, slots := 0, locals := 45 }) (va_Pc [.ref (q 0), .int k0, .int l0, .int n0] (fun U => U.heap.size = sz ∧ PM D cI cZ cS q N V A U ∧ va_D (fun _ => True) (wM cI cZ q N V A))) (va_Qi (fun r (_ : Unit) => r = (s_X5_sheet N V A k0 l0 n0).1) (fun _ t => PM D cI cZ cS q (s_X5_sheet N V A k0 l0 n0).2.1 (s_X5_sheet N V A k0 l0 n0).2.2.1 (s_X5_sheet N V A k0 l0 n0).2.2.2 t ∧ va_D (va_A (wM cI cZ q N V A) sz) (wM cI cZ q (s_X5_sheet N V A k0 l0 n0).2.1 (s_X5_sheet N V A k0 l0 n0).2.2.1 (s_X5_sheet N V A k0 l0 n0).2.2.2)) (va_A (wM cI cZ q N V A) sz)) 0 0 (va_A (wM cI cZ q N V A) sz) := by
  refine Met.ofW (cc := cX5_sheet) (maxL := 5) (ret := (some .int)) (by decide) rfl ?_
  intro p e s m args below meth c s₁ B hml hv
  obtain ⟨rfl, hsz, ⟨hP, hK⟩, hD0⟩ := hv
  have hx := B.exec
  have hb := B.bytes
  have hr := B.returns
  have hts := atoms_spec (ws := wsX5_sheet) B.pre
  have hown : s.vm.findClass RX5 = some m.cls := findClass_of_methodNamed B.named
  have hlocks := B.notSynchronized
  have hin5 : ∀ w ∈ u_ws RX5 TX5 22, w ∈ wsX5_sheet := by decide +kernel
  subst hsz
  have hD := hD0.self (sz := s.heap.size)
  generalize hAe : va_A (wM cI cZ q N V A) s.heap.size = Ar at hD ⊢
  have hA : ∀ q : Nat, s.heap.size ≤ q → Ar q := fun q h => by rw [← hAe]; exact Or.inr h
  have hS : va_S Ar s.heap s.heap [] := va_S.rf
  have hl := lv_entry ([.ref (q 0), .int k0, .int l0, .int n0]) (n := 5) (Nat.le_of_ble_eq_true rfl)
  rw [lg_entry_eq]
  generalize (lg_sl ([.ref (q 0), .int k0, .int l0, .int n0]) ++ List.replicate (5 - (lg_sl ([.ref (q 0), .int k0, .int l0, .int n0])).length) Slot.unset).toArray = ls at hl ⊢
  have hl : lv_has ls 5 [(0, .ref (q 0)), (1, .int k0), (2, .int l0), (3, .int n0)] := hl
  refine lv_iload_n hx hb dX5_sheet_0 rfl (lv_at hl 1 rfl) ?_
  refine vp_callSi (W.runS (As := [.int k0]) (rest := []) ⟨hx, hb, hml, hown, hts⟩ (c_X5_noSheet l k0) (cwS 1 hts gX5_sheet_X5_noSheet rfl rfl rfl (by decide +kernel) ⟨Nat.le_of_ble_eq_true rfl, Nat.le_of_ble_eq_true rfl⟩) (preEq) rfl rfl hl.1 rfl (lv_room (Nat.le_of_ble_eq_true rfl)) dX5_sheet_1 ⟨Nat.zero_le _, Nat.zero_le _⟩) (fun r_1 er_1 => ?_)
  subst er_1
  refine lz_if_eq (tgt := 13) hx hb dX5_sheet_4 (by decide) (fun c_2 => ?_) (fun c_2 => ?_)
  · obtain ⟨hlt_k0, heq_k0⟩ := noSheet_f c_2
    have hl : lv_has ls 5 [(0, .ref (q 0)), (1, .int (nI k0.toNatClampNeg)), (2, .int l0), (3, .int n0)] := by rw [heq_k0]; exact hl
    refine lv_iload_n hx hb dX5_sheet_13 rfl (lv_at hl 2 rfl) ?_
    refine lv_i2l (v := (l0).toInt64) hx hb dX5_sheet_14 rfl ?_
    refine lv_lconst (v := (0)) hx hb dX5_sheet_15 (by decide) ?_
    refine lv_ldc2 (v := (2)) hx hb hown (hts (.constantLong RX5 92 (2)) (by decide +kernel)) dX5_sheet_16 ?_
    refine vp_callSi (W.runS (As := [.long ((l0).toInt64), .long (0 : Int64), .long (2 : Int64)]) (rest := []) ⟨hx, hb, hml, hown, hts⟩ (c_X5_in l ((l0).toInt64) (0 : Int64) (2 : Int64)) (cwS 3 hts gX5_sheet_X5_in rfl rfl rfl (by decide +kernel) ⟨Nat.le_of_ble_eq_true rfl, Nat.le_of_ble_eq_true rfl⟩) (preEq) rfl rfl hl.1 rfl (lv_room (Nat.le_of_ble_eq_true rfl)) dX5_sheet_19 ⟨Nat.zero_le _, Nat.zero_le _⟩) (fun r_3 er_3 => ?_)
    subst er_3
    refine lz_if_eq (tgt := 31) hx hb dX5_sheet_22 (by decide) (fun c_4 => ?_) (fun c_4 => ?_)
    · refine lv_aload_n hx hb dX5_sheet_31 rfl (lv_at hl 0 rfl) ?_
      refine lv_bipush (v := (-2)) hx hb dX5_sheet_32 (by decide) ?_
      refine callMi (va_runV (As := [.int (-2 : Int32)]) (rest := []) ⟨hx, hb, hml, hown, hts⟩ (c_X5_refused l D cI cZ cS q N V A s.heap.size (-2 : Int32)) (cwV 1 hts gX5_sheet_X5_refused rfl rfl rfl (by decide +kernel) ⟨Nat.le_of_ble_eq_true rfl, Nat.le_of_ble_eq_true rfl⟩) (preMm hK hP hD) rfl rfl hl.1 rfl (lv_room (Nat.le_of_ble_eq_true rfl)) dX5_sheet_34 ⟨Nat.zero_le _, Nat.zero_le _⟩) hD hS hA (fun H locs hP hD hS => ?_)
      have hEE : s_X5_sheet N V A k0 l0 n0 = ((s_X5_refused N V A (-2 : Int32)).1, (s_X5_refused N V A (-2 : Int32)).2.1, (s_X5_refused N V A (-2 : Int32)).2.2.1, (s_X5_refused N V A (-2 : Int32)).2.2.2) := (by rw [s_X5_sheet, if_neg (nb c_2), if_neg (nb c_4)])
      rw [hEE]
      exact W.iret (v := (s_X5_refused N V A (-2 : Int32)).1) hx hb hr (fun t ht hW => ⟨⟨_, (), rfl, rfl, ⟨by rw [ht]; exact hP, va_K.moved hW.alike hK⟩, hD⟩, hS.F ht⟩) hS.2.2 dX5_sheet_37
    · refine lv_iload_n hx hb dX5_sheet_25 rfl (lv_at hl 3 rfl) ?_
      refine lv_bipush (v := (50)) hx hb dX5_sheet_26 (by decide) ?_
      refine lv_icmp_le (tgt := 38) hx hb dX5_sheet_28 (by decide) (fun c_5 => ?_) (fun c_5 => ?_)
      · have hn50 := c_5
        refine lv_iload_n hx hb dX5_sheet_38 rfl (lv_at hl 3 rfl) ?_
        refine lv_if_ge (tgt := 48) hx hb dX5_sheet_39 (by decide) (fun c_6 => ?_) (fun c_6 => ?_)
        · obtain ⟨hlt_n0, heq_n0⟩ := tn51 hn50 c_6
          have hl : lv_has ls 5 [(0, .ref (q 0)), (1, .int (nI k0.toNatClampNeg)), (2, .int l0), (3, .int (nI n0.toNatClampNeg))] := by rw [heq_n0]; exact hl
          refine lv_aload_n hx hb dX5_sheet_48 rfl (lv_at hl 0 rfl) ?_
          refine va_get (D := D) (ci := 5) (v := .ref (q 14)) (C := RX5) (T := TX5) (N := 22) hx hb hts hin5 hown hK hP 0 rfl rfl 17 (by decide) (hts (.fieldLink RX5 50 "NeckShipModel" "sheetSize" "[I") (by decide +kernel)) (fun _ h9 => h9) rfl dX5_sheet_49 ?_
          refine lv_iload_n hx hb dX5_sheet_52 rfl (lv_at hl 1 rfl) ?_
          refine lv_iload_n hx hb dX5_sheet_53 rfl (lv_at hl 3 rfl) ?_
          refine va_iastN (i := k0.toNatClampNeg) hx hb hK hP hD hS 14 0 rfl rfl (by decide) (by omega) dX5_sheet_54 (fun H locs hP hD hS => ?_)
          have hP : va_P D vwCl (wM cI cZ q N V (va_up A 14 (upd (A 14) k0.toNatClampNeg (nI n0.toNatClampNeg)))) H := hP
          have hD : va_D Ar (wM cI cZ q N V (va_up A 14 (upd (A 14) k0.toNatClampNeg (nI n0.toNatClampNeg)))) := hD
          refine lv_aload_n hx hb dX5_sheet_55 rfl (lv_at hl 0 rfl) ?_
          refine va_get (D := D) (ci := 5) (v := .ref (q 15)) (C := RX5) (T := TX5) (N := 22) hx hb hts hin5 hown hK hP 0 rfl rfl 18 (by decide) (hts (.fieldLink RX5 53 "NeckShipModel" "sheetLane" "[I") (by decide +kernel)) (fun _ h9 => h9) rfl dX5_sheet_56 ?_
          refine lv_iload_n hx hb dX5_sheet_59 rfl (lv_at hl 1 rfl) ?_
          refine lv_iload_n hx hb dX5_sheet_60 rfl (lv_at hl 2 rfl) ?_
          refine va_iastN (i := k0.toNatClampNeg) hx hb hK hP hD hS 15 0 rfl rfl (by decide) (by omega) dX5_sheet_61 (fun H locs hP hD hS => ?_)
          have hP : va_P D vwCl (wM cI cZ q N V (va_up (va_up A 14 (upd (A 14) k0.toNatClampNeg (nI n0.toNatClampNeg))) 15 (upd ((va_up A 14 (upd (A 14) k0.toNatClampNeg (nI n0.toNatClampNeg))) 15) k0.toNatClampNeg l0))) H := hP
          have hD : va_D Ar (wM cI cZ q N V (va_up (va_up A 14 (upd (A 14) k0.toNatClampNeg (nI n0.toNatClampNeg))) 15 (upd ((va_up A 14 (upd (A 14) k0.toNatClampNeg (nI n0.toNatClampNeg))) 15) k0.toNatClampNeg l0))) := hD
          refine lv_iconst (v := (0)) hx hb dX5_sheet_62 (by decide) ?_
          refine lv_istore (lv' := [(4, .int (0)), (0, .ref (q 0)), (1, .int (nI k0.toNatClampNeg)), (2, .int l0), (3, .int (nI n0.toNatClampNeg))]) hx hb dX5_sheet_63 hl (by decide) rfl (fun ls hl => ?_)
          have KL1 : ∀ (H : Heap) (locs : List Loc), va_P D vwCl (wM cI cZ q N V (s_X5_sheet_L1 N V A k0 l0 n0 n0.toNatClampNeg 0 (va_up (va_up A 14 (upd (A 14) k0.toNatClampNeg (nI n0.toNatClampNeg))) 15 (upd ((va_up A 14 (upd (A 14) k0.toNatClampNeg (nI n0.toNatClampNeg))) 15) k0.toNatClampNeg l0)))) H → va_D Ar (wM cI cZ q N V (s_X5_sheet_L1 N V A k0 l0 n0 n0.toNatClampNeg 0 (va_up (va_up A 14 (upd (A 14) k0.toNatClampNeg (nI n0.toNatClampNeg))) 15 (upd ((va_up A 14 (upd (A 14) k0.toNatClampNeg (nI n0.toNatClampNeg))) 15) k0.toNatClampNeg l0)))) → va_S Ar s.heap H locs → ∀ (ls : Array Slot), lv_has ls 5 [(0, .ref (q 0)), (1, .int (nI k0.toNatClampNeg)), (2, .int l0), (3, .int (nI n0.toNatClampNeg))] → W p l e (headSpec wsX5_sheet ({ frames := 2, cells := 0, slots := 0, locals := 45 })).room s m ([.ref (q 0), .int k0, .int l0, .int n0] : List Value).toArray below meth c H locs 0 0 (MQ below (va_Qi (fun r (_ : Unit) => r = (s_X5_sheet N V A k0 l0 n0).1) (fun _ t => PM D cI cZ cS q (s_X5_sheet N V A k0 l0 n0).2.1 (s_X5_sheet N V A k0 l0 n0).2.2.1 (s_X5_sheet N V A k0 l0 n0).2.2.2 t ∧ va_D Ar (wM cI cZ q (s_X5_sheet N V A k0 l0 n0).2.1 (s_X5_sheet N V A k0 l0 n0).2.2.1 (s_X5_sheet N V A k0 l0 n0).2.2.2)) Ar) ([.ref (q 0), .int k0, .int l0, .int n0] : List Value).toArray s 0 0 Ar) (F0 m 90 ls []) := by
            intro H locs hP hD hS ls hl
            refine lv_aload_n hx hb dX5_sheet_90 rfl (lv_at hl 0 rfl) ?_
            refine lv_iconst (v := (1)) hx hb dX5_sheet_91 (by decide) ?_
            refine callMi (va_runV (As := [.int (1 : Int32)]) (rest := []) ⟨hx, hb, hml, hown, hts⟩ (c_X5_refused l D cI cZ cS q N V (s_X5_sheet_L1 N V A k0 l0 n0 n0.toNatClampNeg 0 (va_up (va_up A 14 (upd (A 14) k0.toNatClampNeg (nI n0.toNatClampNeg))) 15 (upd ((va_up A 14 (upd (A 14) k0.toNatClampNeg (nI n0.toNatClampNeg))) 15) k0.toNatClampNeg l0))) H.size (1 : Int32)) (cwV 1 hts gX5_sheet_X5_refused rfl rfl rfl (by decide +kernel) ⟨Nat.le_of_ble_eq_true rfl, Nat.le_of_ble_eq_true rfl⟩) (preMm hK hP hD) rfl rfl hl.1 rfl (lv_room (Nat.le_of_ble_eq_true rfl)) dX5_sheet_92 ⟨Nat.zero_le _, Nat.zero_le _⟩) hD hS hA (fun H locs hP hD hS => ?_)
            have hEE : s_X5_sheet N V A k0 l0 n0 = ((s_X5_refused N V (s_X5_sheet_L1 N V A k0 l0 n0 n0.toNatClampNeg 0 (va_up (va_up A 14 (upd (A 14) k0.toNatClampNeg (nI n0.toNatClampNeg))) 15 (upd ((va_up A 14 (upd (A 14) k0.toNatClampNeg (nI n0.toNatClampNeg))) 15) k0.toNatClampNeg l0))) (1 : Int32)).1, (s_X5_refused N V (s_X5_sheet_L1 N V A k0 l0 n0 n0.toNatClampNeg 0 (va_up (va_up A 14 (upd (A 14) k0.toNatClampNeg (nI n0.toNatClampNeg))) 15 (upd ((va_up A 14 (upd (A 14) k0.toNatClampNeg (nI n0.toNatClampNeg))) 15) k0.toNatClampNeg l0))) (1 : Int32)).2.1, (s_X5_refused N V (s_X5_sheet_L1 N V A k0 l0 n0 n0.toNatClampNeg 0 (va_up (va_up A 14 (upd (A 14) k0.toNatClampNeg (nI n0.toNatClampNeg))) 15 (upd ((va_up A 14 (upd (A 14) k0.toNatClampNeg (nI n0.toNatClampNeg))) 15) k0.toNatClampNeg l0))) (1 : Int32)).2.2.1, (s_X5_refused N V (s_X5_sheet_L1 N V A k0 l0 n0 n0.toNatClampNeg 0 (va_up (va_up A 14 (upd (A 14) k0.toNatClampNeg (nI n0.toNatClampNeg))) 15 (upd ((va_up A 14 (upd (A 14) k0.toNatClampNeg (nI n0.toNatClampNeg))) 15) k0.toNatClampNeg l0))) (1 : Int32)).2.2.2) := (by rw [s_X5_sheet, if_neg (nb c_2), if_pos c_4, if_pos c_5, if_pos c_6])
            rw [hEE]
            exact W.iret (v := (s_X5_refused N V (s_X5_sheet_L1 N V A k0 l0 n0 n0.toNatClampNeg 0 (va_up (va_up A 14 (upd (A 14) k0.toNatClampNeg (nI n0.toNatClampNeg))) 15 (upd ((va_up A 14 (upd (A 14) k0.toNatClampNeg (nI n0.toNatClampNeg))) 15) k0.toNatClampNeg l0))) (1 : Int32)).1) hx hb hr (fun t ht hW => ⟨⟨_, (), rfl, rfl, ⟨by rw [ht]; exact hP, va_K.moved hW.alike hK⟩, hD⟩, hS.F ht⟩) hS.2.2 dX5_sheet_95
          have LL1 : ∀ (n k : Nat) (A1 : Nat → Nat → Int32) (H : Heap) (locs : List Loc), va_P D vwCl (wM cI cZ q N V A1) H → va_D Ar (wM cI cZ q N V A1) → va_S Ar s.heap H locs → ∀ (ls : Array Slot), k + n = n0.toNatClampNeg → s_X5_sheet_L1 N V A k0 l0 n0 n0.toNatClampNeg 0 (va_up (va_up A 14 (upd (A 14) k0.toNatClampNeg (nI n0.toNatClampNeg))) 15 (upd ((va_up A 14 (upd (A 14) k0.toNatClampNeg (nI n0.toNatClampNeg))) 15) k0.toNatClampNeg l0)) = s_X5_sheet_L1 N V A k0 l0 n0 n k A1 → lv_has ls 5 [(4, .int (nI k)), (0, .ref (q 0)), (1, .int (nI k0.toNatClampNeg)), (2, .int l0), (3, .int (nI n0.toNatClampNeg))] → W p l e (headSpec wsX5_sheet ({ frames := 2, cells := 0, slots := 0, locals := 45 })).room s m ([.ref (q 0), .int k0, .int l0, .int n0] : List Value).toArray below meth c H locs 0 0 (MQ below (va_Qi (fun r (_ : Unit) => r = (s_X5_sheet N V A k0 l0 n0).1) (fun _ t => PM D cI cZ cS q (s_X5_sheet N V A k0 l0 n0).2.1 (s_X5_sheet N V A k0 l0 n0).2.2.1 (s_X5_sheet N V A k0 l0 n0).2.2.2 t ∧ va_D Ar (wM cI cZ q (s_X5_sheet N V A k0 l0 n0).2.1 (s_X5_sheet N V A k0 l0 n0).2.2.1 (s_X5_sheet N V A k0 l0 n0).2.2.2)) Ar) ([.ref (q 0), .int k0, .int l0, .int n0] : List Value).toArray s 0 0 Ar) (F0 m 65 ls []) := by
            intro n
            induction n with
            | zero =>
              intro k A1 H locs hP hD hS ls hk hF hl
              refine lv_iload hx hb dX5_sheet_65 (lv_at hl 0 rfl) ?_
              refine lv_iload_n hx hb dX5_sheet_67 rfl (lv_at hl 4 rfl) ?_
              refine lv_icmp_ge (tgt := 90) hx hb dX5_sheet_68 (by decide) (fun _ => ?_) (fun c_7 => absurd (nI_le (by omega) (by omega)) c_7)
              have hF : s_X5_sheet_L1 N V A k0 l0 n0 n0.toNatClampNeg 0 (va_up (va_up A 14 (upd (A 14) k0.toNatClampNeg (nI n0.toNatClampNeg))) 15 (upd ((va_up A 14 (upd (A 14) k0.toNatClampNeg (nI n0.toNatClampNeg))) 15) k0.toNatClampNeg l0)) = A1 := hF.trans (by rw [s_X5_sheet_L1])
              exact KL1 _ _ (by (try rw [hF]); exact hP) (by (try rw [hF]); exact hD) hS _ (by (try rw [hF]); exact lv_sub hl [1, 2, 3, 4] rfl)
            | succ n ih =>
              intro k A1 H locs hP hD hS ls hk hF hl
              refine lv_iload hx hb dX5_sheet_65 (lv_at hl 0 rfl) ?_
              refine lv_iload_n hx hb dX5_sheet_67 rfl (lv_at hl 4 rfl) ?_
              refine lv_icmp_ge (tgt := 90) hx hb dX5_sheet_68 (by decide) (fun c_8 => absurd c_8 (nI_ge (by omega) (by omega))) (fun _ => ?_)
              refine lv_aload_n hx hb dX5_sheet_71 rfl (lv_at hl 1 rfl) ?_
              refine va_get (D := D) (ci := 5) (v := .ref (q 16)) (C := RX5) (T := TX5) (N := 22) hx hb hts hin5 hown hK hP 0 rfl rfl 19 (by decide) (hts (.fieldLink RX5 56 "NeckShipModel" "sheet" "[I") (by decide +kernel)) (fun _ h9 => h9) rfl dX5_sheet_72 ?_
              refine lv_bipush (v := (50)) hx hb dX5_sheet_75 (by decide) ?_
              refine lv_iload_n hx hb dX5_sheet_77 rfl (lv_at hl 2 rfl) ?_
              refine lv_imul hx hb dX5_sheet_78 ?_
              rw [show (50 : Int32) * nI k0.toNatClampNeg = nI (50 * k0.toNatClampNeg) from pk_mul 50 k0.toNatClampNeg]
              refine lv_iload hx hb dX5_sheet_79 (lv_at hl 0 rfl) ?_
              refine lv_iadd hx hb dX5_sheet_81 ?_
              rw [nI_add (50 * k0.toNatClampNeg) k]
              refine lv_iconst (v := (0)) hx hb dX5_sheet_82 (by decide) ?_
              refine va_iastN (i := ((50 * k0.toNatClampNeg) + k)) hx hb hK hP hD hS 16 0 rfl rfl (by decide) (by omega) dX5_sheet_83 (fun H locs hP hD hS => ?_)
              have hP : va_P D vwCl (wM cI cZ q N V (va_up A1 16 (upd (A1 16) ((50 * k0.toNatClampNeg) + k) (0 : Int32)))) H := hP
              have hD : va_D Ar (wM cI cZ q N V (va_up A1 16 (upd (A1 16) ((50 * k0.toNatClampNeg) + k) (0 : Int32)))) := hD
              refine lv_iinc (v := nI (k + 1)) (lv' := [(4, .int (nI (k + 1))), (0, .ref (q 0)), (1, .int (nI k0.toNatClampNeg)), (2, .int l0), (3, .int (nI n0.toNatClampNeg))]) hx hb dX5_sheet_84 hl (k := 0) rfl (nI_1 k) (by decide) rfl (fun ls hl => ?_)
              refine lv_goto (tgt := 65) hx hb dX5_sheet_87 (by decide) ?_
              exact ih (k + 1) (va_up A1 16 (upd (A1 16) ((50 * k0.toNatClampNeg) + k) (0 : Int32))) _ _ hP hD hS _ (by omega) (hF.trans (by rw [s_X5_sheet_L1])) (lv_sub hl [0, 1, 2, 3, 4] rfl)
          exact LL1 n0.toNatClampNeg 0 (va_up (va_up A 14 (upd (A 14) k0.toNatClampNeg (nI n0.toNatClampNeg))) 15 (upd ((va_up A 14 (upd (A 14) k0.toNatClampNeg (nI n0.toNatClampNeg))) 15) k0.toNatClampNeg l0)) _ _ hP hD hS _ (by omega) rfl (lv_sub hl [0, 1, 2, 3, 4] rfl)
        · refine lv_aload_n hx hb dX5_sheet_42 rfl (lv_at hl 0 rfl) ?_
          refine lv_iconst (v := (4)) hx hb dX5_sheet_43 (by decide) ?_
          refine callMi (va_runV (As := [.int (4 : Int32)]) (rest := []) ⟨hx, hb, hml, hown, hts⟩ (c_X5_failed l D cI cZ cS q N V A s.heap.size (4 : Int32)) (cwV 1 hts gX5_sheet_X5_failed rfl rfl rfl (by decide +kernel) ⟨Nat.le_of_ble_eq_true rfl, Nat.le_of_ble_eq_true rfl⟩) (preMm hK hP hD) rfl rfl hl.1 rfl (lv_room (Nat.le_of_ble_eq_true rfl)) dX5_sheet_44 ⟨Nat.zero_le _, Nat.zero_le _⟩) hD hS hA (fun H locs hP hD hS => ?_)
          have hEE : s_X5_sheet N V A k0 l0 n0 = ((s_X5_failed N V A (4 : Int32)).1, (s_X5_failed N V A (4 : Int32)).2.1, (s_X5_failed N V A (4 : Int32)).2.2.1, (s_X5_failed N V A (4 : Int32)).2.2.2) := (by rw [s_X5_sheet, if_neg (nb c_2), if_pos c_4, if_pos c_5, if_neg c_6])
          rw [hEE]
          exact W.iret (v := (s_X5_failed N V A (4 : Int32)).1) hx hb hr (fun t ht hW => ⟨⟨_, (), rfl, rfl, ⟨by rw [ht]; exact hP, va_K.moved hW.alike hK⟩, hD⟩, hS.F ht⟩) hS.2.2 dX5_sheet_47
      · refine lv_aload_n hx hb dX5_sheet_31 rfl (lv_at hl 0 rfl) ?_
        refine lv_bipush (v := (-2)) hx hb dX5_sheet_32 (by decide) ?_
        refine callMi (va_runV (As := [.int (-2 : Int32)]) (rest := []) ⟨hx, hb, hml, hown, hts⟩ (c_X5_refused l D cI cZ cS q N V A s.heap.size (-2 : Int32)) (cwV 1 hts gX5_sheet_X5_refused rfl rfl rfl (by decide +kernel) ⟨Nat.le_of_ble_eq_true rfl, Nat.le_of_ble_eq_true rfl⟩) (preMm hK hP hD) rfl rfl hl.1 rfl (lv_room (Nat.le_of_ble_eq_true rfl)) dX5_sheet_34 ⟨Nat.zero_le _, Nat.zero_le _⟩) hD hS hA (fun H locs hP hD hS => ?_)
        have hEE : s_X5_sheet N V A k0 l0 n0 = ((s_X5_refused N V A (-2 : Int32)).1, (s_X5_refused N V A (-2 : Int32)).2.1, (s_X5_refused N V A (-2 : Int32)).2.2.1, (s_X5_refused N V A (-2 : Int32)).2.2.2) := (by rw [s_X5_sheet, if_neg (nb c_2), if_pos c_4, if_neg c_5])
        rw [hEE]
        exact W.iret (v := (s_X5_refused N V A (-2 : Int32)).1) hx hb hr (fun t ht hW => ⟨⟨_, (), rfl, rfl, ⟨by rw [ht]; exact hP, va_K.moved hW.alike hK⟩, hD⟩, hS.F ht⟩) hS.2.2 dX5_sheet_37
  · refine lv_aload_n hx hb dX5_sheet_7 rfl (lv_at hl 0 rfl) ?_
    refine lv_iconst (v := (-1)) hx hb dX5_sheet_8 (by decide) ?_
    refine callMi (va_runV (As := [.int (-1 : Int32)]) (rest := []) ⟨hx, hb, hml, hown, hts⟩ (c_X5_refused l D cI cZ cS q N V A s.heap.size (-1 : Int32)) (cwV 1 hts gX5_sheet_X5_refused rfl rfl rfl (by decide +kernel) ⟨Nat.le_of_ble_eq_true rfl, Nat.le_of_ble_eq_true rfl⟩) (preMm hK hP hD) rfl rfl hl.1 rfl (lv_room (Nat.le_of_ble_eq_true rfl)) dX5_sheet_9 ⟨Nat.zero_le _, Nat.zero_le _⟩) hD hS hA (fun H locs hP hD hS => ?_)
    have hEE : s_X5_sheet N V A k0 l0 n0 = ((s_X5_refused N V A (-1 : Int32)).1, (s_X5_refused N V A (-1 : Int32)).2.1, (s_X5_refused N V A (-1 : Int32)).2.2.1, (s_X5_refused N V A (-1 : Int32)).2.2.2) := (by rw [s_X5_sheet, if_pos c_2])
    rw [hEE]
    exact W.iret (v := (s_X5_refused N V A (-1 : Int32)).1) hx hb hr (fun t ht hW => ⟨⟨_, (), rfl, rfl, ⟨by rw [ht]; exact hP, va_K.moved hW.alike hK⟩, hD⟩, hS.F ht⟩) hS.2.2 dX5_sheet_12
def s_X5_put (N : Nat → Nat) (V : Nat → Int32) (A : Nat → Nat → Int32)  (k0 : Int32) (i0 : Int32) (v0 : Int32) : Int32 × St :=
  if (s_X5_noSheet k0) = true then
    ((s_X5_refused N V A (-1 : Int32)).1, (s_X5_refused N V A (-1 : Int32)).2.1, (s_X5_refused N V A (-1 : Int32)).2.2.1, (s_X5_refused N V A (-1 : Int32)).2.2.2)
  else
    if (s_X5_noCell N V A k0.toNatClampNeg i0) ≤ 0 then
      if A 15 k0.toNatClampNeg = 0 then
        ((s_X5_refused N V (va_up A 16 (upd (A 16) ((50 * k0.toNatClampNeg) + i0.toNatClampNeg) ((v0).toInt8.toInt32))) (1 : Int32)).1, (s_X5_refused N V (va_up A 16 (upd (A 16) ((50 * k0.toNatClampNeg) + i0.toNatClampNeg) ((v0).toInt8.toInt32))) (1 : Int32)).2.1, (s_X5_refused N V (va_up A 16 (upd (A 16) ((50 * k0.toNatClampNeg) + i0.toNatClampNeg) ((v0).toInt8.toInt32))) (1 : Int32)).2.2.1, (s_X5_refused N V (va_up A 16 (upd (A 16) ((50 * k0.toNatClampNeg) + i0.toNatClampNeg) ((v0).toInt8.toInt32))) (1 : Int32)).2.2.2)
      else
        if A 15 k0.toNatClampNeg = (1 : Int32) then
          ((s_X5_refused N V (va_up A 16 (upd (A 16) ((50 * k0.toNatClampNeg) + i0.toNatClampNeg) ((v0).toInt16.toInt32))) (1 : Int32)).1, (s_X5_refused N V (va_up A 16 (upd (A 16) ((50 * k0.toNatClampNeg) + i0.toNatClampNeg) ((v0).toInt16.toInt32))) (1 : Int32)).2.1, (s_X5_refused N V (va_up A 16 (upd (A 16) ((50 * k0.toNatClampNeg) + i0.toNatClampNeg) ((v0).toInt16.toInt32))) (1 : Int32)).2.2.1, (s_X5_refused N V (va_up A 16 (upd (A 16) ((50 * k0.toNatClampNeg) + i0.toNatClampNeg) ((v0).toInt16.toInt32))) (1 : Int32)).2.2.2)
        else
          ((s_X5_refused N V (va_up A 16 (upd (A 16) ((50 * k0.toNatClampNeg) + i0.toNatClampNeg) v0)) (1 : Int32)).1, (s_X5_refused N V (va_up A 16 (upd (A 16) ((50 * k0.toNatClampNeg) + i0.toNatClampNeg) v0)) (1 : Int32)).2.1, (s_X5_refused N V (va_up A 16 (upd (A 16) ((50 * k0.toNatClampNeg) + i0.toNatClampNeg) v0)) (1 : Int32)).2.2.1, (s_X5_refused N V (va_up A 16 (upd (A 16) ((50 * k0.toNatClampNeg) + i0.toNatClampNeg) v0)) (1 : Int32)).2.2.2)
    else
      ((s_X5_failed N V A (s_X5_noCell N V A k0.toNatClampNeg i0)).1, (s_X5_failed N V A (s_X5_noCell N V A k0.toNatClampNeg i0)).2.1, (s_X5_failed N V A (s_X5_noCell N V A k0.toNatClampNeg i0)).2.2.1, (s_X5_failed N V A (s_X5_noCell N V A k0.toNatClampNeg i0)).2.2.2)
set_option maxHeartbeats 4000000 in
set_option maxRecDepth 100000 in
theorem c_X5_put (l : Launch) (D : va_G) (cI cZ cS : ClassId) (q : Nat → Nat) (N : Nat → Nat) (V : Nat → Int32) (A : Nat → Nat → Int32) (sz : Nat) (k0 : Int32) (i0 : Int32) (v0 : Int32) (h_1 : okS A) : Met l yX5_put wsX5_put ({ frames := 2, cells := 0, slots := 0, locals := 47 }) (va_Pc [.ref (q 0), .int k0, .int i0, .int v0] (fun U => U.heap.size = sz ∧ PM D cI cZ cS q N V A U ∧ va_D (fun _ => True) (wM cI cZ q N V A))) (va_Qi (fun r (_ : Unit) => r = (s_X5_put N V A k0 i0 v0).1) (fun _ t => PM D cI cZ cS q (s_X5_put N V A k0 i0 v0).2.1 (s_X5_put N V A k0 i0 v0).2.2.1 (s_X5_put N V A k0 i0 v0).2.2.2 t ∧ va_D (va_A (wM cI cZ q N V A) sz) (wM cI cZ q (s_X5_put N V A k0 i0 v0).2.1 (s_X5_put N V A k0 i0 v0).2.2.1 (s_X5_put N V A k0 i0 v0).2.2.2)) (va_A (wM cI cZ q N V A) sz)) 0 0 (va_A (wM cI cZ q N V A) sz) := by
  refine Met.ofW (cc := cX5_put) (maxL := 4) (ret := (some .int)) (by decide) rfl ?_
  intro p e s m args below meth c s₁ B hml hv
  obtain ⟨rfl, hsz, ⟨hP, hK⟩, hD0⟩ := hv
  have hx := B.exec
  have hb := B.bytes
  have hr := B.returns
  have hts := atoms_spec (ws := wsX5_put) B.pre
  have hown : s.vm.findClass RX5 = some m.cls := findClass_of_methodNamed B.named
  have hlocks := B.notSynchronized
  have hin5 : ∀ w ∈ u_ws RX5 TX5 22, w ∈ wsX5_put := by decide +kernel
  subst hsz
  have hD := hD0.self (sz := s.heap.size)
  generalize hAe : va_A (wM cI cZ q N V A) s.heap.size = Ar at hD ⊢
  have hA : ∀ q : Nat, s.heap.size ≤ q → Ar q := fun q h => by rw [← hAe]; exact Or.inr h
  have hS : va_S Ar s.heap s.heap [] := va_S.rf
  have hl := lv_entry ([.ref (q 0), .int k0, .int i0, .int v0]) (n := 4) (Nat.le_of_ble_eq_true rfl)
  rw [lg_entry_eq]
  generalize (lg_sl ([.ref (q 0), .int k0, .int i0, .int v0]) ++ List.replicate (4 - (lg_sl ([.ref (q 0), .int k0, .int i0, .int v0])).length) Slot.unset).toArray = ls at hl ⊢
  have hl : lv_has ls 4 [(0, .ref (q 0)), (1, .int k0), (2, .int i0), (3, .int v0)] := hl
  refine lv_iload_n hx hb dX5_put_0 rfl (lv_at hl 1 rfl) ?_
  refine vp_callSi (W.runS (As := [.int k0]) (rest := []) ⟨hx, hb, hml, hown, hts⟩ (c_X5_noSheet l k0) (cwS 1 hts gX5_put_X5_noSheet rfl rfl rfl (by decide +kernel) ⟨Nat.le_of_ble_eq_true rfl, Nat.le_of_ble_eq_true rfl⟩) (preEq) rfl rfl hl.1 rfl (lv_room (Nat.le_of_ble_eq_true rfl)) dX5_put_1 ⟨Nat.zero_le _, Nat.zero_le _⟩) (fun r_1 er_1 => ?_)
  subst er_1
  refine lz_if_eq (tgt := 13) hx hb dX5_put_4 (by decide) (fun c_2 => ?_) (fun c_2 => ?_)
  · obtain ⟨hlt_k0, heq_k0⟩ := noSheet_f c_2
    have hl : lv_has ls 4 [(0, .ref (q 0)), (1, .int (nI k0.toNatClampNeg)), (2, .int i0), (3, .int v0)] := by rw [heq_k0]; exact hl
    refine lv_aload_n hx hb dX5_put_13 rfl (lv_at hl 0 rfl) ?_
    refine lv_iload_n hx hb dX5_put_14 rfl (lv_at hl 1 rfl) ?_
    refine lv_iload_n hx hb dX5_put_15 rfl (lv_at hl 2 rfl) ?_
    refine vp_callSi (W.runV (As := [.int (nI k0.toNatClampNeg), .int i0]) (rest := []) ⟨hx, hb, hml, hown, hts⟩ (c_X5_noCell l D cI cZ cS q N V A k0.toNatClampNeg i0 (by omega)) (cwV 2 hts gX5_put_X5_noCell rfl rfl rfl (by decide +kernel) ⟨Nat.le_of_ble_eq_true rfl, Nat.le_of_ble_eq_true rfl⟩) (preM hK hP) rfl rfl hl.1 rfl (lv_room (Nat.le_of_ble_eq_true rfl)) dX5_put_16 ⟨Nat.zero_le _, Nat.zero_le _⟩) (fun r_3 er_3 => ?_)
    subst er_3
    refine lv_if_le (tgt := 33) hx hb dX5_put_19 (by decide) (fun c_4 => ?_) (fun c_4 => ?_)
    · obtain ⟨hlt_i0, heq_i0⟩ := noCell_f (h_1 _ (by omega)) c_4
      have hl : lv_has ls 4 [(0, .ref (q 0)), (1, .int (nI k0.toNatClampNeg)), (2, .int (nI i0.toNatClampNeg)), (3, .int v0)] := by rw [heq_i0]; exact hl
      refine lv_aload_n hx hb dX5_put_33 rfl (lv_at hl 0 rfl) ?_
      refine va_get (D := D) (ci := 5) (v := .ref (q 16)) (C := RX5) (T := TX5) (N := 22) hx hb hts hin5 hown hK hP 0 rfl rfl 19 (by decide) (hts (.fieldLink RX5 56 "NeckShipModel" "sheet" "[I") (by decide +kernel)) (fun _ h9 => h9) rfl dX5_put_34 ?_
      refine lv_bipush (v := (50)) hx hb dX5_put_37 (by decide) ?_
      refine lv_iload_n hx hb dX5_put_39 rfl (lv_at hl 1 rfl) ?_
      refine lv_imul hx hb dX5_put_40 ?_
      rw [show (50 : Int32) * nI k0.toNatClampNeg = nI (50 * k0.toNatClampNeg) from pk_mul 50 k0.toNatClampNeg]
      refine lv_iload_n hx hb dX5_put_41 rfl (lv_at hl 2 rfl) ?_
      refine lv_iadd hx hb dX5_put_42 ?_
      rw [nI_add (50 * k0.toNatClampNeg) i0.toNatClampNeg]
      refine lv_aload_n hx hb dX5_put_43 rfl (lv_at hl 0 rfl) ?_
      refine va_get (D := D) (ci := 5) (v := .ref (q 15)) (C := RX5) (T := TX5) (N := 22) hx hb hts hin5 hown hK hP 0 rfl rfl 18 (by decide) (hts (.fieldLink RX5 53 "NeckShipModel" "sheetLane" "[I") (by decide +kernel)) (fun _ h9 => h9) rfl dX5_put_44 ?_
      refine lv_iload_n hx hb dX5_put_47 rfl (lv_at hl 1 rfl) ?_
      refine va_ialdN (i := k0.toNatClampNeg) hx hb hK hP 15 0 rfl rfl (by decide) (by omega) dX5_put_48 ?_
      refine lv_if_ne (tgt := 57) hx hb dX5_put_49 (by decide) (fun c_5 => ?_) (fun c_5 => ?_)
      · refine lv_aload_n hx hb dX5_put_57 rfl (lv_at hl 0 rfl) ?_
        refine va_get (D := D) (ci := 5) (v := .ref (q 15)) (C := RX5) (T := TX5) (N := 22) hx hb hts hin5 hown hK hP 0 rfl rfl 18 (by decide) (hts (.fieldLink RX5 53 "NeckShipModel" "sheetLane" "[I") (by decide +kernel)) (fun _ h9 => h9) rfl dX5_put_58 ?_
        refine lv_iload_n hx hb dX5_put_61 rfl (lv_at hl 1 rfl) ?_
        refine va_ialdN (i := k0.toNatClampNeg) hx hb hK hP 15 0 rfl rfl (by decide) (by omega) dX5_put_62 ?_
        refine lv_iconst (v := (1)) hx hb dX5_put_63 (by decide) ?_
        refine lv_icmp_ne (tgt := 72) hx hb dX5_put_64 (by decide) (fun c_6 => ?_) (fun c_6 => ?_)
        · refine lv_iload_n hx hb dX5_put_72 rfl (lv_at hl 3 rfl) ?_
          refine va_iastN (i := ((50 * k0.toNatClampNeg) + i0.toNatClampNeg)) hx hb hK hP hD hS 16 0 rfl rfl (by decide) (by omega) dX5_put_73 (fun H locs hP hD hS => ?_)
          have hP : va_P D vwCl (wM cI cZ q N V (va_up A 16 (upd (A 16) ((50 * k0.toNatClampNeg) + i0.toNatClampNeg) v0))) H := hP
          have hD : va_D Ar (wM cI cZ q N V (va_up A 16 (upd (A 16) ((50 * k0.toNatClampNeg) + i0.toNatClampNeg) v0))) := hD
          refine lv_aload_n hx hb dX5_put_74 rfl (lv_at hl 0 rfl) ?_
          refine lv_iconst (v := (1)) hx hb dX5_put_75 (by decide) ?_
          refine callMi (va_runV (As := [.int (1 : Int32)]) (rest := []) ⟨hx, hb, hml, hown, hts⟩ (c_X5_refused l D cI cZ cS q N V (va_up A 16 (upd (A 16) ((50 * k0.toNatClampNeg) + i0.toNatClampNeg) v0)) H.size (1 : Int32)) (cwV 1 hts gX5_put_X5_refused rfl rfl rfl (by decide +kernel) ⟨Nat.le_of_ble_eq_true rfl, Nat.le_of_ble_eq_true rfl⟩) (preMm hK hP hD) rfl rfl hl.1 rfl (lv_room (Nat.le_of_ble_eq_true rfl)) dX5_put_76 ⟨Nat.zero_le _, Nat.zero_le _⟩) hD hS hA (fun H locs hP hD hS => ?_)
          have hEE : s_X5_put N V A k0 i0 v0 = ((s_X5_refused N V (va_up A 16 (upd (A 16) ((50 * k0.toNatClampNeg) + i0.toNatClampNeg) v0)) (1 : Int32)).1, (s_X5_refused N V (va_up A 16 (upd (A 16) ((50 * k0.toNatClampNeg) + i0.toNatClampNeg) v0)) (1 : Int32)).2.1, (s_X5_refused N V (va_up A 16 (upd (A 16) ((50 * k0.toNatClampNeg) + i0.toNatClampNeg) v0)) (1 : Int32)).2.2.1, (s_X5_refused N V (va_up A 16 (upd (A 16) ((50 * k0.toNatClampNeg) + i0.toNatClampNeg) v0)) (1 : Int32)).2.2.2) := (by rw [s_X5_put, if_neg (nb c_2), if_pos c_4, if_neg c_5, if_neg c_6])
          rw [hEE]
          exact W.iret (v := (s_X5_refused N V (va_up A 16 (upd (A 16) ((50 * k0.toNatClampNeg) + i0.toNatClampNeg) v0)) (1 : Int32)).1) hx hb hr (fun t ht hW => ⟨⟨_, (), rfl, rfl, ⟨by rw [ht]; exact hP, va_K.moved hW.alike hK⟩, hD⟩, hS.F ht⟩) hS.2.2 dX5_put_79
        · refine lv_iload_n hx hb dX5_put_67 rfl (lv_at hl 3 rfl) ?_
          refine lv_i2s (v := (v0).toInt16.toInt32) hx hb dX5_put_68 rfl ?_
          refine lv_goto (tgt := 73) hx hb dX5_put_69 (by decide) ?_
          refine va_iastN (i := ((50 * k0.toNatClampNeg) + i0.toNatClampNeg)) hx hb hK hP hD hS 16 0 rfl rfl (by decide) (by omega) dX5_put_73 (fun H locs hP hD hS => ?_)
          have hP : va_P D vwCl (wM cI cZ q N V (va_up A 16 (upd (A 16) ((50 * k0.toNatClampNeg) + i0.toNatClampNeg) ((v0).toInt16.toInt32)))) H := hP
          have hD : va_D Ar (wM cI cZ q N V (va_up A 16 (upd (A 16) ((50 * k0.toNatClampNeg) + i0.toNatClampNeg) ((v0).toInt16.toInt32)))) := hD
          refine lv_aload_n hx hb dX5_put_74 rfl (lv_at hl 0 rfl) ?_
          refine lv_iconst (v := (1)) hx hb dX5_put_75 (by decide) ?_
          refine callMi (va_runV (As := [.int (1 : Int32)]) (rest := []) ⟨hx, hb, hml, hown, hts⟩ (c_X5_refused l D cI cZ cS q N V (va_up A 16 (upd (A 16) ((50 * k0.toNatClampNeg) + i0.toNatClampNeg) ((v0).toInt16.toInt32))) H.size (1 : Int32)) (cwV 1 hts gX5_put_X5_refused rfl rfl rfl (by decide +kernel) ⟨Nat.le_of_ble_eq_true rfl, Nat.le_of_ble_eq_true rfl⟩) (preMm hK hP hD) rfl rfl hl.1 rfl (lv_room (Nat.le_of_ble_eq_true rfl)) dX5_put_76 ⟨Nat.zero_le _, Nat.zero_le _⟩) hD hS hA (fun H locs hP hD hS => ?_)
          have hEE : s_X5_put N V A k0 i0 v0 = ((s_X5_refused N V (va_up A 16 (upd (A 16) ((50 * k0.toNatClampNeg) + i0.toNatClampNeg) ((v0).toInt16.toInt32))) (1 : Int32)).1, (s_X5_refused N V (va_up A 16 (upd (A 16) ((50 * k0.toNatClampNeg) + i0.toNatClampNeg) ((v0).toInt16.toInt32))) (1 : Int32)).2.1, (s_X5_refused N V (va_up A 16 (upd (A 16) ((50 * k0.toNatClampNeg) + i0.toNatClampNeg) ((v0).toInt16.toInt32))) (1 : Int32)).2.2.1, (s_X5_refused N V (va_up A 16 (upd (A 16) ((50 * k0.toNatClampNeg) + i0.toNatClampNeg) ((v0).toInt16.toInt32))) (1 : Int32)).2.2.2) := (by rw [s_X5_put, if_neg (nb c_2), if_pos c_4, if_neg c_5, if_pos c_6])
          rw [hEE]
          exact W.iret (v := (s_X5_refused N V (va_up A 16 (upd (A 16) ((50 * k0.toNatClampNeg) + i0.toNatClampNeg) ((v0).toInt16.toInt32))) (1 : Int32)).1) hx hb hr (fun t ht hW => ⟨⟨_, (), rfl, rfl, ⟨by rw [ht]; exact hP, va_K.moved hW.alike hK⟩, hD⟩, hS.F ht⟩) hS.2.2 dX5_put_79
      · refine lv_iload_n hx hb dX5_put_52 rfl (lv_at hl 3 rfl) ?_
        refine lv_i2b (v := (v0).toInt8.toInt32) hx hb dX5_put_53 rfl ?_
        refine lv_goto (tgt := 73) hx hb dX5_put_54 (by decide) ?_
        refine va_iastN (i := ((50 * k0.toNatClampNeg) + i0.toNatClampNeg)) hx hb hK hP hD hS 16 0 rfl rfl (by decide) (by omega) dX5_put_73 (fun H locs hP hD hS => ?_)
        have hP : va_P D vwCl (wM cI cZ q N V (va_up A 16 (upd (A 16) ((50 * k0.toNatClampNeg) + i0.toNatClampNeg) ((v0).toInt8.toInt32)))) H := hP
        have hD : va_D Ar (wM cI cZ q N V (va_up A 16 (upd (A 16) ((50 * k0.toNatClampNeg) + i0.toNatClampNeg) ((v0).toInt8.toInt32)))) := hD
        refine lv_aload_n hx hb dX5_put_74 rfl (lv_at hl 0 rfl) ?_
        refine lv_iconst (v := (1)) hx hb dX5_put_75 (by decide) ?_
        refine callMi (va_runV (As := [.int (1 : Int32)]) (rest := []) ⟨hx, hb, hml, hown, hts⟩ (c_X5_refused l D cI cZ cS q N V (va_up A 16 (upd (A 16) ((50 * k0.toNatClampNeg) + i0.toNatClampNeg) ((v0).toInt8.toInt32))) H.size (1 : Int32)) (cwV 1 hts gX5_put_X5_refused rfl rfl rfl (by decide +kernel) ⟨Nat.le_of_ble_eq_true rfl, Nat.le_of_ble_eq_true rfl⟩) (preMm hK hP hD) rfl rfl hl.1 rfl (lv_room (Nat.le_of_ble_eq_true rfl)) dX5_put_76 ⟨Nat.zero_le _, Nat.zero_le _⟩) hD hS hA (fun H locs hP hD hS => ?_)
        have hEE : s_X5_put N V A k0 i0 v0 = ((s_X5_refused N V (va_up A 16 (upd (A 16) ((50 * k0.toNatClampNeg) + i0.toNatClampNeg) ((v0).toInt8.toInt32))) (1 : Int32)).1, (s_X5_refused N V (va_up A 16 (upd (A 16) ((50 * k0.toNatClampNeg) + i0.toNatClampNeg) ((v0).toInt8.toInt32))) (1 : Int32)).2.1, (s_X5_refused N V (va_up A 16 (upd (A 16) ((50 * k0.toNatClampNeg) + i0.toNatClampNeg) ((v0).toInt8.toInt32))) (1 : Int32)).2.2.1, (s_X5_refused N V (va_up A 16 (upd (A 16) ((50 * k0.toNatClampNeg) + i0.toNatClampNeg) ((v0).toInt8.toInt32))) (1 : Int32)).2.2.2) := (by rw [s_X5_put, if_neg (nb c_2), if_pos c_4, if_pos c_5])
        rw [hEE]
        exact W.iret (v := (s_X5_refused N V (va_up A 16 (upd (A 16) ((50 * k0.toNatClampNeg) + i0.toNatClampNeg) ((v0).toInt8.toInt32))) (1 : Int32)).1) hx hb hr (fun t ht hW => ⟨⟨_, (), rfl, rfl, ⟨by rw [ht]; exact hP, va_K.moved hW.alike hK⟩, hD⟩, hS.F ht⟩) hS.2.2 dX5_put_79
    · refine lv_aload_n hx hb dX5_put_22 rfl (lv_at hl 0 rfl) ?_
      refine lv_aload_n hx hb dX5_put_23 rfl (lv_at hl 0 rfl) ?_
      refine lv_iload_n hx hb dX5_put_24 rfl (lv_at hl 1 rfl) ?_
      refine lv_iload_n hx hb dX5_put_25 rfl (lv_at hl 2 rfl) ?_
      refine vp_callSi (W.runV (As := [.int (nI k0.toNatClampNeg), .int i0]) (rest := [.ref (q 0)]) ⟨hx, hb, hml, hown, hts⟩ (c_X5_noCell l D cI cZ cS q N V A k0.toNatClampNeg i0 (by omega)) (cwV 2 hts gX5_put_X5_noCell rfl rfl rfl (by decide +kernel) ⟨Nat.le_of_ble_eq_true rfl, Nat.le_of_ble_eq_true rfl⟩) (preM hK hP) rfl rfl hl.1 rfl (lv_room (Nat.le_of_ble_eq_true rfl)) dX5_put_26 ⟨Nat.zero_le _, Nat.zero_le _⟩) (fun r_7 er_7 => ?_)
      subst er_7
      refine callMi (va_runV (As := [.int (s_X5_noCell N V A k0.toNatClampNeg i0)]) (rest := []) ⟨hx, hb, hml, hown, hts⟩ (c_X5_failed l D cI cZ cS q N V A s.heap.size (s_X5_noCell N V A k0.toNatClampNeg i0)) (cwV 1 hts gX5_put_X5_failed rfl rfl rfl (by decide +kernel) ⟨Nat.le_of_ble_eq_true rfl, Nat.le_of_ble_eq_true rfl⟩) (preMm hK hP hD) rfl rfl hl.1 rfl (lv_room (Nat.le_of_ble_eq_true rfl)) dX5_put_29 ⟨Nat.zero_le _, Nat.zero_le _⟩) hD hS hA (fun H locs hP hD hS => ?_)
      have hEE : s_X5_put N V A k0 i0 v0 = ((s_X5_failed N V A (s_X5_noCell N V A k0.toNatClampNeg i0)).1, (s_X5_failed N V A (s_X5_noCell N V A k0.toNatClampNeg i0)).2.1, (s_X5_failed N V A (s_X5_noCell N V A k0.toNatClampNeg i0)).2.2.1, (s_X5_failed N V A (s_X5_noCell N V A k0.toNatClampNeg i0)).2.2.2) := (by rw [s_X5_put, if_neg (nb c_2), if_neg c_4])
      rw [hEE]
      exact W.iret (v := (s_X5_failed N V A (s_X5_noCell N V A k0.toNatClampNeg i0)).1) hx hb hr (fun t ht hW => ⟨⟨_, (), rfl, rfl, ⟨by rw [ht]; exact hP, va_K.moved hW.alike hK⟩, hD⟩, hS.F ht⟩) hS.2.2 dX5_put_32
  · refine lv_aload_n hx hb dX5_put_7 rfl (lv_at hl 0 rfl) ?_
    refine lv_iconst (v := (-1)) hx hb dX5_put_8 (by decide) ?_
    refine callMi (va_runV (As := [.int (-1 : Int32)]) (rest := []) ⟨hx, hb, hml, hown, hts⟩ (c_X5_refused l D cI cZ cS q N V A s.heap.size (-1 : Int32)) (cwV 1 hts gX5_put_X5_refused rfl rfl rfl (by decide +kernel) ⟨Nat.le_of_ble_eq_true rfl, Nat.le_of_ble_eq_true rfl⟩) (preMm hK hP hD) rfl rfl hl.1 rfl (lv_room (Nat.le_of_ble_eq_true rfl)) dX5_put_9 ⟨Nat.zero_le _, Nat.zero_le _⟩) hD hS hA (fun H locs hP hD hS => ?_)
    have hEE : s_X5_put N V A k0 i0 v0 = ((s_X5_refused N V A (-1 : Int32)).1, (s_X5_refused N V A (-1 : Int32)).2.1, (s_X5_refused N V A (-1 : Int32)).2.2.1, (s_X5_refused N V A (-1 : Int32)).2.2.2) := (by rw [s_X5_put, if_pos c_2])
    rw [hEE]
    exact W.iret (v := (s_X5_refused N V A (-1 : Int32)).1) hx hb hr (fun t ht hW => ⟨⟨_, (), rfl, rfl, ⟨by rw [ht]; exact hP, va_K.moved hW.alike hK⟩, hD⟩, hS.F ht⟩) hS.2.2 dX5_put_12
def s_X5_cell (N : Nat → Nat) (V : Nat → Int32) (A : Nat → Nat → Int32)  (k0 : Int32) (i0 : Int32) (l0 : Int32) : Int64 × St :=
  if (s_X5_noSheet k0) = true then
    ((s_X5_lost), N, (va_up V 0 (0 : Int32)), A)
  else
    if (s_X5_in ((l0).toInt64) (0 : Int64) (2 : Int64)) = true then
      if A 14 k0.toNatClampNeg < 0 then
        if (s_X5_noCell N (va_up V 0 (0 : Int32)) A k0.toNatClampNeg i0) ≤ 0 then
          ((A 16 ((50 * k0.toNatClampNeg) + i0.toNatClampNeg)).toInt64, N, (va_up V 0 (0 : Int32)), A)
        else
          ((s_X5_failedLong N (va_up V 0 (0 : Int32)) A (s_X5_noCell N (va_up V 0 (0 : Int32)) A k0.toNatClampNeg i0)).1, (s_X5_failedLong N (va_up V 0 (0 : Int32)) A (s_X5_noCell N (va_up V 0 (0 : Int32)) A k0.toNatClampNeg i0)).2.1, (s_X5_failedLong N (va_up V 0 (0 : Int32)) A (s_X5_noCell N (va_up V 0 (0 : Int32)) A k0.toNatClampNeg i0)).2.2.1, (s_X5_failedLong N (va_up V 0 (0 : Int32)) A (s_X5_noCell N (va_up V 0 (0 : Int32)) A k0.toNatClampNeg i0)).2.2.2)
      else
        if A 15 k0.toNatClampNeg = l0 then
          if (s_X5_noCell N (va_up V 0 (0 : Int32)) A k0.toNatClampNeg i0) ≤ 0 then
            ((A 16 ((50 * k0.toNatClampNeg) + i0.toNatClampNeg)).toInt64, N, (va_up V 0 (0 : Int32)), A)
          else
            ((s_X5_failedLong N (va_up V 0 (0 : Int32)) A (s_X5_noCell N (va_up V 0 (0 : Int32)) A k0.toNatClampNeg i0)).1, (s_X5_failedLong N (va_up V 0 (0 : Int32)) A (s_X5_noCell N (va_up V 0 (0 : Int32)) A k0.toNatClampNeg i0)).2.1, (s_X5_failedLong N (va_up V 0 (0 : Int32)) A (s_X5_noCell N (va_up V 0 (0 : Int32)) A k0.toNatClampNeg i0)).2.2.1, (s_X5_failedLong N (va_up V 0 (0 : Int32)) A (s_X5_noCell N (va_up V 0 (0 : Int32)) A k0.toNatClampNeg i0)).2.2.2)
        else
          ((s_X5_failedLong N (va_up V 0 (0 : Int32)) A (2 : Int32)).1, (s_X5_failedLong N (va_up V 0 (0 : Int32)) A (2 : Int32)).2.1, (s_X5_failedLong N (va_up V 0 (0 : Int32)) A (2 : Int32)).2.2.1, (s_X5_failedLong N (va_up V 0 (0 : Int32)) A (2 : Int32)).2.2.2)
    else
      ((s_X5_lost), N, (va_up V 0 (0 : Int32)), A)
set_option maxHeartbeats 4000000 in
set_option maxRecDepth 100000 in
theorem c_X5_cell (l : Launch) (D : va_G) (cI cZ cS : ClassId) (q : Nat → Nat) (N : Nat → Nat) (V : Nat → Int32) (A : Nat → Nat → Int32) (sz : Nat) (k0 : Int32) (i0 : Int32) (l0 : Int32) (h_1 : okS A) : Met l yX5_cell wsX5_cell ({ frames := 2, cells := 0, slots := 0, locals := 47 }) (va_Pc [.ref (q 0), .int k0, .int i0, .int l0] (fun U => U.heap.size = sz ∧ PM D cI cZ cS q N V A U ∧ va_D (fun _ => True) (wM cI cZ q N V A))) (va_Ql (fun r (_ : Unit) => r = (s_X5_cell N V A k0 i0 l0).1) (fun _ t => PM D cI cZ cS q (s_X5_cell N V A k0 i0 l0).2.1 (s_X5_cell N V A k0 i0 l0).2.2.1 (s_X5_cell N V A k0 i0 l0).2.2.2 t ∧ va_D (va_A (wM cI cZ q N V A) sz) (wM cI cZ q (s_X5_cell N V A k0 i0 l0).2.1 (s_X5_cell N V A k0 i0 l0).2.2.1 (s_X5_cell N V A k0 i0 l0).2.2.2)) (va_A (wM cI cZ q N V A) sz)) 0 0 (va_A (wM cI cZ q N V A) sz) := by
  refine Met.ofW (cc := cX5_cell) (maxL := 4) (ret := (some .long)) (by decide) rfl ?_
  intro p e s m args below meth c s₁ B hml hv
  obtain ⟨rfl, hsz, ⟨hP, hK⟩, hD0⟩ := hv
  have hx := B.exec
  have hb := B.bytes
  have hr := B.returns
  have hts := atoms_spec (ws := wsX5_cell) B.pre
  have hown : s.vm.findClass RX5 = some m.cls := findClass_of_methodNamed B.named
  have hlocks := B.notSynchronized
  have hin5 : ∀ w ∈ u_ws RX5 TX5 22, w ∈ wsX5_cell := by decide +kernel
  subst hsz
  have hD := hD0.self (sz := s.heap.size)
  generalize hAe : va_A (wM cI cZ q N V A) s.heap.size = Ar at hD ⊢
  have hA : ∀ q : Nat, s.heap.size ≤ q → Ar q := fun q h => by rw [← hAe]; exact Or.inr h
  have hS : va_S Ar s.heap s.heap [] := va_S.rf
  have hl := lv_entry ([.ref (q 0), .int k0, .int i0, .int l0]) (n := 4) (Nat.le_of_ble_eq_true rfl)
  rw [lg_entry_eq]
  generalize (lg_sl ([.ref (q 0), .int k0, .int i0, .int l0]) ++ List.replicate (4 - (lg_sl ([.ref (q 0), .int k0, .int i0, .int l0])).length) Slot.unset).toArray = ls at hl ⊢
  have hl : lv_has ls 4 [(0, .ref (q 0)), (1, .int k0), (2, .int i0), (3, .int l0)] := hl
  refine lv_aload_n hx hb dX5_cell_0 rfl (lv_at hl 0 rfl) ?_
  refine lv_iconst (v := (0)) hx hb dX5_cell_1 (by decide) ?_
  refine va_put (D := D) (ci := 5) (v := .int (0)) (ty := .int) (C := RX5) (T := TX5) (N := 22) hx hb hts hin5 tyX5 tyX5_ok nmX5 hown hK hP hD hS 0 rfl rfl 0 (by decide) (hts (.fieldLink RX5 64 "NeckShipModel" "fault" "I") (by decide +kernel)) (fun _ h9 => h9) rfl (by decide +kernel) rfl rfl (Nat.le_of_ble_eq_true rfl) dX5_cell_2 (fun H locs hP hD hS => ?_)
  have hP : va_P D vwCl (wM cI cZ q N (va_up V 0 (0 : Int32)) A) H := hP
  have hD : va_D Ar (wM cI cZ q N (va_up V 0 (0 : Int32)) A) := hD
  refine lv_iload_n hx hb dX5_cell_5 rfl (lv_at hl 1 rfl) ?_
  refine vp_callSi (W.runS (As := [.int k0]) (rest := []) ⟨hx, hb, hml, hown, hts⟩ (c_X5_noSheet l k0) (cwS 1 hts gX5_cell_X5_noSheet rfl rfl rfl (by decide +kernel) ⟨Nat.le_of_ble_eq_true rfl, Nat.le_of_ble_eq_true rfl⟩) (preEq) rfl rfl hl.1 rfl (lv_room (Nat.le_of_ble_eq_true rfl)) dX5_cell_6 ⟨Nat.zero_le _, Nat.zero_le _⟩) (fun r_1 er_1 => ?_)
  subst er_1
  refine lz_if_ne (tgt := 24) hx hb dX5_cell_9 (by decide) (fun c_2 => ?_) (fun c_2 => ?_)
  · refine vp_callSl (W.runS (As := []) (rest := []) ⟨hx, hb, hml, hown, hts⟩ (c_X5_lost l) (cwS 0 hts gX5_cell_X5_lost rfl rfl rfl (by decide +kernel) ⟨Nat.le_of_ble_eq_true rfl, Nat.le_of_ble_eq_true rfl⟩) (preEq) rfl rfl hl.1 rfl (lv_room (Nat.le_of_ble_eq_true rfl)) dX5_cell_24 ⟨Nat.zero_le _, Nat.zero_le _⟩) (fun r_3 er_3 => ?_)
    subst er_3
    have hEE : s_X5_cell N V A k0 i0 l0 = ((s_X5_lost), N, (va_up V 0 (0 : Int32)), A) := (by rw [s_X5_cell, if_pos c_2])
    rw [hEE]
    exact W.lret (v := (s_X5_lost)) hx hb hr (fun t ht hW => ⟨⟨_, (), rfl, rfl, ⟨by rw [ht]; exact hP, va_K.moved hW.alike hK⟩, hD⟩, hS.F ht⟩) hS.2.2 dX5_cell_27
  · obtain ⟨hlt_k0, heq_k0⟩ := noSheet_f c_2
    have hl : lv_has ls 4 [(0, .ref (q 0)), (1, .int (nI k0.toNatClampNeg)), (2, .int i0), (3, .int l0)] := by rw [heq_k0]; exact hl
    refine lv_iload_n hx hb dX5_cell_12 rfl (lv_at hl 3 rfl) ?_
    refine lv_i2l (v := (l0).toInt64) hx hb dX5_cell_13 rfl ?_
    refine lv_lconst (v := (0)) hx hb dX5_cell_14 (by decide) ?_
    refine lv_ldc2 (v := (2)) hx hb hown (hts (.constantLong RX5 92 (2)) (by decide +kernel)) dX5_cell_15 ?_
    refine vp_callSi (W.runS (As := [.long ((l0).toInt64), .long (0 : Int64), .long (2 : Int64)]) (rest := []) ⟨hx, hb, hml, hown, hts⟩ (c_X5_in l ((l0).toInt64) (0 : Int64) (2 : Int64)) (cwS 3 hts gX5_cell_X5_in rfl rfl rfl (by decide +kernel) ⟨Nat.le_of_ble_eq_true rfl, Nat.le_of_ble_eq_true rfl⟩) (preEq) rfl rfl hl.1 rfl (lv_room (Nat.le_of_ble_eq_true rfl)) dX5_cell_18 ⟨Nat.zero_le _, Nat.zero_le _⟩) (fun r_4 er_4 => ?_)
    subst er_4
    refine lz_if_ne (tgt := 28) hx hb dX5_cell_21 (by decide) (fun c_5 => ?_) (fun c_5 => ?_)
    · refine lv_aload_n hx hb dX5_cell_28 rfl (lv_at hl 0 rfl) ?_
      refine va_get (D := D) (ci := 5) (v := .ref (q 14)) (C := RX5) (T := TX5) (N := 22) hx hb hts hin5 hown hK hP 0 rfl rfl 17 (by decide) (hts (.fieldLink RX5 50 "NeckShipModel" "sheetSize" "[I") (by decide +kernel)) (fun _ h9 => h9) rfl dX5_cell_29 ?_
      refine lv_iload_n hx hb dX5_cell_32 rfl (lv_at hl 1 rfl) ?_
      refine va_ialdN (i := k0.toNatClampNeg) hx hb hK hP 14 0 rfl rfl (by decide) (by omega) dX5_cell_33 ?_
      refine lv_if_lt (tgt := 53) hx hb dX5_cell_34 (by decide) (fun c_6 => ?_) (fun c_6 => ?_)
      · refine lv_aload_n hx hb dX5_cell_53 rfl (lv_at hl 0 rfl) ?_
        refine lv_iload_n hx hb dX5_cell_54 rfl (lv_at hl 1 rfl) ?_
        refine lv_iload_n hx hb dX5_cell_55 rfl (lv_at hl 2 rfl) ?_
        refine vp_callSi (W.runV (As := [.int (nI k0.toNatClampNeg), .int i0]) (rest := []) ⟨hx, hb, hml, hown, hts⟩ (c_X5_noCell l D cI cZ cS q N (va_up V 0 (0 : Int32)) A k0.toNatClampNeg i0 (by omega)) (cwV 2 hts gX5_cell_X5_noCell rfl rfl rfl (by decide +kernel) ⟨Nat.le_of_ble_eq_true rfl, Nat.le_of_ble_eq_true rfl⟩) (preM hK hP) rfl rfl hl.1 rfl (lv_room (Nat.le_of_ble_eq_true rfl)) dX5_cell_56 ⟨Nat.zero_le _, Nat.zero_le _⟩) (fun r_7 er_7 => ?_)
        subst er_7
        refine lv_if_le (tgt := 75) hx hb dX5_cell_59 (by decide) (fun c_8 => ?_) (fun c_8 => ?_)
        · obtain ⟨hlt_i0, heq_i0⟩ := noCell_f (h_1 _ (by omega)) c_8
          have hl : lv_has ls 4 [(0, .ref (q 0)), (1, .int (nI k0.toNatClampNeg)), (2, .int (nI i0.toNatClampNeg)), (3, .int l0)] := by rw [heq_i0]; exact hl
          refine lv_aload_n hx hb dX5_cell_75 rfl (lv_at hl 0 rfl) ?_
          refine va_get (D := D) (ci := 5) (v := .ref (q 16)) (C := RX5) (T := TX5) (N := 22) hx hb hts hin5 hown hK hP 0 rfl rfl 19 (by decide) (hts (.fieldLink RX5 56 "NeckShipModel" "sheet" "[I") (by decide +kernel)) (fun _ h9 => h9) rfl dX5_cell_76 ?_
          refine lv_bipush (v := (50)) hx hb dX5_cell_79 (by decide) ?_
          refine lv_iload_n hx hb dX5_cell_81 rfl (lv_at hl 1 rfl) ?_
          refine lv_imul hx hb dX5_cell_82 ?_
          rw [show (50 : Int32) * nI k0.toNatClampNeg = nI (50 * k0.toNatClampNeg) from pk_mul 50 k0.toNatClampNeg]
          refine lv_iload_n hx hb dX5_cell_83 rfl (lv_at hl 2 rfl) ?_
          refine lv_iadd hx hb dX5_cell_84 ?_
          rw [nI_add (50 * k0.toNatClampNeg) i0.toNatClampNeg]
          refine va_ialdN (i := ((50 * k0.toNatClampNeg) + i0.toNatClampNeg)) hx hb hK hP 16 0 rfl rfl (by decide) (by omega) dX5_cell_85 ?_
          refine lv_i2l (v := (A 16 ((50 * k0.toNatClampNeg) + i0.toNatClampNeg)).toInt64) hx hb dX5_cell_86 rfl ?_
          have hEE : s_X5_cell N V A k0 i0 l0 = ((A 16 ((50 * k0.toNatClampNeg) + i0.toNatClampNeg)).toInt64, N, (va_up V 0 (0 : Int32)), A) := (by rw [s_X5_cell, if_neg (nb c_2), if_pos c_5, if_pos c_6, if_pos c_8])
          rw [hEE]
          exact W.lret (v := (A 16 ((50 * k0.toNatClampNeg) + i0.toNatClampNeg)).toInt64) hx hb hr (fun t ht hW => ⟨⟨_, (), rfl, rfl, ⟨by rw [ht]; exact hP, va_K.moved hW.alike hK⟩, hD⟩, hS.F ht⟩) hS.2.2 dX5_cell_87
        · refine lv_aload_n hx hb dX5_cell_62 rfl (lv_at hl 0 rfl) ?_
          refine lv_aload_n hx hb dX5_cell_63 rfl (lv_at hl 0 rfl) ?_
          refine lv_iload_n hx hb dX5_cell_64 rfl (lv_at hl 1 rfl) ?_
          refine lv_iload_n hx hb dX5_cell_65 rfl (lv_at hl 2 rfl) ?_
          refine vp_callSi (W.runV (As := [.int (nI k0.toNatClampNeg), .int i0]) (rest := [.ref (q 0)]) ⟨hx, hb, hml, hown, hts⟩ (c_X5_noCell l D cI cZ cS q N (va_up V 0 (0 : Int32)) A k0.toNatClampNeg i0 (by omega)) (cwV 2 hts gX5_cell_X5_noCell rfl rfl rfl (by decide +kernel) ⟨Nat.le_of_ble_eq_true rfl, Nat.le_of_ble_eq_true rfl⟩) (preM hK hP) rfl rfl hl.1 rfl (lv_room (Nat.le_of_ble_eq_true rfl)) dX5_cell_66 ⟨Nat.zero_le _, Nat.zero_le _⟩) (fun r_9 er_9 => ?_)
          subst er_9
          refine callMl (va_runV (As := [.int (s_X5_noCell N (va_up V 0 (0 : Int32)) A k0.toNatClampNeg i0)]) (rest := []) ⟨hx, hb, hml, hown, hts⟩ (c_X5_failedLong l D cI cZ cS q N (va_up V 0 (0 : Int32)) A H.size (s_X5_noCell N (va_up V 0 (0 : Int32)) A k0.toNatClampNeg i0)) (cwV 1 hts gX5_cell_X5_failedLong rfl rfl rfl (by decide +kernel) ⟨Nat.le_of_ble_eq_true rfl, Nat.le_of_ble_eq_true rfl⟩) (preMm hK hP hD) rfl rfl hl.1 rfl (lv_room (Nat.le_of_ble_eq_true rfl)) dX5_cell_69 ⟨Nat.zero_le _, Nat.zero_le _⟩) hD hS hA (fun H locs hP hD hS => ?_)
          refine lv_goto (tgt := 87) hx hb dX5_cell_72 (by decide) ?_
          have hEE : s_X5_cell N V A k0 i0 l0 = ((s_X5_failedLong N (va_up V 0 (0 : Int32)) A (s_X5_noCell N (va_up V 0 (0 : Int32)) A k0.toNatClampNeg i0)).1, (s_X5_failedLong N (va_up V 0 (0 : Int32)) A (s_X5_noCell N (va_up V 0 (0 : Int32)) A k0.toNatClampNeg i0)).2.1, (s_X5_failedLong N (va_up V 0 (0 : Int32)) A (s_X5_noCell N (va_up V 0 (0 : Int32)) A k0.toNatClampNeg i0)).2.2.1, (s_X5_failedLong N (va_up V 0 (0 : Int32)) A (s_X5_noCell N (va_up V 0 (0 : Int32)) A k0.toNatClampNeg i0)).2.2.2) := (by rw [s_X5_cell, if_neg (nb c_2), if_pos c_5, if_pos c_6, if_neg c_8])
          rw [hEE]
          exact W.lret (v := (s_X5_failedLong N (va_up V 0 (0 : Int32)) A (s_X5_noCell N (va_up V 0 (0 : Int32)) A k0.toNatClampNeg i0)).1) hx hb hr (fun t ht hW => ⟨⟨_, (), rfl, rfl, ⟨by rw [ht]; exact hP, va_K.moved hW.alike hK⟩, hD⟩, hS.F ht⟩) hS.2.2 dX5_cell_87
      · refine lv_aload_n hx hb dX5_cell_37 rfl (lv_at hl 0 rfl) ?_
        refine va_get (D := D) (ci := 5) (v := .ref (q 15)) (C := RX5) (T := TX5) (N := 22) hx hb hts hin5 hown hK hP 0 rfl rfl 18 (by decide) (hts (.fieldLink RX5 53 "NeckShipModel" "sheetLane" "[I") (by decide +kernel)) (fun _ h9 => h9) rfl dX5_cell_38 ?_
        refine lv_iload_n hx hb dX5_cell_41 rfl (lv_at hl 1 rfl) ?_
        refine va_ialdN (i := k0.toNatClampNeg) hx hb hK hP 15 0 rfl rfl (by decide) (by omega) dX5_cell_42 ?_
        refine lv_iload_n hx hb dX5_cell_43 rfl (lv_at hl 3 rfl) ?_
        refine lv_icmp_eq (tgt := 53) hx hb dX5_cell_44 (by decide) (fun c_10 => ?_) (fun c_10 => ?_)
        · refine lv_aload_n hx hb dX5_cell_53 rfl (lv_at hl 0 rfl) ?_
          refine lv_iload_n hx hb dX5_cell_54 rfl (lv_at hl 1 rfl) ?_
          refine lv_iload_n hx hb dX5_cell_55 rfl (lv_at hl 2 rfl) ?_
          refine vp_callSi (W.runV (As := [.int (nI k0.toNatClampNeg), .int i0]) (rest := []) ⟨hx, hb, hml, hown, hts⟩ (c_X5_noCell l D cI cZ cS q N (va_up V 0 (0 : Int32)) A k0.toNatClampNeg i0 (by omega)) (cwV 2 hts gX5_cell_X5_noCell rfl rfl rfl (by decide +kernel) ⟨Nat.le_of_ble_eq_true rfl, Nat.le_of_ble_eq_true rfl⟩) (preM hK hP) rfl rfl hl.1 rfl (lv_room (Nat.le_of_ble_eq_true rfl)) dX5_cell_56 ⟨Nat.zero_le _, Nat.zero_le _⟩) (fun r_11 er_11 => ?_)
          subst er_11
          refine lv_if_le (tgt := 75) hx hb dX5_cell_59 (by decide) (fun c_12 => ?_) (fun c_12 => ?_)
          · obtain ⟨hlt_i0, heq_i0⟩ := noCell_f (h_1 _ (by omega)) c_12
            have hl : lv_has ls 4 [(0, .ref (q 0)), (1, .int (nI k0.toNatClampNeg)), (2, .int (nI i0.toNatClampNeg)), (3, .int l0)] := by rw [heq_i0]; exact hl
            refine lv_aload_n hx hb dX5_cell_75 rfl (lv_at hl 0 rfl) ?_
            refine va_get (D := D) (ci := 5) (v := .ref (q 16)) (C := RX5) (T := TX5) (N := 22) hx hb hts hin5 hown hK hP 0 rfl rfl 19 (by decide) (hts (.fieldLink RX5 56 "NeckShipModel" "sheet" "[I") (by decide +kernel)) (fun _ h9 => h9) rfl dX5_cell_76 ?_
            refine lv_bipush (v := (50)) hx hb dX5_cell_79 (by decide) ?_
            refine lv_iload_n hx hb dX5_cell_81 rfl (lv_at hl 1 rfl) ?_
            refine lv_imul hx hb dX5_cell_82 ?_
            rw [show (50 : Int32) * nI k0.toNatClampNeg = nI (50 * k0.toNatClampNeg) from pk_mul 50 k0.toNatClampNeg]
            refine lv_iload_n hx hb dX5_cell_83 rfl (lv_at hl 2 rfl) ?_
            refine lv_iadd hx hb dX5_cell_84 ?_
            rw [nI_add (50 * k0.toNatClampNeg) i0.toNatClampNeg]
            refine va_ialdN (i := ((50 * k0.toNatClampNeg) + i0.toNatClampNeg)) hx hb hK hP 16 0 rfl rfl (by decide) (by omega) dX5_cell_85 ?_
            refine lv_i2l (v := (A 16 ((50 * k0.toNatClampNeg) + i0.toNatClampNeg)).toInt64) hx hb dX5_cell_86 rfl ?_
            have hEE : s_X5_cell N V A k0 i0 l0 = ((A 16 ((50 * k0.toNatClampNeg) + i0.toNatClampNeg)).toInt64, N, (va_up V 0 (0 : Int32)), A) := (by rw [s_X5_cell, if_neg (nb c_2), if_pos c_5, if_neg c_6, if_pos c_10, if_pos c_12])
            rw [hEE]
            exact W.lret (v := (A 16 ((50 * k0.toNatClampNeg) + i0.toNatClampNeg)).toInt64) hx hb hr (fun t ht hW => ⟨⟨_, (), rfl, rfl, ⟨by rw [ht]; exact hP, va_K.moved hW.alike hK⟩, hD⟩, hS.F ht⟩) hS.2.2 dX5_cell_87
          · refine lv_aload_n hx hb dX5_cell_62 rfl (lv_at hl 0 rfl) ?_
            refine lv_aload_n hx hb dX5_cell_63 rfl (lv_at hl 0 rfl) ?_
            refine lv_iload_n hx hb dX5_cell_64 rfl (lv_at hl 1 rfl) ?_
            refine lv_iload_n hx hb dX5_cell_65 rfl (lv_at hl 2 rfl) ?_
            refine vp_callSi (W.runV (As := [.int (nI k0.toNatClampNeg), .int i0]) (rest := [.ref (q 0)]) ⟨hx, hb, hml, hown, hts⟩ (c_X5_noCell l D cI cZ cS q N (va_up V 0 (0 : Int32)) A k0.toNatClampNeg i0 (by omega)) (cwV 2 hts gX5_cell_X5_noCell rfl rfl rfl (by decide +kernel) ⟨Nat.le_of_ble_eq_true rfl, Nat.le_of_ble_eq_true rfl⟩) (preM hK hP) rfl rfl hl.1 rfl (lv_room (Nat.le_of_ble_eq_true rfl)) dX5_cell_66 ⟨Nat.zero_le _, Nat.zero_le _⟩) (fun r_13 er_13 => ?_)
            subst er_13
            refine callMl (va_runV (As := [.int (s_X5_noCell N (va_up V 0 (0 : Int32)) A k0.toNatClampNeg i0)]) (rest := []) ⟨hx, hb, hml, hown, hts⟩ (c_X5_failedLong l D cI cZ cS q N (va_up V 0 (0 : Int32)) A H.size (s_X5_noCell N (va_up V 0 (0 : Int32)) A k0.toNatClampNeg i0)) (cwV 1 hts gX5_cell_X5_failedLong rfl rfl rfl (by decide +kernel) ⟨Nat.le_of_ble_eq_true rfl, Nat.le_of_ble_eq_true rfl⟩) (preMm hK hP hD) rfl rfl hl.1 rfl (lv_room (Nat.le_of_ble_eq_true rfl)) dX5_cell_69 ⟨Nat.zero_le _, Nat.zero_le _⟩) hD hS hA (fun H locs hP hD hS => ?_)
            refine lv_goto (tgt := 87) hx hb dX5_cell_72 (by decide) ?_
            have hEE : s_X5_cell N V A k0 i0 l0 = ((s_X5_failedLong N (va_up V 0 (0 : Int32)) A (s_X5_noCell N (va_up V 0 (0 : Int32)) A k0.toNatClampNeg i0)).1, (s_X5_failedLong N (va_up V 0 (0 : Int32)) A (s_X5_noCell N (va_up V 0 (0 : Int32)) A k0.toNatClampNeg i0)).2.1, (s_X5_failedLong N (va_up V 0 (0 : Int32)) A (s_X5_noCell N (va_up V 0 (0 : Int32)) A k0.toNatClampNeg i0)).2.2.1, (s_X5_failedLong N (va_up V 0 (0 : Int32)) A (s_X5_noCell N (va_up V 0 (0 : Int32)) A k0.toNatClampNeg i0)).2.2.2) := (by rw [s_X5_cell, if_neg (nb c_2), if_pos c_5, if_neg c_6, if_pos c_10, if_neg c_12])
            rw [hEE]
            exact W.lret (v := (s_X5_failedLong N (va_up V 0 (0 : Int32)) A (s_X5_noCell N (va_up V 0 (0 : Int32)) A k0.toNatClampNeg i0)).1) hx hb hr (fun t ht hW => ⟨⟨_, (), rfl, rfl, ⟨by rw [ht]; exact hP, va_K.moved hW.alike hK⟩, hD⟩, hS.F ht⟩) hS.2.2 dX5_cell_87
        · refine lv_aload_n hx hb dX5_cell_47 rfl (lv_at hl 0 rfl) ?_
          refine lv_iconst (v := (2)) hx hb dX5_cell_48 (by decide) ?_
          refine callMl (va_runV (As := [.int (2 : Int32)]) (rest := []) ⟨hx, hb, hml, hown, hts⟩ (c_X5_failedLong l D cI cZ cS q N (va_up V 0 (0 : Int32)) A H.size (2 : Int32)) (cwV 1 hts gX5_cell_X5_failedLong rfl rfl rfl (by decide +kernel) ⟨Nat.le_of_ble_eq_true rfl, Nat.le_of_ble_eq_true rfl⟩) (preMm hK hP hD) rfl rfl hl.1 rfl (lv_room (Nat.le_of_ble_eq_true rfl)) dX5_cell_49 ⟨Nat.zero_le _, Nat.zero_le _⟩) hD hS hA (fun H locs hP hD hS => ?_)
          have hEE : s_X5_cell N V A k0 i0 l0 = ((s_X5_failedLong N (va_up V 0 (0 : Int32)) A (2 : Int32)).1, (s_X5_failedLong N (va_up V 0 (0 : Int32)) A (2 : Int32)).2.1, (s_X5_failedLong N (va_up V 0 (0 : Int32)) A (2 : Int32)).2.2.1, (s_X5_failedLong N (va_up V 0 (0 : Int32)) A (2 : Int32)).2.2.2) := (by rw [s_X5_cell, if_neg (nb c_2), if_pos c_5, if_neg c_6, if_neg c_10])
          rw [hEE]
          exact W.lret (v := (s_X5_failedLong N (va_up V 0 (0 : Int32)) A (2 : Int32)).1) hx hb hr (fun t ht hW => ⟨⟨_, (), rfl, rfl, ⟨by rw [ht]; exact hP, va_K.moved hW.alike hK⟩, hD⟩, hS.F ht⟩) hS.2.2 dX5_cell_52
    · refine vp_callSl (W.runS (As := []) (rest := []) ⟨hx, hb, hml, hown, hts⟩ (c_X5_lost l) (cwS 0 hts gX5_cell_X5_lost rfl rfl rfl (by decide +kernel) ⟨Nat.le_of_ble_eq_true rfl, Nat.le_of_ble_eq_true rfl⟩) (preEq) rfl rfl hl.1 rfl (lv_room (Nat.le_of_ble_eq_true rfl)) dX5_cell_24 ⟨Nat.zero_le _, Nat.zero_le _⟩) (fun r_14 er_14 => ?_)
      subst er_14
      have hEE : s_X5_cell N V A k0 i0 l0 = ((s_X5_lost), N, (va_up V 0 (0 : Int32)), A) := (by rw [s_X5_cell, if_neg (nb c_2), if_neg (nb c_5)])
      rw [hEE]
      exact W.lret (v := (s_X5_lost)) hx hb hr (fun t ht hW => ⟨⟨_, (), rfl, rfl, ⟨by rw [ht]; exact hP, va_K.moved hW.alike hK⟩, hD⟩, hS.F ht⟩) hS.2.2 dX5_cell_27
def s_X5_copy_L1 (N : Nat → Nat) (V : Nat → Int32) (A : Nat → Nat → Int32) (k0 : Int32) (i0 : Int32) (o0 : Int32) (j0 : Int32) (n0 : Int32) : Nat → Nat → (Nat → Nat → Int32) → (Nat → Nat → Int32)
  | 0, k, A1 =>
    A1
  | n + 1, k, A1 =>
    s_X5_copy_L1 N V A k0 i0 o0 j0 n0 n (k + 1) (va_up A1 17 (upd (A1 17) k (A1 16 (((50 * k0.toNatClampNeg) + i0.toNatClampNeg) + k))))
def s_X5_copy_L2 (N : Nat → Nat) (V : Nat → Int32) (A : Nat → Nat → Int32) (k0 : Int32) (i0 : Int32) (o0 : Int32) (j0 : Int32) (n0 : Int32) : Nat → Nat → (Nat → Nat → Int32) → (Nat → Nat → Int32)
  | 0, k, A1 =>
    A1
  | n + 1, k, A1 =>
    s_X5_copy_L2 N V A k0 i0 o0 j0 n0 n (k + 1) (va_up A1 16 (upd (A1 16) (((50 * o0.toNatClampNeg) + j0.toNatClampNeg) + k) (A1 17 k)))
def s_X5_copy (N : Nat → Nat) (V : Nat → Int32) (A : Nat → Nat → Int32)  (k0 : Int32) (i0 : Int32) (o0 : Int32) (j0 : Int32) (n0 : Int32) : Int32 × St :=
  if (s_X5_noSheet k0) = true then
    ((s_X5_refused N V A (-1 : Int32)).1, (s_X5_refused N V A (-1 : Int32)).2.1, (s_X5_refused N V A (-1 : Int32)).2.2.1, (s_X5_refused N V A (-1 : Int32)).2.2.2)
  else
    if (s_X5_noSheet o0) = true then
      ((s_X5_refused N V A (-1 : Int32)).1, (s_X5_refused N V A (-1 : Int32)).2.1, (s_X5_refused N V A (-1 : Int32)).2.2.1, (s_X5_refused N V A (-1 : Int32)).2.2.2)
    else
      if A 14 k0.toNatClampNeg < 0 then
        ((s_X5_failed N V A (1 : Int32)).1, (s_X5_failed N V A (1 : Int32)).2.1, (s_X5_failed N V A (1 : Int32)).2.2.1, (s_X5_failed N V A (1 : Int32)).2.2.2)
      else
        if 0 ≤ A 14 o0.toNatClampNeg then
          if A 15 k0.toNatClampNeg = A 15 o0.toNatClampNeg then
            if (s_X5_isBeyond i0 ((n0).toInt64) (A 14 k0.toNatClampNeg)) = true then
              ((s_X5_failed N V A (3 : Int32)).1, (s_X5_failed N V A (3 : Int32)).2.1, (s_X5_failed N V A (3 : Int32)).2.2.1, (s_X5_failed N V A (3 : Int32)).2.2.2)
            else
              if (s_X5_isBeyond j0 ((n0).toInt64) (A 14 o0.toNatClampNeg)) = true then
                ((s_X5_failed N V A (3 : Int32)).1, (s_X5_failed N V A (3 : Int32)).2.1, (s_X5_failed N V A (3 : Int32)).2.2.1, (s_X5_failed N V A (3 : Int32)).2.2.2)
              else
                ((s_X5_refused N V (s_X5_copy_L2 N V A k0 i0 o0 j0 n0 n0.toNatClampNeg 0 (s_X5_copy_L1 N V A k0 i0 o0 j0 n0 n0.toNatClampNeg 0 A)) (nI n0.toNatClampNeg)).1, (s_X5_refused N V (s_X5_copy_L2 N V A k0 i0 o0 j0 n0 n0.toNatClampNeg 0 (s_X5_copy_L1 N V A k0 i0 o0 j0 n0 n0.toNatClampNeg 0 A)) (nI n0.toNatClampNeg)).2.1, (s_X5_refused N V (s_X5_copy_L2 N V A k0 i0 o0 j0 n0 n0.toNatClampNeg 0 (s_X5_copy_L1 N V A k0 i0 o0 j0 n0 n0.toNatClampNeg 0 A)) (nI n0.toNatClampNeg)).2.2.1, (s_X5_refused N V (s_X5_copy_L2 N V A k0 i0 o0 j0 n0 n0.toNatClampNeg 0 (s_X5_copy_L1 N V A k0 i0 o0 j0 n0 n0.toNatClampNeg 0 A)) (nI n0.toNatClampNeg)).2.2.2)
          else
            ((s_X5_failed N V A (2 : Int32)).1, (s_X5_failed N V A (2 : Int32)).2.1, (s_X5_failed N V A (2 : Int32)).2.2.1, (s_X5_failed N V A (2 : Int32)).2.2.2)
        else
          ((s_X5_failed N V A (1 : Int32)).1, (s_X5_failed N V A (1 : Int32)).2.1, (s_X5_failed N V A (1 : Int32)).2.2.1, (s_X5_failed N V A (1 : Int32)).2.2.2)
set_option maxHeartbeats 4000000 in
set_option maxRecDepth 100000 in
theorem c_X5_copy (l : Launch) (D : va_G) (cI cZ cS : ClassId) (q : Nat → Nat) (N : Nat → Nat) (V : Nat → Int32) (A : Nat → Nat → Int32) (sz : Nat) (k0 : Int32) (i0 : Int32) (o0 : Int32) (j0 : Int32) (n0 : Int32) (h_1 : okS A) : Met l yX5_copy wsX5_copy ({ frames := 2, cells := 0, slots := 0, locals := 45 }) (va_Pc [.ref (q 0), .int k0, .int i0, .int o0, .int j0, .int n0] (fun U => U.heap.size = sz ∧ PM D cI cZ cS q N V A U ∧ va_D (fun _ => True) (wM cI cZ q N V A))) (va_Qi (fun r (_ : Unit) => r = (s_X5_copy N V A k0 i0 o0 j0 n0).1) (fun _ t => PM D cI cZ cS q (s_X5_copy N V A k0 i0 o0 j0 n0).2.1 (s_X5_copy N V A k0 i0 o0 j0 n0).2.2.1 (s_X5_copy N V A k0 i0 o0 j0 n0).2.2.2 t ∧ va_D (va_A (wM cI cZ q N V A) sz) (wM cI cZ q (s_X5_copy N V A k0 i0 o0 j0 n0).2.1 (s_X5_copy N V A k0 i0 o0 j0 n0).2.2.1 (s_X5_copy N V A k0 i0 o0 j0 n0).2.2.2)) (va_A (wM cI cZ q N V A) sz)) 0 0 (va_A (wM cI cZ q N V A) sz) := by
  refine Met.ofW (cc := cX5_copy) (maxL := 7) (ret := (some .int)) (by decide) rfl ?_
  intro p e s m args below meth c s₁ B hml hv
  obtain ⟨rfl, hsz, ⟨hP, hK⟩, hD0⟩ := hv
  have hx := B.exec
  have hb := B.bytes
  have hr := B.returns
  have hts := atoms_spec (ws := wsX5_copy) B.pre
  have hown : s.vm.findClass RX5 = some m.cls := findClass_of_methodNamed B.named
  have hlocks := B.notSynchronized
  have hin5 : ∀ w ∈ u_ws RX5 TX5 22, w ∈ wsX5_copy := by decide +kernel
  subst hsz
  have hD := hD0.self (sz := s.heap.size)
  generalize hAe : va_A (wM cI cZ q N V A) s.heap.size = Ar at hD ⊢
  have hA : ∀ q : Nat, s.heap.size ≤ q → Ar q := fun q h => by rw [← hAe]; exact Or.inr h
  have hS : va_S Ar s.heap s.heap [] := va_S.rf
  have hl := lv_entry ([.ref (q 0), .int k0, .int i0, .int o0, .int j0, .int n0]) (n := 7) (Nat.le_of_ble_eq_true rfl)
  rw [lg_entry_eq]
  generalize (lg_sl ([.ref (q 0), .int k0, .int i0, .int o0, .int j0, .int n0]) ++ List.replicate (7 - (lg_sl ([.ref (q 0), .int k0, .int i0, .int o0, .int j0, .int n0])).length) Slot.unset).toArray = ls at hl ⊢
  have hl : lv_has ls 7 [(0, .ref (q 0)), (1, .int k0), (2, .int i0), (3, .int o0), (4, .int j0), (5, .int n0)] := hl
  refine lv_iload_n hx hb dX5_copy_0 rfl (lv_at hl 1 rfl) ?_
  refine vp_callSi (W.runS (As := [.int k0]) (rest := []) ⟨hx, hb, hml, hown, hts⟩ (c_X5_noSheet l k0) (cwS 1 hts gX5_copy_X5_noSheet rfl rfl rfl (by decide +kernel) ⟨Nat.le_of_ble_eq_true rfl, Nat.le_of_ble_eq_true rfl⟩) (preEq) rfl rfl hl.1 rfl (lv_room (Nat.le_of_ble_eq_true rfl)) dX5_copy_1 ⟨Nat.zero_le _, Nat.zero_le _⟩) (fun r_1 er_1 => ?_)
  subst er_1
  refine lz_if_ne (tgt := 14) hx hb dX5_copy_4 (by decide) (fun c_2 => ?_) (fun c_2 => ?_)
  · refine lv_aload_n hx hb dX5_copy_14 rfl (lv_at hl 0 rfl) ?_
    refine lv_iconst (v := (-1)) hx hb dX5_copy_15 (by decide) ?_
    refine callMi (va_runV (As := [.int (-1 : Int32)]) (rest := []) ⟨hx, hb, hml, hown, hts⟩ (c_X5_refused l D cI cZ cS q N V A s.heap.size (-1 : Int32)) (cwV 1 hts gX5_copy_X5_refused rfl rfl rfl (by decide +kernel) ⟨Nat.le_of_ble_eq_true rfl, Nat.le_of_ble_eq_true rfl⟩) (preMm hK hP hD) rfl rfl hl.1 rfl (lv_room (Nat.le_of_ble_eq_true rfl)) dX5_copy_16 ⟨Nat.zero_le _, Nat.zero_le _⟩) hD hS hA (fun H locs hP hD hS => ?_)
    have hEE : s_X5_copy N V A k0 i0 o0 j0 n0 = ((s_X5_refused N V A (-1 : Int32)).1, (s_X5_refused N V A (-1 : Int32)).2.1, (s_X5_refused N V A (-1 : Int32)).2.2.1, (s_X5_refused N V A (-1 : Int32)).2.2.2) := (by rw [s_X5_copy, if_pos c_2])
    rw [hEE]
    exact W.iret (v := (s_X5_refused N V A (-1 : Int32)).1) hx hb hr (fun t ht hW => ⟨⟨_, (), rfl, rfl, ⟨by rw [ht]; exact hP, va_K.moved hW.alike hK⟩, hD⟩, hS.F ht⟩) hS.2.2 dX5_copy_19
  · obtain ⟨hlt_k0, heq_k0⟩ := noSheet_f c_2
    have hl : lv_has ls 7 [(0, .ref (q 0)), (1, .int (nI k0.toNatClampNeg)), (2, .int i0), (3, .int o0), (4, .int j0), (5, .int n0)] := by rw [heq_k0]; exact hl
    refine lv_iload_n hx hb dX5_copy_7 rfl (lv_at hl 3 rfl) ?_
    refine vp_callSi (W.runS (As := [.int o0]) (rest := []) ⟨hx, hb, hml, hown, hts⟩ (c_X5_noSheet l o0) (cwS 1 hts gX5_copy_X5_noSheet rfl rfl rfl (by decide +kernel) ⟨Nat.le_of_ble_eq_true rfl, Nat.le_of_ble_eq_true rfl⟩) (preEq) rfl rfl hl.1 rfl (lv_room (Nat.le_of_ble_eq_true rfl)) dX5_copy_8 ⟨Nat.zero_le _, Nat.zero_le _⟩) (fun r_3 er_3 => ?_)
    subst er_3
    refine lz_if_eq (tgt := 20) hx hb dX5_copy_11 (by decide) (fun c_4 => ?_) (fun c_4 => ?_)
    · obtain ⟨hlt_o0, heq_o0⟩ := noSheet_f c_4
      have hl : lv_has ls 7 [(0, .ref (q 0)), (1, .int (nI k0.toNatClampNeg)), (2, .int i0), (3, .int (nI o0.toNatClampNeg)), (4, .int j0), (5, .int n0)] := by rw [heq_o0]; exact hl
      refine lv_aload_n hx hb dX5_copy_20 rfl (lv_at hl 0 rfl) ?_
      refine va_get (D := D) (ci := 5) (v := .ref (q 14)) (C := RX5) (T := TX5) (N := 22) hx hb hts hin5 hown hK hP 0 rfl rfl 17 (by decide) (hts (.fieldLink RX5 50 "NeckShipModel" "sheetSize" "[I") (by decide +kernel)) (fun _ h9 => h9) rfl dX5_copy_21 ?_
      refine lv_iload_n hx hb dX5_copy_24 rfl (lv_at hl 1 rfl) ?_
      refine va_ialdN (i := k0.toNatClampNeg) hx hb hK hP 14 0 rfl rfl (by decide) (by omega) dX5_copy_25 ?_
      refine lv_if_lt (tgt := 38) hx hb dX5_copy_26 (by decide) (fun c_5 => ?_) (fun c_5 => ?_)
      · refine lv_aload_n hx hb dX5_copy_38 rfl (lv_at hl 0 rfl) ?_
        refine lv_iconst (v := (1)) hx hb dX5_copy_39 (by decide) ?_
        refine callMi (va_runV (As := [.int (1 : Int32)]) (rest := []) ⟨hx, hb, hml, hown, hts⟩ (c_X5_failed l D cI cZ cS q N V A s.heap.size (1 : Int32)) (cwV 1 hts gX5_copy_X5_failed rfl rfl rfl (by decide +kernel) ⟨Nat.le_of_ble_eq_true rfl, Nat.le_of_ble_eq_true rfl⟩) (preMm hK hP hD) rfl rfl hl.1 rfl (lv_room (Nat.le_of_ble_eq_true rfl)) dX5_copy_40 ⟨Nat.zero_le _, Nat.zero_le _⟩) hD hS hA (fun H locs hP hD hS => ?_)
        have hEE : s_X5_copy N V A k0 i0 o0 j0 n0 = ((s_X5_failed N V A (1 : Int32)).1, (s_X5_failed N V A (1 : Int32)).2.1, (s_X5_failed N V A (1 : Int32)).2.2.1, (s_X5_failed N V A (1 : Int32)).2.2.2) := (by rw [s_X5_copy, if_neg (nb c_2), if_neg (nb c_4), if_pos c_5])
        rw [hEE]
        exact W.iret (v := (s_X5_failed N V A (1 : Int32)).1) hx hb hr (fun t ht hW => ⟨⟨_, (), rfl, rfl, ⟨by rw [ht]; exact hP, va_K.moved hW.alike hK⟩, hD⟩, hS.F ht⟩) hS.2.2 dX5_copy_43
      · refine lv_aload_n hx hb dX5_copy_29 rfl (lv_at hl 0 rfl) ?_
        refine va_get (D := D) (ci := 5) (v := .ref (q 14)) (C := RX5) (T := TX5) (N := 22) hx hb hts hin5 hown hK hP 0 rfl rfl 17 (by decide) (hts (.fieldLink RX5 50 "NeckShipModel" "sheetSize" "[I") (by decide +kernel)) (fun _ h9 => h9) rfl dX5_copy_30 ?_
        refine lv_iload_n hx hb dX5_copy_33 rfl (lv_at hl 3 rfl) ?_
        refine va_ialdN (i := o0.toNatClampNeg) hx hb hK hP 14 0 rfl rfl (by decide) (by omega) dX5_copy_34 ?_
        refine lv_if_ge (tgt := 44) hx hb dX5_copy_35 (by decide) (fun c_6 => ?_) (fun c_6 => ?_)
        · refine lv_aload_n hx hb dX5_copy_44 rfl (lv_at hl 0 rfl) ?_
          refine va_get (D := D) (ci := 5) (v := .ref (q 15)) (C := RX5) (T := TX5) (N := 22) hx hb hts hin5 hown hK hP 0 rfl rfl 18 (by decide) (hts (.fieldLink RX5 53 "NeckShipModel" "sheetLane" "[I") (by decide +kernel)) (fun _ h9 => h9) rfl dX5_copy_45 ?_
          refine lv_iload_n hx hb dX5_copy_48 rfl (lv_at hl 1 rfl) ?_
          refine va_ialdN (i := k0.toNatClampNeg) hx hb hK hP 15 0 rfl rfl (by decide) (by omega) dX5_copy_49 ?_
          refine lv_aload_n hx hb dX5_copy_50 rfl (lv_at hl 0 rfl) ?_
          refine va_get (D := D) (ci := 5) (v := .ref (q 15)) (C := RX5) (T := TX5) (N := 22) hx hb hts hin5 hown hK hP 0 rfl rfl 18 (by decide) (hts (.fieldLink RX5 53 "NeckShipModel" "sheetLane" "[I") (by decide +kernel)) (fun _ h9 => h9) rfl dX5_copy_51 ?_
          refine lv_iload_n hx hb dX5_copy_54 rfl (lv_at hl 3 rfl) ?_
          refine va_ialdN (i := o0.toNatClampNeg) hx hb hK hP 15 0 rfl rfl (by decide) (by omega) dX5_copy_55 ?_
          refine lv_icmp_eq (tgt := 65) hx hb dX5_copy_56 (by decide) (fun c_7 => ?_) (fun c_7 => ?_)
          · refine lv_iload_n hx hb dX5_copy_65 rfl (lv_at hl 2 rfl) ?_
            refine lv_iload hx hb dX5_copy_66 (lv_at hl 5 rfl) ?_
            refine lv_i2l (v := (n0).toInt64) hx hb dX5_copy_68 rfl ?_
            refine lv_aload_n hx hb dX5_copy_69 rfl (lv_at hl 0 rfl) ?_
            refine va_get (D := D) (ci := 5) (v := .ref (q 14)) (C := RX5) (T := TX5) (N := 22) hx hb hts hin5 hown hK hP 0 rfl rfl 17 (by decide) (hts (.fieldLink RX5 50 "NeckShipModel" "sheetSize" "[I") (by decide +kernel)) (fun _ h9 => h9) rfl dX5_copy_70 ?_
            refine lv_iload_n hx hb dX5_copy_73 rfl (lv_at hl 1 rfl) ?_
            refine va_ialdN (i := k0.toNatClampNeg) hx hb hK hP 14 0 rfl rfl (by decide) (by omega) dX5_copy_74 ?_
            refine vp_callSi (W.runS (As := [.int i0, .long ((n0).toInt64), .int (A 14 k0.toNatClampNeg)]) (rest := []) ⟨hx, hb, hml, hown, hts⟩ (c_X5_isBeyond l i0 ((n0).toInt64) (A 14 k0.toNatClampNeg)) (cwS 3 hts gX5_copy_X5_isBeyond rfl rfl rfl (by decide +kernel) ⟨Nat.le_of_ble_eq_true rfl, Nat.le_of_ble_eq_true rfl⟩) (preEq) rfl rfl hl.1 rfl (lv_room (Nat.le_of_ble_eq_true rfl)) dX5_copy_75 ⟨Nat.zero_le _, Nat.zero_le _⟩) (fun r_8 er_8 => ?_)
            subst er_8
            refine lz_if_ne (tgt := 98) hx hb dX5_copy_78 (by decide) (fun c_9 => ?_) (fun c_9 => ?_)
            · refine lv_aload_n hx hb dX5_copy_98 rfl (lv_at hl 0 rfl) ?_
              refine lv_iconst (v := (3)) hx hb dX5_copy_99 (by decide) ?_
              refine callMi (va_runV (As := [.int (3 : Int32)]) (rest := []) ⟨hx, hb, hml, hown, hts⟩ (c_X5_failed l D cI cZ cS q N V A s.heap.size (3 : Int32)) (cwV 1 hts gX5_copy_X5_failed rfl rfl rfl (by decide +kernel) ⟨Nat.le_of_ble_eq_true rfl, Nat.le_of_ble_eq_true rfl⟩) (preMm hK hP hD) rfl rfl hl.1 rfl (lv_room (Nat.le_of_ble_eq_true rfl)) dX5_copy_100 ⟨Nat.zero_le _, Nat.zero_le _⟩) hD hS hA (fun H locs hP hD hS => ?_)
              have hEE : s_X5_copy N V A k0 i0 o0 j0 n0 = ((s_X5_failed N V A (3 : Int32)).1, (s_X5_failed N V A (3 : Int32)).2.1, (s_X5_failed N V A (3 : Int32)).2.2.1, (s_X5_failed N V A (3 : Int32)).2.2.2) := (by rw [s_X5_copy, if_neg (nb c_2), if_neg (nb c_4), if_neg c_5, if_pos c_6, if_pos c_7, if_pos c_9])
              rw [hEE]
              exact W.iret (v := (s_X5_failed N V A (3 : Int32)).1) hx hb hr (fun t ht hW => ⟨⟨_, (), rfl, rfl, ⟨by rw [ht]; exact hP, va_K.moved hW.alike hK⟩, hD⟩, hS.F ht⟩) hS.2.2 dX5_copy_103
            · have hbi := c_9
              refine lv_iload hx hb dX5_copy_81 (lv_at hl 4 rfl) ?_
              refine lv_iload hx hb dX5_copy_83 (lv_at hl 5 rfl) ?_
              refine lv_i2l (v := (n0).toInt64) hx hb dX5_copy_85 rfl ?_
              refine lv_aload_n hx hb dX5_copy_86 rfl (lv_at hl 0 rfl) ?_
              refine va_get (D := D) (ci := 5) (v := .ref (q 14)) (C := RX5) (T := TX5) (N := 22) hx hb hts hin5 hown hK hP 0 rfl rfl 17 (by decide) (hts (.fieldLink RX5 50 "NeckShipModel" "sheetSize" "[I") (by decide +kernel)) (fun _ h9 => h9) rfl dX5_copy_87 ?_
              refine lv_iload_n hx hb dX5_copy_90 rfl (lv_at hl 3 rfl) ?_
              refine va_ialdN (i := o0.toNatClampNeg) hx hb hK hP 14 0 rfl rfl (by decide) (by omega) dX5_copy_91 ?_
              refine vp_callSi (W.runS (As := [.int j0, .long ((n0).toInt64), .int (A 14 o0.toNatClampNeg)]) (rest := []) ⟨hx, hb, hml, hown, hts⟩ (c_X5_isBeyond l j0 ((n0).toInt64) (A 14 o0.toNatClampNeg)) (cwS 3 hts gX5_copy_X5_isBeyond rfl rfl rfl (by decide +kernel) ⟨Nat.le_of_ble_eq_true rfl, Nat.le_of_ble_eq_true rfl⟩) (preEq) rfl rfl hl.1 rfl (lv_room (Nat.le_of_ble_eq_true rfl)) dX5_copy_92 ⟨Nat.zero_le _, Nat.zero_le _⟩) (fun r_10 er_10 => ?_)
              subst er_10
              refine lz_if_eq (tgt := 104) hx hb dX5_copy_95 (by decide) (fun c_11 => ?_) (fun c_11 => ?_)
              · obtain ⟨hle_a, heq_i0, heq_n0⟩ := beyond_n (h_1 _ (by omega)) hbi
                have hl : lv_has ls 7 [(0, .ref (q 0)), (1, .int (nI k0.toNatClampNeg)), (2, .int (nI i0.toNatClampNeg)), (3, .int (nI o0.toNatClampNeg)), (4, .int j0), (5, .int (nI n0.toNatClampNeg))] := by rw [heq_i0, heq_n0]; exact hl
                obtain ⟨hle_b, heq_j0, -⟩ := beyond_n (h_1 _ (by omega)) c_11
                have hl : lv_has ls 7 [(0, .ref (q 0)), (1, .int (nI k0.toNatClampNeg)), (2, .int (nI i0.toNatClampNeg)), (3, .int (nI o0.toNatClampNeg)), (4, .int (nI j0.toNatClampNeg)), (5, .int (nI n0.toNatClampNeg))] := by rw [heq_j0]; exact hl
                refine lv_iconst (v := (0)) hx hb dX5_copy_104 (by decide) ?_
                refine lv_istore (lv' := [(6, .int (0)), (0, .ref (q 0)), (1, .int (nI k0.toNatClampNeg)), (2, .int (nI i0.toNatClampNeg)), (3, .int (nI o0.toNatClampNeg)), (4, .int (nI j0.toNatClampNeg)), (5, .int (nI n0.toNatClampNeg))]) hx hb dX5_copy_105 hl (by decide) rfl (fun ls hl => ?_)
                have KL1 : ∀ (H : Heap) (locs : List Loc), va_P D vwCl (wM cI cZ q N V (s_X5_copy_L1 N V A k0 i0 o0 j0 n0 n0.toNatClampNeg 0 A)) H → va_D Ar (wM cI cZ q N V (s_X5_copy_L1 N V A k0 i0 o0 j0 n0 n0.toNatClampNeg 0 A)) → va_S Ar s.heap H locs → ∀ (ls : Array Slot), lv_has ls 7 [(0, .ref (q 0)), (1, .int (nI k0.toNatClampNeg)), (2, .int (nI i0.toNatClampNeg)), (3, .int (nI o0.toNatClampNeg)), (4, .int (nI j0.toNatClampNeg)), (5, .int (nI n0.toNatClampNeg))] → W p l e (headSpec wsX5_copy ({ frames := 2, cells := 0, slots := 0, locals := 45 })).room s m ([.ref (q 0), .int k0, .int i0, .int o0, .int j0, .int n0] : List Value).toArray below meth c H locs 0 0 (MQ below (va_Qi (fun r (_ : Unit) => r = (s_X5_copy N V A k0 i0 o0 j0 n0).1) (fun _ t => PM D cI cZ cS q (s_X5_copy N V A k0 i0 o0 j0 n0).2.1 (s_X5_copy N V A k0 i0 o0 j0 n0).2.2.1 (s_X5_copy N V A k0 i0 o0 j0 n0).2.2.2 t ∧ va_D Ar (wM cI cZ q (s_X5_copy N V A k0 i0 o0 j0 n0).2.1 (s_X5_copy N V A k0 i0 o0 j0 n0).2.2.1 (s_X5_copy N V A k0 i0 o0 j0 n0).2.2.2)) Ar) ([.ref (q 0), .int k0, .int i0, .int o0, .int j0, .int n0] : List Value).toArray s 0 0 Ar) (F0 m 141 ls []) := by
                  intro H locs hP hD hS ls hl
                  refine lv_iconst (v := (0)) hx hb dX5_copy_141 (by decide) ?_
                  refine lv_istore (lv' := [(6, .int (0)), (0, .ref (q 0)), (1, .int (nI k0.toNatClampNeg)), (2, .int (nI i0.toNatClampNeg)), (3, .int (nI o0.toNatClampNeg)), (4, .int (nI j0.toNatClampNeg)), (5, .int (nI n0.toNatClampNeg))]) hx hb dX5_copy_142 hl (by decide) rfl (fun ls hl => ?_)
                  have KL2 : ∀ (H : Heap) (locs : List Loc), va_P D vwCl (wM cI cZ q N V (s_X5_copy_L2 N V A k0 i0 o0 j0 n0 n0.toNatClampNeg 0 (s_X5_copy_L1 N V A k0 i0 o0 j0 n0 n0.toNatClampNeg 0 A))) H → va_D Ar (wM cI cZ q N V (s_X5_copy_L2 N V A k0 i0 o0 j0 n0 n0.toNatClampNeg 0 (s_X5_copy_L1 N V A k0 i0 o0 j0 n0 n0.toNatClampNeg 0 A))) → va_S Ar s.heap H locs → ∀ (ls : Array Slot), lv_has ls 7 [(0, .ref (q 0)), (1, .int (nI k0.toNatClampNeg)), (2, .int (nI i0.toNatClampNeg)), (3, .int (nI o0.toNatClampNeg)), (4, .int (nI j0.toNatClampNeg)), (5, .int (nI n0.toNatClampNeg))] → W p l e (headSpec wsX5_copy ({ frames := 2, cells := 0, slots := 0, locals := 45 })).room s m ([.ref (q 0), .int k0, .int i0, .int o0, .int j0, .int n0] : List Value).toArray below meth c H locs 0 0 (MQ below (va_Qi (fun r (_ : Unit) => r = (s_X5_copy N V A k0 i0 o0 j0 n0).1) (fun _ t => PM D cI cZ cS q (s_X5_copy N V A k0 i0 o0 j0 n0).2.1 (s_X5_copy N V A k0 i0 o0 j0 n0).2.2.1 (s_X5_copy N V A k0 i0 o0 j0 n0).2.2.2 t ∧ va_D Ar (wM cI cZ q (s_X5_copy N V A k0 i0 o0 j0 n0).2.1 (s_X5_copy N V A k0 i0 o0 j0 n0).2.2.1 (s_X5_copy N V A k0 i0 o0 j0 n0).2.2.2)) Ar) ([.ref (q 0), .int k0, .int i0, .int o0, .int j0, .int n0] : List Value).toArray s 0 0 Ar) (F0 m 179 ls []) := by
                    intro H locs hP hD hS ls hl
                    refine lv_aload_n hx hb dX5_copy_179 rfl (lv_at hl 0 rfl) ?_
                    refine lv_iload hx hb dX5_copy_180 (lv_at hl 5 rfl) ?_
                    refine callMi (va_runV (As := [.int (nI n0.toNatClampNeg)]) (rest := []) ⟨hx, hb, hml, hown, hts⟩ (c_X5_refused l D cI cZ cS q N V (s_X5_copy_L2 N V A k0 i0 o0 j0 n0 n0.toNatClampNeg 0 (s_X5_copy_L1 N V A k0 i0 o0 j0 n0 n0.toNatClampNeg 0 A)) H.size (nI n0.toNatClampNeg)) (cwV 1 hts gX5_copy_X5_refused rfl rfl rfl (by decide +kernel) ⟨Nat.le_of_ble_eq_true rfl, Nat.le_of_ble_eq_true rfl⟩) (preMm hK hP hD) rfl rfl hl.1 rfl (lv_room (Nat.le_of_ble_eq_true rfl)) dX5_copy_182 ⟨Nat.zero_le _, Nat.zero_le _⟩) hD hS hA (fun H locs hP hD hS => ?_)
                    have hEE : s_X5_copy N V A k0 i0 o0 j0 n0 = ((s_X5_refused N V (s_X5_copy_L2 N V A k0 i0 o0 j0 n0 n0.toNatClampNeg 0 (s_X5_copy_L1 N V A k0 i0 o0 j0 n0 n0.toNatClampNeg 0 A)) (nI n0.toNatClampNeg)).1, (s_X5_refused N V (s_X5_copy_L2 N V A k0 i0 o0 j0 n0 n0.toNatClampNeg 0 (s_X5_copy_L1 N V A k0 i0 o0 j0 n0 n0.toNatClampNeg 0 A)) (nI n0.toNatClampNeg)).2.1, (s_X5_refused N V (s_X5_copy_L2 N V A k0 i0 o0 j0 n0 n0.toNatClampNeg 0 (s_X5_copy_L1 N V A k0 i0 o0 j0 n0 n0.toNatClampNeg 0 A)) (nI n0.toNatClampNeg)).2.2.1, (s_X5_refused N V (s_X5_copy_L2 N V A k0 i0 o0 j0 n0 n0.toNatClampNeg 0 (s_X5_copy_L1 N V A k0 i0 o0 j0 n0 n0.toNatClampNeg 0 A)) (nI n0.toNatClampNeg)).2.2.2) := (by rw [s_X5_copy, if_neg (nb c_2), if_neg (nb c_4), if_neg c_5, if_pos c_6, if_pos c_7, if_neg (nb c_9), if_neg (nb c_11)])
                    rw [hEE]
                    exact W.iret (v := (s_X5_refused N V (s_X5_copy_L2 N V A k0 i0 o0 j0 n0 n0.toNatClampNeg 0 (s_X5_copy_L1 N V A k0 i0 o0 j0 n0 n0.toNatClampNeg 0 A)) (nI n0.toNatClampNeg)).1) hx hb hr (fun t ht hW => ⟨⟨_, (), rfl, rfl, ⟨by rw [ht]; exact hP, va_K.moved hW.alike hK⟩, hD⟩, hS.F ht⟩) hS.2.2 dX5_copy_185
                  have LL2 : ∀ (n k : Nat) (A1 : Nat → Nat → Int32) (H : Heap) (locs : List Loc), va_P D vwCl (wM cI cZ q N V A1) H → va_D Ar (wM cI cZ q N V A1) → va_S Ar s.heap H locs → ∀ (ls : Array Slot), k + n = n0.toNatClampNeg → s_X5_copy_L2 N V A k0 i0 o0 j0 n0 n0.toNatClampNeg 0 (s_X5_copy_L1 N V A k0 i0 o0 j0 n0 n0.toNatClampNeg 0 A) = s_X5_copy_L2 N V A k0 i0 o0 j0 n0 n k A1 → lv_has ls 7 [(6, .int (nI k)), (0, .ref (q 0)), (1, .int (nI k0.toNatClampNeg)), (2, .int (nI i0.toNatClampNeg)), (3, .int (nI o0.toNatClampNeg)), (4, .int (nI j0.toNatClampNeg)), (5, .int (nI n0.toNatClampNeg))] → W p l e (headSpec wsX5_copy ({ frames := 2, cells := 0, slots := 0, locals := 45 })).room s m ([.ref (q 0), .int k0, .int i0, .int o0, .int j0, .int n0] : List Value).toArray below meth c H locs 0 0 (MQ below (va_Qi (fun r (_ : Unit) => r = (s_X5_copy N V A k0 i0 o0 j0 n0).1) (fun _ t => PM D cI cZ cS q (s_X5_copy N V A k0 i0 o0 j0 n0).2.1 (s_X5_copy N V A k0 i0 o0 j0 n0).2.2.1 (s_X5_copy N V A k0 i0 o0 j0 n0).2.2.2 t ∧ va_D Ar (wM cI cZ q (s_X5_copy N V A k0 i0 o0 j0 n0).2.1 (s_X5_copy N V A k0 i0 o0 j0 n0).2.2.1 (s_X5_copy N V A k0 i0 o0 j0 n0).2.2.2)) Ar) ([.ref (q 0), .int k0, .int i0, .int o0, .int j0, .int n0] : List Value).toArray s 0 0 Ar) (F0 m 144 ls []) := by
                    intro n
                    induction n with
                    | zero =>
                      intro k A1 H locs hP hD hS ls hk hF hl
                      refine lv_iload hx hb dX5_copy_144 (lv_at hl 0 rfl) ?_
                      refine lv_iload hx hb dX5_copy_146 (lv_at hl 6 rfl) ?_
                      refine lv_icmp_ge (tgt := 179) hx hb dX5_copy_148 (by decide) (fun _ => ?_) (fun c_12 => absurd (nI_le (by omega) (by omega)) c_12)
                      have hF : s_X5_copy_L2 N V A k0 i0 o0 j0 n0 n0.toNatClampNeg 0 (s_X5_copy_L1 N V A k0 i0 o0 j0 n0 n0.toNatClampNeg 0 A) = A1 := hF.trans (by rw [s_X5_copy_L2])
                      exact KL2 _ _ (by (try rw [hF]); exact hP) (by (try rw [hF]); exact hD) hS _ (by (try rw [hF]); exact lv_sub hl [1, 2, 3, 4, 5, 6] rfl)
                    | succ n ih =>
                      intro k A1 H locs hP hD hS ls hk hF hl
                      refine lv_iload hx hb dX5_copy_144 (lv_at hl 0 rfl) ?_
                      refine lv_iload hx hb dX5_copy_146 (lv_at hl 6 rfl) ?_
                      refine lv_icmp_ge (tgt := 179) hx hb dX5_copy_148 (by decide) (fun c_13 => absurd c_13 (nI_ge (by omega) (by omega))) (fun _ => ?_)
                      refine lv_aload_n hx hb dX5_copy_151 rfl (lv_at hl 1 rfl) ?_
                      refine va_get (D := D) (ci := 5) (v := .ref (q 16)) (C := RX5) (T := TX5) (N := 22) hx hb hts hin5 hown hK hP 0 rfl rfl 19 (by decide) (hts (.fieldLink RX5 56 "NeckShipModel" "sheet" "[I") (by decide +kernel)) (fun _ h9 => h9) rfl dX5_copy_152 ?_
                      refine lv_bipush (v := (50)) hx hb dX5_copy_155 (by decide) ?_
                      refine lv_iload_n hx hb dX5_copy_157 rfl (lv_at hl 4 rfl) ?_
                      refine lv_imul hx hb dX5_copy_158 ?_
                      rw [show (50 : Int32) * nI o0.toNatClampNeg = nI (50 * o0.toNatClampNeg) from pk_mul 50 o0.toNatClampNeg]
                      refine lv_iload hx hb dX5_copy_159 (lv_at hl 5 rfl) ?_
                      refine lv_iadd hx hb dX5_copy_161 ?_
                      rw [nI_add (50 * o0.toNatClampNeg) j0.toNatClampNeg]
                      refine lv_iload hx hb dX5_copy_162 (lv_at hl 0 rfl) ?_
                      refine lv_iadd hx hb dX5_copy_164 ?_
                      rw [nI_add ((50 * o0.toNatClampNeg) + j0.toNatClampNeg) k]
                      refine lv_aload_n hx hb dX5_copy_165 rfl (lv_at hl 1 rfl) ?_
                      refine va_get (D := D) (ci := 5) (v := .ref (q 17)) (C := RX5) (T := TX5) (N := 22) hx hb hts hin5 hown hK hP 0 rfl rfl 20 (by decide) (hts (.fieldLink RX5 59 "NeckShipModel" "hands" "[I") (by decide +kernel)) (fun _ h9 => h9) rfl dX5_copy_166 ?_
                      refine lv_iload hx hb dX5_copy_169 (lv_at hl 0 rfl) ?_
                      refine va_ialdN (i := k) hx hb hK hP 17 0 rfl rfl (by decide) (by omega) dX5_copy_171 ?_
                      refine va_iastN (i := (((50 * o0.toNatClampNeg) + j0.toNatClampNeg) + k)) hx hb hK hP hD hS 16 0 rfl rfl (by decide) (by omega) dX5_copy_172 (fun H locs hP hD hS => ?_)
                      have hP : va_P D vwCl (wM cI cZ q N V (va_up A1 16 (upd (A1 16) (((50 * o0.toNatClampNeg) + j0.toNatClampNeg) + k) (A1 17 k)))) H := hP
                      have hD : va_D Ar (wM cI cZ q N V (va_up A1 16 (upd (A1 16) (((50 * o0.toNatClampNeg) + j0.toNatClampNeg) + k) (A1 17 k)))) := hD
                      refine lv_iinc (v := nI (k + 1)) (lv' := [(6, .int (nI (k + 1))), (0, .ref (q 0)), (1, .int (nI k0.toNatClampNeg)), (2, .int (nI i0.toNatClampNeg)), (3, .int (nI o0.toNatClampNeg)), (4, .int (nI j0.toNatClampNeg)), (5, .int (nI n0.toNatClampNeg))]) hx hb dX5_copy_173 hl (k := 0) rfl (nI_1 k) (by decide) rfl (fun ls hl => ?_)
                      refine lv_goto (tgt := 144) hx hb dX5_copy_176 (by decide) ?_
                      exact ih (k + 1) (va_up A1 16 (upd (A1 16) (((50 * o0.toNatClampNeg) + j0.toNatClampNeg) + k) (A1 17 k))) _ _ hP hD hS _ (by omega) (hF.trans (by rw [s_X5_copy_L2])) (lv_sub hl [0, 1, 2, 3, 4, 5, 6] rfl)
                  exact LL2 n0.toNatClampNeg 0 (s_X5_copy_L1 N V A k0 i0 o0 j0 n0 n0.toNatClampNeg 0 A) _ _ hP hD hS _ (by omega) rfl (lv_sub hl [0, 1, 2, 3, 4, 5, 6] rfl)
                have LL1 : ∀ (n k : Nat) (A1 : Nat → Nat → Int32) (H : Heap) (locs : List Loc), va_P D vwCl (wM cI cZ q N V A1) H → va_D Ar (wM cI cZ q N V A1) → va_S Ar s.heap H locs → ∀ (ls : Array Slot), k + n = n0.toNatClampNeg → s_X5_copy_L1 N V A k0 i0 o0 j0 n0 n0.toNatClampNeg 0 A = s_X5_copy_L1 N V A k0 i0 o0 j0 n0 n k A1 → lv_has ls 7 [(6, .int (nI k)), (0, .ref (q 0)), (1, .int (nI k0.toNatClampNeg)), (2, .int (nI i0.toNatClampNeg)), (3, .int (nI o0.toNatClampNeg)), (4, .int (nI j0.toNatClampNeg)), (5, .int (nI n0.toNatClampNeg))] → W p l e (headSpec wsX5_copy ({ frames := 2, cells := 0, slots := 0, locals := 45 })).room s m ([.ref (q 0), .int k0, .int i0, .int o0, .int j0, .int n0] : List Value).toArray below meth c H locs 0 0 (MQ below (va_Qi (fun r (_ : Unit) => r = (s_X5_copy N V A k0 i0 o0 j0 n0).1) (fun _ t => PM D cI cZ cS q (s_X5_copy N V A k0 i0 o0 j0 n0).2.1 (s_X5_copy N V A k0 i0 o0 j0 n0).2.2.1 (s_X5_copy N V A k0 i0 o0 j0 n0).2.2.2 t ∧ va_D Ar (wM cI cZ q (s_X5_copy N V A k0 i0 o0 j0 n0).2.1 (s_X5_copy N V A k0 i0 o0 j0 n0).2.2.1 (s_X5_copy N V A k0 i0 o0 j0 n0).2.2.2)) Ar) ([.ref (q 0), .int k0, .int i0, .int o0, .int j0, .int n0] : List Value).toArray s 0 0 Ar) (F0 m 107 ls []) := by
                  intro n
                  induction n with
                  | zero =>
                    intro k A1 H locs hP hD hS ls hk hF hl
                    refine lv_iload hx hb dX5_copy_107 (lv_at hl 0 rfl) ?_
                    refine lv_iload hx hb dX5_copy_109 (lv_at hl 6 rfl) ?_
                    refine lv_icmp_ge (tgt := 141) hx hb dX5_copy_111 (by decide) (fun _ => ?_) (fun c_14 => absurd (nI_le (by omega) (by omega)) c_14)
                    have hF : s_X5_copy_L1 N V A k0 i0 o0 j0 n0 n0.toNatClampNeg 0 A = A1 := hF.trans (by rw [s_X5_copy_L1])
                    exact KL1 _ _ (by (try rw [hF]); exact hP) (by (try rw [hF]); exact hD) hS _ (by (try rw [hF]); exact lv_sub hl [1, 2, 3, 4, 5, 6] rfl)
                  | succ n ih =>
                    intro k A1 H locs hP hD hS ls hk hF hl
                    refine lv_iload hx hb dX5_copy_107 (lv_at hl 0 rfl) ?_
                    refine lv_iload hx hb dX5_copy_109 (lv_at hl 6 rfl) ?_
                    refine lv_icmp_ge (tgt := 141) hx hb dX5_copy_111 (by decide) (fun c_15 => absurd c_15 (nI_ge (by omega) (by omega))) (fun _ => ?_)
                    refine lv_aload_n hx hb dX5_copy_114 rfl (lv_at hl 1 rfl) ?_
                    refine va_get (D := D) (ci := 5) (v := .ref (q 17)) (C := RX5) (T := TX5) (N := 22) hx hb hts hin5 hown hK hP 0 rfl rfl 20 (by decide) (hts (.fieldLink RX5 59 "NeckShipModel" "hands" "[I") (by decide +kernel)) (fun _ h9 => h9) rfl dX5_copy_115 ?_
                    refine lv_iload hx hb dX5_copy_118 (lv_at hl 0 rfl) ?_
                    refine lv_aload_n hx hb dX5_copy_120 rfl (lv_at hl 1 rfl) ?_
                    refine va_get (D := D) (ci := 5) (v := .ref (q 16)) (C := RX5) (T := TX5) (N := 22) hx hb hts hin5 hown hK hP 0 rfl rfl 19 (by decide) (hts (.fieldLink RX5 56 "NeckShipModel" "sheet" "[I") (by decide +kernel)) (fun _ h9 => h9) rfl dX5_copy_121 ?_
                    refine lv_bipush (v := (50)) hx hb dX5_copy_124 (by decide) ?_
                    refine lv_iload_n hx hb dX5_copy_126 rfl (lv_at hl 2 rfl) ?_
                    refine lv_imul hx hb dX5_copy_127 ?_
                    rw [show (50 : Int32) * nI k0.toNatClampNeg = nI (50 * k0.toNatClampNeg) from pk_mul 50 k0.toNatClampNeg]
                    refine lv_iload_n hx hb dX5_copy_128 rfl (lv_at hl 3 rfl) ?_
                    refine lv_iadd hx hb dX5_copy_129 ?_
                    rw [nI_add (50 * k0.toNatClampNeg) i0.toNatClampNeg]
                    refine lv_iload hx hb dX5_copy_130 (lv_at hl 0 rfl) ?_
                    refine lv_iadd hx hb dX5_copy_132 ?_
                    rw [nI_add ((50 * k0.toNatClampNeg) + i0.toNatClampNeg) k]
                    refine va_ialdN (i := (((50 * k0.toNatClampNeg) + i0.toNatClampNeg) + k)) hx hb hK hP 16 0 rfl rfl (by decide) (by omega) dX5_copy_133 ?_
                    refine va_iastN (i := k) hx hb hK hP hD hS 17 0 rfl rfl (by decide) (by omega) dX5_copy_134 (fun H locs hP hD hS => ?_)
                    have hP : va_P D vwCl (wM cI cZ q N V (va_up A1 17 (upd (A1 17) k (A1 16 (((50 * k0.toNatClampNeg) + i0.toNatClampNeg) + k))))) H := hP
                    have hD : va_D Ar (wM cI cZ q N V (va_up A1 17 (upd (A1 17) k (A1 16 (((50 * k0.toNatClampNeg) + i0.toNatClampNeg) + k))))) := hD
                    refine lv_iinc (v := nI (k + 1)) (lv' := [(6, .int (nI (k + 1))), (0, .ref (q 0)), (1, .int (nI k0.toNatClampNeg)), (2, .int (nI i0.toNatClampNeg)), (3, .int (nI o0.toNatClampNeg)), (4, .int (nI j0.toNatClampNeg)), (5, .int (nI n0.toNatClampNeg))]) hx hb dX5_copy_135 hl (k := 0) rfl (nI_1 k) (by decide) rfl (fun ls hl => ?_)
                    refine lv_goto (tgt := 107) hx hb dX5_copy_138 (by decide) ?_
                    exact ih (k + 1) (va_up A1 17 (upd (A1 17) k (A1 16 (((50 * k0.toNatClampNeg) + i0.toNatClampNeg) + k)))) _ _ hP hD hS _ (by omega) (hF.trans (by rw [s_X5_copy_L1])) (lv_sub hl [0, 1, 2, 3, 4, 5, 6] rfl)
                exact LL1 n0.toNatClampNeg 0 A _ _ hP hD hS _ (by omega) rfl (lv_sub hl [0, 1, 2, 3, 4, 5, 6] rfl)
              · refine lv_aload_n hx hb dX5_copy_98 rfl (lv_at hl 0 rfl) ?_
                refine lv_iconst (v := (3)) hx hb dX5_copy_99 (by decide) ?_
                refine callMi (va_runV (As := [.int (3 : Int32)]) (rest := []) ⟨hx, hb, hml, hown, hts⟩ (c_X5_failed l D cI cZ cS q N V A s.heap.size (3 : Int32)) (cwV 1 hts gX5_copy_X5_failed rfl rfl rfl (by decide +kernel) ⟨Nat.le_of_ble_eq_true rfl, Nat.le_of_ble_eq_true rfl⟩) (preMm hK hP hD) rfl rfl hl.1 rfl (lv_room (Nat.le_of_ble_eq_true rfl)) dX5_copy_100 ⟨Nat.zero_le _, Nat.zero_le _⟩) hD hS hA (fun H locs hP hD hS => ?_)
                have hEE : s_X5_copy N V A k0 i0 o0 j0 n0 = ((s_X5_failed N V A (3 : Int32)).1, (s_X5_failed N V A (3 : Int32)).2.1, (s_X5_failed N V A (3 : Int32)).2.2.1, (s_X5_failed N V A (3 : Int32)).2.2.2) := (by rw [s_X5_copy, if_neg (nb c_2), if_neg (nb c_4), if_neg c_5, if_pos c_6, if_pos c_7, if_neg (nb c_9), if_pos c_11])
                rw [hEE]
                exact W.iret (v := (s_X5_failed N V A (3 : Int32)).1) hx hb hr (fun t ht hW => ⟨⟨_, (), rfl, rfl, ⟨by rw [ht]; exact hP, va_K.moved hW.alike hK⟩, hD⟩, hS.F ht⟩) hS.2.2 dX5_copy_103
          · refine lv_aload_n hx hb dX5_copy_59 rfl (lv_at hl 0 rfl) ?_
            refine lv_iconst (v := (2)) hx hb dX5_copy_60 (by decide) ?_
            refine callMi (va_runV (As := [.int (2 : Int32)]) (rest := []) ⟨hx, hb, hml, hown, hts⟩ (c_X5_failed l D cI cZ cS q N V A s.heap.size (2 : Int32)) (cwV 1 hts gX5_copy_X5_failed rfl rfl rfl (by decide +kernel) ⟨Nat.le_of_ble_eq_true rfl, Nat.le_of_ble_eq_true rfl⟩) (preMm hK hP hD) rfl rfl hl.1 rfl (lv_room (Nat.le_of_ble_eq_true rfl)) dX5_copy_61 ⟨Nat.zero_le _, Nat.zero_le _⟩) hD hS hA (fun H locs hP hD hS => ?_)
            have hEE : s_X5_copy N V A k0 i0 o0 j0 n0 = ((s_X5_failed N V A (2 : Int32)).1, (s_X5_failed N V A (2 : Int32)).2.1, (s_X5_failed N V A (2 : Int32)).2.2.1, (s_X5_failed N V A (2 : Int32)).2.2.2) := (by rw [s_X5_copy, if_neg (nb c_2), if_neg (nb c_4), if_neg c_5, if_pos c_6, if_neg c_7])
            rw [hEE]
            exact W.iret (v := (s_X5_failed N V A (2 : Int32)).1) hx hb hr (fun t ht hW => ⟨⟨_, (), rfl, rfl, ⟨by rw [ht]; exact hP, va_K.moved hW.alike hK⟩, hD⟩, hS.F ht⟩) hS.2.2 dX5_copy_64
        · refine lv_aload_n hx hb dX5_copy_38 rfl (lv_at hl 0 rfl) ?_
          refine lv_iconst (v := (1)) hx hb dX5_copy_39 (by decide) ?_
          refine callMi (va_runV (As := [.int (1 : Int32)]) (rest := []) ⟨hx, hb, hml, hown, hts⟩ (c_X5_failed l D cI cZ cS q N V A s.heap.size (1 : Int32)) (cwV 1 hts gX5_copy_X5_failed rfl rfl rfl (by decide +kernel) ⟨Nat.le_of_ble_eq_true rfl, Nat.le_of_ble_eq_true rfl⟩) (preMm hK hP hD) rfl rfl hl.1 rfl (lv_room (Nat.le_of_ble_eq_true rfl)) dX5_copy_40 ⟨Nat.zero_le _, Nat.zero_le _⟩) hD hS hA (fun H locs hP hD hS => ?_)
          have hEE : s_X5_copy N V A k0 i0 o0 j0 n0 = ((s_X5_failed N V A (1 : Int32)).1, (s_X5_failed N V A (1 : Int32)).2.1, (s_X5_failed N V A (1 : Int32)).2.2.1, (s_X5_failed N V A (1 : Int32)).2.2.2) := (by rw [s_X5_copy, if_neg (nb c_2), if_neg (nb c_4), if_neg c_5, if_neg c_6])
          rw [hEE]
          exact W.iret (v := (s_X5_failed N V A (1 : Int32)).1) hx hb hr (fun t ht hW => ⟨⟨_, (), rfl, rfl, ⟨by rw [ht]; exact hP, va_K.moved hW.alike hK⟩, hD⟩, hS.F ht⟩) hS.2.2 dX5_copy_43
    · refine lv_aload_n hx hb dX5_copy_14 rfl (lv_at hl 0 rfl) ?_
      refine lv_iconst (v := (-1)) hx hb dX5_copy_15 (by decide) ?_
      refine callMi (va_runV (As := [.int (-1 : Int32)]) (rest := []) ⟨hx, hb, hml, hown, hts⟩ (c_X5_refused l D cI cZ cS q N V A s.heap.size (-1 : Int32)) (cwV 1 hts gX5_copy_X5_refused rfl rfl rfl (by decide +kernel) ⟨Nat.le_of_ble_eq_true rfl, Nat.le_of_ble_eq_true rfl⟩) (preMm hK hP hD) rfl rfl hl.1 rfl (lv_room (Nat.le_of_ble_eq_true rfl)) dX5_copy_16 ⟨Nat.zero_le _, Nat.zero_le _⟩) hD hS hA (fun H locs hP hD hS => ?_)
      have hEE : s_X5_copy N V A k0 i0 o0 j0 n0 = ((s_X5_refused N V A (-1 : Int32)).1, (s_X5_refused N V A (-1 : Int32)).2.1, (s_X5_refused N V A (-1 : Int32)).2.2.1, (s_X5_refused N V A (-1 : Int32)).2.2.2) := (by rw [s_X5_copy, if_neg (nb c_2), if_pos c_4])
      rw [hEE]
      exact W.iret (v := (s_X5_refused N V A (-1 : Int32)).1) hx hb hr (fun t ht hW => ⟨⟨_, (), rfl, rfl, ⟨by rw [ht]; exact hP, va_K.moved hW.alike hK⟩, hD⟩, hS.F ht⟩) hS.2.2 dX5_copy_19
