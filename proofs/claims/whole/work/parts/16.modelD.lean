def s_X5_noCell (N : Nat → Nat) (V : Nat → Int32) (A : Nat → Nat → Int32)  (k0 : Nat) (i0 : Int32) : Int32 :=
  if 0 ≤ A 14 k0 then
    if (s_X5_in ((i0).toInt64) (0 : Int64) ((A 14 k0).toInt64 - (1 : Int64))) = true then
      (0 : Int32)
    else
      (3 : Int32)
  else
    (1 : Int32)
set_option maxHeartbeats 4000000 in
set_option maxRecDepth 100000 in
theorem c_X5_noCell (l : Launch) (D : va_G) (cI cZ cS : ClassId) (q : Nat → Nat) (N : Nat → Nat) (V : Nat → Int32) (A : Nat → Nat → Int32) (k0 : Nat) (i0 : Int32) (h_1 : k0 < 4) : Met l yX5_noCell wsX5_noCell ({ frames := 1, cells := 0, slots := 0, locals := 25 }) (va_Pc [.ref (q 0), .int (nI k0), .int i0] (PM D cI cZ cS q N V A)) (vp_Si (fun r => r = (s_X5_noCell N V A k0 i0))) 0 0 (fun _ => False) := by
  refine Met.ofW (cc := cX5_noCell) (maxL := 3) (ret := (some .int)) (by decide) rfl ?_
  intro p e s m args below meth c s₁ B hml hv
  obtain ⟨rfl, hP, hK⟩ := hv
  have hx := B.exec
  have hb := B.bytes
  have hr := B.returns
  have hts := atoms_spec (ws := wsX5_noCell) B.pre
  have hown : s.vm.findClass RX5 = some m.cls := findClass_of_methodNamed B.named
  have hlocks := B.notSynchronized
  have hin5 : ∀ w ∈ u_ws RX5 TX5 22, w ∈ wsX5_noCell := by decide +kernel
  have hl := lv_entry ([.ref (q 0), .int (nI k0), .int i0]) (n := 3) (Nat.le_of_ble_eq_true rfl)
  rw [lg_entry_eq]
  generalize (lg_sl ([.ref (q 0), .int (nI k0), .int i0]) ++ List.replicate (3 - (lg_sl ([.ref (q 0), .int (nI k0), .int i0])).length) Slot.unset).toArray = ls at hl ⊢
  have hl : lv_has ls 3 [(0, .ref (q 0)), (1, .int (nI k0)), (2, .int i0)] := hl
  refine lv_aload_n hx hb dX5_noCell_0 rfl (lv_at hl 0 rfl) ?_
  refine va_get (D := D) (ci := 5) (v := .ref (q 14)) (C := RX5) (T := TX5) (N := 22) hx hb hts hin5 hown hK hP 0 rfl rfl 17 (by decide) (hts (.fieldLink RX5 50 "NeckShipModel" "sheetSize" "[I") (by decide +kernel)) (fun _ h9 => h9) rfl dX5_noCell_1 ?_
  refine lv_iload_n hx hb dX5_noCell_4 rfl (lv_at hl 1 rfl) ?_
  refine va_ialdN (i := k0) hx hb hK hP 14 0 rfl rfl (by decide) (by omega) dX5_noCell_5 ?_
  refine lv_if_ge (tgt := 13) hx hb dX5_noCell_6 (by decide) (fun c_1 => ?_) (fun c_1 => ?_)
  · refine lv_iload_n hx hb dX5_noCell_13 rfl (lv_at hl 2 rfl) ?_
    refine lv_i2l (v := (i0).toInt64) hx hb dX5_noCell_14 rfl ?_
    refine lv_lconst (v := (0)) hx hb dX5_noCell_15 (by decide) ?_
    refine lv_aload_n hx hb dX5_noCell_16 rfl (lv_at hl 0 rfl) ?_
    refine va_get (D := D) (ci := 5) (v := .ref (q 14)) (C := RX5) (T := TX5) (N := 22) hx hb hts hin5 hown hK hP 0 rfl rfl 17 (by decide) (hts (.fieldLink RX5 50 "NeckShipModel" "sheetSize" "[I") (by decide +kernel)) (fun _ h9 => h9) rfl dX5_noCell_17 ?_
    refine lv_iload_n hx hb dX5_noCell_20 rfl (lv_at hl 1 rfl) ?_
    refine va_ialdN (i := k0) hx hb hK hP 14 0 rfl rfl (by decide) (by omega) dX5_noCell_21 ?_
    refine lv_i2l (v := (A 14 k0).toInt64) hx hb dX5_noCell_22 rfl ?_
    refine lv_lconst (v := (1)) hx hb dX5_noCell_23 (by decide) ?_
    refine lv_lsub hx hb dX5_noCell_24 ?_
    refine vp_callSi (W.runS (As := [.long ((i0).toInt64), .long (0 : Int64), .long ((A 14 k0).toInt64 - (1 : Int64))]) (rest := []) ⟨hx, hb, hml, hown, hts⟩ (c_X5_in l ((i0).toInt64) (0 : Int64) ((A 14 k0).toInt64 - (1 : Int64))) (cwS 3 hts gX5_noCell_X5_in rfl rfl rfl (by decide +kernel) ⟨Nat.le_of_ble_eq_true rfl, Nat.le_of_ble_eq_true rfl⟩) (preEq) rfl rfl hl.1 rfl (lv_room (Nat.le_of_ble_eq_true rfl)) dX5_noCell_25 ⟨Nat.zero_le _, Nat.zero_le _⟩) (fun r_2 er_2 => ?_)
    subst er_2
    refine lz_if_eq (tgt := 35) hx hb dX5_noCell_28 (by decide) (fun c_3 => ?_) (fun c_3 => ?_)
    · refine lv_iconst (v := (3)) hx hb dX5_noCell_35 (by decide) ?_
      exact W.iret (v := (3 : Int32)) hx hb hr (fun t ht hW => ⟨_, rfl, (by rw [s_X5_noCell, if_pos c_1, if_neg (nb c_3)]), ht⟩) (fun _ h => by cases h) dX5_noCell_36
    · refine lv_iconst (v := (0)) hx hb dX5_noCell_31 (by decide) ?_
      refine lv_goto (tgt := 36) hx hb dX5_noCell_32 (by decide) ?_
      exact W.iret (v := (0 : Int32)) hx hb hr (fun t ht hW => ⟨_, rfl, (by rw [s_X5_noCell, if_pos c_1, if_pos c_3]), ht⟩) (fun _ h => by cases h) dX5_noCell_36
  · refine lv_iconst (v := (1)) hx hb dX5_noCell_9 (by decide) ?_
    refine lv_goto (tgt := 36) hx hb dX5_noCell_10 (by decide) ?_
    exact W.iret (v := (1 : Int32)) hx hb hr (fun t ht hW => ⟨_, rfl, (by rw [s_X5_noCell, if_neg c_1]), ht⟩) (fun _ h => by cases h) dX5_noCell_36
theorem noCell_f {N : Nat → Nat} {V : Nat → Int32} {A : Nat → Nat → Int32} {k : Nat} {i : Int32} (o : (A 14 k).toInt ≤ 50) (h : s_X5_noCell N V A k i ≤ 0) : i.toNatClampNeg < 50 ∧ nI i.toNatClampNeg = i := by
  unfold s_X5_noCell at h
  split at h
  · split at h
    · rename_i e
      refine in_tn (by omega) ?_ e
      have h2 := fb_rng (A 14 k)
      rw [fb_subL (by rw [toL, show (1 : Int64).toInt = 1 from rfl]; omega) (by rw [toL, show (1 : Int64).toInt = 1 from rfl]; omega), toL, show (1 : Int64).toInt = 1 from rfl]
      omega
    · exact absurd h (by decide)
  · exact absurd h (by decide)
def s_X5_lose (N : Nat → Nat) (V : Nat → Int32) (A : Nat → Nat → Int32)  (k0 : Int32) : Int32 × St :=
  if (s_X5_noSheet k0) = true then
    ((-1 : Int32), N, V, A)
  else
    if 0 ≤ A 14 k0.toNatClampNeg then
      ((1 : Int32), N, V, (va_up A 14 (upd (A 14) k0.toNatClampNeg (-1 : Int32))))
    else
      ((0 : Int32), N, V, (va_up A 14 (upd (A 14) k0.toNatClampNeg (-1 : Int32))))
set_option maxHeartbeats 4000000 in
set_option maxRecDepth 100000 in
theorem c_X5_lose (l : Launch) (D : va_G) (cI cZ cS : ClassId) (q : Nat → Nat) (N : Nat → Nat) (V : Nat → Int32) (A : Nat → Nat → Int32) (sz : Nat) (k0 : Int32) : Met l yX5_lose wsX5_lose ({ frames := 2, cells := 0, slots := 0, locals := 45 }) (va_Pc [.ref (q 0), .int k0] (fun U => U.heap.size = sz ∧ PM D cI cZ cS q N V A U ∧ va_D (fun _ => True) (wM cI cZ q N V A))) (va_Qi (fun r (_ : Unit) => r = (s_X5_lose N V A k0).1) (fun _ t => PM D cI cZ cS q (s_X5_lose N V A k0).2.1 (s_X5_lose N V A k0).2.2.1 (s_X5_lose N V A k0).2.2.2 t ∧ va_D (va_A (wM cI cZ q N V A) sz) (wM cI cZ q (s_X5_lose N V A k0).2.1 (s_X5_lose N V A k0).2.2.1 (s_X5_lose N V A k0).2.2.2)) (va_A (wM cI cZ q N V A) sz)) 0 0 (va_A (wM cI cZ q N V A) sz) := by
  refine Met.ofW (cc := cX5_lose) (maxL := 3) (ret := (some .int)) (by decide) rfl ?_
  intro p e s m args below meth c s₁ B hml hv
  obtain ⟨rfl, hsz, ⟨hP, hK⟩, hD0⟩ := hv
  have hx := B.exec
  have hb := B.bytes
  have hr := B.returns
  have hts := atoms_spec (ws := wsX5_lose) B.pre
  have hown : s.vm.findClass RX5 = some m.cls := findClass_of_methodNamed B.named
  have hlocks := B.notSynchronized
  have hin5 : ∀ w ∈ u_ws RX5 TX5 22, w ∈ wsX5_lose := by decide +kernel
  subst hsz
  have hD := hD0.self (sz := s.heap.size)
  generalize hAe : va_A (wM cI cZ q N V A) s.heap.size = Ar at hD ⊢
  have hA : ∀ q : Nat, s.heap.size ≤ q → Ar q := fun q h => by rw [← hAe]; exact Or.inr h
  have hS : va_S Ar s.heap s.heap [] := va_S.rf
  have hl := lv_entry ([.ref (q 0), .int k0]) (n := 3) (Nat.le_of_ble_eq_true rfl)
  rw [lg_entry_eq]
  generalize (lg_sl ([.ref (q 0), .int k0]) ++ List.replicate (3 - (lg_sl ([.ref (q 0), .int k0])).length) Slot.unset).toArray = ls at hl ⊢
  have hl : lv_has ls 3 [(0, .ref (q 0)), (1, .int k0)] := hl
  refine lv_iload_n hx hb dX5_lose_0 rfl (lv_at hl 1 rfl) ?_
  refine vp_callSi (W.runS (As := [.int k0]) (rest := []) ⟨hx, hb, hml, hown, hts⟩ (c_X5_noSheet l k0) (cwS 1 hts gX5_lose_X5_noSheet rfl rfl rfl (by decide +kernel) ⟨Nat.le_of_ble_eq_true rfl, Nat.le_of_ble_eq_true rfl⟩) (preEq) rfl rfl hl.1 rfl (lv_room (Nat.le_of_ble_eq_true rfl)) dX5_lose_1 ⟨Nat.zero_le _, Nat.zero_le _⟩) (fun r_1 er_1 => ?_)
  subst er_1
  refine lz_if_eq (tgt := 9) hx hb dX5_lose_4 (by decide) (fun c_2 => ?_) (fun c_2 => ?_)
  · obtain ⟨hlt_k0, heq_k0⟩ := noSheet_f c_2
    have hl : lv_has ls 3 [(0, .ref (q 0)), (1, .int (nI k0.toNatClampNeg))] := by rw [heq_k0]; exact hl
    refine lv_aload_n hx hb dX5_lose_9 rfl (lv_at hl 0 rfl) ?_
    refine va_get (D := D) (ci := 5) (v := .ref (q 14)) (C := RX5) (T := TX5) (N := 22) hx hb hts hin5 hown hK hP 0 rfl rfl 17 (by decide) (hts (.fieldLink RX5 50 "NeckShipModel" "sheetSize" "[I") (by decide +kernel)) (fun _ h9 => h9) rfl dX5_lose_10 ?_
    refine lv_iload_n hx hb dX5_lose_13 rfl (lv_at hl 1 rfl) ?_
    refine va_ialdN (i := k0.toNatClampNeg) hx hb hK hP 14 0 rfl rfl (by decide) (by omega) dX5_lose_14 ?_
    refine lv_if_ge (tgt := 22) hx hb dX5_lose_15 (by decide) (fun c_3 => ?_) (fun c_3 => ?_)
    · refine lv_iconst (v := (1)) hx hb dX5_lose_22 (by decide) ?_
      refine lv_istore_n (lv' := [(2, .int (1)), (0, .ref (q 0)), (1, .int (nI k0.toNatClampNeg))]) hx hb dX5_lose_23 rfl hl (by decide) rfl (fun ls hl => ?_)
      refine lv_aload_n hx hb dX5_lose_24 rfl (lv_at hl 1 rfl) ?_
      refine va_get (D := D) (ci := 5) (v := .ref (q 14)) (C := RX5) (T := TX5) (N := 22) hx hb hts hin5 hown hK hP 0 rfl rfl 17 (by decide) (hts (.fieldLink RX5 50 "NeckShipModel" "sheetSize" "[I") (by decide +kernel)) (fun _ h9 => h9) rfl dX5_lose_25 ?_
      refine lv_iload_n hx hb dX5_lose_28 rfl (lv_at hl 2 rfl) ?_
      refine lv_iconst (v := (-1)) hx hb dX5_lose_29 (by decide) ?_
      refine va_iastN (i := k0.toNatClampNeg) hx hb hK hP hD hS 14 0 rfl rfl (by decide) (by omega) dX5_lose_30 (fun H locs hP hD hS => ?_)
      have hP : va_P D vwCl (wM cI cZ q N V (va_up A 14 (upd (A 14) k0.toNatClampNeg (-1 : Int32)))) H := hP
      have hD : va_D Ar (wM cI cZ q N V (va_up A 14 (upd (A 14) k0.toNatClampNeg (-1 : Int32)))) := hD
      refine lv_iload_n hx hb dX5_lose_31 rfl (lv_at hl 0 rfl) ?_
      have hEE : s_X5_lose N V A k0 = ((1 : Int32), N, V, (va_up A 14 (upd (A 14) k0.toNatClampNeg (-1 : Int32)))) := (by rw [s_X5_lose, if_neg (nb c_2), if_pos c_3])
      rw [hEE]
      exact W.iret (v := (1 : Int32)) hx hb hr (fun t ht hW => ⟨⟨_, (), rfl, rfl, ⟨by rw [ht]; exact hP, va_K.moved hW.alike hK⟩, hD⟩, hS.F ht⟩) hS.2.2 dX5_lose_32
    · refine lv_iconst (v := (0)) hx hb dX5_lose_18 (by decide) ?_
      refine lv_goto (tgt := 23) hx hb dX5_lose_19 (by decide) ?_
      refine lv_istore_n (lv' := [(2, .int (0)), (0, .ref (q 0)), (1, .int (nI k0.toNatClampNeg))]) hx hb dX5_lose_23 rfl hl (by decide) rfl (fun ls hl => ?_)
      refine lv_aload_n hx hb dX5_lose_24 rfl (lv_at hl 1 rfl) ?_
      refine va_get (D := D) (ci := 5) (v := .ref (q 14)) (C := RX5) (T := TX5) (N := 22) hx hb hts hin5 hown hK hP 0 rfl rfl 17 (by decide) (hts (.fieldLink RX5 50 "NeckShipModel" "sheetSize" "[I") (by decide +kernel)) (fun _ h9 => h9) rfl dX5_lose_25 ?_
      refine lv_iload_n hx hb dX5_lose_28 rfl (lv_at hl 2 rfl) ?_
      refine lv_iconst (v := (-1)) hx hb dX5_lose_29 (by decide) ?_
      refine va_iastN (i := k0.toNatClampNeg) hx hb hK hP hD hS 14 0 rfl rfl (by decide) (by omega) dX5_lose_30 (fun H locs hP hD hS => ?_)
      have hP : va_P D vwCl (wM cI cZ q N V (va_up A 14 (upd (A 14) k0.toNatClampNeg (-1 : Int32)))) H := hP
      have hD : va_D Ar (wM cI cZ q N V (va_up A 14 (upd (A 14) k0.toNatClampNeg (-1 : Int32)))) := hD
      refine lv_iload_n hx hb dX5_lose_31 rfl (lv_at hl 0 rfl) ?_
      have hEE : s_X5_lose N V A k0 = ((0 : Int32), N, V, (va_up A 14 (upd (A 14) k0.toNatClampNeg (-1 : Int32)))) := (by rw [s_X5_lose, if_neg (nb c_2), if_neg c_3])
      rw [hEE]
      exact W.iret (v := (0 : Int32)) hx hb hr (fun t ht hW => ⟨⟨_, (), rfl, rfl, ⟨by rw [ht]; exact hP, va_K.moved hW.alike hK⟩, hD⟩, hS.F ht⟩) hS.2.2 dX5_lose_32
  · refine lv_iconst (v := (-1)) hx hb dX5_lose_7 (by decide) ?_
    have hEE : s_X5_lose N V A k0 = ((-1 : Int32), N, V, A) := (by rw [s_X5_lose, if_pos c_2])
    rw [hEE]
    exact W.iret (v := (-1 : Int32)) hx hb hr (fun t ht hW => ⟨⟨_, (), rfl, rfl, ⟨by rw [ht]; exact hP, va_K.moved hW.alike hK⟩, hD⟩, hS.F ht⟩) hS.2.2 dX5_lose_8
