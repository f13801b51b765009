theorem lying_lt {N : Nat → Nat} {V : Nat → Int32} {A : Nat → Nat → Int32} (h : N 0 ≤ 10) : s_X2_lying N V A < 65536 := by
  have hp : 2 ^ N 0 ≤ 2 ^ 10 := Nat.pow_le_pow_right (by omega) h
  have h2 : s_X2_lying N V A ≤ 2 ^ N 0 - 1 := nclr_le _ _
  have h3 : (2 : Nat) ^ 10 = 1024 := rfl
  omega
theorem raisersOf_lt {N : Nat → Nat} {V : Nat → Int32} {A : Nat → Nat → Int32} {s : Int32} (h : N 3 < 65536) : s_X3_raisersOf N V A s < 65536 := by
  unfold s_X3_raisersOf s_X3_raising
  exact and_lt (and_lt h)
def okV (V : Nat → Int32) : Prop := ∀ k, k < 4 → 0 ≤ (V (9 + k)).toInt ∧ (V (9 + k)).toInt ≤ 50
theorem okV_0 {V : Nat → Int32} (h : okV V) (x : Int32) : okV (va_up V 0 x) := by
  intro k hk
  rw [show va_up V 0 x (9 + k) = V (9 + k) from if_neg (by omega)]
  exact h k hk
theorem hasCells_c {N : Nat → Nat} {V : Nat → Int32} {A : Nat → Nat → Int32} {k : Nat} {i n : Int32} (o : 0 ≤ (V (9 + k)).toInt ∧ (V (9 + k)).toInt ≤ 50) (h : s_X1_hasCells N V A k i n = true) : 0 ≤ i.toInt ∧ 0 ≤ n.toInt ∧ i.toInt + n.toInt ≤ (V (9 + k)).toInt := by
  unfold s_X1_hasCells at h
  split at h
  · cases h
  · rename_i h1
    split at h
    · cases h
    · rename_i h2
      split at h
      · cases h
      · rename_i h3
        rw [Int32.lt_iff_toInt_lt, show (0 : Int32).toInt = 0 from rfl] at h1 h2
        have r1 := fb_rng i
        have r2 := fb_rng (V (9 + k))
        rw [Int32.lt_iff_toInt_lt, fb_subI (by omega) (by omega)] at h3
        omega
theorem hasCells_n {N : Nat → Nat} {V : Nat → Int32} {A : Nat → Nat → Int32} {k : Nat} {i n : Int32} (o : 0 ≤ (V (9 + k)).toInt ∧ (V (9 + k)).toInt ≤ 50) (h : s_X1_hasCells N V A k i n = true) : ¬ i < 0 ∧ ¬ n < 0 ∧ i.toNatClampNeg + n.toNatClampNeg ≤ 50 := by
  obtain ⟨h1, h2, h3⟩ := hasCells_c o h
  obtain ⟨a1, a2⟩ := nI_tn (n := 51) h1 (by omega) (by omega)
  obtain ⟨b1, b2⟩ := nI_tn (n := 51) h2 (by omega) (by omega)
  have c1 : i.toInt = (i.toNatClampNeg : Int) := by rw [← nI_toInt (n := i.toNatClampNeg) (by omega), a2]
  have c2 : n.toInt = (n.toNatClampNeg : Int) := by rw [← nI_toInt (n := n.toNatClampNeg) (by omega), b2]
  refine ⟨?_, ?_, by omega⟩
  · rw [Int32.lt_iff_toInt_lt, show (0 : Int32).toInt = 0 from rfl]; omega
  · rw [Int32.lt_iff_toInt_lt, show (0 : Int32).toInt = 0 from rfl]; omega
theorem hasCells_1 {N : Nat → Nat} {V : Nat → Int32} {A : Nat → Nat → Int32} {k : Nat} {i : Int32} (o : 0 ≤ (V (9 + k)).toInt ∧ (V (9 + k)).toInt ≤ 50) (h : s_X1_hasCells N V A k i 1 = true) : i.toNatClampNeg < 50 ∧ nI i.toNatClampNeg = i := by
  obtain ⟨h1, h2, h3⟩ := hasCells_c o h
  rw [show (1 : Int32).toInt = 1 from rfl] at h3
  exact nI_tn h1 (by omega) (by omega)
def s_X4_failed (N : Nat → Nat) (V : Nat → Int32) (A : Nat → Nat → Int32)  (f0 : Int32) : Int32 × St :=
  (((-10 : Int32) - f0), N, (va_up V 0 f0), A)
set_option maxHeartbeats 4000000 in
set_option maxRecDepth 100000 in
theorem c_X4_failed (l : Launch) (D : va_G) (cI cZ cS : ClassId) (q : Nat → Nat) (N : Nat → Nat) (V : Nat → Int32) (A : Nat → Nat → Int32) (sz : Nat) (f0 : Int32) : Met l yX4_failed wsX4_failed ({ frames := 0, cells := 0, slots := 0, locals := 0 }) (va_Pc [.ref (q 0), .int f0] (fun U => U.heap.size = sz ∧ PC D cI cZ cS q N V A U ∧ va_D (fun _ => True) (wC cI cS q N V A))) (va_Qi (fun r (_ : Unit) => r = (s_X4_failed N V A f0).1) (fun _ t => PC D cI cZ cS q (s_X4_failed N V A f0).2.1 (s_X4_failed N V A f0).2.2.1 (s_X4_failed N V A f0).2.2.2 t ∧ va_D (va_A (wC cI cS q N V A) sz) (wC cI cS q (s_X4_failed N V A f0).2.1 (s_X4_failed N V A f0).2.2.1 (s_X4_failed N V A f0).2.2.2)) (va_A (wC cI cS q N V A) sz)) 0 0 (va_A (wC cI cS q N V A) sz) := by
  refine Met.ofW (cc := cX4_failed) (maxL := 2) (ret := (some .int)) (by decide) rfl ?_
  intro p e s m args below meth c s₁ B hml hv
  obtain ⟨rfl, hsz, ⟨hP, hK, hN⟩, hD0⟩ := hv
  have hx := B.exec
  have hb := B.bytes
  have hr := B.returns
  have hts := atoms_spec (ws := wsX4_failed) B.pre
  have hown : s.vm.findClass RX4 = some m.cls := findClass_of_methodNamed B.named
  have hlocks := B.notSynchronized
  have hin4 : ∀ w ∈ u_ws RX4 TX4 7, w ∈ wsX4_failed := by decide +kernel
  subst hsz
  have hD := hD0.self (sz := s.heap.size)
  generalize hAe : va_A (wC cI cS q N V A) s.heap.size = Ar at hD ⊢
  have hA : ∀ q : Nat, s.heap.size ≤ q → Ar q := fun q h => by rw [← hAe]; exact Or.inr h
  have hS : va_S Ar s.heap s.heap [] := va_S.rf
  have hl := lv_entry ([.ref (q 0), .int f0]) (n := 2) (Nat.le_of_ble_eq_true rfl)
  rw [lg_entry_eq]
  generalize (lg_sl ([.ref (q 0), .int f0]) ++ List.replicate (2 - (lg_sl ([.ref (q 0), .int f0])).length) Slot.unset).toArray = ls at hl ⊢
  have hl : lv_has ls 2 [(0, .ref (q 0)), (1, .int f0)] := hl
  refine lv_aload_n hx hb dX4_failed_0 rfl (lv_at hl 0 rfl) ?_
  refine lv_iload_n hx hb dX4_failed_1 rfl (lv_at hl 1 rfl) ?_
  refine va_put (D := D) (ci := 4) (v := .int f0) (ty := .int) (C := RX4) (T := TX4) (N := 7) hx hb hts hin4 tyX4 tyX4_ok nmX4 hown hK hP hD hS 0 rfl rfl 6 (by decide) (hts (.fieldLink RX4 47 "NeckShip" "latestFault" "I") (by decide +kernel)) (fun _ h9 => h9) rfl (by decide +kernel) rfl rfl (Nat.le_of_ble_eq_true rfl) dX4_failed_2 (fun H locs hP hD hS => ?_)
  have hP : va_P D vwCl (wC cI cS q N (va_up V 0 f0) A) H := hP
  have hD : va_D Ar (wC cI cS q N (va_up V 0 f0) A) := hD
  refine lv_bipush (v := (-10)) hx hb dX4_failed_5 (by decide) ?_
  refine lv_iload_n hx hb dX4_failed_7 rfl (lv_at hl 1 rfl) ?_
  refine lv_isub hx hb dX4_failed_8 ?_
  have hEE : s_X4_failed N V A f0 = (((-10 : Int32) - f0), N, (va_up V 0 f0), A) := (by rw [s_X4_failed])
  rw [hEE]
  exact W.iret (v := ((-10 : Int32) - f0)) hx hb hr (fun t ht hW => ⟨⟨_, (), rfl, rfl, ⟨by rw [ht]; exact hP, va_K.moved hW.alike hK, hN.warm hW⟩, hD⟩, hS.F ht⟩) hS.2.2 dX4_failed_9
def s_X4_beginBody (N : Nat → Nat) (V : Nat → Int32) (A : Nat → Nat → Int32)  (n0 : Int32) : St :=
  (N, (va_up V 1 (((31 : Int32) * V 1) + n0)), A)
set_option maxHeartbeats 4000000 in
set_option maxRecDepth 100000 in
theorem c_X4_beginBody (l : Launch) (D : va_G) (cI cZ cS : ClassId) (q : Nat → Nat) (N : Nat → Nat) (V : Nat → Int32) (A : Nat → Nat → Int32) (sz : Nat) (n0 : Int32) : Met l yX4_beginBody wsX4_beginBody ({ frames := 0, cells := 0, slots := 0, locals := 0 }) (va_Pc [.ref (q 0), .int n0] (fun U => U.heap.size = sz ∧ PC D cI cZ cS q N V A U ∧ va_D (fun _ => True) (wC cI cS q N V A))) (va_Qv (fun (_ : Unit) => True) (fun _ t => PC D cI cZ cS q (s_X4_beginBody N V A n0).1 (s_X4_beginBody N V A n0).2.1 (s_X4_beginBody N V A n0).2.2 t ∧ va_D (va_A (wC cI cS q N V A) sz) (wC cI cS q (s_X4_beginBody N V A n0).1 (s_X4_beginBody N V A n0).2.1 (s_X4_beginBody N V A n0).2.2)) (va_A (wC cI cS q N V A) sz)) 0 0 (va_A (wC cI cS q N V A) sz) := by
  refine Met.ofW (cc := cX4_beginBody) (maxL := 2) (ret := none) (by decide) rfl ?_
  intro p e s m args below meth c s₁ B hml hv
  obtain ⟨rfl, hsz, ⟨hP, hK, hN⟩, hD0⟩ := hv
  have hx := B.exec
  have hb := B.bytes
  have hr := B.returns
  have hts := atoms_spec (ws := wsX4_beginBody) B.pre
  have hown : s.vm.findClass RX4 = some m.cls := findClass_of_methodNamed B.named
  have hlocks := B.notSynchronized
  have hin4 : ∀ w ∈ u_ws RX4 TX4 7, w ∈ wsX4_beginBody := by decide +kernel
  subst hsz
  have hD := hD0.self (sz := s.heap.size)
  generalize hAe : va_A (wC cI cS q N V A) s.heap.size = Ar at hD ⊢
  have hA : ∀ q : Nat, s.heap.size ≤ q → Ar q := fun q h => by rw [← hAe]; exact Or.inr h
  have hS : va_S Ar s.heap s.heap [] := va_S.rf
  have hl := lv_entry ([.ref (q 0), .int n0]) (n := 2) (Nat.le_of_ble_eq_true rfl)
  rw [lg_entry_eq]
  generalize (lg_sl ([.ref (q 0), .int n0]) ++ List.replicate (2 - (lg_sl ([.ref (q 0), .int n0])).length) Slot.unset).toArray = ls at hl ⊢
  have hl : lv_has ls 2 [(0, .ref (q 0)), (1, .int n0)] := hl
  refine lv_aload_n hx hb dX4_beginBody_0 rfl (lv_at hl 0 rfl) ?_
  refine lv_bipush (v := (31)) hx hb dX4_beginBody_1 (by decide) ?_
  refine lv_aload_n hx hb dX4_beginBody_3 rfl (lv_at hl 0 rfl) ?_
  refine va_get (D := D) (ci := 4) (v := .int (V 1)) (C := RX4) (T := TX4) (N := 7) hx hb hts hin4 hown hK hP 0 rfl rfl 5 (by decide) (hts (.fieldLink RX4 43 "NeckShip" "traced" "I") (by decide +kernel)) (fun _ h9 => h9) rfl dX4_beginBody_4 ?_
  refine lv_imul hx hb dX4_beginBody_7 ?_
  refine lv_iload_n hx hb dX4_beginBody_8 rfl (lv_at hl 1 rfl) ?_
  refine lv_iadd hx hb dX4_beginBody_9 ?_
  refine va_put (D := D) (ci := 4) (v := .int (((31 : Int32) * V 1) + n0)) (ty := .int) (C := RX4) (T := TX4) (N := 7) hx hb hts hin4 tyX4 tyX4_ok nmX4 hown hK hP hD hS 0 rfl rfl 5 (by decide) (hts (.fieldLink RX4 43 "NeckShip" "traced" "I") (by decide +kernel)) (fun _ h9 => h9) rfl (by decide +kernel) rfl rfl (Nat.le_of_ble_eq_true rfl) dX4_beginBody_10 (fun H locs hP hD hS => ?_)
  have hP : va_P D vwCl (wC cI cS q N (va_up V 1 (((31 : Int32) * V 1) + n0)) A) H := hP
  have hD : va_D Ar (wC cI cS q N (va_up V 1 (((31 : Int32) * V 1) + n0)) A) := hD
  have hEE : s_X4_beginBody N V A n0 = (N, (va_up V 1 (((31 : Int32) * V 1) + n0)), A) := (by rw [s_X4_beginBody])
  rw [hEE]
  exact W.vret hx hb hr (fun t ht hW => ⟨⟨(), rfl, trivial, ⟨by rw [ht]; exact hP, va_K.moved hW.alike hK, hN.warm hW⟩, hD⟩, hS.F ht⟩) hS.2.2 dX4_beginBody_13
def s_X4_sparBody (N : Nat → Nat) (V : Nat → Int32) (A : Nat → Nat → Int32)  (s0 : Nat) : Int32 × St :=
  (A 5 s0, N, (s_X4_beginBody N V A (1 : Int32)).2.1, A)
set_option maxHeartbeats 4000000 in
set_option maxRecDepth 100000 in
theorem c_X4_sparBody (l : Launch) (D : va_G) (cI cZ cS : ClassId) (q : Nat → Nat) (N : Nat → Nat) (V : Nat → Int32) (A : Nat → Nat → Int32) (sz : Nat) (s0 : Nat) (h_1 : s0 < 10) : Met l yX4_sparBody wsX4_sparBody ({ frames := 1, cells := 0, slots := 0, locals := 21 }) (va_Pc [.ref (q 0), .int (nI s0)] (fun U => U.heap.size = sz ∧ PC D cI cZ cS q N V A U ∧ va_D (fun _ => True) (wC cI cS q N V A))) (va_Qi (fun r (_ : Unit) => r = (s_X4_sparBody N V A s0).1) (fun _ t => PC D cI cZ cS q (s_X4_sparBody N V A s0).2.1 (s_X4_sparBody N V A s0).2.2.1 (s_X4_sparBody N V A s0).2.2.2 t ∧ va_D (va_A (wC cI cS q N V A) sz) (wC cI cS q (s_X4_sparBody N V A s0).2.1 (s_X4_sparBody N V A s0).2.2.1 (s_X4_sparBody N V A s0).2.2.2)) (va_A (wC cI cS q N V A) sz)) 0 0 (va_A (wC cI cS q N V A) sz) := by
  refine Met.ofW (cc := cX4_sparBody) (maxL := 2) (ret := (some .int)) (by decide) rfl ?_
  intro p e s m args below meth c s₁ B hml hv
  obtain ⟨rfl, hsz, ⟨hP, hK, hN⟩, hD0⟩ := hv
  have hx := B.exec
  have hb := B.bytes
  have hr := B.returns
  have hts := atoms_spec (ws := wsX4_sparBody) B.pre
  have hown : s.vm.findClass RX4 = some m.cls := findClass_of_methodNamed B.named
  have hlocks := B.notSynchronized
  have hin2 : ∀ w ∈ u_ws RX2 TX2 9, w ∈ wsX4_sparBody := by decide +kernel
  have hin4 : ∀ w ∈ u_ws RX4 TX4 7, w ∈ wsX4_sparBody := by decide +kernel
  subst hsz
  have hD := hD0.self (sz := s.heap.size)
  generalize hAe : va_A (wC cI cS q N V A) s.heap.size = Ar at hD ⊢
  have hA : ∀ q : Nat, s.heap.size ≤ q → Ar q := fun q h => by rw [← hAe]; exact Or.inr h
  have hS : va_S Ar s.heap s.heap [] := va_S.rf
  have hl := lv_entry ([.ref (q 0), .int (nI s0)]) (n := 2) (Nat.le_of_ble_eq_true rfl)
  rw [lg_entry_eq]
  generalize (lg_sl ([.ref (q 0), .int (nI s0)]) ++ List.replicate (2 - (lg_sl ([.ref (q 0), .int (nI s0)])).length) Slot.unset).toArray = ls at hl ⊢
  have hl : lv_has ls 2 [(0, .ref (q 0)), (1, .int (nI s0))] := hl
  refine lv_aload_n hx hb dX4_sparBody_0 rfl (lv_at hl 0 rfl) ?_
  refine lv_iconst (v := (1)) hx hb dX4_sparBody_1 (by decide) ?_
  refine callCv (va_runV (As := [.int (1 : Int32)]) (rest := []) ⟨hx, hb, hml, hown, hts⟩ (c_X4_beginBody l D cI cZ cS q N V A s.heap.size (1 : Int32)) (cwV 1 hts gX4_sparBody_X4_beginBody rfl rfl rfl (by decide +kernel) ⟨Nat.le_of_ble_eq_true rfl, Nat.le_of_ble_eq_true rfl⟩) (preCm4 hK hN hP hD) rfl rfl hl.1 rfl (lv_room (Nat.le_of_ble_eq_true rfl)) dX4_sparBody_2 ⟨Nat.zero_le _, Nat.zero_le _⟩) hD hS hA (fun H locs hP hD hS => ?_)
  have hP : va_P D vwCl (wC cI cS q N ((s_X4_beginBody N V A (1 : Int32)).2.1) A) H := hP
  have hD : va_D Ar (wC cI cS q N ((s_X4_beginBody N V A (1 : Int32)).2.1) A) := hD
  refine lv_aload_n hx hb dX4_sparBody_5 rfl (lv_at hl 0 rfl) ?_
  refine va_get (D := D) (ci := 4) (v := .ref (q 2)) (C := RX4) (T := TX4) (N := 7) hx hb hts hin4 hown hK hP 0 rfl rfl 1 (by decide) (hts (.fieldLink RX4 18 "NeckShip" "spars" "LNeckShip$Spars;") (by decide +kernel)) (fun _ h9 => h9) rfl dX4_sparBody_6 ?_
  refine va_get (D := D) (ci := 2) (v := .ref (q 5)) (C := RX2) (T := TX2) (N := 9) hx hb hts hin2 hown hK hP 2 rfl rfl 2 (by decide) (hts (.fieldLink RX4 106 "NeckShip$Spars" "length" "[I") (by decide +kernel)) (fun _ h9 => h9) rfl dX4_sparBody_9 ?_
  refine lv_iload_n hx hb dX4_sparBody_12 rfl (lv_at hl 1 rfl) ?_
  refine va_ialdN (i := s0) hx hb hK hP 5 0 rfl rfl (by decide) (by omega) dX4_sparBody_13 ?_
  have hEE : s_X4_sparBody N V A s0 = (A 5 s0, N, (s_X4_beginBody N V A (1 : Int32)).2.1, A) := (by rw [s_X4_sparBody])
  rw [hEE]
  exact W.iret (v := A 5 s0) hx hb hr (fun t ht hW => ⟨⟨_, (), rfl, rfl, ⟨by rw [ht]; exact hP, va_K.moved hW.alike hK, hN.warm hW⟩, hD⟩, hS.F ht⟩) hS.2.2 dX4_sparBody_14
def s_X4_mastBody (N : Nat → Nat) (V : Nat → Int32) (A : Nat → Nat → Int32)  (s0 : Nat) : Int32 × St :=
  (((s_X4_sparBody N ((s_X4_beginBody N V A (2 : Int32)).2.1) A s0).1 + A 4 s0), N, (s_X4_sparBody N ((s_X4_beginBody N V A (2 : Int32)).2.1) A s0).2.2.1, A)
set_option maxHeartbeats 4000000 in
set_option maxRecDepth 100000 in
theorem c_X4_mastBody (l : Launch) (D : va_G) (cI cZ cS : ClassId) (q : Nat → Nat) (N : Nat → Nat) (V : Nat → Int32) (A : Nat → Nat → Int32) (sz : Nat) (s0 : Nat) (h_1 : s0 < 10) : Met l yX4_mastBody wsX4_mastBody ({ frames := 2, cells := 0, slots := 0, locals := 42 }) (va_Pc [.ref (q 0), .int (nI s0)] (fun U => U.heap.size = sz ∧ PC D cI cZ cS q N V A U ∧ va_D (fun _ => True) (wC cI cS q N V A))) (va_Qi (fun r (_ : Unit) => r = (s_X4_mastBody N V A s0).1) (fun _ t => PC D cI cZ cS q (s_X4_mastBody N V A s0).2.1 (s_X4_mastBody N V A s0).2.2.1 (s_X4_mastBody N V A s0).2.2.2 t ∧ va_D (va_A (wC cI cS q N V A) sz) (wC cI cS q (s_X4_mastBody N V A s0).2.1 (s_X4_mastBody N V A s0).2.2.1 (s_X4_mastBody N V A s0).2.2.2)) (va_A (wC cI cS q N V A) sz)) 0 0 (va_A (wC cI cS q N V A) sz) := by
  refine Met.ofW (cc := cX4_mastBody) (maxL := 2) (ret := (some .int)) (by decide) rfl ?_
  intro p e s m args below meth c s₁ B hml hv
  obtain ⟨rfl, hsz, ⟨hP, hK, hN⟩, hD0⟩ := hv
  have hx := B.exec
  have hb := B.bytes
  have hr := B.returns
  have hts := atoms_spec (ws := wsX4_mastBody) B.pre
  have hown : s.vm.findClass RX4 = some m.cls := findClass_of_methodNamed B.named
  have hlocks := B.notSynchronized
  have hin2 : ∀ w ∈ u_ws RX2 TX2 9, w ∈ wsX4_mastBody := by decide +kernel
  have hin4 : ∀ w ∈ u_ws RX4 TX4 7, w ∈ wsX4_mastBody := by decide +kernel
  subst hsz
  have hD := hD0.self (sz := s.heap.size)
  generalize hAe : va_A (wC cI cS q N V A) s.heap.size = Ar at hD ⊢
  have hA : ∀ q : Nat, s.heap.size ≤ q → Ar q := fun q h => by rw [← hAe]; exact Or.inr h
  have hS : va_S Ar s.heap s.heap [] := va_S.rf
  have hl := lv_entry ([.ref (q 0), .int (nI s0)]) (n := 2) (Nat.le_of_ble_eq_true rfl)
  rw [lg_entry_eq]
  generalize (lg_sl ([.ref (q 0), .int (nI s0)]) ++ List.replicate (2 - (lg_sl ([.ref (q 0), .int (nI s0)])).length) Slot.unset).toArray = ls at hl ⊢
  have hl : lv_has ls 2 [(0, .ref (q 0)), (1, .int (nI s0))] := hl
  refine lv_aload_n hx hb dX4_mastBody_0 rfl (lv_at hl 0 rfl) ?_
  refine lv_iconst (v := (2)) hx hb dX4_mastBody_1 (by decide) ?_
  refine callCv (va_runV (As := [.int (2 : Int32)]) (rest := []) ⟨hx, hb, hml, hown, hts⟩ (c_X4_beginBody l D cI cZ cS q N V A s.heap.size (2 : Int32)) (cwV 1 hts gX4_mastBody_X4_beginBody rfl rfl rfl (by decide +kernel) ⟨Nat.le_of_ble_eq_true rfl, Nat.le_of_ble_eq_true rfl⟩) (preCm4 hK hN hP hD) rfl rfl hl.1 rfl (lv_room (Nat.le_of_ble_eq_true rfl)) dX4_mastBody_2 ⟨Nat.zero_le _, Nat.zero_le _⟩) hD hS hA (fun H locs hP hD hS => ?_)
  have hP : va_P D vwCl (wC cI cS q N ((s_X4_beginBody N V A (2 : Int32)).2.1) A) H := hP
  have hD : va_D Ar (wC cI cS q N ((s_X4_beginBody N V A (2 : Int32)).2.1) A) := hD
  refine lv_aload_n hx hb dX4_mastBody_5 rfl (lv_at hl 0 rfl) ?_
  refine lv_iload_n hx hb dX4_mastBody_6 rfl (lv_at hl 1 rfl) ?_
  refine callCi (va_runV (As := [.int (nI s0)]) (rest := []) ⟨hx, hb, hml, hown, hts⟩ (c_X4_sparBody l D cI cZ cS q N ((s_X4_beginBody N V A (2 : Int32)).2.1) A H.size s0 (by omega)) (cwV 1 hts gX4_mastBody_X4_sparBody rfl rfl rfl (by decide +kernel) ⟨Nat.le_of_ble_eq_true rfl, Nat.le_of_ble_eq_true rfl⟩) (preCm4 hK hN hP hD) rfl rfl hl.1 rfl (lv_room (Nat.le_of_ble_eq_true rfl)) dX4_mastBody_7 ⟨Nat.zero_le _, Nat.zero_le _⟩) hD hS hA (fun H locs hP hD hS => ?_)
  have hP : va_P D vwCl (wC cI cS q N ((s_X4_sparBody N ((s_X4_beginBody N V A (2 : Int32)).2.1) A s0).2.2.1) A) H := hP
  have hD : va_D Ar (wC cI cS q N ((s_X4_sparBody N ((s_X4_beginBody N V A (2 : Int32)).2.1) A s0).2.2.1) A) := hD
  refine lv_aload_n hx hb dX4_mastBody_10 rfl (lv_at hl 0 rfl) ?_
  refine va_get (D := D) (ci := 4) (v := .ref (q 2)) (C := RX4) (T := TX4) (N := 7) hx hb hts hin4 hown hK hP 0 rfl rfl 1 (by decide) (hts (.fieldLink RX4 18 "NeckShip" "spars" "LNeckShip$Spars;") (by decide +kernel)) (fun _ h9 => h9) rfl dX4_mastBody_11 ?_
  refine va_get (D := D) (ci := 2) (v := .ref (q 4)) (C := RX2) (T := TX2) (N := 9) hx hb hts hin2 hown hK hP 2 rfl rfl 1 (by decide) (hts (.fieldLink RX4 103 "NeckShip$Spars" "foot" "[I") (by decide +kernel)) (fun _ h9 => h9) rfl dX4_mastBody_14 ?_
  refine lv_iload_n hx hb dX4_mastBody_17 rfl (lv_at hl 1 rfl) ?_
  refine va_ialdN (i := s0) hx hb hK hP 4 0 rfl rfl (by decide) (by omega) dX4_mastBody_18 ?_
  refine lv_iadd hx hb dX4_mastBody_19 ?_
  have hEE : s_X4_mastBody N V A s0 = (((s_X4_sparBody N ((s_X4_beginBody N V A (2 : Int32)).2.1) A s0).1 + A 4 s0), N, (s_X4_sparBody N ((s_X4_beginBody N V A (2 : Int32)).2.1) A s0).2.2.1, A) := (by rw [s_X4_mastBody])
  rw [hEE]
  exact W.iret (v := ((s_X4_sparBody N ((s_X4_beginBody N V A (2 : Int32)).2.1) A s0).1 + A 4 s0)) hx hb hr (fun t ht hW => ⟨⟨_, (), rfl, rfl, ⟨by rw [ht]; exact hP, va_K.moved hW.alike hK, hN.warm hW⟩, hD⟩, hS.F ht⟩) hS.2.2 dX4_mastBody_20
def s_X4_bowspritBody (N : Nat → Nat) (V : Nat → Int32) (A : Nat → Nat → Int32)  (s0 : Nat) : Int32 × St :=
  (((s_X4_sparBody N ((s_X4_beginBody N V A (3 : Int32)).2.1) A s0).1 * A 7 s0), N, (s_X4_sparBody N ((s_X4_beginBody N V A (3 : Int32)).2.1) A s0).2.2.1, A)
set_option maxHeartbeats 4000000 in
set_option maxRecDepth 100000 in
theorem c_X4_bowspritBody (l : Launch) (D : va_G) (cI cZ cS : ClassId) (q : Nat → Nat) (N : Nat → Nat) (V : Nat → Int32) (A : Nat → Nat → Int32) (sz : Nat) (s0 : Nat) (h_1 : s0 < 10) : Met l yX4_bowspritBody wsX4_bowspritBody ({ frames := 2, cells := 0, slots := 0, locals := 42 }) (va_Pc [.ref (q 0), .int (nI s0)] (fun U => U.heap.size = sz ∧ PC D cI cZ cS q N V A U ∧ va_D (fun _ => True) (wC cI cS q N V A))) (va_Qi (fun r (_ : Unit) => r = (s_X4_bowspritBody N V A s0).1) (fun _ t => PC D cI cZ cS q (s_X4_bowspritBody N V A s0).2.1 (s_X4_bowspritBody N V A s0).2.2.1 (s_X4_bowspritBody N V A s0).2.2.2 t ∧ va_D (va_A (wC cI cS q N V A) sz) (wC cI cS q (s_X4_bowspritBody N V A s0).2.1 (s_X4_bowspritBody N V A s0).2.2.1 (s_X4_bowspritBody N V A s0).2.2.2)) (va_A (wC cI cS q N V A) sz)) 0 0 (va_A (wC cI cS q N V A) sz) := by
  refine Met.ofW (cc := cX4_bowspritBody) (maxL := 2) (ret := (some .int)) (by decide) rfl ?_
  intro p e s m args below meth c s₁ B hml hv
  obtain ⟨rfl, hsz, ⟨hP, hK, hN⟩, hD0⟩ := hv
  have hx := B.exec
  have hb := B.bytes
  have hr := B.returns
  have hts := atoms_spec (ws := wsX4_bowspritBody) B.pre
  have hown : s.vm.findClass RX4 = some m.cls := findClass_of_methodNamed B.named
  have hlocks := B.notSynchronized
  have hin2 : ∀ w ∈ u_ws RX2 TX2 9, w ∈ wsX4_bowspritBody := by decide +kernel
  have hin4 : ∀ w ∈ u_ws RX4 TX4 7, w ∈ wsX4_bowspritBody := by decide +kernel
  subst hsz
  have hD := hD0.self (sz := s.heap.size)
  generalize hAe : va_A (wC cI cS q N V A) s.heap.size = Ar at hD ⊢
  have hA : ∀ q : Nat, s.heap.size ≤ q → Ar q := fun q h => by rw [← hAe]; exact Or.inr h
  have hS : va_S Ar s.heap s.heap [] := va_S.rf
  have hl := lv_entry ([.ref (q 0), .int (nI s0)]) (n := 2) (Nat.le_of_ble_eq_true rfl)
  rw [lg_entry_eq]
  generalize (lg_sl ([.ref (q 0), .int (nI s0)]) ++ List.replicate (2 - (lg_sl ([.ref (q 0), .int (nI s0)])).length) Slot.unset).toArray = ls at hl ⊢
  have hl : lv_has ls 2 [(0, .ref (q 0)), (1, .int (nI s0))] := hl
  refine lv_aload_n hx hb dX4_bowspritBody_0 rfl (lv_at hl 0 rfl) ?_
  refine lv_iconst (v := (3)) hx hb dX4_bowspritBody_1 (by decide) ?_
  refine callCv (va_runV (As := [.int (3 : Int32)]) (rest := []) ⟨hx, hb, hml, hown, hts⟩ (c_X4_beginBody l D cI cZ cS q N V A s.heap.size (3 : Int32)) (cwV 1 hts gX4_bowspritBody_X4_beginBody rfl rfl rfl (by decide +kernel) ⟨Nat.le_of_ble_eq_true rfl, Nat.le_of_ble_eq_true rfl⟩) (preCm4 hK hN hP hD) rfl rfl hl.1 rfl (lv_room (Nat.le_of_ble_eq_true rfl)) dX4_bowspritBody_2 ⟨Nat.zero_le _, Nat.zero_le _⟩) hD hS hA (fun H locs hP hD hS => ?_)
  have hP : va_P D vwCl (wC cI cS q N ((s_X4_beginBody N V A (3 : Int32)).2.1) A) H := hP
  have hD : va_D Ar (wC cI cS q N ((s_X4_beginBody N V A (3 : Int32)).2.1) A) := hD
  refine lv_aload_n hx hb dX4_bowspritBody_5 rfl (lv_at hl 0 rfl) ?_
  refine lv_iload_n hx hb dX4_bowspritBody_6 rfl (lv_at hl 1 rfl) ?_
  refine callCi (va_runV (As := [.int (nI s0)]) (rest := []) ⟨hx, hb, hml, hown, hts⟩ (c_X4_sparBody l D cI cZ cS q N ((s_X4_beginBody N V A (3 : Int32)).2.1) A H.size s0 (by omega)) (cwV 1 hts gX4_bowspritBody_X4_sparBody rfl rfl rfl (by decide +kernel) ⟨Nat.le_of_ble_eq_true rfl, Nat.le_of_ble_eq_true rfl⟩) (preCm4 hK hN hP hD) rfl rfl hl.1 rfl (lv_room (Nat.le_of_ble_eq_true rfl)) dX4_bowspritBody_7 ⟨Nat.zero_le _, Nat.zero_le _⟩) hD hS hA (fun H locs hP hD hS => ?_)
  have hP : va_P D vwCl (wC cI cS q N ((s_X4_sparBody N ((s_X4_beginBody N V A (3 : Int32)).2.1) A s0).2.2.1) A) H := hP
  have hD : va_D Ar (wC cI cS q N ((s_X4_sparBody N ((s_X4_beginBody N V A (3 : Int32)).2.1) A s0).2.2.1) A) := hD
  refine lv_aload_n hx hb dX4_bowspritBody_10 rfl (lv_at hl 0 rfl) ?_
  refine va_get (D := D) (ci := 4) (v := .ref (q 2)) (C := RX4) (T := TX4) (N := 7) hx hb hts hin4 hown hK hP 0 rfl rfl 1 (by decide) (hts (.fieldLink RX4 18 "NeckShip" "spars" "LNeckShip$Spars;") (by decide +kernel)) (fun _ h9 => h9) rfl dX4_bowspritBody_11 ?_
  refine va_get (D := D) (ci := 2) (v := .ref (q 7)) (C := RX2) (T := TX2) (N := 9) hx hb hts hin2 hown hK hP 2 rfl rfl 4 (by decide) (hts (.fieldLink RX4 112 "NeckShip$Spars" "way" "[I") (by decide +kernel)) (fun _ h9 => h9) rfl dX4_bowspritBody_14 ?_
  refine lv_iload_n hx hb dX4_bowspritBody_17 rfl (lv_at hl 1 rfl) ?_
  refine va_ialdN (i := s0) hx hb hK hP 7 0 rfl rfl (by decide) (by omega) dX4_bowspritBody_18 ?_
  refine lv_imul hx hb dX4_bowspritBody_19 ?_
  have hEE : s_X4_bowspritBody N V A s0 = (((s_X4_sparBody N ((s_X4_beginBody N V A (3 : Int32)).2.1) A s0).1 * A 7 s0), N, (s_X4_sparBody N ((s_X4_beginBody N V A (3 : Int32)).2.1) A s0).2.2.1, A) := (by rw [s_X4_bowspritBody])
  rw [hEE]
  exact W.iret (v := ((s_X4_sparBody N ((s_X4_beginBody N V A (3 : Int32)).2.1) A s0).1 * A 7 s0)) hx hb hr (fun t ht hW => ⟨⟨_, (), rfl, rfl, ⟨by rw [ht]; exact hP, va_K.moved hW.alike hK, hN.warm hW⟩, hD⟩, hS.F ht⟩) hS.2.2 dX4_bowspritBody_20
def s_X4_lentNameBody (N : Nat → Nat) (V : Nat → Int32) (A : Nat → Nat → Int32)  (s0 : Nat) : Int32 × St :=
  ((nI s0 + ((10 : Int32) * A 6 s0)), N, (s_X4_beginBody N V A (4 : Int32)).2.1, A)
set_option maxHeartbeats 4000000 in
set_option maxRecDepth 100000 in
theorem c_X4_lentNameBody (l : Launch) (D : va_G) (cI cZ cS : ClassId) (q : Nat → Nat) (N : Nat → Nat) (V : Nat → Int32) (A : Nat → Nat → Int32) (sz : Nat) (s0 : Nat) (h_1 : s0 < 10) : Met l yX4_lentNameBody wsX4_lentNameBody ({ frames := 1, cells := 0, slots := 0, locals := 21 }) (va_Pc [.ref (q 0), .int (nI s0)] (fun U => U.heap.size = sz ∧ PC D cI cZ cS q N V A U ∧ va_D (fun _ => True) (wC cI cS q N V A))) (va_Qi (fun r (_ : Unit) => r = (s_X4_lentNameBody N V A s0).1) (fun _ t => PC D cI cZ cS q (s_X4_lentNameBody N V A s0).2.1 (s_X4_lentNameBody N V A s0).2.2.1 (s_X4_lentNameBody N V A s0).2.2.2 t ∧ va_D (va_A (wC cI cS q N V A) sz) (wC cI cS q (s_X4_lentNameBody N V A s0).2.1 (s_X4_lentNameBody N V A s0).2.2.1 (s_X4_lentNameBody N V A s0).2.2.2)) (va_A (wC cI cS q N V A) sz)) 0 0 (va_A (wC cI cS q N V A) sz) := by
  refine Met.ofW (cc := cX4_lentNameBody) (maxL := 2) (ret := (some .int)) (by decide) rfl ?_
  intro p e s m args below meth c s₁ B hml hv
  obtain ⟨rfl, hsz, ⟨hP, hK, hN⟩, hD0⟩ := hv
  have hx := B.exec
  have hb := B.bytes
  have hr := B.returns
  have hts := atoms_spec (ws := wsX4_lentNameBody) B.pre
  have hown : s.vm.findClass RX4 = some m.cls := findClass_of_methodNamed B.named
  have hlocks := B.notSynchronized
  have hin2 : ∀ w ∈ u_ws RX2 TX2 9, w ∈ wsX4_lentNameBody := by decide +kernel
  have hin4 : ∀ w ∈ u_ws RX4 TX4 7, w ∈ wsX4_lentNameBody := by decide +kernel
  subst hsz
  have hD := hD0.self (sz := s.heap.size)
  generalize hAe : va_A (wC cI cS q N V A) s.heap.size = Ar at hD ⊢
  have hA : ∀ q : Nat, s.heap.size ≤ q → Ar q := fun q h => by rw [← hAe]; exact Or.inr h
  have hS : va_S Ar s.heap s.heap [] := va_S.rf
  have hl := lv_entry ([.ref (q 0), .int (nI s0)]) (n := 2) (Nat.le_of_ble_eq_true rfl)
  rw [lg_entry_eq]
  generalize (lg_sl ([.ref (q 0), .int (nI s0)]) ++ List.replicate (2 - (lg_sl ([.ref (q 0), .int (nI s0)])).length) Slot.unset).toArray = ls at hl ⊢
  have hl : lv_has ls 2 [(0, .ref (q 0)), (1, .int (nI s0))] := hl
  refine lv_aload_n hx hb dX4_lentNameBody_0 rfl (lv_at hl 0 rfl) ?_
  refine lv_iconst (v := (4)) hx hb dX4_lentNameBody_1 (by decide) ?_
  refine callCv (va_runV (As := [.int (4 : Int32)]) (rest := []) ⟨hx, hb, hml, hown, hts⟩ (c_X4_beginBody l D cI cZ cS q N V A s.heap.size (4 : Int32)) (cwV 1 hts gX4_lentNameBody_X4_beginBody rfl rfl rfl (by decide +kernel) ⟨Nat.le_of_ble_eq_true rfl, Nat.le_of_ble_eq_true rfl⟩) (preCm4 hK hN hP hD) rfl rfl hl.1 rfl (lv_room (Nat.le_of_ble_eq_true rfl)) dX4_lentNameBody_2 ⟨Nat.zero_le _, Nat.zero_le _⟩) hD hS hA (fun H locs hP hD hS => ?_)
  have hP : va_P D vwCl (wC cI cS q N ((s_X4_beginBody N V A (4 : Int32)).2.1) A) H := hP
  have hD : va_D Ar (wC cI cS q N ((s_X4_beginBody N V A (4 : Int32)).2.1) A) := hD
  refine lv_iload_n hx hb dX4_lentNameBody_5 rfl (lv_at hl 1 rfl) ?_
  refine lv_bipush (v := (10)) hx hb dX4_lentNameBody_6 (by decide) ?_
  refine lv_aload_n hx hb dX4_lentNameBody_8 rfl (lv_at hl 0 rfl) ?_
  refine va_get (D := D) (ci := 4) (v := .ref (q 2)) (C := RX4) (T := TX4) (N := 7) hx hb hts hin4 hown hK hP 0 rfl rfl 1 (by decide) (hts (.fieldLink RX4 18 "NeckShip" "spars" "LNeckShip$Spars;") (by decide +kernel)) (fun _ h9 => h9) rfl dX4_lentNameBody_9 ?_
  refine va_get (D := D) (ci := 2) (v := .ref (q 6)) (C := RX2) (T := TX2) (N := 9) hx hb hts hin2 hown hK hP 2 rfl rfl 3 (by decide) (hts (.fieldLink RX4 109 "NeckShip$Spars" "thick" "[I") (by decide +kernel)) (fun _ h9 => h9) rfl dX4_lentNameBody_12 ?_
  refine lv_iload_n hx hb dX4_lentNameBody_15 rfl (lv_at hl 1 rfl) ?_
  refine va_ialdN (i := s0) hx hb hK hP 6 0 rfl rfl (by decide) (by omega) dX4_lentNameBody_16 ?_
  refine lv_imul hx hb dX4_lentNameBody_17 ?_
  refine lv_iadd hx hb dX4_lentNameBody_18 ?_
  have hEE : s_X4_lentNameBody N V A s0 = ((nI s0 + ((10 : Int32) * A 6 s0)), N, (s_X4_beginBody N V A (4 : Int32)).2.1, A) := (by rw [s_X4_lentNameBody])
  rw [hEE]
  exact W.iret (v := (nI s0 + ((10 : Int32) * A 6 s0))) hx hb hr (fun t ht hW => ⟨⟨_, (), rfl, rfl, ⟨by rw [ht]; exact hP, va_K.moved hW.alike hK, hN.warm hW⟩, hD⟩, hS.F ht⟩) hS.2.2 dX4_lentNameBody_19
def s_X4_bowspritNameBody (N : Nat → Nat) (V : Nat → Int32) (A : Nat → Nat → Int32)  : Int32 × St :=
  ((40 : Int32), N, (s_X4_beginBody N V A (5 : Int32)).2.1, A)
set_option maxHeartbeats 4000000 in
set_option maxRecDepth 100000 in
theorem c_X4_bowspritNameBody (l : Launch) (D : va_G) (cI cZ cS : ClassId) (q : Nat → Nat) (N : Nat → Nat) (V : Nat → Int32) (A : Nat → Nat → Int32) (sz : Nat) : Met l yX4_bowspritNameBody wsX4_bowspritNameBody ({ frames := 1, cells := 0, slots := 0, locals := 21 }) (va_Pc [.ref (q 0)] (fun U => U.heap.size = sz ∧ PC D cI cZ cS q N V A U ∧ va_D (fun _ => True) (wC cI cS q N V A))) (va_Qi (fun r (_ : Unit) => r = (s_X4_bowspritNameBody N V A).1) (fun _ t => PC D cI cZ cS q (s_X4_bowspritNameBody N V A).2.1 (s_X4_bowspritNameBody N V A).2.2.1 (s_X4_bowspritNameBody N V A).2.2.2 t ∧ va_D (va_A (wC cI cS q N V A) sz) (wC cI cS q (s_X4_bowspritNameBody N V A).2.1 (s_X4_bowspritNameBody N V A).2.2.1 (s_X4_bowspritNameBody N V A).2.2.2)) (va_A (wC cI cS q N V A) sz)) 0 0 (va_A (wC cI cS q N V A) sz) := by
  refine Met.ofW (cc := cX4_bowspritNameBody) (maxL := 1) (ret := (some .int)) (by decide) rfl ?_
  intro p e s m args below meth c s₁ B hml hv
  obtain ⟨rfl, hsz, ⟨hP, hK, hN⟩, hD0⟩ := hv
  have hx := B.exec
  have hb := B.bytes
  have hr := B.returns
  have hts := atoms_spec (ws := wsX4_bowspritNameBody) B.pre
  have hown : s.vm.findClass RX4 = some m.cls := findClass_of_methodNamed B.named
  have hlocks := B.notSynchronized
  subst hsz
  have hD := hD0.self (sz := s.heap.size)
  generalize hAe : va_A (wC cI cS q N V A) s.heap.size = Ar at hD ⊢
  have hA : ∀ q : Nat, s.heap.size ≤ q → Ar q := fun q h => by rw [← hAe]; exact Or.inr h
  have hS : va_S Ar s.heap s.heap [] := va_S.rf
  have hl := lv_entry ([.ref (q 0)]) (n := 1) (Nat.le_of_ble_eq_true rfl)
  rw [lg_entry_eq]
  generalize (lg_sl ([.ref (q 0)]) ++ List.replicate (1 - (lg_sl ([.ref (q 0)])).length) Slot.unset).toArray = ls at hl ⊢
  have hl : lv_has ls 1 [(0, .ref (q 0))] := hl
  refine lv_aload_n hx hb dX4_bowspritNameBody_0 rfl (lv_at hl 0 rfl) ?_
  refine lv_iconst (v := (5)) hx hb dX4_bowspritNameBody_1 (by decide) ?_
  refine callCv (va_runV (As := [.int (5 : Int32)]) (rest := []) ⟨hx, hb, hml, hown, hts⟩ (c_X4_beginBody l D cI cZ cS q N V A s.heap.size (5 : Int32)) (cwV 1 hts gX4_bowspritNameBody_X4_beginBody rfl rfl rfl (by decide +kernel) ⟨Nat.le_of_ble_eq_true rfl, Nat.le_of_ble_eq_true rfl⟩) (preCm4 hK hN hP hD) rfl rfl hl.1 rfl (lv_room (Nat.le_of_ble_eq_true rfl)) dX4_bowspritNameBody_2 ⟨Nat.zero_le _, Nat.zero_le _⟩) hD hS hA (fun H locs hP hD hS => ?_)
  have hP : va_P D vwCl (wC cI cS q N ((s_X4_beginBody N V A (5 : Int32)).2.1) A) H := hP
  have hD : va_D Ar (wC cI cS q N ((s_X4_beginBody N V A (5 : Int32)).2.1) A) := hD
  refine lv_bipush (v := (40)) hx hb dX4_bowspritNameBody_5 (by decide) ?_
  have hEE : s_X4_bowspritNameBody N V A = ((40 : Int32), N, (s_X4_beginBody N V A (5 : Int32)).2.1, A) := (by rw [s_X4_bowspritNameBody])
  rw [hEE]
  exact W.iret (v := (40 : Int32)) hx hb hr (fun t ht hW => ⟨⟨_, (), rfl, rfl, ⟨by rw [ht]; exact hP, va_K.moved hW.alike hK, hN.warm hW⟩, hD⟩, hS.F ht⟩) hS.2.2 dX4_bowspritNameBody_7
def s_X4_isTooShort (N : Nat → Nat) (V : Nat → Int32) (A : Nat → Nat → Int32)  (v0 : Int32) : Bool :=
  if v0 < (s_X2_greatestFoot N V A) then
    true
  else
    if (s_X3_greatestHole N V A) ≤ (v0 + (20 : Int32)) then
      false
    else
      true
set_option maxHeartbeats 4000000 in
set_option maxRecDepth 100000 in
theorem c_X4_isTooShort (l : Launch) (D : va_G) (cI cZ cS : ClassId) (q : Nat → Nat) (N : Nat → Nat) (V : Nat → Int32) (A : Nat → Nat → Int32) (v0 : Int32) (h_1 : okC N A) : Met l yX4_isTooShort wsX4_isTooShort ({ frames := 2, cells := 0, slots := 0, locals := 43 }) (va_Pc [.ref (q 0), .int v0] (PC D cI cZ cS q N V A)) (vp_Si (fun r => r = b2i (s_X4_isTooShort N V A v0))) 0 0 (fun _ => False) := by
  refine Met.ofW (cc := cX4_isTooShort) (maxL := 2) (ret := (some .boolean)) (by decide) rfl ?_
  intro p e s m args below meth c s₁ B hml hv
  obtain ⟨rfl, hP, hK, hN⟩ := hv
  have hx := B.exec
  have hb := B.bytes
  have hr := B.returns
  have hts := atoms_spec (ws := wsX4_isTooShort) B.pre
  have hown : s.vm.findClass RX4 = some m.cls := findClass_of_methodNamed B.named
  have hlocks := B.notSynchronized
  have hin4 : ∀ w ∈ u_ws RX4 TX4 7, w ∈ wsX4_isTooShort := by decide +kernel
  obtain ⟨o1, o2, o3, o4, o5, o6, o7, o8, o9⟩ := id h_1
  have hl := lv_entry ([.ref (q 0), .int v0]) (n := 2) (Nat.le_of_ble_eq_true rfl)
  rw [lg_entry_eq]
  generalize (lg_sl ([.ref (q 0), .int v0]) ++ List.replicate (2 - (lg_sl ([.ref (q 0), .int v0])).length) Slot.unset).toArray = ls at hl ⊢
  have hl : lv_has ls 2 [(0, .ref (q 0)), (1, .int v0)] := hl
  refine lv_iload_n hx hb dX4_isTooShort_0 rfl (lv_at hl 1 rfl) ?_
  refine lv_aload_n hx hb dX4_isTooShort_1 rfl (lv_at hl 0 rfl) ?_
  refine va_get (D := D) (ci := 4) (v := .ref (q 2)) (C := RX4) (T := TX4) (N := 7) hx hb hts hin4 hown hK hP 0 rfl rfl 1 (by decide) (hts (.fieldLink RX4 18 "NeckShip" "spars" "LNeckShip$Spars;") (by decide +kernel)) (fun _ h9 => h9) rfl dX4_isTooShort_2 ?_
  refine vp_callSi (W.runV (As := []) (rest := [.int v0]) ⟨hx, hb, hml, hown, hts⟩ (c_X2_greatestFoot l D cI cZ cS q N V A h_1) (cwV 0 hts gX4_isTooShort_X2_greatestFoot rfl rfl rfl (by decide +kernel) ⟨Nat.le_of_ble_eq_true rfl, Nat.le_of_ble_eq_true rfl⟩) (preC2 hK hN hP) rfl rfl hl.1 rfl (lv_room (Nat.le_of_ble_eq_true rfl)) dX4_isTooShort_5 ⟨Nat.zero_le _, Nat.zero_le _⟩) (fun r_1 er_1 => ?_)
  subst er_1
  refine lv_icmp_lt (tgt := 25) hx hb dX4_isTooShort_8 (by decide) (fun c_2 => ?_) (fun c_2 => ?_)
  · refine lv_iconst (v := (1)) hx hb dX4_isTooShort_25 (by decide) ?_
    refine lv_goto (tgt := 30) hx hb dX4_isTooShort_26 (by decide) ?_
    exact W.zret (v := b2i true) hx hb hr (b2i_nar _) (fun t ht hW => ⟨_, rfl, (by rw [s_X4_isTooShort, if_pos c_2]), ht⟩) (fun _ h => by cases h) dX4_isTooShort_30
  · refine lv_iload_n hx hb dX4_isTooShort_11 rfl (lv_at hl 1 rfl) ?_
    refine lv_bipush (v := (20)) hx hb dX4_isTooShort_12 (by decide) ?_
    refine lv_iadd hx hb dX4_isTooShort_14 ?_
    refine lv_aload_n hx hb dX4_isTooShort_15 rfl (lv_at hl 0 rfl) ?_
    refine va_get (D := D) (ci := 4) (v := .ref (q 10)) (C := RX4) (T := TX4) (N := 7) hx hb hts hin4 hown hK hP 0 rfl rfl 2 (by decide) (hts (.fieldLink RX4 25 "NeckShip" "threads" "LNeckShip$Threads;") (by decide +kernel)) (fun _ h9 => h9) rfl dX4_isTooShort_16 ?_
    refine vp_callSi (W.runV (As := []) (rest := [.int (v0 + (20 : Int32))]) ⟨hx, hb, hml, hown, hts⟩ (c_X3_greatestHole l D cI cZ cS q N V A h_1) (cwV 0 hts gX4_isTooShort_X3_greatestHole rfl rfl rfl (by decide +kernel) ⟨Nat.le_of_ble_eq_true rfl, Nat.le_of_ble_eq_true rfl⟩) (preC3 hK hN hP) rfl rfl hl.1 rfl (lv_room (Nat.le_of_ble_eq_true rfl)) dX4_isTooShort_19 ⟨Nat.zero_le _, Nat.zero_le _⟩) (fun r_3 er_3 => ?_)
    subst er_3
    refine lv_icmp_ge (tgt := 29) hx hb dX4_isTooShort_22 (by decide) (fun c_4 => ?_) (fun c_4 => ?_)
    · refine lv_iconst (v := (0)) hx hb dX4_isTooShort_29 (by decide) ?_
      exact W.zret (v := b2i false) hx hb hr (b2i_nar _) (fun t ht hW => ⟨_, rfl, (by rw [s_X4_isTooShort, if_neg c_2, if_pos c_4]), ht⟩) (fun _ h => by cases h) dX4_isTooShort_30
    · refine lv_iconst (v := (1)) hx hb dX4_isTooShort_25 (by decide) ?_
      refine lv_goto (tgt := 30) hx hb dX4_isTooShort_26 (by decide) ?_
      exact W.zret (v := b2i true) hx hb hr (b2i_nar _) (fun t ht hW => ⟨_, rfl, (by rw [s_X4_isTooShort, if_neg c_2, if_neg c_4]), ht⟩) (fun _ h => by cases h) dX4_isTooShort_30
def s_X4_refusalOfSpar (N : Nat → Nat) (V : Nat → Int32) (A : Nat → Nat → Int32)  (k0 : Int32) (f0 : Int32) (l0 : Int32) (t0 : Int32) (w0 : Int32) (b0 : Int32) : Int32 :=
  if (s_X4_isWithin k0 (0 : Int32) (2 : Int32)) = true then
    if (s_X4_isWithin f0 (0 : Int32) (A 1 0)) = true then
      if (s_X4_isWithin l0 (1 : Int32) (60 : Int32)) = true then
        if (s_X4_isWithin t0 (1 : Int32) (9 : Int32)) = true then
          if w0 = (1 : Int32) then
            if b0 < (10 : Int32) then
              (0 : Int32)
            else
              (-4 : Int32)
          else
            if w0 = (-1 : Int32) then
              if b0 < (10 : Int32) then
                (0 : Int32)
              else
                (-4 : Int32)
            else
              (-2 : Int32)
        else
          (-2 : Int32)
      else
        (-2 : Int32)
    else
      (-2 : Int32)
  else
    (-2 : Int32)
set_option maxHeartbeats 4000000 in
set_option maxRecDepth 100000 in
theorem c_X4_refusalOfSpar (l : Launch) (D : va_G) (cI cZ cS : ClassId) (q : Nat → Nat) (N : Nat → Nat) (V : Nat → Int32) (A : Nat → Nat → Int32) (k0 : Int32) (f0 : Int32) (l0 : Int32) (t0 : Int32) (w0 : Int32) (b0 : Int32) : Met l yX4_refusalOfSpar wsX4_refusalOfSpar ({ frames := 1, cells := 0, slots := 0, locals := 22 }) (va_Pc [.ref (q 0), .int k0, .int f0, .int l0, .int t0, .int w0, .int b0] (PC D cI cZ cS q N V A)) (vp_Si (fun r => r = (s_X4_refusalOfSpar N V A k0 f0 l0 t0 w0 b0))) 0 0 (fun _ => False) := by
  refine Met.ofW (cc := cX4_refusalOfSpar) (maxL := 8) (ret := (some .int)) (by decide) rfl ?_
  intro p e s m args below meth c s₁ B hml hv
  obtain ⟨rfl, hP, hK, hN⟩ := hv
  have hx := B.exec
  have hb := B.bytes
  have hr := B.returns
  have hts := atoms_spec (ws := wsX4_refusalOfSpar) B.pre
  have hown : s.vm.findClass RX4 = some m.cls := findClass_of_methodNamed B.named
  have hlocks := B.notSynchronized
  have hin4 : ∀ w ∈ u_ws RX4 TX4 7, w ∈ wsX4_refusalOfSpar := by decide +kernel
  have hl := lv_entry ([.ref (q 0), .int k0, .int f0, .int l0, .int t0, .int w0, .int b0]) (n := 8) (Nat.le_of_ble_eq_true rfl)
  rw [lg_entry_eq]
  generalize (lg_sl ([.ref (q 0), .int k0, .int f0, .int l0, .int t0, .int w0, .int b0]) ++ List.replicate (8 - (lg_sl ([.ref (q 0), .int k0, .int f0, .int l0, .int t0, .int w0, .int b0])).length) Slot.unset).toArray = ls at hl ⊢
  have hl : lv_has ls 8 [(0, .ref (q 0)), (1, .int k0), (2, .int f0), (3, .int l0), (4, .int t0), (5, .int w0), (6, .int b0)] := hl
  refine lv_iload_n hx hb dX4_refusalOfSpar_0 rfl (lv_at hl 1 rfl) ?_
  refine lv_iconst (v := (0)) hx hb dX4_refusalOfSpar_1 (by decide) ?_
  refine lv_iconst (v := (2)) hx hb dX4_refusalOfSpar_2 (by decide) ?_
  refine vp_callSi (W.runS (As := [.int k0, .int (0 : Int32), .int (2 : Int32)]) (rest := []) ⟨hx, hb, hml, hown, hts⟩ (c_X4_isWithin l k0 (0 : Int32) (2 : Int32)) (cwS 3 hts gX4_refusalOfSpar_X4_isWithin rfl rfl rfl (by decide +kernel) ⟨Nat.le_of_ble_eq_true rfl, Nat.le_of_ble_eq_true rfl⟩) (preEq) rfl rfl hl.1 rfl (lv_room (Nat.le_of_ble_eq_true rfl)) dX4_refusalOfSpar_3 ⟨Nat.zero_le _, Nat.zero_le _⟩) (fun r_1 er_1 => ?_)
  subst er_1
  refine lz_if_eq (tgt := 60) hx hb dX4_refusalOfSpar_6 (by decide) (fun c_2 => ?_) (fun c_2 => ?_)
  · refine lv_iconst (v := (0)) hx hb dX4_refusalOfSpar_60 (by decide) ?_
    refine lv_istore (lv' := [(7, .int (0)), (0, .ref (q 0)), (1, .int k0), (2, .int f0), (3, .int l0), (4, .int t0), (5, .int w0), (6, .int b0)]) hx hb dX4_refusalOfSpar_61 hl (by decide) rfl (fun ls hl => ?_)
    refine lv_iload hx hb dX4_refusalOfSpar_63 (lv_at hl 0 rfl) ?_
    refine lv_if_ne (tgt := 71) hx hb dX4_refusalOfSpar_65 (by decide) (fun c_3 => absurd (by decide) c_3) (fun _ => ?_)
    refine lv_bipush (v := (-2)) hx hb dX4_refusalOfSpar_68 (by decide) ?_
    exact W.iret (v := (-2 : Int32)) hx hb hr (fun t ht hW => ⟨_, rfl, (by rw [s_X4_refusalOfSpar, if_neg (nb c_2)]), ht⟩) (fun _ h => by cases h) dX4_refusalOfSpar_70
  · refine lv_iload_n hx hb dX4_refusalOfSpar_9 rfl (lv_at hl 2 rfl) ?_
    refine lv_iconst (v := (0)) hx hb dX4_refusalOfSpar_10 (by decide) ?_
    refine lv_aload_n hx hb dX4_refusalOfSpar_11 rfl (lv_at hl 0 rfl) ?_
    refine va_get (D := D) (ci := 4) (v := .ref (q 1)) (C := RX4) (T := TX4) (N := 7) hx hb hts hin4 hown hK hP 0 rfl rfl 0 (by decide) (hts (.fieldLink RX4 9 "NeckShip" "measures" "[I") (by decide +kernel)) (fun _ h9 => h9) rfl dX4_refusalOfSpar_12 ?_
    refine lv_iconst (v := (0)) hx hb dX4_refusalOfSpar_15 (by decide) ?_
    refine va_ialdN (i := 0) hx hb hK hP 1 0 rfl rfl (by decide) (by omega) dX4_refusalOfSpar_16 ?_
    refine vp_callSi (W.runS (As := [.int f0, .int (0 : Int32), .int (A 1 0)]) (rest := []) ⟨hx, hb, hml, hown, hts⟩ (c_X4_isWithin l f0 (0 : Int32) (A 1 0)) (cwS 3 hts gX4_refusalOfSpar_X4_isWithin rfl rfl rfl (by decide +kernel) ⟨Nat.le_of_ble_eq_true rfl, Nat.le_of_ble_eq_true rfl⟩) (preEq) rfl rfl hl.1 rfl (lv_room (Nat.le_of_ble_eq_true rfl)) dX4_refusalOfSpar_17 ⟨Nat.zero_le _, Nat.zero_le _⟩) (fun r_4 er_4 => ?_)
    subst er_4
    refine lz_if_eq (tgt := 60) hx hb dX4_refusalOfSpar_20 (by decide) (fun c_5 => ?_) (fun c_5 => ?_)
    · refine lv_iconst (v := (0)) hx hb dX4_refusalOfSpar_60 (by decide) ?_
      refine lv_istore (lv' := [(7, .int (0)), (0, .ref (q 0)), (1, .int k0), (2, .int f0), (3, .int l0), (4, .int t0), (5, .int w0), (6, .int b0)]) hx hb dX4_refusalOfSpar_61 hl (by decide) rfl (fun ls hl => ?_)
      refine lv_iload hx hb dX4_refusalOfSpar_63 (lv_at hl 0 rfl) ?_
      refine lv_if_ne (tgt := 71) hx hb dX4_refusalOfSpar_65 (by decide) (fun c_6 => absurd (by decide) c_6) (fun _ => ?_)
      refine lv_bipush (v := (-2)) hx hb dX4_refusalOfSpar_68 (by decide) ?_
      exact W.iret (v := (-2 : Int32)) hx hb hr (fun t ht hW => ⟨_, rfl, (by rw [s_X4_refusalOfSpar, if_pos c_2, if_neg (nb c_5)]), ht⟩) (fun _ h => by cases h) dX4_refusalOfSpar_70
    · refine lv_iload_n hx hb dX4_refusalOfSpar_23 rfl (lv_at hl 3 rfl) ?_
      refine lv_iconst (v := (1)) hx hb dX4_refusalOfSpar_24 (by decide) ?_
      refine lv_bipush (v := (60)) hx hb dX4_refusalOfSpar_25 (by decide) ?_
      refine vp_callSi (W.runS (As := [.int l0, .int (1 : Int32), .int (60 : Int32)]) (rest := []) ⟨hx, hb, hml, hown, hts⟩ (c_X4_isWithin l l0 (1 : Int32) (60 : Int32)) (cwS 3 hts gX4_refusalOfSpar_X4_isWithin rfl rfl rfl (by decide +kernel) ⟨Nat.le_of_ble_eq_true rfl, Nat.le_of_ble_eq_true rfl⟩) (preEq) rfl rfl hl.1 rfl (lv_room (Nat.le_of_ble_eq_true rfl)) dX4_refusalOfSpar_27 ⟨Nat.zero_le _, Nat.zero_le _⟩) (fun r_7 er_7 => ?_)
      subst er_7
      refine lz_if_eq (tgt := 60) hx hb dX4_refusalOfSpar_30 (by decide) (fun c_8 => ?_) (fun c_8 => ?_)
      · refine lv_iconst (v := (0)) hx hb dX4_refusalOfSpar_60 (by decide) ?_
        refine lv_istore (lv' := [(7, .int (0)), (0, .ref (q 0)), (1, .int k0), (2, .int f0), (3, .int l0), (4, .int t0), (5, .int w0), (6, .int b0)]) hx hb dX4_refusalOfSpar_61 hl (by decide) rfl (fun ls hl => ?_)
        refine lv_iload hx hb dX4_refusalOfSpar_63 (lv_at hl 0 rfl) ?_
        refine lv_if_ne (tgt := 71) hx hb dX4_refusalOfSpar_65 (by decide) (fun c_9 => absurd (by decide) c_9) (fun _ => ?_)
        refine lv_bipush (v := (-2)) hx hb dX4_refusalOfSpar_68 (by decide) ?_
        exact W.iret (v := (-2 : Int32)) hx hb hr (fun t ht hW => ⟨_, rfl, (by rw [s_X4_refusalOfSpar, if_pos c_2, if_pos c_5, if_neg (nb c_8)]), ht⟩) (fun _ h => by cases h) dX4_refusalOfSpar_70
      · refine lv_iload hx hb dX4_refusalOfSpar_33 (lv_at hl 4 rfl) ?_
        refine lv_iconst (v := (1)) hx hb dX4_refusalOfSpar_35 (by decide) ?_
        refine lv_bipush (v := (9)) hx hb dX4_refusalOfSpar_36 (by decide) ?_
        refine vp_callSi (W.runS (As := [.int t0, .int (1 : Int32), .int (9 : Int32)]) (rest := []) ⟨hx, hb, hml, hown, hts⟩ (c_X4_isWithin l t0 (1 : Int32) (9 : Int32)) (cwS 3 hts gX4_refusalOfSpar_X4_isWithin rfl rfl rfl (by decide +kernel) ⟨Nat.le_of_ble_eq_true rfl, Nat.le_of_ble_eq_true rfl⟩) (preEq) rfl rfl hl.1 rfl (lv_room (Nat.le_of_ble_eq_true rfl)) dX4_refusalOfSpar_38 ⟨Nat.zero_le _, Nat.zero_le _⟩) (fun r_10 er_10 => ?_)
        subst er_10
        refine lz_if_eq (tgt := 60) hx hb dX4_refusalOfSpar_41 (by decide) (fun c_11 => ?_) (fun c_11 => ?_)
        · refine lv_iconst (v := (0)) hx hb dX4_refusalOfSpar_60 (by decide) ?_
          refine lv_istore (lv' := [(7, .int (0)), (0, .ref (q 0)), (1, .int k0), (2, .int f0), (3, .int l0), (4, .int t0), (5, .int w0), (6, .int b0)]) hx hb dX4_refusalOfSpar_61 hl (by decide) rfl (fun ls hl => ?_)
          refine lv_iload hx hb dX4_refusalOfSpar_63 (lv_at hl 0 rfl) ?_
          refine lv_if_ne (tgt := 71) hx hb dX4_refusalOfSpar_65 (by decide) (fun c_12 => absurd (by decide) c_12) (fun _ => ?_)
          refine lv_bipush (v := (-2)) hx hb dX4_refusalOfSpar_68 (by decide) ?_
          exact W.iret (v := (-2 : Int32)) hx hb hr (fun t ht hW => ⟨_, rfl, (by rw [s_X4_refusalOfSpar, if_pos c_2, if_pos c_5, if_pos c_8, if_neg (nb c_11)]), ht⟩) (fun _ h => by cases h) dX4_refusalOfSpar_70
        · refine lv_iload hx hb dX4_refusalOfSpar_44 (lv_at hl 5 rfl) ?_
          refine lv_iconst (v := (1)) hx hb dX4_refusalOfSpar_46 (by decide) ?_
          refine lv_icmp_eq (tgt := 56) hx hb dX4_refusalOfSpar_47 (by decide) (fun c_13 => ?_) (fun c_13 => ?_)
          · refine lv_iconst (v := (1)) hx hb dX4_refusalOfSpar_56 (by decide) ?_
            refine lv_goto (tgt := 61) hx hb dX4_refusalOfSpar_57 (by decide) ?_
            refine lv_istore (lv' := [(7, .int (1)), (0, .ref (q 0)), (1, .int k0), (2, .int f0), (3, .int l0), (4, .int t0), (5, .int w0), (6, .int b0)]) hx hb dX4_refusalOfSpar_61 hl (by decide) rfl (fun ls hl => ?_)
            refine lv_iload hx hb dX4_refusalOfSpar_63 (lv_at hl 0 rfl) ?_
            refine lv_if_ne (tgt := 71) hx hb dX4_refusalOfSpar_65 (by decide) (fun _ => ?_) (fun c_14 => absurd c_14 (by decide))
            refine lv_iload hx hb dX4_refusalOfSpar_71 (lv_at hl 7 rfl) ?_
            refine lv_bipush (v := (10)) hx hb dX4_refusalOfSpar_73 (by decide) ?_
            refine lv_icmp_lt (tgt := 83) hx hb dX4_refusalOfSpar_75 (by decide) (fun c_15 => ?_) (fun c_15 => ?_)
            · refine lv_iconst (v := (0)) hx hb dX4_refusalOfSpar_83 (by decide) ?_
              exact W.iret (v := (0 : Int32)) hx hb hr (fun t ht hW => ⟨_, rfl, (by rw [s_X4_refusalOfSpar, if_pos c_2, if_pos c_5, if_pos c_8, if_pos c_11, if_pos c_13, if_pos c_15]), ht⟩) (fun _ h => by cases h) dX4_refusalOfSpar_84
            · refine lv_bipush (v := (-4)) hx hb dX4_refusalOfSpar_78 (by decide) ?_
              refine lv_goto (tgt := 84) hx hb dX4_refusalOfSpar_80 (by decide) ?_
              exact W.iret (v := (-4 : Int32)) hx hb hr (fun t ht hW => ⟨_, rfl, (by rw [s_X4_refusalOfSpar, if_pos c_2, if_pos c_5, if_pos c_8, if_pos c_11, if_pos c_13, if_neg c_15]), ht⟩) (fun _ h => by cases h) dX4_refusalOfSpar_84
          · refine lv_iload hx hb dX4_refusalOfSpar_50 (lv_at hl 5 rfl) ?_
            refine lv_iconst (v := (-1)) hx hb dX4_refusalOfSpar_52 (by decide) ?_
            refine lv_icmp_ne (tgt := 60) hx hb dX4_refusalOfSpar_53 (by decide) (fun c_16 => ?_) (fun c_16 => ?_)
            · refine lv_iconst (v := (0)) hx hb dX4_refusalOfSpar_60 (by decide) ?_
              refine lv_istore (lv' := [(7, .int (0)), (0, .ref (q 0)), (1, .int k0), (2, .int f0), (3, .int l0), (4, .int t0), (5, .int w0), (6, .int b0)]) hx hb dX4_refusalOfSpar_61 hl (by decide) rfl (fun ls hl => ?_)
              refine lv_iload hx hb dX4_refusalOfSpar_63 (lv_at hl 0 rfl) ?_
              refine lv_if_ne (tgt := 71) hx hb dX4_refusalOfSpar_65 (by decide) (fun c_17 => absurd (by decide) c_17) (fun _ => ?_)
              refine lv_bipush (v := (-2)) hx hb dX4_refusalOfSpar_68 (by decide) ?_
              exact W.iret (v := (-2 : Int32)) hx hb hr (fun t ht hW => ⟨_, rfl, (by rw [s_X4_refusalOfSpar, if_pos c_2, if_pos c_5, if_pos c_8, if_pos c_11, if_neg c_13, if_neg c_16]), ht⟩) (fun _ h => by cases h) dX4_refusalOfSpar_70
            · refine lv_iconst (v := (1)) hx hb dX4_refusalOfSpar_56 (by decide) ?_
              refine lv_goto (tgt := 61) hx hb dX4_refusalOfSpar_57 (by decide) ?_
              refine lv_istore (lv' := [(7, .int (1)), (0, .ref (q 0)), (1, .int k0), (2, .int f0), (3, .int l0), (4, .int t0), (5, .int w0), (6, .int b0)]) hx hb dX4_refusalOfSpar_61 hl (by decide) rfl (fun ls hl => ?_)
              refine lv_iload hx hb dX4_refusalOfSpar_63 (lv_at hl 0 rfl) ?_
              refine lv_if_ne (tgt := 71) hx hb dX4_refusalOfSpar_65 (by decide) (fun _ => ?_) (fun c_18 => absurd c_18 (by decide))
              refine lv_iload hx hb dX4_refusalOfSpar_71 (lv_at hl 7 rfl) ?_
              refine lv_bipush (v := (10)) hx hb dX4_refusalOfSpar_73 (by decide) ?_
              refine lv_icmp_lt (tgt := 83) hx hb dX4_refusalOfSpar_75 (by decide) (fun c_19 => ?_) (fun c_19 => ?_)
              · refine lv_iconst (v := (0)) hx hb dX4_refusalOfSpar_83 (by decide) ?_
                exact W.iret (v := (0 : Int32)) hx hb hr (fun t ht hW => ⟨_, rfl, (by rw [s_X4_refusalOfSpar, if_pos c_2, if_pos c_5, if_pos c_8, if_pos c_11, if_neg c_13, if_pos c_16, if_pos c_19]), ht⟩) (fun _ h => by cases h) dX4_refusalOfSpar_84
              · refine lv_bipush (v := (-4)) hx hb dX4_refusalOfSpar_78 (by decide) ?_
                refine lv_goto (tgt := 84) hx hb dX4_refusalOfSpar_80 (by decide) ?_
                exact W.iret (v := (-4 : Int32)) hx hb hr (fun t ht hW => ⟨_, rfl, (by rw [s_X4_refusalOfSpar, if_pos c_2, if_pos c_5, if_pos c_8, if_pos c_11, if_neg c_13, if_pos c_16, if_neg c_19]), ht⟩) (fun _ h => by cases h) dX4_refusalOfSpar_84
theorem max1_ne (x : Int32) : ¬ (if (1 : Int32) < x then x else 1) = 0 := by
  split
  · rename_i h
    intro e
    rw [e] at h
    exact absurd h (by decide)
  · decide
def s_X4_slices (N : Nat → Nat) (V : Nat → Int32) (A : Nat → Nat → Int32)  : Int32 :=
  (((A 1 1 + (if (1 : Int32) < A 1 3 then A 1 3 else (1 : Int32))) - (1 : Int32)) / (if (1 : Int32) < A 1 3 then A 1 3 else (1 : Int32)))
set_option maxHeartbeats 4000000 in
set_option maxRecDepth 100000 in
theorem c_X4_slices (l : Launch) (D : va_G) (cI cZ cS : ClassId) (q : Nat → Nat) (N : Nat → Nat) (V : Nat → Int32) (A : Nat → Nat → Int32) : Met l yX4_slices wsX4_slices ({ frames := 1, cells := 0, slots := 0, locals := 21 }) (va_Pc [.ref (q 0)] (PC D cI cZ cS q N V A)) (vp_Si (fun r => r = (s_X4_slices N V A))) 0 0 (fun _ => False) := by
  refine Met.ofW (cc := cX4_slices) (maxL := 2) (ret := (some .int)) (by decide) rfl ?_
  intro p e s m args below meth c s₁ B hml hv
  obtain ⟨rfl, hP, hK, hN⟩ := hv
  have hx := B.exec
  have hb := B.bytes
  have hr := B.returns
  have hts := atoms_spec (ws := wsX4_slices) B.pre
  have hown : s.vm.findClass RX4 = some m.cls := findClass_of_methodNamed B.named
  have hlocks := B.notSynchronized
  have hin4 : ∀ w ∈ u_ws RX4 TX4 7, w ∈ wsX4_slices := by decide +kernel
  have hl := lv_entry ([.ref (q 0)]) (n := 2) (Nat.le_of_ble_eq_true rfl)
  rw [lg_entry_eq]
  generalize (lg_sl ([.ref (q 0)]) ++ List.replicate (2 - (lg_sl ([.ref (q 0)])).length) Slot.unset).toArray = ls at hl ⊢
  have hl : lv_has ls 2 [(0, .ref (q 0))] := hl
  refine lv_iconst (v := (1)) hx hb dX4_slices_0 (by decide) ?_
  refine lv_aload_n hx hb dX4_slices_1 rfl (lv_at hl 0 rfl) ?_
  refine va_get (D := D) (ci := 4) (v := .ref (q 1)) (C := RX4) (T := TX4) (N := 7) hx hb hts hin4 hown hK hP 0 rfl rfl 0 (by decide) (hts (.fieldLink RX4 9 "NeckShip" "measures" "[I") (by decide +kernel)) (fun _ h9 => h9) rfl dX4_slices_2 ?_
  refine lv_iconst (v := (3)) hx hb dX4_slices_5 (by decide) ?_
  refine va_ialdN (i := 3) hx hb hK hP 1 0 rfl rfl (by decide) (by omega) dX4_slices_6 ?_
  refine va_mmax hx hb (by rw [hml]; exact hl.1.symm) hown (hts (.methodLink RX4 261 Lib.Math.max.name) (by decide +kernel)) (hts (.static Lib.Math.max.name) (by decide +kernel)) (hts (.initialized "java/lang/Math") (by decide +kernel)) (hts (.code Lib.Math.max.name Lib.Math.max.code 2 (some .int)) (by decide +kernel)) (Nat.le_of_ble_eq_true rfl) (Nat.le_of_ble_eq_true rfl) (Nat.zero_le _) (Nat.zero_le _) dX4_slices_7 ?_
  refine lv_istore_n (lv' := [(1, .int (if (1 : Int32) < A 1 3 then A 1 3 else (1 : Int32))), (0, .ref (q 0))]) hx hb dX4_slices_10 rfl hl (by decide) rfl (fun ls hl => ?_)
  refine lv_aload_n hx hb dX4_slices_11 rfl (lv_at hl 1 rfl) ?_
  refine va_get (D := D) (ci := 4) (v := .ref (q 1)) (C := RX4) (T := TX4) (N := 7) hx hb hts hin4 hown hK hP 0 rfl rfl 0 (by decide) (hts (.fieldLink RX4 9 "NeckShip" "measures" "[I") (by decide +kernel)) (fun _ h9 => h9) rfl dX4_slices_12 ?_
  refine lv_iconst (v := (1)) hx hb dX4_slices_15 (by decide) ?_
  refine va_ialdN (i := 1) hx hb hK hP 1 0 rfl rfl (by decide) (by omega) dX4_slices_16 ?_
  refine lv_iload_n hx hb dX4_slices_17 rfl (lv_at hl 0 rfl) ?_
  refine lv_iadd hx hb dX4_slices_18 ?_
  refine lv_iconst (v := (1)) hx hb dX4_slices_19 (by decide) ?_
  refine lv_isub hx hb dX4_slices_20 ?_
  refine lv_iload_n hx hb dX4_slices_21 rfl (lv_at hl 0 rfl) ?_
  refine lv_idiv hx hb dX4_slices_22 (max1_ne _) ?_
  exact W.iret (v := (((A 1 1 + (if (1 : Int32) < A 1 3 then A 1 3 else (1 : Int32))) - (1 : Int32)) / (if (1 : Int32) < A 1 3 then A 1 3 else (1 : Int32)))) hx hb hr (fun t ht hW => ⟨_, rfl, (by rw [s_X4_slices]), ht⟩) (fun _ h => by cases h) dX4_slices_23
def s_X4_over (N : Nat → Nat) (V : Nat → Int32) (A : Nat → Nat → Int32)  (a0 : Int32) (b0 : Int32) : Int32 :=
  if (s_X2_has N V A a0) = true then
    if (s_X2_has N V A b0) = true then
      (s_X4_oneIf (s_X4_isIn (A 8 a0.toNatClampNeg) (nI b0.toNatClampNeg)))
    else
      (-1 : Int32)
  else
    (-1 : Int32)
set_option maxHeartbeats 4000000 in
set_option maxRecDepth 100000 in
theorem c_X4_over (l : Launch) (D : va_G) (cI cZ cS : ClassId) (q : Nat → Nat) (N : Nat → Nat) (V : Nat → Int32) (A : Nat → Nat → Int32) (a0 : Int32) (b0 : Int32) (h_1 : okC N A) : Met l yX4_over wsX4_over ({ frames := 1, cells := 0, slots := 0, locals := 21 }) (va_Pc [.ref (q 0), .int a0, .int b0] (PC D cI cZ cS q N V A)) (vp_Si (fun r => r = (s_X4_over N V A a0 b0))) 0 0 (fun _ => False) := by
  refine Met.ofW (cc := cX4_over) (maxL := 3) (ret := (some .int)) (by decide) rfl ?_
  intro p e s m args below meth c s₁ B hml hv
  obtain ⟨rfl, hP, hK, hN⟩ := hv
  have hx := B.exec
  have hb := B.bytes
  have hr := B.returns
  have hts := atoms_spec (ws := wsX4_over) B.pre
  have hown : s.vm.findClass RX4 = some m.cls := findClass_of_methodNamed B.named
  have hlocks := B.notSynchronized
  have hin2 : ∀ w ∈ u_ws RX2 TX2 9, w ∈ wsX4_over := by decide +kernel
  have hin4 : ∀ w ∈ u_ws RX4 TX4 7, w ∈ wsX4_over := by decide +kernel
  obtain ⟨o1, o2, o3, o4, o5, o6, o7, o8, o9⟩ := id h_1
  have hl := lv_entry ([.ref (q 0), .int a0, .int b0]) (n := 3) (Nat.le_of_ble_eq_true rfl)
  rw [lg_entry_eq]
  generalize (lg_sl ([.ref (q 0), .int a0, .int b0]) ++ List.replicate (3 - (lg_sl ([.ref (q 0), .int a0, .int b0])).length) Slot.unset).toArray = ls at hl ⊢
  have hl : lv_has ls 3 [(0, .ref (q 0)), (1, .int a0), (2, .int b0)] := hl
  refine lv_aload_n hx hb dX4_over_0 rfl (lv_at hl 0 rfl) ?_
  refine va_get (D := D) (ci := 4) (v := .ref (q 2)) (C := RX4) (T := TX4) (N := 7) hx hb hts hin4 hown hK hP 0 rfl rfl 1 (by decide) (hts (.fieldLink RX4 18 "NeckShip" "spars" "LNeckShip$Spars;") (by decide +kernel)) (fun _ h9 => h9) rfl dX4_over_1 ?_
  refine lv_iload_n hx hb dX4_over_4 rfl (lv_at hl 1 rfl) ?_
  refine vp_callSi (W.runV (As := [.int a0]) (rest := []) ⟨hx, hb, hml, hown, hts⟩ (c_X2_has l D cI cZ cS q N V A a0) (cwV 1 hts gX4_over_X2_has rfl rfl rfl (by decide +kernel) ⟨Nat.le_of_ble_eq_true rfl, Nat.le_of_ble_eq_true rfl⟩) (preC2 hK hN hP) rfl rfl hl.1 rfl (lv_room (Nat.le_of_ble_eq_true rfl)) dX4_over_5 ⟨Nat.zero_le _, Nat.zero_le _⟩) (fun r_1 er_1 => ?_)
  subst er_1
  refine lz_if_eq (tgt := 22) hx hb dX4_over_8 (by decide) (fun c_2 => ?_) (fun c_2 => ?_)
  · refine lv_iconst (v := (-1)) hx hb dX4_over_22 (by decide) ?_
    exact W.iret (v := (-1 : Int32)) hx hb hr (fun t ht hW => ⟨_, rfl, (by rw [s_X4_over, if_neg (nb c_2)]), ht⟩) (fun _ h => by cases h) dX4_over_23
  · obtain ⟨hlt_a0, heq_a0⟩ := has2_t o1 c_2
    have hl : lv_has ls 3 [(0, .ref (q 0)), (1, .int (nI a0.toNatClampNeg)), (2, .int b0)] := by rw [heq_a0]; exact hl
    refine lv_aload_n hx hb dX4_over_11 rfl (lv_at hl 0 rfl) ?_
    refine va_get (D := D) (ci := 4) (v := .ref (q 2)) (C := RX4) (T := TX4) (N := 7) hx hb hts hin4 hown hK hP 0 rfl rfl 1 (by decide) (hts (.fieldLink RX4 18 "NeckShip" "spars" "LNeckShip$Spars;") (by decide +kernel)) (fun _ h9 => h9) rfl dX4_over_12 ?_
    refine lv_iload_n hx hb dX4_over_15 rfl (lv_at hl 2 rfl) ?_
    refine vp_callSi (W.runV (As := [.int b0]) (rest := []) ⟨hx, hb, hml, hown, hts⟩ (c_X2_has l D cI cZ cS q N V A b0) (cwV 1 hts gX4_over_X2_has rfl rfl rfl (by decide +kernel) ⟨Nat.le_of_ble_eq_true rfl, Nat.le_of_ble_eq_true rfl⟩) (preC2 hK hN hP) rfl rfl hl.1 rfl (lv_room (Nat.le_of_ble_eq_true rfl)) dX4_over_16 ⟨Nat.zero_le _, Nat.zero_le _⟩) (fun r_3 er_3 => ?_)
    subst er_3
    refine lz_if_ne (tgt := 24) hx hb dX4_over_19 (by decide) (fun c_4 => ?_) (fun c_4 => ?_)
    · obtain ⟨hlt_b0, heq_b0⟩ := has2_t o1 c_4
      have hl : lv_has ls 3 [(0, .ref (q 0)), (1, .int (nI a0.toNatClampNeg)), (2, .int (nI b0.toNatClampNeg))] := by rw [heq_b0]; exact hl
      refine lv_aload_n hx hb dX4_over_24 rfl (lv_at hl 0 rfl) ?_
      refine va_get (D := D) (ci := 4) (v := .ref (q 2)) (C := RX4) (T := TX4) (N := 7) hx hb hts hin4 hown hK hP 0 rfl rfl 1 (by decide) (hts (.fieldLink RX4 18 "NeckShip" "spars" "LNeckShip$Spars;") (by decide +kernel)) (fun _ h9 => h9) rfl dX4_over_25 ?_
      refine va_get (D := D) (ci := 2) (v := .ref (q 8)) (C := RX2) (T := TX2) (N := 9) hx hb hts hin2 hown hK hP 2 rfl rfl 5 (by decide) (hts (.fieldLink RX4 140 "NeckShip$Spars" "over" "[I") (by decide +kernel)) (fun _ h9 => h9) rfl dX4_over_28 ?_
      refine lv_iload_n hx hb dX4_over_31 rfl (lv_at hl 1 rfl) ?_
      refine va_ialdN (i := a0.toNatClampNeg) hx hb hK hP 8 0 rfl rfl (by decide) (by omega) dX4_over_32 ?_
      refine lv_iload_n hx hb dX4_over_33 rfl (lv_at hl 2 rfl) ?_
      refine vp_callSi (W.runS (As := [.int (A 8 a0.toNatClampNeg), .int (nI b0.toNatClampNeg)]) (rest := []) ⟨hx, hb, hml, hown, hts⟩ (c_X4_isIn l (A 8 a0.toNatClampNeg) (nI b0.toNatClampNeg)) (cwS 2 hts gX4_over_X4_isIn rfl rfl rfl (by decide +kernel) ⟨Nat.le_of_ble_eq_true rfl, Nat.le_of_ble_eq_true rfl⟩) (preEq) rfl rfl hl.1 rfl (lv_room (Nat.le_of_ble_eq_true rfl)) dX4_over_34 ⟨Nat.zero_le _, Nat.zero_le _⟩) (fun r_5 er_5 => ?_)
      subst er_5
      refine vp_callSi (W.runS (As := [.int (b2i (s_X4_isIn (A 8 a0.toNatClampNeg) (nI b0.toNatClampNeg)))]) (rest := []) ⟨hx, hb, hml, hown, hts⟩ (c_X4_oneIf l (s_X4_isIn (A 8 a0.toNatClampNeg) (nI b0.toNatClampNeg))) (cwS 1 hts gX4_over_X4_oneIf rfl rfl rfl (by decide +kernel) ⟨Nat.le_of_ble_eq_true rfl, Nat.le_of_ble_eq_true rfl⟩) (preEq) rfl rfl hl.1 rfl (lv_room (Nat.le_of_ble_eq_true rfl)) dX4_over_37 ⟨Nat.zero_le _, Nat.zero_le _⟩) (fun r_6 er_6 => ?_)
      subst er_6
      exact W.iret (v := (s_X4_oneIf (s_X4_isIn (A 8 a0.toNatClampNeg) (nI b0.toNatClampNeg)))) hx hb hr (fun t ht hW => ⟨_, rfl, (by rw [s_X4_over, if_pos c_2, if_pos c_4]), ht⟩) (fun _ h => by cases h) dX4_over_40
    · refine lv_iconst (v := (-1)) hx hb dX4_over_22 (by decide) ?_
      exact W.iret (v := (-1 : Int32)) hx hb hr (fun t ht hW => ⟨_, rfl, (by rw [s_X4_over, if_pos c_2, if_neg (nb c_4)]), ht⟩) (fun _ h => by cases h) dX4_over_23
def s_X4_stack (N : Nat → Nat) (V : Nat → Int32) (A : Nat → Nat → Int32)  (u0 : Int32) : Int32 :=
  if (s_X4_isWithin u0 (-100 : Int32) (200 : Int32)) = true then
    (A 1 2 + (s_X2_thickAt N V A u0))
  else
    (-2 : Int32)
set_option maxHeartbeats 4000000 in
set_option maxRecDepth 100000 in
theorem c_X4_stack (l : Launch) (D : va_G) (cI cZ cS : ClassId) (q : Nat → Nat) (N : Nat → Nat) (V : Nat → Int32) (A : Nat → Nat → Int32) (u0 : Int32) (h_1 : okC N A) : Met l yX4_stack wsX4_stack ({ frames := 3, cells := 0, slots := 0, locals := 65 }) (va_Pc [.ref (q 0), .int u0] (PC D cI cZ cS q N V A)) (vp_Si (fun r => r = (s_X4_stack N V A u0))) 0 0 (fun _ => False) := by
  refine Met.ofW (cc := cX4_stack) (maxL := 2) (ret := (some .int)) (by decide) rfl ?_
  intro p e s m args below meth c s₁ B hml hv
  obtain ⟨rfl, hP, hK, hN⟩ := hv
  have hx := B.exec
  have hb := B.bytes
  have hr := B.returns
  have hts := atoms_spec (ws := wsX4_stack) B.pre
  have hown : s.vm.findClass RX4 = some m.cls := findClass_of_methodNamed B.named
  have hlocks := B.notSynchronized
  have hin4 : ∀ w ∈ u_ws RX4 TX4 7, w ∈ wsX4_stack := by decide +kernel
  obtain ⟨o1, o2, o3, o4, o5, o6, o7, o8, o9⟩ := id h_1
  have hl := lv_entry ([.ref (q 0), .int u0]) (n := 2) (Nat.le_of_ble_eq_true rfl)
  rw [lg_entry_eq]
  generalize (lg_sl ([.ref (q 0), .int u0]) ++ List.replicate (2 - (lg_sl ([.ref (q 0), .int u0])).length) Slot.unset).toArray = ls at hl ⊢
  have hl : lv_has ls 2 [(0, .ref (q 0)), (1, .int u0)] := hl
  refine lv_iload_n hx hb dX4_stack_0 rfl (lv_at hl 1 rfl) ?_
  refine lv_bipush (v := (-100)) hx hb dX4_stack_1 (by decide) ?_
  refine lv_sipush (v := (200)) hx hb dX4_stack_3 (by decide) ?_
  refine vp_callSi (W.runS (As := [.int u0, .int (-100 : Int32), .int (200 : Int32)]) (rest := []) ⟨hx, hb, hml, hown, hts⟩ (c_X4_isWithin l u0 (-100 : Int32) (200 : Int32)) (cwS 3 hts gX4_stack_X4_isWithin rfl rfl rfl (by decide +kernel) ⟨Nat.le_of_ble_eq_true rfl, Nat.le_of_ble_eq_true rfl⟩) (preEq) rfl rfl hl.1 rfl (lv_room (Nat.le_of_ble_eq_true rfl)) dX4_stack_6 ⟨Nat.zero_le _, Nat.zero_le _⟩) (fun r_1 er_1 => ?_)
  subst er_1
  refine lz_if_ne (tgt := 15) hx hb dX4_stack_9 (by decide) (fun c_2 => ?_) (fun c_2 => ?_)
  · refine lv_aload_n hx hb dX4_stack_15 rfl (lv_at hl 0 rfl) ?_
    refine va_get (D := D) (ci := 4) (v := .ref (q 1)) (C := RX4) (T := TX4) (N := 7) hx hb hts hin4 hown hK hP 0 rfl rfl 0 (by decide) (hts (.fieldLink RX4 9 "NeckShip" "measures" "[I") (by decide +kernel)) (fun _ h9 => h9) rfl dX4_stack_16 ?_
    refine lv_iconst (v := (2)) hx hb dX4_stack_19 (by decide) ?_
    refine va_ialdN (i := 2) hx hb hK hP 1 0 rfl rfl (by decide) (by omega) dX4_stack_20 ?_
    refine lv_aload_n hx hb dX4_stack_21 rfl (lv_at hl 0 rfl) ?_
    refine va_get (D := D) (ci := 4) (v := .ref (q 2)) (C := RX4) (T := TX4) (N := 7) hx hb hts hin4 hown hK hP 0 rfl rfl 1 (by decide) (hts (.fieldLink RX4 18 "NeckShip" "spars" "LNeckShip$Spars;") (by decide +kernel)) (fun _ h9 => h9) rfl dX4_stack_22 ?_
    refine lv_iload_n hx hb dX4_stack_25 rfl (lv_at hl 1 rfl) ?_
    refine vp_callSi (W.runV (As := [.int u0]) (rest := [.int (A 1 2)]) ⟨hx, hb, hml, hown, hts⟩ (c_X2_thickAt l D cI cZ cS q N V A u0 h_1) (cwV 1 hts gX4_stack_X2_thickAt rfl rfl rfl (by decide +kernel) ⟨Nat.le_of_ble_eq_true rfl, Nat.le_of_ble_eq_true rfl⟩) (preC2 hK hN hP) rfl rfl hl.1 rfl (lv_room (Nat.le_of_ble_eq_true rfl)) dX4_stack_26 ⟨Nat.zero_le _, Nat.zero_le _⟩) (fun r_3 er_3 => ?_)
    subst er_3
    refine lv_iadd hx hb dX4_stack_29 ?_
    exact W.iret (v := (A 1 2 + (s_X2_thickAt N V A u0))) hx hb hr (fun t ht hW => ⟨_, rfl, (by rw [s_X4_stack, if_pos c_2]), ht⟩) (fun _ h => by cases h) dX4_stack_30
  · refine lv_bipush (v := (-2)) hx hb dX4_stack_12 (by decide) ?_
    exact W.iret (v := (-2 : Int32)) hx hb hr (fun t ht hW => ⟨_, rfl, (by rw [s_X4_stack, if_neg (nb c_2)]), ht⟩) (fun _ h => by cases h) dX4_stack_14
def s_X4_fits (N : Nat → Nat) (V : Nat → Int32) (A : Nat → Nat → Int32)  (w0 : Int32) : Int32 :=
  if w0 = (0) then
    if A 1 4 < (A 1 2 + (s_X2_greatestThick N V A)) then
      (s_X4_oneIf false)
    else
      if A 1 3 < A 1 1 then
        (s_X4_oneIf false)
      else
        (s_X4_oneIf true)
  else
    if w0 = (1) then
      (A 1 2 + (s_X2_greatestThick N V A))
    else
      if w0 = (2) then
        (s_X4_slices N V A)
      else
        (-2 : Int32)
set_option maxHeartbeats 4000000 in
set_option maxRecDepth 100000 in
theorem c_X4_fits (l : Launch) (D : va_G) (cI cZ cS : ClassId) (q : Nat → Nat) (N : Nat → Nat) (V : Nat → Int32) (A : Nat → Nat → Int32) (w0 : Int32) (h_1 : okC N A) : Met l yX4_fits wsX4_fits ({ frames := 4, cells := 0, slots := 0, locals := 87 }) (va_Pc [.ref (q 0), .int w0] (PC D cI cZ cS q N V A)) (vp_Si (fun r => r = (s_X4_fits N V A w0))) 0 0 (fun _ => False) := by
  refine Met.ofW (cc := cX4_fits) (maxL := 3) (ret := (some .int)) (by decide) rfl ?_
  intro p e s m args below meth c s₁ B hml hv
  obtain ⟨rfl, hP, hK, hN⟩ := hv
  have hx := B.exec
  have hb := B.bytes
  have hr := B.returns
  have hts := atoms_spec (ws := wsX4_fits) B.pre
  have hown : s.vm.findClass RX4 = some m.cls := findClass_of_methodNamed B.named
  have hlocks := B.notSynchronized
  have hin4 : ∀ w ∈ u_ws RX4 TX4 7, w ∈ wsX4_fits := by decide +kernel
  obtain ⟨o1, o2, o3, o4, o5, o6, o7, o8, o9⟩ := id h_1
  have hl := lv_entry ([.ref (q 0), .int w0]) (n := 3) (Nat.le_of_ble_eq_true rfl)
  rw [lg_entry_eq]
  generalize (lg_sl ([.ref (q 0), .int w0]) ++ List.replicate (3 - (lg_sl ([.ref (q 0), .int w0])).length) Slot.unset).toArray = ls at hl ⊢
  have hl : lv_has ls 3 [(0, .ref (q 0)), (1, .int w0)] := hl
  refine lv_aload_n hx hb dX4_fits_0 rfl (lv_at hl 0 rfl) ?_
  refine va_get (D := D) (ci := 4) (v := .ref (q 1)) (C := RX4) (T := TX4) (N := 7) hx hb hts hin4 hown hK hP 0 rfl rfl 0 (by decide) (hts (.fieldLink RX4 9 "NeckShip" "measures" "[I") (by decide +kernel)) (fun _ h9 => h9) rfl dX4_fits_1 ?_
  refine lv_iconst (v := (2)) hx hb dX4_fits_4 (by decide) ?_
  refine va_ialdN (i := 2) hx hb hK hP 1 0 rfl rfl (by decide) (by omega) dX4_fits_5 ?_
  refine lv_aload_n hx hb dX4_fits_6 rfl (lv_at hl 0 rfl) ?_
  refine va_get (D := D) (ci := 4) (v := .ref (q 2)) (C := RX4) (T := TX4) (N := 7) hx hb hts hin4 hown hK hP 0 rfl rfl 1 (by decide) (hts (.fieldLink RX4 18 "NeckShip" "spars" "LNeckShip$Spars;") (by decide +kernel)) (fun _ h9 => h9) rfl dX4_fits_7 ?_
  refine vp_callSi (W.runV (As := []) (rest := [.int (A 1 2)]) ⟨hx, hb, hml, hown, hts⟩ (c_X2_greatestThick l D cI cZ cS q N V A h_1) (cwV 0 hts gX4_fits_X2_greatestThick rfl rfl rfl (by decide +kernel) ⟨Nat.le_of_ble_eq_true rfl, Nat.le_of_ble_eq_true rfl⟩) (preC2 hK hN hP) rfl rfl hl.1 rfl (lv_room (Nat.le_of_ble_eq_true rfl)) dX4_fits_10 ⟨Nat.zero_le _, Nat.zero_le _⟩) (fun r_1 er_1 => ?_)
  subst er_1
  refine lv_iadd hx hb dX4_fits_13 ?_
  refine lv_istore_n (lv' := [(2, .int (A 1 2 + (s_X2_greatestThick N V A))), (0, .ref (q 0)), (1, .int w0)]) hx hb dX4_fits_14 rfl hl (by decide) rfl (fun ls hl => ?_)
  refine lv_iload_n hx hb dX4_fits_15 rfl (lv_at hl 2 rfl) ?_
  by_cases c_2 : w0 = (0)
  · refine lv_tableIn (off := 28) (tgt := 44) hx hb dX4_fits_16 (by rw [c_2]; decide) (by rw [c_2]; decide) (by rw [c_2]; rfl) (by decide) ?_
    refine lv_iload_n hx hb dX4_fits_44 rfl (lv_at hl 0 rfl) ?_
    refine lv_aload_n hx hb dX4_fits_45 rfl (lv_at hl 1 rfl) ?_
    refine va_get (D := D) (ci := 4) (v := .ref (q 1)) (C := RX4) (T := TX4) (N := 7) hx hb hts hin4 hown hK hP 0 rfl rfl 0 (by decide) (hts (.fieldLink RX4 9 "NeckShip" "measures" "[I") (by decide +kernel)) (fun _ h9 => h9) rfl dX4_fits_46 ?_
    refine lv_iconst (v := (4)) hx hb dX4_fits_49 (by decide) ?_
    refine va_ialdN (i := 4) hx hb hK hP 1 0 rfl rfl (by decide) (by omega) dX4_fits_50 ?_
    refine lv_icmp_gt (tgt := 73) hx hb dX4_fits_51 (by decide) (fun c_3 => ?_) (fun c_3 => ?_)
    · refine lv_iconst (v := (0)) hx hb dX4_fits_73 (by decide) ?_
      refine vp_callSi (W.runS (As := [.int (b2i false)]) (rest := []) ⟨hx, hb, hml, hown, hts⟩ (c_X4_oneIf l false) (cwS 1 hts gX4_fits_X4_oneIf rfl rfl rfl (by decide +kernel) ⟨Nat.le_of_ble_eq_true rfl, Nat.le_of_ble_eq_true rfl⟩) (preEq) rfl rfl hl.1 rfl (lv_room (Nat.le_of_ble_eq_true rfl)) dX4_fits_74 ⟨Nat.zero_le _, Nat.zero_le _⟩) (fun r_4 er_4 => ?_)
      subst er_4
      exact W.iret (v := (s_X4_oneIf false)) hx hb hr (fun t ht hW => ⟨_, rfl, (by rw [s_X4_fits, if_pos c_2, if_pos c_3]), ht⟩) (fun _ h => by cases h) dX4_fits_77
    · refine lv_aload_n hx hb dX4_fits_54 rfl (lv_at hl 1 rfl) ?_
      refine va_get (D := D) (ci := 4) (v := .ref (q 1)) (C := RX4) (T := TX4) (N := 7) hx hb hts hin4 hown hK hP 0 rfl rfl 0 (by decide) (hts (.fieldLink RX4 9 "NeckShip" "measures" "[I") (by decide +kernel)) (fun _ h9 => h9) rfl dX4_fits_55 ?_
      refine lv_iconst (v := (1)) hx hb dX4_fits_58 (by decide) ?_
      refine va_ialdN (i := 1) hx hb hK hP 1 0 rfl rfl (by decide) (by omega) dX4_fits_59 ?_
      refine lv_aload_n hx hb dX4_fits_60 rfl (lv_at hl 1 rfl) ?_
      refine va_get (D := D) (ci := 4) (v := .ref (q 1)) (C := RX4) (T := TX4) (N := 7) hx hb hts hin4 hown hK hP 0 rfl rfl 0 (by decide) (hts (.fieldLink RX4 9 "NeckShip" "measures" "[I") (by decide +kernel)) (fun _ h9 => h9) rfl dX4_fits_61 ?_
      refine lv_iconst (v := (3)) hx hb dX4_fits_64 (by decide) ?_
      refine va_ialdN (i := 3) hx hb hK hP 1 0 rfl rfl (by decide) (by omega) dX4_fits_65 ?_
      refine lv_icmp_gt (tgt := 73) hx hb dX4_fits_66 (by decide) (fun c_5 => ?_) (fun c_5 => ?_)
      · refine lv_iconst (v := (0)) hx hb dX4_fits_73 (by decide) ?_
        refine vp_callSi (W.runS (As := [.int (b2i false)]) (rest := []) ⟨hx, hb, hml, hown, hts⟩ (c_X4_oneIf l false) (cwS 1 hts gX4_fits_X4_oneIf rfl rfl rfl (by decide +kernel) ⟨Nat.le_of_ble_eq_true rfl, Nat.le_of_ble_eq_true rfl⟩) (preEq) rfl rfl hl.1 rfl (lv_room (Nat.le_of_ble_eq_true rfl)) dX4_fits_74 ⟨Nat.zero_le _, Nat.zero_le _⟩) (fun r_6 er_6 => ?_)
        subst er_6
        exact W.iret (v := (s_X4_oneIf false)) hx hb hr (fun t ht hW => ⟨_, rfl, (by rw [s_X4_fits, if_pos c_2, if_neg c_3, if_pos c_5]), ht⟩) (fun _ h => by cases h) dX4_fits_77
      · refine lv_iconst (v := (1)) hx hb dX4_fits_69 (by decide) ?_
        refine lv_goto (tgt := 74) hx hb dX4_fits_70 (by decide) ?_
        refine vp_callSi (W.runS (As := [.int (b2i true)]) (rest := []) ⟨hx, hb, hml, hown, hts⟩ (c_X4_oneIf l true) (cwS 1 hts gX4_fits_X4_oneIf rfl rfl rfl (by decide +kernel) ⟨Nat.le_of_ble_eq_true rfl, Nat.le_of_ble_eq_true rfl⟩) (preEq) rfl rfl hl.1 rfl (lv_room (Nat.le_of_ble_eq_true rfl)) dX4_fits_74 ⟨Nat.zero_le _, Nat.zero_le _⟩) (fun r_7 er_7 => ?_)
        subst er_7
        exact W.iret (v := (s_X4_oneIf true)) hx hb hr (fun t ht hW => ⟨_, rfl, (by rw [s_X4_fits, if_pos c_2, if_neg c_3, if_neg c_5]), ht⟩) (fun _ h => by cases h) dX4_fits_77
  · by_cases c_8 : w0 = (1)
    · refine lv_tableIn (off := 62) (tgt := 78) hx hb dX4_fits_16 (by rw [c_8]; decide) (by rw [c_8]; decide) (by rw [c_8]; rfl) (by decide) ?_
      refine lv_iload_n hx hb dX4_fits_78 rfl (lv_at hl 0 rfl) ?_
      exact W.iret (v := (A 1 2 + (s_X2_greatestThick N V A))) hx hb hr (fun t ht hW => ⟨_, rfl, (by rw [s_X4_fits, if_neg c_2, if_pos c_8]), ht⟩) (fun _ h => by cases h) dX4_fits_79
    · by_cases c_9 : w0 = (2)
      · refine lv_tableIn (off := 64) (tgt := 80) hx hb dX4_fits_16 (by rw [c_9]; decide) (by rw [c_9]; decide) (by rw [c_9]; rfl) (by decide) ?_
        refine lv_aload_n hx hb dX4_fits_80 rfl (lv_at hl 1 rfl) ?_
        refine vp_callSi (W.runV (As := []) (rest := []) ⟨hx, hb, hml, hown, hts⟩ (c_X4_slices l D cI cZ cS q N V A) (cwV 0 hts gX4_fits_X4_slices rfl rfl rfl (by decide +kernel) ⟨Nat.le_of_ble_eq_true rfl, Nat.le_of_ble_eq_true rfl⟩) (preC4 hK hN hP) rfl rfl hl.1 rfl (lv_room (Nat.le_of_ble_eq_true rfl)) dX4_fits_81 ⟨Nat.zero_le _, Nat.zero_le _⟩) (fun r_10 er_10 => ?_)
        subst er_10
        exact W.iret (v := (s_X4_slices N V A)) hx hb hr (fun t ht hW => ⟨_, rfl, (by rw [s_X4_fits, if_neg c_2, if_neg c_8, if_pos c_9]), ht⟩) (fun _ h => by cases h) dX4_fits_84
      · refine lv_tableOut (tgt := 85) hx hb dX4_fits_16 (tsw_out w0 (by decide) [0, 1, 2] rfl (by simp only [List.forall_mem_cons]; exact ⟨c_2, c_8, c_9, fun _ h => absurd h List.not_mem_nil⟩)) (by decide) ?_
        refine lv_bipush (v := (-2)) hx hb dX4_fits_85 (by decide) ?_
        exact W.iret (v := (-2 : Int32)) hx hb hr (fun t ht hW => ⟨_, rfl, (by rw [s_X4_fits, if_neg c_2, if_neg c_8, if_neg c_9]), ht⟩) (fun _ h => by cases h) dX4_fits_87
def s_X4_about (N : Nat → Nat) (V : Nat → Int32) (A : Nat → Nat → Int32)  (s0 : Int32) (w0 : Int32) : Int32 :=
  if (s_X2_has N V A s0) = true then
    if w0 = (0) then
      A 3 s0.toNatClampNeg
    else
      if w0 = (1) then
        A 4 s0.toNatClampNeg
      else
        if w0 = (2) then
          A 5 s0.toNatClampNeg
        else
          if w0 = (3) then
            A 6 s0.toNatClampNeg
          else
            if w0 = (4) then
              A 7 s0.toNatClampNeg
            else
              if w0 = (5) then
                (s_X4_oneIf (s_X2_isUp N V A (nI s0.toNatClampNeg)))
              else
                if w0 = (6) then
                  if (s_X2_isUp N V A (nI s0.toNatClampNeg)) = true then
                    if nI (s_X3_raisersOf N V A (nI s0.toNatClampNeg)) = 0 then
                      (s_X4_oneIf false)
                    else
                      (s_X4_oneIf true)
                  else
                    (s_X4_oneIf false)
                else
                  if w0 = (7) then
                    (s_X4_oneIf (s_X2_mayRise N V A s0.toNatClampNeg (nI (N 2)) (nI (s_X3_raised N V A))))
                  else
                    if w0 = (8) then
                      nI (s_J6_bitCount_0f7a4 (s_X3_raisersOf N V A (nI s0.toNatClampNeg)))
                    else
                      if w0 = (9) then
                        nI (s_J6_bitCount_0f7a4 (((A 8 s0.toNatClampNeg).toNatClampNeg) &&& (s_X2_lying N V A)))
                      else
                        (-2 : Int32)
  else
    (-1 : Int32)
set_option maxHeartbeats 4000000 in
set_option maxRecDepth 100000 in
theorem c_X4_about (l : Launch) (D : va_G) (cI cZ cS : ClassId) (q : Nat → Nat) (N : Nat → Nat) (V : Nat → Int32) (A : Nat → Nat → Int32) (s0 : Int32) (w0 : Int32) (h_1 : okC N A) : Met l yX4_about wsX4_about ({ frames := 2, cells := 0, slots := 0, locals := 44 }) (va_Pc [.ref (q 0), .int s0, .int w0] (PC D cI cZ cS q N V A)) (vp_Si (fun r => r = (s_X4_about N V A s0 w0))) 0 0 (fun _ => False) := by
  refine Met.ofW (cc := cX4_about) (maxL := 3) (ret := (some .int)) (by decide) rfl ?_
  intro p e s m args below meth c s₁ B hml hv
  obtain ⟨rfl, hP, hK, hN⟩ := hv
  have hx := B.exec
  have hb := B.bytes
  have hr := B.returns
  have hts := atoms_spec (ws := wsX4_about) B.pre
  have hown : s.vm.findClass RX4 = some m.cls := findClass_of_methodNamed B.named
  have hlocks := B.notSynchronized
  have hin2 : ∀ w ∈ u_ws RX2 TX2 9, w ∈ wsX4_about := by decide +kernel
  have hin4 : ∀ w ∈ u_ws RX4 TX4 7, w ∈ wsX4_about := by decide +kernel
  obtain ⟨o1, o2, o3, o4, o5, o6, o7, o8, o9⟩ := id h_1
  have hl := lv_entry ([.ref (q 0), .int s0, .int w0]) (n := 3) (Nat.le_of_ble_eq_true rfl)
  rw [lg_entry_eq]
  generalize (lg_sl ([.ref (q 0), .int s0, .int w0]) ++ List.replicate (3 - (lg_sl ([.ref (q 0), .int s0, .int w0])).length) Slot.unset).toArray = ls at hl ⊢
  have hl : lv_has ls 3 [(0, .ref (q 0)), (1, .int s0), (2, .int w0)] := hl
  refine lv_aload_n hx hb dX4_about_0 rfl (lv_at hl 0 rfl) ?_
  refine va_get (D := D) (ci := 4) (v := .ref (q 2)) (C := RX4) (T := TX4) (N := 7) hx hb hts hin4 hown hK hP 0 rfl rfl 1 (by decide) (hts (.fieldLink RX4 18 "NeckShip" "spars" "LNeckShip$Spars;") (by decide +kernel)) (fun _ h9 => h9) rfl dX4_about_1 ?_
  refine lv_iload_n hx hb dX4_about_4 rfl (lv_at hl 1 rfl) ?_
  refine vp_callSi (W.runV (As := [.int s0]) (rest := []) ⟨hx, hb, hml, hown, hts⟩ (c_X2_has l D cI cZ cS q N V A s0) (cwV 1 hts gX4_about_X2_has rfl rfl rfl (by decide +kernel) ⟨Nat.le_of_ble_eq_true rfl, Nat.le_of_ble_eq_true rfl⟩) (preC2 hK hN hP) rfl rfl hl.1 rfl (lv_room (Nat.le_of_ble_eq_true rfl)) dX4_about_5 ⟨Nat.zero_le _, Nat.zero_le _⟩) (fun r_1 er_1 => ?_)
  subst er_1
  refine lz_if_ne (tgt := 13) hx hb dX4_about_8 (by decide) (fun c_2 => ?_) (fun c_2 => ?_)
  · obtain ⟨hlt_s0, heq_s0⟩ := has2_t o1 c_2
    have hl : lv_has ls 3 [(0, .ref (q 0)), (1, .int (nI s0.toNatClampNeg)), (2, .int w0)] := by rw [heq_s0]; exact hl
    refine lv_iload_n hx hb dX4_about_13 rfl (lv_at hl 2 rfl) ?_
    by_cases c_3 : w0 = (0)
    · refine lv_tableIn (off := 54) (tgt := 68) hx hb dX4_about_14 (by rw [c_3]; decide) (by rw [c_3]; decide) (by rw [c_3]; rfl) (by decide) ?_
      refine lv_aload_n hx hb dX4_about_68 rfl (lv_at hl 0 rfl) ?_
      refine va_get (D := D) (ci := 4) (v := .ref (q 2)) (C := RX4) (T := TX4) (N := 7) hx hb hts hin4 hown hK hP 0 rfl rfl 1 (by decide) (hts (.fieldLink RX4 18 "NeckShip" "spars" "LNeckShip$Spars;") (by decide +kernel)) (fun _ h9 => h9) rfl dX4_about_69 ?_
      refine va_get (D := D) (ci := 2) (v := .ref (q 3)) (C := RX2) (T := TX2) (N := 9) hx hb hts hin2 hown hK hP 2 rfl rfl 0 (by decide) (hts (.fieldLink RX4 100 "NeckShip$Spars" "kind" "[I") (by decide +kernel)) (fun _ h9 => h9) rfl dX4_about_72 ?_
      refine lv_iload_n hx hb dX4_about_75 rfl (lv_at hl 1 rfl) ?_
      refine va_ialdN (i := s0.toNatClampNeg) hx hb hK hP 3 0 rfl rfl (by decide) (by omega) dX4_about_76 ?_
      exact W.iret (v := A 3 s0.toNatClampNeg) hx hb hr (fun t ht hW => ⟨_, rfl, (by rw [s_X4_about, if_pos c_2, if_pos c_3]), ht⟩) (fun _ h => by cases h) dX4_about_77
    · by_cases c_4 : w0 = (1)
      · refine lv_tableIn (off := 64) (tgt := 78) hx hb dX4_about_14 (by rw [c_4]; decide) (by rw [c_4]; decide) (by rw [c_4]; rfl) (by decide) ?_
        refine lv_aload_n hx hb dX4_about_78 rfl (lv_at hl 0 rfl) ?_
        refine va_get (D := D) (ci := 4) (v := .ref (q 2)) (C := RX4) (T := TX4) (N := 7) hx hb hts hin4 hown hK hP 0 rfl rfl 1 (by decide) (hts (.fieldLink RX4 18 "NeckShip" "spars" "LNeckShip$Spars;") (by decide +kernel)) (fun _ h9 => h9) rfl dX4_about_79 ?_
        refine va_get (D := D) (ci := 2) (v := .ref (q 4)) (C := RX2) (T := TX2) (N := 9) hx hb hts hin2 hown hK hP 2 rfl rfl 1 (by decide) (hts (.fieldLink RX4 103 "NeckShip$Spars" "foot" "[I") (by decide +kernel)) (fun _ h9 => h9) rfl dX4_about_82 ?_
        refine lv_iload_n hx hb dX4_about_85 rfl (lv_at hl 1 rfl) ?_
        refine va_ialdN (i := s0.toNatClampNeg) hx hb hK hP 4 0 rfl rfl (by decide) (by omega) dX4_about_86 ?_
        exact W.iret (v := A 4 s0.toNatClampNeg) hx hb hr (fun t ht hW => ⟨_, rfl, (by rw [s_X4_about, if_pos c_2, if_neg c_3, if_pos c_4]), ht⟩) (fun _ h => by cases h) dX4_about_87
      · by_cases c_5 : w0 = (2)
        · refine lv_tableIn (off := 74) (tgt := 88) hx hb dX4_about_14 (by rw [c_5]; decide) (by rw [c_5]; decide) (by rw [c_5]; rfl) (by decide) ?_
          refine lv_aload_n hx hb dX4_about_88 rfl (lv_at hl 0 rfl) ?_
          refine va_get (D := D) (ci := 4) (v := .ref (q 2)) (C := RX4) (T := TX4) (N := 7) hx hb hts hin4 hown hK hP 0 rfl rfl 1 (by decide) (hts (.fieldLink RX4 18 "NeckShip" "spars" "LNeckShip$Spars;") (by decide +kernel)) (fun _ h9 => h9) rfl dX4_about_89 ?_
          refine va_get (D := D) (ci := 2) (v := .ref (q 5)) (C := RX2) (T := TX2) (N := 9) hx hb hts hin2 hown hK hP 2 rfl rfl 2 (by decide) (hts (.fieldLink RX4 106 "NeckShip$Spars" "length" "[I") (by decide +kernel)) (fun _ h9 => h9) rfl dX4_about_92 ?_
          refine lv_iload_n hx hb dX4_about_95 rfl (lv_at hl 1 rfl) ?_
          refine va_ialdN (i := s0.toNatClampNeg) hx hb hK hP 5 0 rfl rfl (by decide) (by omega) dX4_about_96 ?_
          exact W.iret (v := A 5 s0.toNatClampNeg) hx hb hr (fun t ht hW => ⟨_, rfl, (by rw [s_X4_about, if_pos c_2, if_neg c_3, if_neg c_4, if_pos c_5]), ht⟩) (fun _ h => by cases h) dX4_about_97
        · by_cases c_6 : w0 = (3)
          · refine lv_tableIn (off := 84) (tgt := 98) hx hb dX4_about_14 (by rw [c_6]; decide) (by rw [c_6]; decide) (by rw [c_6]; rfl) (by decide) ?_
            refine lv_aload_n hx hb dX4_about_98 rfl (lv_at hl 0 rfl) ?_
            refine va_get (D := D) (ci := 4) (v := .ref (q 2)) (C := RX4) (T := TX4) (N := 7) hx hb hts hin4 hown hK hP 0 rfl rfl 1 (by decide) (hts (.fieldLink RX4 18 "NeckShip" "spars" "LNeckShip$Spars;") (by decide +kernel)) (fun _ h9 => h9) rfl dX4_about_99 ?_
            refine va_get (D := D) (ci := 2) (v := .ref (q 6)) (C := RX2) (T := TX2) (N := 9) hx hb hts hin2 hown hK hP 2 rfl rfl 3 (by decide) (hts (.fieldLink RX4 109 "NeckShip$Spars" "thick" "[I") (by decide +kernel)) (fun _ h9 => h9) rfl dX4_about_102 ?_
            refine lv_iload_n hx hb dX4_about_105 rfl (lv_at hl 1 rfl) ?_
            refine va_ialdN (i := s0.toNatClampNeg) hx hb hK hP 6 0 rfl rfl (by decide) (by omega) dX4_about_106 ?_
            exact W.iret (v := A 6 s0.toNatClampNeg) hx hb hr (fun t ht hW => ⟨_, rfl, (by rw [s_X4_about, if_pos c_2, if_neg c_3, if_neg c_4, if_neg c_5, if_pos c_6]), ht⟩) (fun _ h => by cases h) dX4_about_107
          · by_cases c_7 : w0 = (4)
            · refine lv_tableIn (off := 94) (tgt := 108) hx hb dX4_about_14 (by rw [c_7]; decide) (by rw [c_7]; decide) (by rw [c_7]; rfl) (by decide) ?_
              refine lv_aload_n hx hb dX4_about_108 rfl (lv_at hl 0 rfl) ?_
              refine va_get (D := D) (ci := 4) (v := .ref (q 2)) (C := RX4) (T := TX4) (N := 7) hx hb hts hin4 hown hK hP 0 rfl rfl 1 (by decide) (hts (.fieldLink RX4 18 "NeckShip" "spars" "LNeckShip$Spars;") (by decide +kernel)) (fun _ h9 => h9) rfl dX4_about_109 ?_
              refine va_get (D := D) (ci := 2) (v := .ref (q 7)) (C := RX2) (T := TX2) (N := 9) hx hb hts hin2 hown hK hP 2 rfl rfl 4 (by decide) (hts (.fieldLink RX4 112 "NeckShip$Spars" "way" "[I") (by decide +kernel)) (fun _ h9 => h9) rfl dX4_about_112 ?_
              refine lv_iload_n hx hb dX4_about_115 rfl (lv_at hl 1 rfl) ?_
              refine va_ialdN (i := s0.toNatClampNeg) hx hb hK hP 7 0 rfl rfl (by decide) (by omega) dX4_about_116 ?_
              exact W.iret (v := A 7 s0.toNatClampNeg) hx hb hr (fun t ht hW => ⟨_, rfl, (by rw [s_X4_about, if_pos c_2, if_neg c_3, if_neg c_4, if_neg c_5, if_neg c_6, if_pos c_7]), ht⟩) (fun _ h => by cases h) dX4_about_117
            · by_cases c_8 : w0 = (5)
              · refine lv_tableIn (off := 104) (tgt := 118) hx hb dX4_about_14 (by rw [c_8]; decide) (by rw [c_8]; decide) (by rw [c_8]; rfl) (by decide) ?_
                refine lv_aload_n hx hb dX4_about_118 rfl (lv_at hl 0 rfl) ?_
                refine va_get (D := D) (ci := 4) (v := .ref (q 2)) (C := RX4) (T := TX4) (N := 7) hx hb hts hin4 hown hK hP 0 rfl rfl 1 (by decide) (hts (.fieldLink RX4 18 "NeckShip" "spars" "LNeckShip$Spars;") (by decide +kernel)) (fun _ h9 => h9) rfl dX4_about_119 ?_
                refine lv_iload_n hx hb dX4_about_122 rfl (lv_at hl 1 rfl) ?_
                refine vp_callSi (W.runV (As := [.int (nI s0.toNatClampNeg)]) (rest := []) ⟨hx, hb, hml, hown, hts⟩ (c_X2_isUp l D cI cZ cS q N V A (nI s0.toNatClampNeg)) (cwV 1 hts gX4_about_X2_isUp rfl rfl rfl (by decide +kernel) ⟨Nat.le_of_ble_eq_true rfl, Nat.le_of_ble_eq_true rfl⟩) (preC2 hK hN hP) rfl rfl hl.1 rfl (lv_room (Nat.le_of_ble_eq_true rfl)) dX4_about_123 ⟨Nat.zero_le _, Nat.zero_le _⟩) (fun r_9 er_9 => ?_)
                subst er_9
                refine vp_callSi (W.runS (As := [.int (b2i (s_X2_isUp N V A (nI s0.toNatClampNeg)))]) (rest := []) ⟨hx, hb, hml, hown, hts⟩ (c_X4_oneIf l (s_X2_isUp N V A (nI s0.toNatClampNeg))) (cwS 1 hts gX4_about_X4_oneIf rfl rfl rfl (by decide +kernel) ⟨Nat.le_of_ble_eq_true rfl, Nat.le_of_ble_eq_true rfl⟩) (preEq) rfl rfl hl.1 rfl (lv_room (Nat.le_of_ble_eq_true rfl)) dX4_about_126 ⟨Nat.zero_le _, Nat.zero_le _⟩) (fun r_10 er_10 => ?_)
                subst er_10
                exact W.iret (v := (s_X4_oneIf (s_X2_isUp N V A (nI s0.toNatClampNeg)))) hx hb hr (fun t ht hW => ⟨_, rfl, (by rw [s_X4_about, if_pos c_2, if_neg c_3, if_neg c_4, if_neg c_5, if_neg c_6, if_neg c_7, if_pos c_8]), ht⟩) (fun _ h => by cases h) dX4_about_129
              · by_cases c_11 : w0 = (6)
                · refine lv_tableIn (off := 116) (tgt := 130) hx hb dX4_about_14 (by rw [c_11]; decide) (by rw [c_11]; decide) (by rw [c_11]; rfl) (by decide) ?_
                  refine lv_aload_n hx hb dX4_about_130 rfl (lv_at hl 0 rfl) ?_
                  refine va_get (D := D) (ci := 4) (v := .ref (q 2)) (C := RX4) (T := TX4) (N := 7) hx hb hts hin4 hown hK hP 0 rfl rfl 1 (by decide) (hts (.fieldLink RX4 18 "NeckShip" "spars" "LNeckShip$Spars;") (by decide +kernel)) (fun _ h9 => h9) rfl dX4_about_131 ?_
                  refine lv_iload_n hx hb dX4_about_134 rfl (lv_at hl 1 rfl) ?_
                  refine vp_callSi (W.runV (As := [.int (nI s0.toNatClampNeg)]) (rest := []) ⟨hx, hb, hml, hown, hts⟩ (c_X2_isUp l D cI cZ cS q N V A (nI s0.toNatClampNeg)) (cwV 1 hts gX4_about_X2_isUp rfl rfl rfl (by decide +kernel) ⟨Nat.le_of_ble_eq_true rfl, Nat.le_of_ble_eq_true rfl⟩) (preC2 hK hN hP) rfl rfl hl.1 rfl (lv_room (Nat.le_of_ble_eq_true rfl)) dX4_about_135 ⟨Nat.zero_le _, Nat.zero_le _⟩) (fun r_12 er_12 => ?_)
                  subst er_12
                  refine lz_if_eq (tgt := 156) hx hb dX4_about_138 (by decide) (fun c_13 => ?_) (fun c_13 => ?_)
                  · refine lv_iconst (v := (0)) hx hb dX4_about_156 (by decide) ?_
                    refine vp_callSi (W.runS (As := [.int (b2i false)]) (rest := []) ⟨hx, hb, hml, hown, hts⟩ (c_X4_oneIf l false) (cwS 1 hts gX4_about_X4_oneIf rfl rfl rfl (by decide +kernel) ⟨Nat.le_of_ble_eq_true rfl, Nat.le_of_ble_eq_true rfl⟩) (preEq) rfl rfl hl.1 rfl (lv_room (Nat.le_of_ble_eq_true rfl)) dX4_about_157 ⟨Nat.zero_le _, Nat.zero_le _⟩) (fun r_14 er_14 => ?_)
                    subst er_14
                    exact W.iret (v := (s_X4_oneIf false)) hx hb hr (fun t ht hW => ⟨_, rfl, (by rw [s_X4_about, if_pos c_2, if_neg c_3, if_neg c_4, if_neg c_5, if_neg c_6, if_neg c_7, if_neg c_8, if_pos c_11, if_neg (nb c_13)]), ht⟩) (fun _ h => by cases h) dX4_about_160
                  · refine lv_aload_n hx hb dX4_about_141 rfl (lv_at hl 0 rfl) ?_
                    refine va_get (D := D) (ci := 4) (v := .ref (q 10)) (C := RX4) (T := TX4) (N := 7) hx hb hts hin4 hown hK hP 0 rfl rfl 2 (by decide) (hts (.fieldLink RX4 25 "NeckShip" "threads" "LNeckShip$Threads;") (by decide +kernel)) (fun _ h9 => h9) rfl dX4_about_142 ?_
                    refine lv_iload_n hx hb dX4_about_145 rfl (lv_at hl 1 rfl) ?_
                    refine vp_callSi (W.runV (As := [.int (nI s0.toNatClampNeg)]) (rest := []) ⟨hx, hb, hml, hown, hts⟩ (c_X3_raisersOf l D cI cZ cS q N V A (nI s0.toNatClampNeg) h_1) (cwV 1 hts gX4_about_X3_raisersOf rfl rfl rfl (by decide +kernel) ⟨Nat.le_of_ble_eq_true rfl, Nat.le_of_ble_eq_true rfl⟩) (preC3 hK hN hP) rfl rfl hl.1 rfl (lv_room (Nat.le_of_ble_eq_true rfl)) dX4_about_146 ⟨Nat.zero_le _, Nat.zero_le _⟩) (fun r_15 er_15 => ?_)
                    subst er_15
                    refine lv_if_eq (tgt := 156) hx hb dX4_about_149 (by decide) (fun c_16 => ?_) (fun c_16 => ?_)
                    · refine lv_iconst (v := (0)) hx hb dX4_about_156 (by decide) ?_
                      refine vp_callSi (W.runS (As := [.int (b2i false)]) (rest := []) ⟨hx, hb, hml, hown, hts⟩ (c_X4_oneIf l false) (cwS 1 hts gX4_about_X4_oneIf rfl rfl rfl (by decide +kernel) ⟨Nat.le_of_ble_eq_true rfl, Nat.le_of_ble_eq_true rfl⟩) (preEq) rfl rfl hl.1 rfl (lv_room (Nat.le_of_ble_eq_true rfl)) dX4_about_157 ⟨Nat.zero_le _, Nat.zero_le _⟩) (fun r_17 er_17 => ?_)
                      subst er_17
                      exact W.iret (v := (s_X4_oneIf false)) hx hb hr (fun t ht hW => ⟨_, rfl, (by rw [s_X4_about, if_pos c_2, if_neg c_3, if_neg c_4, if_neg c_5, if_neg c_6, if_neg c_7, if_neg c_8, if_pos c_11, if_pos c_13, if_pos c_16]), ht⟩) (fun _ h => by cases h) dX4_about_160
                    · refine lv_iconst (v := (1)) hx hb dX4_about_152 (by decide) ?_
                      refine lv_goto (tgt := 157) hx hb dX4_about_153 (by decide) ?_
                      refine vp_callSi (W.runS (As := [.int (b2i true)]) (rest := []) ⟨hx, hb, hml, hown, hts⟩ (c_X4_oneIf l true) (cwS 1 hts gX4_about_X4_oneIf rfl rfl rfl (by decide +kernel) ⟨Nat.le_of_ble_eq_true rfl, Nat.le_of_ble_eq_true rfl⟩) (preEq) rfl rfl hl.1 rfl (lv_room (Nat.le_of_ble_eq_true rfl)) dX4_about_157 ⟨Nat.zero_le _, Nat.zero_le _⟩) (fun r_18 er_18 => ?_)
                      subst er_18
                      exact W.iret (v := (s_X4_oneIf true)) hx hb hr (fun t ht hW => ⟨_, rfl, (by rw [s_X4_about, if_pos c_2, if_neg c_3, if_neg c_4, if_neg c_5, if_neg c_6, if_neg c_7, if_neg c_8, if_pos c_11, if_pos c_13, if_neg c_16]), ht⟩) (fun _ h => by cases h) dX4_about_160
                · by_cases c_19 : w0 = (7)
                  · refine lv_tableIn (off := 147) (tgt := 161) hx hb dX4_about_14 (by rw [c_19]; decide) (by rw [c_19]; decide) (by rw [c_19]; rfl) (by decide) ?_
                    refine lv_aload_n hx hb dX4_about_161 rfl (lv_at hl 0 rfl) ?_
                    refine va_get (D := D) (ci := 4) (v := .ref (q 2)) (C := RX4) (T := TX4) (N := 7) hx hb hts hin4 hown hK hP 0 rfl rfl 1 (by decide) (hts (.fieldLink RX4 18 "NeckShip" "spars" "LNeckShip$Spars;") (by decide +kernel)) (fun _ h9 => h9) rfl dX4_about_162 ?_
                    refine lv_iload_n hx hb dX4_about_165 rfl (lv_at hl 1 rfl) ?_
                    refine lv_aload_n hx hb dX4_about_166 rfl (lv_at hl 0 rfl) ?_
                    refine va_get (D := D) (ci := 4) (v := .ref (q 2)) (C := RX4) (T := TX4) (N := 7) hx hb hts hin4 hown hK hP 0 rfl rfl 1 (by decide) (hts (.fieldLink RX4 18 "NeckShip" "spars" "LNeckShip$Spars;") (by decide +kernel)) (fun _ h9 => h9) rfl dX4_about_167 ?_
                    refine va_get (D := D) (ci := 2) (v := .int (nI (N 2))) (C := RX2) (T := TX2) (N := 9) hx hb hts hin2 hown hK hP 2 rfl rfl 8 (by decide) (hts (.fieldLink RX4 125 "NeckShip$Spars" "up" "I") (by decide +kernel)) (fun _ h9 => h9) rfl dX4_about_170 ?_
                    refine lv_aload_n hx hb dX4_about_173 rfl (lv_at hl 0 rfl) ?_
                    refine va_get (D := D) (ci := 4) (v := .ref (q 10)) (C := RX4) (T := TX4) (N := 7) hx hb hts hin4 hown hK hP 0 rfl rfl 2 (by decide) (hts (.fieldLink RX4 25 "NeckShip" "threads" "LNeckShip$Threads;") (by decide +kernel)) (fun _ h9 => h9) rfl dX4_about_174 ?_
                    refine vp_callSi (W.runV (As := []) (rest := [.int (nI (N 2)), .int (nI s0.toNatClampNeg), .ref (q 2)]) ⟨hx, hb, hml, hown, hts⟩ (c_X3_raised l D cI cZ cS q N V A h_1) (cwV 0 hts gX4_about_X3_raised rfl rfl rfl (by decide +kernel) ⟨Nat.le_of_ble_eq_true rfl, Nat.le_of_ble_eq_true rfl⟩) (preC3 hK hN hP) rfl rfl hl.1 rfl (lv_room (Nat.le_of_ble_eq_true rfl)) dX4_about_177 ⟨Nat.zero_le _, Nat.zero_le _⟩) (fun r_20 er_20 => ?_)
                    subst er_20
                    refine vp_callSi (W.runV (As := [.int (nI s0.toNatClampNeg), .int (nI (N 2)), .int (nI (s_X3_raised N V A))]) (rest := []) ⟨hx, hb, hml, hown, hts⟩ (c_X2_mayRise l D cI cZ cS q N V A s0.toNatClampNeg (nI (N 2)) (nI (s_X3_raised N V A)) (by omega)) (cwV 3 hts gX4_about_X2_mayRise rfl rfl rfl (by decide +kernel) ⟨Nat.le_of_ble_eq_true rfl, Nat.le_of_ble_eq_true rfl⟩) (preC2 hK hN hP) rfl rfl hl.1 rfl (lv_room (Nat.le_of_ble_eq_true rfl)) dX4_about_180 ⟨Nat.zero_le _, Nat.zero_le _⟩) (fun r_21 er_21 => ?_)
                    subst er_21
                    refine vp_callSi (W.runS (As := [.int (b2i (s_X2_mayRise N V A s0.toNatClampNeg (nI (N 2)) (nI (s_X3_raised N V A))))]) (rest := []) ⟨hx, hb, hml, hown, hts⟩ (c_X4_oneIf l (s_X2_mayRise N V A s0.toNatClampNeg (nI (N 2)) (nI (s_X3_raised N V A)))) (cwS 1 hts gX4_about_X4_oneIf rfl rfl rfl (by decide +kernel) ⟨Nat.le_of_ble_eq_true rfl, Nat.le_of_ble_eq_true rfl⟩) (preEq) rfl rfl hl.1 rfl (lv_room (Nat.le_of_ble_eq_true rfl)) dX4_about_183 ⟨Nat.zero_le _, Nat.zero_le _⟩) (fun r_22 er_22 => ?_)
                    subst er_22
                    exact W.iret (v := (s_X4_oneIf (s_X2_mayRise N V A s0.toNatClampNeg (nI (N 2)) (nI (s_X3_raised N V A))))) hx hb hr (fun t ht hW => ⟨_, rfl, (by rw [s_X4_about, if_pos c_2, if_neg c_3, if_neg c_4, if_neg c_5, if_neg c_6, if_neg c_7, if_neg c_8, if_neg c_11, if_pos c_19]), ht⟩) (fun _ h => by cases h) dX4_about_186
                  · by_cases c_23 : w0 = (8)
                    · refine lv_tableIn (off := 173) (tgt := 187) hx hb dX4_about_14 (by rw [c_23]; decide) (by rw [c_23]; decide) (by rw [c_23]; rfl) (by decide) ?_
                      refine lv_aload_n hx hb dX4_about_187 rfl (lv_at hl 0 rfl) ?_
                      refine va_get (D := D) (ci := 4) (v := .ref (q 10)) (C := RX4) (T := TX4) (N := 7) hx hb hts hin4 hown hK hP 0 rfl rfl 2 (by decide) (hts (.fieldLink RX4 25 "NeckShip" "threads" "LNeckShip$Threads;") (by decide +kernel)) (fun _ h9 => h9) rfl dX4_about_188 ?_
                      refine lv_iload_n hx hb dX4_about_191 rfl (lv_at hl 1 rfl) ?_
                      refine vp_callSi (W.runV (As := [.int (nI s0.toNatClampNeg)]) (rest := []) ⟨hx, hb, hml, hown, hts⟩ (c_X3_raisersOf l D cI cZ cS q N V A (nI s0.toNatClampNeg) h_1) (cwV 1 hts gX4_about_X3_raisersOf rfl rfl rfl (by decide +kernel) ⟨Nat.le_of_ble_eq_true rfl, Nat.le_of_ble_eq_true rfl⟩) (preC3 hK hN hP) rfl rfl hl.1 rfl (lv_room (Nat.le_of_ble_eq_true rfl)) dX4_about_192 ⟨Nat.zero_le _, Nat.zero_le _⟩) (fun r_24 er_24 => ?_)
                      subst er_24
                      refine vp_callSi (W.runS (As := [.int (nI (s_X3_raisersOf N V A (nI s0.toNatClampNeg)))]) (rest := []) ⟨hx, hb, hml, hown, hts⟩ (c_J6_bitCount_0f7a4 l (s_X3_raisersOf N V A (nI s0.toNatClampNeg)) (raisersOf_lt o4)) (va_cwS 1 hts gX4_about_J6_bitCount_0f7a4 rfl rfl rfl (by decide +kernel) ⟨Nat.le_of_ble_eq_true rfl, Nat.le_of_ble_eq_true rfl⟩) (preEq) rfl rfl hl.1 rfl (lv_room (Nat.le_of_ble_eq_true rfl)) dX4_about_195 ⟨Nat.zero_le _, Nat.zero_le _⟩) (fun r_25 er_25 => ?_)
                      subst er_25
                      exact W.iret (v := nI (s_J6_bitCount_0f7a4 (s_X3_raisersOf N V A (nI s0.toNatClampNeg)))) hx hb hr (fun t ht hW => ⟨_, rfl, (by rw [s_X4_about, if_pos c_2, if_neg c_3, if_neg c_4, if_neg c_5, if_neg c_6, if_neg c_7, if_neg c_8, if_neg c_11, if_neg c_19, if_pos c_23]), ht⟩) (fun _ h => by cases h) dX4_about_198
                    · by_cases c_26 : w0 = (9)
                      · refine lv_tableIn (off := 185) (tgt := 199) hx hb dX4_about_14 (by rw [c_26]; decide) (by rw [c_26]; decide) (by rw [c_26]; rfl) (by decide) ?_
                        refine lv_aload_n hx hb dX4_about_199 rfl (lv_at hl 0 rfl) ?_
                        refine va_get (D := D) (ci := 4) (v := .ref (q 2)) (C := RX4) (T := TX4) (N := 7) hx hb hts hin4 hown hK hP 0 rfl rfl 1 (by decide) (hts (.fieldLink RX4 18 "NeckShip" "spars" "LNeckShip$Spars;") (by decide +kernel)) (fun _ h9 => h9) rfl dX4_about_200 ?_
                        refine va_get (D := D) (ci := 2) (v := .ref (q 8)) (C := RX2) (T := TX2) (N := 9) hx hb hts hin2 hown hK hP 2 rfl rfl 5 (by decide) (hts (.fieldLink RX4 140 "NeckShip$Spars" "over" "[I") (by decide +kernel)) (fun _ h9 => h9) rfl dX4_about_203 ?_
                        refine lv_iload_n hx hb dX4_about_206 rfl (lv_at hl 1 rfl) ?_
                        refine va_ialdV (i := s0.toNatClampNeg) (x := (A 8 s0.toNatClampNeg).toNatClampNeg) hx hb hK hP 8 0 rfl rfl (o6 _).1 (by decide) (by omega) dX4_about_207 ?_
                        refine lv_aload_n hx hb dX4_about_208 rfl (lv_at hl 0 rfl) ?_
                        refine va_get (D := D) (ci := 4) (v := .ref (q 2)) (C := RX4) (T := TX4) (N := 7) hx hb hts hin4 hown hK hP 0 rfl rfl 1 (by decide) (hts (.fieldLink RX4 18 "NeckShip" "spars" "LNeckShip$Spars;") (by decide +kernel)) (fun _ h9 => h9) rfl dX4_about_209 ?_
                        refine vp_callSi (W.runV (As := []) (rest := [.int (nI ((A 8 s0.toNatClampNeg).toNatClampNeg))]) ⟨hx, hb, hml, hown, hts⟩ (c_X2_lying l D cI cZ cS q N V A (by omega)) (cwV 0 hts gX4_about_X2_lying rfl rfl rfl (by decide +kernel) ⟨Nat.le_of_ble_eq_true rfl, Nat.le_of_ble_eq_true rfl⟩) (preC2 hK hN hP) rfl rfl hl.1 rfl (lv_room (Nat.le_of_ble_eq_true rfl)) dX4_about_212 ⟨Nat.zero_le _, Nat.zero_le _⟩) (fun r_27 er_27 => ?_)
                        subst er_27
                        refine lv_iand hx hb dX4_about_215 ?_
                        rw [fa_and ((A 8 s0.toNatClampNeg).toNatClampNeg) (s_X2_lying N V A)]
                        refine vp_callSi (W.runS (As := [.int (nI (((A 8 s0.toNatClampNeg).toNatClampNeg) &&& (s_X2_lying N V A)))]) (rest := []) ⟨hx, hb, hml, hown, hts⟩ (c_J6_bitCount_0f7a4 l (((A 8 s0.toNatClampNeg).toNatClampNeg) &&& (s_X2_lying N V A)) (and_lt (lying_lt o1))) (va_cwS 1 hts gX4_about_J6_bitCount_0f7a4 rfl rfl rfl (by decide +kernel) ⟨Nat.le_of_ble_eq_true rfl, Nat.le_of_ble_eq_true rfl⟩) (preEq) rfl rfl hl.1 rfl (lv_room (Nat.le_of_ble_eq_true rfl)) dX4_about_216 ⟨Nat.zero_le _, Nat.zero_le _⟩) (fun r_28 er_28 => ?_)
                        subst er_28
                        exact W.iret (v := nI (s_J6_bitCount_0f7a4 (((A 8 s0.toNatClampNeg).toNatClampNeg) &&& (s_X2_lying N V A)))) hx hb hr (fun t ht hW => ⟨_, rfl, (by rw [s_X4_about, if_pos c_2, if_neg c_3, if_neg c_4, if_neg c_5, if_neg c_6, if_neg c_7, if_neg c_8, if_neg c_11, if_neg c_19, if_neg c_23, if_pos c_26]), ht⟩) (fun _ h => by cases h) dX4_about_219
                      · refine lv_tableOut (tgt := 220) hx hb dX4_about_14 (tsw_out w0 (by decide) [0, 1, 2, 3, 4, 5, 6, 7, 8, 9] rfl (by simp only [List.forall_mem_cons]; exact ⟨c_3, c_4, c_5, c_6, c_7, c_8, c_11, c_19, c_23, c_26, fun _ h => absurd h List.not_mem_nil⟩)) (by decide) ?_
                        refine lv_bipush (v := (-2)) hx hb dX4_about_220 (by decide) ?_
                        exact W.iret (v := (-2 : Int32)) hx hb hr (fun t ht hW => ⟨_, rfl, (by rw [s_X4_about, if_pos c_2, if_neg c_3, if_neg c_4, if_neg c_5, if_neg c_6, if_neg c_7, if_neg c_8, if_neg c_11, if_neg c_19, if_neg c_23, if_neg c_26]), ht⟩) (fun _ h => by cases h) dX4_about_222
  · refine lv_iconst (v := (-1)) hx hb dX4_about_11 (by decide) ?_
    exact W.iret (v := (-1 : Int32)) hx hb hr (fun t ht hW => ⟨_, rfl, (by rw [s_X4_about, if_neg (nb c_2)]), ht⟩) (fun _ h => by cases h) dX4_about_12
def s_X4_threaded (N : Nat → Nat) (V : Nat → Int32) (A : Nat → Nat → Int32)  (t0 : Int32) (w0 : Int32) : Int32 :=
  if (s_X3_has N V A t0) = true then
    if w0 = (0) then
      A 11 t0.toNatClampNeg
    else
      if w0 = (1) then
        A 12 t0.toNatClampNeg
      else
        if w0 = (2) then
          A 13 t0.toNatClampNeg
        else
          if w0 = (3) then
            (s_X4_oneIf (s_X4_isIn (nI (N 4)) (nI t0.toNatClampNeg)))
          else
            if w0 = (4) then
              (s_X4_oneIf (s_X4_isIn (nI (s_X3_raising N V A)) (nI t0.toNatClampNeg)))
            else
              if w0 = (5) then
                nI (s_J6_bitCount_0f7a4 (((A 15 t0.toNatClampNeg).toNatClampNeg) &&& (N 4)))
              else
                (-2 : Int32)
  else
    (-1 : Int32)
set_option maxHeartbeats 4000000 in
set_option maxRecDepth 100000 in
theorem c_X4_threaded (l : Launch) (D : va_G) (cI cZ cS : ClassId) (q : Nat → Nat) (N : Nat → Nat) (V : Nat → Int32) (A : Nat → Nat → Int32) (t0 : Int32) (w0 : Int32) (h_1 : okC N A) : Met l yX4_threaded wsX4_threaded ({ frames := 1, cells := 0, slots := 0, locals := 21 }) (va_Pc [.ref (q 0), .int t0, .int w0] (PC D cI cZ cS q N V A)) (vp_Si (fun r => r = (s_X4_threaded N V A t0 w0))) 0 0 (fun _ => False) := by
  refine Met.ofW (cc := cX4_threaded) (maxL := 3) (ret := (some .int)) (by decide) rfl ?_
  intro p e s m args below meth c s₁ B hml hv
  obtain ⟨rfl, hP, hK, hN⟩ := hv
  have hx := B.exec
  have hb := B.bytes
  have hr := B.returns
  have hts := atoms_spec (ws := wsX4_threaded) B.pre
  have hown : s.vm.findClass RX4 = some m.cls := findClass_of_methodNamed B.named
  have hlocks := B.notSynchronized
  have hin3 : ∀ w ∈ u_ws RX3 TX3 8, w ∈ wsX4_threaded := by decide +kernel
  have hin4 : ∀ w ∈ u_ws RX4 TX4 7, w ∈ wsX4_threaded := by decide +kernel
  obtain ⟨o1, o2, o3, o4, o5, o6, o7, o8, o9⟩ := id h_1
  have hl := lv_entry ([.ref (q 0), .int t0, .int w0]) (n := 3) (Nat.le_of_ble_eq_true rfl)
  rw [lg_entry_eq]
  generalize (lg_sl ([.ref (q 0), .int t0, .int w0]) ++ List.replicate (3 - (lg_sl ([.ref (q 0), .int t0, .int w0])).length) Slot.unset).toArray = ls at hl ⊢
  have hl : lv_has ls 3 [(0, .ref (q 0)), (1, .int t0), (2, .int w0)] := hl
  refine lv_aload_n hx hb dX4_threaded_0 rfl (lv_at hl 0 rfl) ?_
  refine va_get (D := D) (ci := 4) (v := .ref (q 10)) (C := RX4) (T := TX4) (N := 7) hx hb hts hin4 hown hK hP 0 rfl rfl 2 (by decide) (hts (.fieldLink RX4 25 "NeckShip" "threads" "LNeckShip$Threads;") (by decide +kernel)) (fun _ h9 => h9) rfl dX4_threaded_1 ?_
  refine lv_iload_n hx hb dX4_threaded_4 rfl (lv_at hl 1 rfl) ?_
  refine vp_callSi (W.runV (As := [.int t0]) (rest := []) ⟨hx, hb, hml, hown, hts⟩ (c_X3_has l D cI cZ cS q N V A t0) (cwV 1 hts gX4_threaded_X3_has rfl rfl rfl (by decide +kernel) ⟨Nat.le_of_ble_eq_true rfl, Nat.le_of_ble_eq_true rfl⟩) (preC3 hK hN hP) rfl rfl hl.1 rfl (lv_room (Nat.le_of_ble_eq_true rfl)) dX4_threaded_5 ⟨Nat.zero_le _, Nat.zero_le _⟩) (fun r_1 er_1 => ?_)
  subst er_1
  refine lz_if_ne (tgt := 13) hx hb dX4_threaded_8 (by decide) (fun c_2 => ?_) (fun c_2 => ?_)
  · obtain ⟨hlt_t0, heq_t0⟩ := has3_t o2 c_2
    have hl : lv_has ls 3 [(0, .ref (q 0)), (1, .int (nI t0.toNatClampNeg)), (2, .int w0)] := by rw [heq_t0]; exact hl
    refine lv_iload_n hx hb dX4_threaded_13 rfl (lv_at hl 2 rfl) ?_
    by_cases c_3 : w0 = (0)
    · refine lv_tableIn (off := 38) (tgt := 52) hx hb dX4_threaded_14 (by rw [c_3]; decide) (by rw [c_3]; decide) (by rw [c_3]; rfl) (by decide) ?_
      refine lv_aload_n hx hb dX4_threaded_52 rfl (lv_at hl 0 rfl) ?_
      refine va_get (D := D) (ci := 4) (v := .ref (q 10)) (C := RX4) (T := TX4) (N := 7) hx hb hts hin4 hown hK hP 0 rfl rfl 2 (by decide) (hts (.fieldLink RX4 25 "NeckShip" "threads" "LNeckShip$Threads;") (by decide +kernel)) (fun _ h9 => h9) rfl dX4_threaded_53 ?_
      refine va_get (D := D) (ci := 3) (v := .ref (q 11)) (C := RX3) (T := TX3) (N := 8) hx hb hts hin3 hown hK hP 10 rfl rfl 0 (by decide) (hts (.fieldLink RX4 166 "NeckShip$Threads" "hole" "[I") (by decide +kernel)) (fun _ h9 => h9) rfl dX4_threaded_56 ?_
      refine lv_iload_n hx hb dX4_threaded_59 rfl (lv_at hl 1 rfl) ?_
      refine va_ialdN (i := t0.toNatClampNeg) hx hb hK hP 11 0 rfl rfl (by decide) (by omega) dX4_threaded_60 ?_
      exact W.iret (v := A 11 t0.toNatClampNeg) hx hb hr (fun t ht hW => ⟨_, rfl, (by rw [s_X4_threaded, if_pos c_2, if_pos c_3]), ht⟩) (fun _ h => by cases h) dX4_threaded_61
    · by_cases c_4 : w0 = (1)
      · refine lv_tableIn (off := 48) (tgt := 62) hx hb dX4_threaded_14 (by rw [c_4]; decide) (by rw [c_4]; decide) (by rw [c_4]; rfl) (by decide) ?_
        refine lv_aload_n hx hb dX4_threaded_62 rfl (lv_at hl 0 rfl) ?_
        refine va_get (D := D) (ci := 4) (v := .ref (q 10)) (C := RX4) (T := TX4) (N := 7) hx hb hts hin4 hown hK hP 0 rfl rfl 2 (by decide) (hts (.fieldLink RX4 25 "NeckShip" "threads" "LNeckShip$Threads;") (by decide +kernel)) (fun _ h9 => h9) rfl dX4_threaded_63 ?_
        refine va_get (D := D) (ci := 3) (v := .ref (q 12)) (C := RX3) (T := TX3) (N := 8) hx hb hts hin3 hown hK hP 10 rfl rfl 1 (by decide) (hts (.fieldLink RX4 169 "NeckShip$Threads" "spar" "[I") (by decide +kernel)) (fun _ h9 => h9) rfl dX4_threaded_66 ?_
        refine lv_iload_n hx hb dX4_threaded_69 rfl (lv_at hl 1 rfl) ?_
        refine va_ialdN (i := t0.toNatClampNeg) hx hb hK hP 12 0 rfl rfl (by decide) (by omega) dX4_threaded_70 ?_
        exact W.iret (v := A 12 t0.toNatClampNeg) hx hb hr (fun t ht hW => ⟨_, rfl, (by rw [s_X4_threaded, if_pos c_2, if_neg c_3, if_pos c_4]), ht⟩) (fun _ h => by cases h) dX4_threaded_71
      · by_cases c_5 : w0 = (2)
        · refine lv_tableIn (off := 58) (tgt := 72) hx hb dX4_threaded_14 (by rw [c_5]; decide) (by rw [c_5]; decide) (by rw [c_5]; rfl) (by decide) ?_
          refine lv_aload_n hx hb dX4_threaded_72 rfl (lv_at hl 0 rfl) ?_
          refine va_get (D := D) (ci := 4) (v := .ref (q 10)) (C := RX4) (T := TX4) (N := 7) hx hb hts hin4 hown hK hP 0 rfl rfl 2 (by decide) (hts (.fieldLink RX4 25 "NeckShip" "threads" "LNeckShip$Threads;") (by decide +kernel)) (fun _ h9 => h9) rfl dX4_threaded_73 ?_
          refine va_get (D := D) (ci := 3) (v := .ref (q 13)) (C := RX3) (T := TX3) (N := 8) hx hb hts hin3 hown hK hP 10 rfl rfl 2 (by decide) (hts (.fieldLink RX4 172 "NeckShip$Threads" "place" "[I") (by decide +kernel)) (fun _ h9 => h9) rfl dX4_threaded_76 ?_
          refine lv_iload_n hx hb dX4_threaded_79 rfl (lv_at hl 1 rfl) ?_
          refine va_ialdN (i := t0.toNatClampNeg) hx hb hK hP 13 0 rfl rfl (by decide) (by omega) dX4_threaded_80 ?_
          exact W.iret (v := A 13 t0.toNatClampNeg) hx hb hr (fun t ht hW => ⟨_, rfl, (by rw [s_X4_threaded, if_pos c_2, if_neg c_3, if_neg c_4, if_pos c_5]), ht⟩) (fun _ h => by cases h) dX4_threaded_81
        · by_cases c_6 : w0 = (3)
          · refine lv_tableIn (off := 68) (tgt := 82) hx hb dX4_threaded_14 (by rw [c_6]; decide) (by rw [c_6]; decide) (by rw [c_6]; rfl) (by decide) ?_
            refine lv_aload_n hx hb dX4_threaded_82 rfl (lv_at hl 0 rfl) ?_
            refine va_get (D := D) (ci := 4) (v := .ref (q 10)) (C := RX4) (T := TX4) (N := 7) hx hb hts hin4 hown hK hP 0 rfl rfl 2 (by decide) (hts (.fieldLink RX4 25 "NeckShip" "threads" "LNeckShip$Threads;") (by decide +kernel)) (fun _ h9 => h9) rfl dX4_threaded_83 ?_
            refine va_get (D := D) (ci := 3) (v := .int (nI (N 4))) (C := RX3) (T := TX3) (N := 8) hx hb hts hin3 hown hK hP 10 rfl rfl 6 (by decide) (hts (.fieldLink RX4 163 "NeckShip$Threads" "whole" "I") (by decide +kernel)) (fun _ h9 => h9) rfl dX4_threaded_86 ?_
            refine lv_iload_n hx hb dX4_threaded_89 rfl (lv_at hl 1 rfl) ?_
            refine vp_callSi (W.runS (As := [.int (nI (N 4)), .int (nI t0.toNatClampNeg)]) (rest := []) ⟨hx, hb, hml, hown, hts⟩ (c_X4_isIn l (nI (N 4)) (nI t0.toNatClampNeg)) (cwS 2 hts gX4_threaded_X4_isIn rfl rfl rfl (by decide +kernel) ⟨Nat.le_of_ble_eq_true rfl, Nat.le_of_ble_eq_true rfl⟩) (preEq) rfl rfl hl.1 rfl (lv_room (Nat.le_of_ble_eq_true rfl)) dX4_threaded_90 ⟨Nat.zero_le _, Nat.zero_le _⟩) (fun r_7 er_7 => ?_)
            subst er_7
            refine vp_callSi (W.runS (As := [.int (b2i (s_X4_isIn (nI (N 4)) (nI t0.toNatClampNeg)))]) (rest := []) ⟨hx, hb, hml, hown, hts⟩ (c_X4_oneIf l (s_X4_isIn (nI (N 4)) (nI t0.toNatClampNeg))) (cwS 1 hts gX4_threaded_X4_oneIf rfl rfl rfl (by decide +kernel) ⟨Nat.le_of_ble_eq_true rfl, Nat.le_of_ble_eq_true rfl⟩) (preEq) rfl rfl hl.1 rfl (lv_room (Nat.le_of_ble_eq_true rfl)) dX4_threaded_93 ⟨Nat.zero_le _, Nat.zero_le _⟩) (fun r_8 er_8 => ?_)
            subst er_8
            exact W.iret (v := (s_X4_oneIf (s_X4_isIn (nI (N 4)) (nI t0.toNatClampNeg)))) hx hb hr (fun t ht hW => ⟨_, rfl, (by rw [s_X4_threaded, if_pos c_2, if_neg c_3, if_neg c_4, if_neg c_5, if_pos c_6]), ht⟩) (fun _ h => by cases h) dX4_threaded_96
          · by_cases c_9 : w0 = (4)
            · refine lv_tableIn (off := 83) (tgt := 97) hx hb dX4_threaded_14 (by rw [c_9]; decide) (by rw [c_9]; decide) (by rw [c_9]; rfl) (by decide) ?_
              refine lv_aload_n hx hb dX4_threaded_97 rfl (lv_at hl 0 rfl) ?_
              refine va_get (D := D) (ci := 4) (v := .ref (q 10)) (C := RX4) (T := TX4) (N := 7) hx hb hts hin4 hown hK hP 0 rfl rfl 2 (by decide) (hts (.fieldLink RX4 25 "NeckShip" "threads" "LNeckShip$Threads;") (by decide +kernel)) (fun _ h9 => h9) rfl dX4_threaded_98 ?_
              refine vp_callSi (W.runV (As := []) (rest := []) ⟨hx, hb, hml, hown, hts⟩ (c_X3_raising l D cI cZ cS q N V A) (cwV 0 hts gX4_threaded_X3_raising rfl rfl rfl (by decide +kernel) ⟨Nat.le_of_ble_eq_true rfl, Nat.le_of_ble_eq_true rfl⟩) (preC3 hK hN hP) rfl rfl hl.1 rfl (lv_room (Nat.le_of_ble_eq_true rfl)) dX4_threaded_101 ⟨Nat.zero_le _, Nat.zero_le _⟩) (fun r_10 er_10 => ?_)
              subst er_10
              refine lv_iload_n hx hb dX4_threaded_104 rfl (lv_at hl 1 rfl) ?_
              refine vp_callSi (W.runS (As := [.int (nI (s_X3_raising N V A)), .int (nI t0.toNatClampNeg)]) (rest := []) ⟨hx, hb, hml, hown, hts⟩ (c_X4_isIn l (nI (s_X3_raising N V A)) (nI t0.toNatClampNeg)) (cwS 2 hts gX4_threaded_X4_isIn rfl rfl rfl (by decide +kernel) ⟨Nat.le_of_ble_eq_true rfl, Nat.le_of_ble_eq_true rfl⟩) (preEq) rfl rfl hl.1 rfl (lv_room (Nat.le_of_ble_eq_true rfl)) dX4_threaded_105 ⟨Nat.zero_le _, Nat.zero_le _⟩) (fun r_11 er_11 => ?_)
              subst er_11
              refine vp_callSi (W.runS (As := [.int (b2i (s_X4_isIn (nI (s_X3_raising N V A)) (nI t0.toNatClampNeg)))]) (rest := []) ⟨hx, hb, hml, hown, hts⟩ (c_X4_oneIf l (s_X4_isIn (nI (s_X3_raising N V A)) (nI t0.toNatClampNeg))) (cwS 1 hts gX4_threaded_X4_oneIf rfl rfl rfl (by decide +kernel) ⟨Nat.le_of_ble_eq_true rfl, Nat.le_of_ble_eq_true rfl⟩) (preEq) rfl rfl hl.1 rfl (lv_room (Nat.le_of_ble_eq_true rfl)) dX4_threaded_108 ⟨Nat.zero_le _, Nat.zero_le _⟩) (fun r_12 er_12 => ?_)
              subst er_12
              exact W.iret (v := (s_X4_oneIf (s_X4_isIn (nI (s_X3_raising N V A)) (nI t0.toNatClampNeg)))) hx hb hr (fun t ht hW => ⟨_, rfl, (by rw [s_X4_threaded, if_pos c_2, if_neg c_3, if_neg c_4, if_neg c_5, if_neg c_6, if_pos c_9]), ht⟩) (fun _ h => by cases h) dX4_threaded_111
            · by_cases c_13 : w0 = (5)
              · refine lv_tableIn (off := 98) (tgt := 112) hx hb dX4_threaded_14 (by rw [c_13]; decide) (by rw [c_13]; decide) (by rw [c_13]; rfl) (by decide) ?_
                refine lv_aload_n hx hb dX4_threaded_112 rfl (lv_at hl 0 rfl) ?_
                refine va_get (D := D) (ci := 4) (v := .ref (q 10)) (C := RX4) (T := TX4) (N := 7) hx hb hts hin4 hown hK hP 0 rfl rfl 2 (by decide) (hts (.fieldLink RX4 25 "NeckShip" "threads" "LNeckShip$Threads;") (by decide +kernel)) (fun _ h9 => h9) rfl dX4_threaded_113 ?_
                refine va_get (D := D) (ci := 3) (v := .ref (q 15)) (C := RX3) (T := TX3) (N := 8) hx hb hts hin3 hown hK hP 10 rfl rfl 4 (by decide) (hts (.fieldLink RX4 178 "NeckShip$Threads" "crossing" "[I") (by decide +kernel)) (fun _ h9 => h9) rfl dX4_threaded_116 ?_
                refine lv_iload_n hx hb dX4_threaded_119 rfl (lv_at hl 1 rfl) ?_
                refine va_ialdV (i := t0.toNatClampNeg) (x := (A 15 t0.toNatClampNeg).toNatClampNeg) hx hb hK hP 15 0 rfl rfl (o8 _).1 (by decide) (by omega) dX4_threaded_120 ?_
                refine lv_aload_n hx hb dX4_threaded_121 rfl (lv_at hl 0 rfl) ?_
                refine va_get (D := D) (ci := 4) (v := .ref (q 10)) (C := RX4) (T := TX4) (N := 7) hx hb hts hin4 hown hK hP 0 rfl rfl 2 (by decide) (hts (.fieldLink RX4 25 "NeckShip" "threads" "LNeckShip$Threads;") (by decide +kernel)) (fun _ h9 => h9) rfl dX4_threaded_122 ?_
                refine va_get (D := D) (ci := 3) (v := .int (nI (N 4))) (C := RX3) (T := TX3) (N := 8) hx hb hts hin3 hown hK hP 10 rfl rfl 6 (by decide) (hts (.fieldLink RX4 163 "NeckShip$Threads" "whole" "I") (by decide +kernel)) (fun _ h9 => h9) rfl dX4_threaded_125 ?_
                refine lv_iand hx hb dX4_threaded_128 ?_
                rw [fa_and ((A 15 t0.toNatClampNeg).toNatClampNeg) (N 4)]
                refine vp_callSi (W.runS (As := [.int (nI (((A 15 t0.toNatClampNeg).toNatClampNeg) &&& (N 4)))]) (rest := []) ⟨hx, hb, hml, hown, hts⟩ (c_J6_bitCount_0f7a4 l (((A 15 t0.toNatClampNeg).toNatClampNeg) &&& (N 4)) (and_lt o5)) (va_cwS 1 hts gX4_threaded_J6_bitCount_0f7a4 rfl rfl rfl (by decide +kernel) ⟨Nat.le_of_ble_eq_true rfl, Nat.le_of_ble_eq_true rfl⟩) (preEq) rfl rfl hl.1 rfl (lv_room (Nat.le_of_ble_eq_true rfl)) dX4_threaded_129 ⟨Nat.zero_le _, Nat.zero_le _⟩) (fun r_14 er_14 => ?_)
                subst er_14
                exact W.iret (v := nI (s_J6_bitCount_0f7a4 (((A 15 t0.toNatClampNeg).toNatClampNeg) &&& (N 4)))) hx hb hr (fun t ht hW => ⟨_, rfl, (by rw [s_X4_threaded, if_pos c_2, if_neg c_3, if_neg c_4, if_neg c_5, if_neg c_6, if_neg c_9, if_pos c_13]), ht⟩) (fun _ h => by cases h) dX4_threaded_132
              · refine lv_tableOut (tgt := 133) hx hb dX4_threaded_14 (tsw_out w0 (by decide) [0, 1, 2, 3, 4, 5] rfl (by simp only [List.forall_mem_cons]; exact ⟨c_3, c_4, c_5, c_6, c_9, c_13, fun _ h => absurd h List.not_mem_nil⟩)) (by decide) ?_
                refine lv_bipush (v := (-2)) hx hb dX4_threaded_133 (by decide) ?_
                exact W.iret (v := (-2 : Int32)) hx hb hr (fun t ht hW => ⟨_, rfl, (by rw [s_X4_threaded, if_pos c_2, if_neg c_3, if_neg c_4, if_neg c_5, if_neg c_6, if_neg c_9, if_neg c_13]), ht⟩) (fun _ h => by cases h) dX4_threaded_135
  · refine lv_iconst (v := (-1)) hx hb dX4_threaded_11 (by decide) ?_
    exact W.iret (v := (-1 : Int32)) hx hb hr (fun t ht hW => ⟨_, rfl, (by rw [s_X4_threaded, if_neg (nb c_2)]), ht⟩) (fun _ h => by cases h) dX4_threaded_12
def s_X4_cross (N : Nat → Nat) (V : Nat → Int32) (A : Nat → Nat → Int32)  (t0 : Int32) (u0 : Int32) : Int32 :=
  if (s_X3_has N V A t0) = true then
    if (s_X3_has N V A u0) = true then
      (s_X4_oneIf (s_X4_isIn (A 15 t0.toNatClampNeg) (nI u0.toNatClampNeg)))
    else
      (-1 : Int32)
  else
    (-1 : Int32)
set_option maxHeartbeats 4000000 in
set_option maxRecDepth 100000 in
theorem c_X4_cross (l : Launch) (D : va_G) (cI cZ cS : ClassId) (q : Nat → Nat) (N : Nat → Nat) (V : Nat → Int32) (A : Nat → Nat → Int32) (t0 : Int32) (u0 : Int32) (h_1 : okC N A) : Met l yX4_cross wsX4_cross ({ frames := 1, cells := 0, slots := 0, locals := 21 }) (va_Pc [.ref (q 0), .int t0, .int u0] (PC D cI cZ cS q N V A)) (vp_Si (fun r => r = (s_X4_cross N V A t0 u0))) 0 0 (fun _ => False) := by
  refine Met.ofW (cc := cX4_cross) (maxL := 3) (ret := (some .int)) (by decide) rfl ?_
  intro p e s m args below meth c s₁ B hml hv
  obtain ⟨rfl, hP, hK, hN⟩ := hv
  have hx := B.exec
  have hb := B.bytes
  have hr := B.returns
  have hts := atoms_spec (ws := wsX4_cross) B.pre
  have hown : s.vm.findClass RX4 = some m.cls := findClass_of_methodNamed B.named
  have hlocks := B.notSynchronized
  have hin3 : ∀ w ∈ u_ws RX3 TX3 8, w ∈ wsX4_cross := by decide +kernel
  have hin4 : ∀ w ∈ u_ws RX4 TX4 7, w ∈ wsX4_cross := by decide +kernel
  obtain ⟨o1, o2, o3, o4, o5, o6, o7, o8, o9⟩ := id h_1
  have hl := lv_entry ([.ref (q 0), .int t0, .int u0]) (n := 3) (Nat.le_of_ble_eq_true rfl)
  rw [lg_entry_eq]
  generalize (lg_sl ([.ref (q 0), .int t0, .int u0]) ++ List.replicate (3 - (lg_sl ([.ref (q 0), .int t0, .int u0])).length) Slot.unset).toArray = ls at hl ⊢
  have hl : lv_has ls 3 [(0, .ref (q 0)), (1, .int t0), (2, .int u0)] := hl
  refine lv_aload_n hx hb dX4_cross_0 rfl (lv_at hl 0 rfl) ?_
  refine va_get (D := D) (ci := 4) (v := .ref (q 10)) (C := RX4) (T := TX4) (N := 7) hx hb hts hin4 hown hK hP 0 rfl rfl 2 (by decide) (hts (.fieldLink RX4 25 "NeckShip" "threads" "LNeckShip$Threads;") (by decide +kernel)) (fun _ h9 => h9) rfl dX4_cross_1 ?_
  refine lv_iload_n hx hb dX4_cross_4 rfl (lv_at hl 1 rfl) ?_
  refine vp_callSi (W.runV (As := [.int t0]) (rest := []) ⟨hx, hb, hml, hown, hts⟩ (c_X3_has l D cI cZ cS q N V A t0) (cwV 1 hts gX4_cross_X3_has rfl rfl rfl (by decide +kernel) ⟨Nat.le_of_ble_eq_true rfl, Nat.le_of_ble_eq_true rfl⟩) (preC3 hK hN hP) rfl rfl hl.1 rfl (lv_room (Nat.le_of_ble_eq_true rfl)) dX4_cross_5 ⟨Nat.zero_le _, Nat.zero_le _⟩) (fun r_1 er_1 => ?_)
  subst er_1
  refine lz_if_eq (tgt := 22) hx hb dX4_cross_8 (by decide) (fun c_2 => ?_) (fun c_2 => ?_)
  · refine lv_iconst (v := (-1)) hx hb dX4_cross_22 (by decide) ?_
    exact W.iret (v := (-1 : Int32)) hx hb hr (fun t ht hW => ⟨_, rfl, (by rw [s_X4_cross, if_neg (nb c_2)]), ht⟩) (fun _ h => by cases h) dX4_cross_23
  · obtain ⟨hlt_t0, heq_t0⟩ := has3_t o2 c_2
    have hl : lv_has ls 3 [(0, .ref (q 0)), (1, .int (nI t0.toNatClampNeg)), (2, .int u0)] := by rw [heq_t0]; exact hl
    refine lv_aload_n hx hb dX4_cross_11 rfl (lv_at hl 0 rfl) ?_
    refine va_get (D := D) (ci := 4) (v := .ref (q 10)) (C := RX4) (T := TX4) (N := 7) hx hb hts hin4 hown hK hP 0 rfl rfl 2 (by decide) (hts (.fieldLink RX4 25 "NeckShip" "threads" "LNeckShip$Threads;") (by decide +kernel)) (fun _ h9 => h9) rfl dX4_cross_12 ?_
    refine lv_iload_n hx hb dX4_cross_15 rfl (lv_at hl 2 rfl) ?_
    refine vp_callSi (W.runV (As := [.int u0]) (rest := []) ⟨hx, hb, hml, hown, hts⟩ (c_X3_has l D cI cZ cS q N V A u0) (cwV 1 hts gX4_cross_X3_has rfl rfl rfl (by decide +kernel) ⟨Nat.le_of_ble_eq_true rfl, Nat.le_of_ble_eq_true rfl⟩) (preC3 hK hN hP) rfl rfl hl.1 rfl (lv_room (Nat.le_of_ble_eq_true rfl)) dX4_cross_16 ⟨Nat.zero_le _, Nat.zero_le _⟩) (fun r_3 er_3 => ?_)
    subst er_3
    refine lz_if_ne (tgt := 24) hx hb dX4_cross_19 (by decide) (fun c_4 => ?_) (fun c_4 => ?_)
    · obtain ⟨hlt_u0, heq_u0⟩ := has3_t o2 c_4
      have hl : lv_has ls 3 [(0, .ref (q 0)), (1, .int (nI t0.toNatClampNeg)), (2, .int (nI u0.toNatClampNeg))] := by rw [heq_u0]; exact hl
      refine lv_aload_n hx hb dX4_cross_24 rfl (lv_at hl 0 rfl) ?_
      refine va_get (D := D) (ci := 4) (v := .ref (q 10)) (C := RX4) (T := TX4) (N := 7) hx hb hts hin4 hown hK hP 0 rfl rfl 2 (by decide) (hts (.fieldLink RX4 25 "NeckShip" "threads" "LNeckShip$Threads;") (by decide +kernel)) (fun _ h9 => h9) rfl dX4_cross_25 ?_
      refine va_get (D := D) (ci := 3) (v := .ref (q 15)) (C := RX3) (T := TX3) (N := 8) hx hb hts hin3 hown hK hP 10 rfl rfl 4 (by decide) (hts (.fieldLink RX4 178 "NeckShip$Threads" "crossing" "[I") (by decide +kernel)) (fun _ h9 => h9) rfl dX4_cross_28 ?_
      refine lv_iload_n hx hb dX4_cross_31 rfl (lv_at hl 1 rfl) ?_
      refine va_ialdN (i := t0.toNatClampNeg) hx hb hK hP 15 0 rfl rfl (by decide) (by omega) dX4_cross_32 ?_
      refine lv_iload_n hx hb dX4_cross_33 rfl (lv_at hl 2 rfl) ?_
      refine vp_callSi (W.runS (As := [.int (A 15 t0.toNatClampNeg), .int (nI u0.toNatClampNeg)]) (rest := []) ⟨hx, hb, hml, hown, hts⟩ (c_X4_isIn l (A 15 t0.toNatClampNeg) (nI u0.toNatClampNeg)) (cwS 2 hts gX4_cross_X4_isIn rfl rfl rfl (by decide +kernel) ⟨Nat.le_of_ble_eq_true rfl, Nat.le_of_ble_eq_true rfl⟩) (preEq) rfl rfl hl.1 rfl (lv_room (Nat.le_of_ble_eq_true rfl)) dX4_cross_34 ⟨Nat.zero_le _, Nat.zero_le _⟩) (fun r_5 er_5 => ?_)
      subst er_5
      refine vp_callSi (W.runS (As := [.int (b2i (s_X4_isIn (A 15 t0.toNatClampNeg) (nI u0.toNatClampNeg)))]) (rest := []) ⟨hx, hb, hml, hown, hts⟩ (c_X4_oneIf l (s_X4_isIn (A 15 t0.toNatClampNeg) (nI u0.toNatClampNeg))) (cwS 1 hts gX4_cross_X4_oneIf rfl rfl rfl (by decide +kernel) ⟨Nat.le_of_ble_eq_true rfl, Nat.le_of_ble_eq_true rfl⟩) (preEq) rfl rfl hl.1 rfl (lv_room (Nat.le_of_ble_eq_true rfl)) dX4_cross_37 ⟨Nat.zero_le _, Nat.zero_le _⟩) (fun r_6 er_6 => ?_)
      subst er_6
      exact W.iret (v := (s_X4_oneIf (s_X4_isIn (A 15 t0.toNatClampNeg) (nI u0.toNatClampNeg)))) hx hb hr (fun t ht hW => ⟨_, rfl, (by rw [s_X4_cross, if_pos c_2, if_pos c_4]), ht⟩) (fun _ h => by cases h) dX4_cross_40
    · refine lv_iconst (v := (-1)) hx hb dX4_cross_22 (by decide) ?_
      exact W.iret (v := (-1 : Int32)) hx hb hr (fun t ht hW => ⟨_, rfl, (by rw [s_X4_cross, if_pos c_2, if_neg (nb c_4)]), ht⟩) (fun _ h => by cases h) dX4_cross_23
def s_X4_told (N : Nat → Nat) (V : Nat → Int32) (A : Nat → Nat → Int32)  (w0 : Int32) : Int32 :=
  if w0 = (0) then
    nI (N 0)
  else
    if w0 = (1) then
      nI (N 1)
    else
      if w0 = (2) then
        nI (s_J6_bitCount_0f7a4 (N 2))
      else
        if w0 = (3) then
          nI (s_J6_bitCount_0f7a4 ((N 2) &&& (s_X3_raised N V A)))
        else
          if w0 = (4) then
            nI (s_J6_bitCount_0f7a4 (N 4))
          else
            if w0 = (5) then
              (s_X3_wholePairsThatCross N V A)
            else
              (-2 : Int32)
set_option maxHeartbeats 4000000 in
set_option maxRecDepth 100000 in
theorem c_X4_told (l : Launch) (D : va_G) (cI cZ cS : ClassId) (q : Nat → Nat) (N : Nat → Nat) (V : Nat → Int32) (A : Nat → Nat → Int32) (w0 : Int32) (h_1 : okC N A) : Met l yX4_told wsX4_told ({ frames := 2, cells := 0, slots := 0, locals := 43 }) (va_Pc [.ref (q 0), .int w0] (PC D cI cZ cS q N V A)) (vp_Si (fun r => r = (s_X4_told N V A w0))) 0 0 (fun _ => False) := by
  refine Met.ofW (cc := cX4_told) (maxL := 2) (ret := (some .int)) (by decide) rfl ?_
  intro p e s m args below meth c s₁ B hml hv
  obtain ⟨rfl, hP, hK, hN⟩ := hv
  have hx := B.exec
  have hb := B.bytes
  have hr := B.returns
  have hts := atoms_spec (ws := wsX4_told) B.pre
  have hown : s.vm.findClass RX4 = some m.cls := findClass_of_methodNamed B.named
  have hlocks := B.notSynchronized
  have hin2 : ∀ w ∈ u_ws RX2 TX2 9, w ∈ wsX4_told := by decide +kernel
  have hin3 : ∀ w ∈ u_ws RX3 TX3 8, w ∈ wsX4_told := by decide +kernel
  have hin4 : ∀ w ∈ u_ws RX4 TX4 7, w ∈ wsX4_told := by decide +kernel
  obtain ⟨o1, o2, o3, o4, o5, o6, o7, o8, o9⟩ := id h_1
  have hl := lv_entry ([.ref (q 0), .int w0]) (n := 2) (Nat.le_of_ble_eq_true rfl)
  rw [lg_entry_eq]
  generalize (lg_sl ([.ref (q 0), .int w0]) ++ List.replicate (2 - (lg_sl ([.ref (q 0), .int w0])).length) Slot.unset).toArray = ls at hl ⊢
  have hl : lv_has ls 2 [(0, .ref (q 0)), (1, .int w0)] := hl
  refine lv_iload_n hx hb dX4_told_0 rfl (lv_at hl 1 rfl) ?_
  by_cases c_1 : w0 = (0)
  · refine lv_tableIn (off := 39) (tgt := 40) hx hb dX4_told_1 (by rw [c_1]; decide) (by rw [c_1]; decide) (by rw [c_1]; rfl) (by decide) ?_
    refine lv_aload_n hx hb dX4_told_40 rfl (lv_at hl 0 rfl) ?_
    refine va_get (D := D) (ci := 4) (v := .ref (q 2)) (C := RX4) (T := TX4) (N := 7) hx hb hts hin4 hown hK hP 0 rfl rfl 1 (by decide) (hts (.fieldLink RX4 18 "NeckShip" "spars" "LNeckShip$Spars;") (by decide +kernel)) (fun _ h9 => h9) rfl dX4_told_41 ?_
    refine va_get (D := D) (ci := 2) (v := .int (nI (N 0))) (C := RX2) (T := TX2) (N := 9) hx hb hts hin2 hown hK hP 2 rfl rfl 7 (by decide) (hts (.fieldLink RX4 61 "NeckShip$Spars" "count" "I") (by decide +kernel)) (fun _ h9 => h9) rfl dX4_told_44 ?_
    exact W.iret (v := nI (N 0)) hx hb hr (fun t ht hW => ⟨_, rfl, (by rw [s_X4_told, if_pos c_1]), ht⟩) (fun _ h => by cases h) dX4_told_47
  · by_cases c_2 : w0 = (1)
    · refine lv_tableIn (off := 47) (tgt := 48) hx hb dX4_told_1 (by rw [c_2]; decide) (by rw [c_2]; decide) (by rw [c_2]; rfl) (by decide) ?_
      refine lv_aload_n hx hb dX4_told_48 rfl (lv_at hl 0 rfl) ?_
      refine va_get (D := D) (ci := 4) (v := .ref (q 10)) (C := RX4) (T := TX4) (N := 7) hx hb hts hin4 hown hK hP 0 rfl rfl 2 (by decide) (hts (.fieldLink RX4 25 "NeckShip" "threads" "LNeckShip$Threads;") (by decide +kernel)) (fun _ h9 => h9) rfl dX4_told_49 ?_
      refine va_get (D := D) (ci := 3) (v := .int (nI (N 1))) (C := RX3) (T := TX3) (N := 8) hx hb hts hin3 hown hK hP 10 rfl rfl 7 (by decide) (hts (.fieldLink RX4 251 "NeckShip$Threads" "count" "I") (by decide +kernel)) (fun _ h9 => h9) rfl dX4_told_52 ?_
      exact W.iret (v := nI (N 1)) hx hb hr (fun t ht hW => ⟨_, rfl, (by rw [s_X4_told, if_neg c_1, if_pos c_2]), ht⟩) (fun _ h => by cases h) dX4_told_55
    · by_cases c_3 : w0 = (2)
      · refine lv_tableIn (off := 55) (tgt := 56) hx hb dX4_told_1 (by rw [c_3]; decide) (by rw [c_3]; decide) (by rw [c_3]; rfl) (by decide) ?_
        refine lv_aload_n hx hb dX4_told_56 rfl (lv_at hl 0 rfl) ?_
        refine va_get (D := D) (ci := 4) (v := .ref (q 2)) (C := RX4) (T := TX4) (N := 7) hx hb hts hin4 hown hK hP 0 rfl rfl 1 (by decide) (hts (.fieldLink RX4 18 "NeckShip" "spars" "LNeckShip$Spars;") (by decide +kernel)) (fun _ h9 => h9) rfl dX4_told_57 ?_
        refine va_get (D := D) (ci := 2) (v := .int (nI (N 2))) (C := RX2) (T := TX2) (N := 9) hx hb hts hin2 hown hK hP 2 rfl rfl 8 (by decide) (hts (.fieldLink RX4 125 "NeckShip$Spars" "up" "I") (by decide +kernel)) (fun _ h9 => h9) rfl dX4_told_60 ?_
        refine vp_callSi (W.runS (As := [.int (nI (N 2))]) (rest := []) ⟨hx, hb, hml, hown, hts⟩ (c_J6_bitCount_0f7a4 l (N 2) (by omega)) (va_cwS 1 hts gX4_told_J6_bitCount_0f7a4 rfl rfl rfl (by decide +kernel) ⟨Nat.le_of_ble_eq_true rfl, Nat.le_of_ble_eq_true rfl⟩) (preEq) rfl rfl hl.1 rfl (lv_room (Nat.le_of_ble_eq_true rfl)) dX4_told_63 ⟨Nat.zero_le _, Nat.zero_le _⟩) (fun r_4 er_4 => ?_)
        subst er_4
        exact W.iret (v := nI (s_J6_bitCount_0f7a4 (N 2))) hx hb hr (fun t ht hW => ⟨_, rfl, (by rw [s_X4_told, if_neg c_1, if_neg c_2, if_pos c_3]), ht⟩) (fun _ h => by cases h) dX4_told_66
      · by_cases c_5 : w0 = (3)
        · refine lv_tableIn (off := 66) (tgt := 67) hx hb dX4_told_1 (by rw [c_5]; decide) (by rw [c_5]; decide) (by rw [c_5]; rfl) (by decide) ?_
          refine lv_aload_n hx hb dX4_told_67 rfl (lv_at hl 0 rfl) ?_
          refine va_get (D := D) (ci := 4) (v := .ref (q 2)) (C := RX4) (T := TX4) (N := 7) hx hb hts hin4 hown hK hP 0 rfl rfl 1 (by decide) (hts (.fieldLink RX4 18 "NeckShip" "spars" "LNeckShip$Spars;") (by decide +kernel)) (fun _ h9 => h9) rfl dX4_told_68 ?_
          refine va_get (D := D) (ci := 2) (v := .int (nI (N 2))) (C := RX2) (T := TX2) (N := 9) hx hb hts hin2 hown hK hP 2 rfl rfl 8 (by decide) (hts (.fieldLink RX4 125 "NeckShip$Spars" "up" "I") (by decide +kernel)) (fun _ h9 => h9) rfl dX4_told_71 ?_
          refine lv_aload_n hx hb dX4_told_74 rfl (lv_at hl 0 rfl) ?_
          refine va_get (D := D) (ci := 4) (v := .ref (q 10)) (C := RX4) (T := TX4) (N := 7) hx hb hts hin4 hown hK hP 0 rfl rfl 2 (by decide) (hts (.fieldLink RX4 25 "NeckShip" "threads" "LNeckShip$Threads;") (by decide +kernel)) (fun _ h9 => h9) rfl dX4_told_75 ?_
          refine vp_callSi (W.runV (As := []) (rest := [.int (nI (N 2))]) ⟨hx, hb, hml, hown, hts⟩ (c_X3_raised l D cI cZ cS q N V A h_1) (cwV 0 hts gX4_told_X3_raised rfl rfl rfl (by decide +kernel) ⟨Nat.le_of_ble_eq_true rfl, Nat.le_of_ble_eq_true rfl⟩) (preC3 hK hN hP) rfl rfl hl.1 rfl (lv_room (Nat.le_of_ble_eq_true rfl)) dX4_told_78 ⟨Nat.zero_le _, Nat.zero_le _⟩) (fun r_6 er_6 => ?_)
          subst er_6
          refine lv_iand hx hb dX4_told_81 ?_
          rw [fa_and (N 2) (s_X3_raised N V A)]
          refine vp_callSi (W.runS (As := [.int (nI ((N 2) &&& (s_X3_raised N V A)))]) (rest := []) ⟨hx, hb, hml, hown, hts⟩ (c_J6_bitCount_0f7a4 l ((N 2) &&& (s_X3_raised N V A)) (Nat.lt_of_le_of_lt Nat.and_le_left (by omega))) (va_cwS 1 hts gX4_told_J6_bitCount_0f7a4 rfl rfl rfl (by decide +kernel) ⟨Nat.le_of_ble_eq_true rfl, Nat.le_of_ble_eq_true rfl⟩) (preEq) rfl rfl hl.1 rfl (lv_room (Nat.le_of_ble_eq_true rfl)) dX4_told_82 ⟨Nat.zero_le _, Nat.zero_le _⟩) (fun r_7 er_7 => ?_)
          subst er_7
          exact W.iret (v := nI (s_J6_bitCount_0f7a4 ((N 2) &&& (s_X3_raised N V A)))) hx hb hr (fun t ht hW => ⟨_, rfl, (by rw [s_X4_told, if_neg c_1, if_neg c_2, if_neg c_3, if_pos c_5]), ht⟩) (fun _ h => by cases h) dX4_told_85
        · by_cases c_8 : w0 = (4)
          · refine lv_tableIn (off := 85) (tgt := 86) hx hb dX4_told_1 (by rw [c_8]; decide) (by rw [c_8]; decide) (by rw [c_8]; rfl) (by decide) ?_
            refine lv_aload_n hx hb dX4_told_86 rfl (lv_at hl 0 rfl) ?_
            refine va_get (D := D) (ci := 4) (v := .ref (q 10)) (C := RX4) (T := TX4) (N := 7) hx hb hts hin4 hown hK hP 0 rfl rfl 2 (by decide) (hts (.fieldLink RX4 25 "NeckShip" "threads" "LNeckShip$Threads;") (by decide +kernel)) (fun _ h9 => h9) rfl dX4_told_87 ?_
            refine va_get (D := D) (ci := 3) (v := .int (nI (N 4))) (C := RX3) (T := TX3) (N := 8) hx hb hts hin3 hown hK hP 10 rfl rfl 6 (by decide) (hts (.fieldLink RX4 163 "NeckShip$Threads" "whole" "I") (by decide +kernel)) (fun _ h9 => h9) rfl dX4_told_90 ?_
            refine vp_callSi (W.runS (As := [.int (nI (N 4))]) (rest := []) ⟨hx, hb, hml, hown, hts⟩ (c_J6_bitCount_0f7a4 l (N 4) (by omega)) (va_cwS 1 hts gX4_told_J6_bitCount_0f7a4 rfl rfl rfl (by decide +kernel) ⟨Nat.le_of_ble_eq_true rfl, Nat.le_of_ble_eq_true rfl⟩) (preEq) rfl rfl hl.1 rfl (lv_room (Nat.le_of_ble_eq_true rfl)) dX4_told_93 ⟨Nat.zero_le _, Nat.zero_le _⟩) (fun r_9 er_9 => ?_)
            subst er_9
            exact W.iret (v := nI (s_J6_bitCount_0f7a4 (N 4))) hx hb hr (fun t ht hW => ⟨_, rfl, (by rw [s_X4_told, if_neg c_1, if_neg c_2, if_neg c_3, if_neg c_5, if_pos c_8]), ht⟩) (fun _ h => by cases h) dX4_told_96
          · by_cases c_10 : w0 = (5)
            · refine lv_tableIn (off := 96) (tgt := 97) hx hb dX4_told_1 (by rw [c_10]; decide) (by rw [c_10]; decide) (by rw [c_10]; rfl) (by decide) ?_
              refine lv_aload_n hx hb dX4_told_97 rfl (lv_at hl 0 rfl) ?_
              refine va_get (D := D) (ci := 4) (v := .ref (q 10)) (C := RX4) (T := TX4) (N := 7) hx hb hts hin4 hown hK hP 0 rfl rfl 2 (by decide) (hts (.fieldLink RX4 25 "NeckShip" "threads" "LNeckShip$Threads;") (by decide +kernel)) (fun _ h9 => h9) rfl dX4_told_98 ?_
              refine vp_callSi (W.runV (As := []) (rest := []) ⟨hx, hb, hml, hown, hts⟩ (c_X3_wholePairsThatCross l D cI cZ cS q N V A h_1) (cwV 0 hts gX4_told_X3_wholePairsThatCross rfl rfl rfl (by decide +kernel) ⟨Nat.le_of_ble_eq_true rfl, Nat.le_of_ble_eq_true rfl⟩) (preC3 hK hN hP) rfl rfl hl.1 rfl (lv_room (Nat.le_of_ble_eq_true rfl)) dX4_told_101 ⟨Nat.zero_le _, Nat.zero_le _⟩) (fun r_11 er_11 => ?_)
              subst er_11
              exact W.iret (v := (s_X3_wholePairsThatCross N V A)) hx hb hr (fun t ht hW => ⟨_, rfl, (by rw [s_X4_told, if_neg c_1, if_neg c_2, if_neg c_3, if_neg c_5, if_neg c_8, if_pos c_10]), ht⟩) (fun _ h => by cases h) dX4_told_104
            · refine lv_tableOut (tgt := 105) hx hb dX4_told_1 (tsw_out w0 (by decide) [0, 1, 2, 3, 4, 5] rfl (by simp only [List.forall_mem_cons]; exact ⟨c_1, c_2, c_3, c_5, c_8, c_10, fun _ h => absurd h List.not_mem_nil⟩)) (by decide) ?_
              refine lv_bipush (v := (-2)) hx hb dX4_told_105 (by decide) ?_
              exact W.iret (v := (-2 : Int32)) hx hb hr (fun t ht hW => ⟨_, rfl, (by rw [s_X4_told, if_neg c_1, if_neg c_2, if_neg c_3, if_neg c_5, if_neg c_8, if_neg c_10]), ht⟩) (fun _ h => by cases h) dX4_told_107
def s_X4_trace (N : Nat → Nat) (V : Nat → Int32) (A : Nat → Nat → Int32)  : Int32 :=
  V 1
set_option maxHeartbeats 4000000 in
set_option maxRecDepth 100000 in
theorem c_X4_trace (l : Launch) (D : va_G) (cI cZ cS : ClassId) (q : Nat → Nat) (N : Nat → Nat) (V : Nat → Int32) (A : Nat → Nat → Int32) : Met l yX4_trace wsX4_trace ({ frames := 0, cells := 0, slots := 0, locals := 0 }) (va_Pc [.ref (q 0)] (PC D cI cZ cS q N V A)) (vp_Si (fun r => r = (s_X4_trace N V A))) 0 0 (fun _ => False) := by
  refine Met.ofW (cc := cX4_trace) (maxL := 1) (ret := (some .int)) (by decide) rfl ?_
  intro p e s m args below meth c s₁ B hml hv
  obtain ⟨rfl, hP, hK, hN⟩ := hv
  have hx := B.exec
  have hb := B.bytes
  have hr := B.returns
  have hts := atoms_spec (ws := wsX4_trace) B.pre
  have hown : s.vm.findClass RX4 = some m.cls := findClass_of_methodNamed B.named
  have hlocks := B.notSynchronized
  have hin4 : ∀ w ∈ u_ws RX4 TX4 7, w ∈ wsX4_trace := by decide +kernel
  have hl := lv_entry ([.ref (q 0)]) (n := 1) (Nat.le_of_ble_eq_true rfl)
  rw [lg_entry_eq]
  generalize (lg_sl ([.ref (q 0)]) ++ List.replicate (1 - (lg_sl ([.ref (q 0)])).length) Slot.unset).toArray = ls at hl ⊢
  have hl : lv_has ls 1 [(0, .ref (q 0))] := hl
  refine lv_aload_n hx hb dX4_trace_0 rfl (lv_at hl 0 rfl) ?_
  refine va_get (D := D) (ci := 4) (v := .int (V 1)) (C := RX4) (T := TX4) (N := 7) hx hb hts hin4 hown hK hP 0 rfl rfl 5 (by decide) (hts (.fieldLink RX4 43 "NeckShip" "traced" "I") (by decide +kernel)) (fun _ h9 => h9) rfl dX4_trace_1 ?_
  exact W.iret (v := V 1) hx hb hr (fun t ht hW => ⟨_, rfl, (by rw [s_X4_trace]), ht⟩) (fun _ h => by cases h) dX4_trace_4
def s_X4_fault (N : Nat → Nat) (V : Nat → Int32) (A : Nat → Nat → Int32)  : Int32 :=
  V 0
set_option maxHeartbeats 4000000 in
set_option maxRecDepth 100000 in
theorem c_X4_fault (l : Launch) (D : va_G) (cI cZ cS : ClassId) (q : Nat → Nat) (N : Nat → Nat) (V : Nat → Int32) (A : Nat → Nat → Int32) : Met l yX4_fault wsX4_fault ({ frames := 0, cells := 0, slots := 0, locals := 0 }) (va_Pc [.ref (q 0)] (PC D cI cZ cS q N V A)) (vp_Si (fun r => r = (s_X4_fault N V A))) 0 0 (fun _ => False) := by
  refine Met.ofW (cc := cX4_fault) (maxL := 1) (ret := (some .int)) (by decide) rfl ?_
  intro p e s m args below meth c s₁ B hml hv
  obtain ⟨rfl, hP, hK, hN⟩ := hv
  have hx := B.exec
  have hb := B.bytes
  have hr := B.returns
  have hts := atoms_spec (ws := wsX4_fault) B.pre
  have hown : s.vm.findClass RX4 = some m.cls := findClass_of_methodNamed B.named
  have hlocks := B.notSynchronized
  have hin4 : ∀ w ∈ u_ws RX4 TX4 7, w ∈ wsX4_fault := by decide +kernel
  have hl := lv_entry ([.ref (q 0)]) (n := 1) (Nat.le_of_ble_eq_true rfl)
  rw [lg_entry_eq]
  generalize (lg_sl ([.ref (q 0)]) ++ List.replicate (1 - (lg_sl ([.ref (q 0)])).length) Slot.unset).toArray = ls at hl ⊢
  have hl : lv_has ls 1 [(0, .ref (q 0))] := hl
  refine lv_aload_n hx hb dX4_fault_0 rfl (lv_at hl 0 rfl) ?_
  refine va_get (D := D) (ci := 4) (v := .int (V 0)) (C := RX4) (T := TX4) (N := 7) hx hb hts hin4 hown hK hP 0 rfl rfl 6 (by decide) (hts (.fieldLink RX4 47 "NeckShip" "latestFault" "I") (by decide +kernel)) (fun _ h9 => h9) rfl dX4_fault_1 ?_
  exact W.iret (v := V 0) hx hb hr (fun t ht hW => ⟨_, rfl, (by rw [s_X4_fault]), ht⟩) (fun _ h => by cases h) dX4_fault_4
def s_X4_spar (N : Nat → Nat) (V : Nat → Int32) (A : Nat → Nat → Int32)  (k0 : Int32) (f0 : Int32) (l0 : Int32) (t0 : Int32) (w0 : Int32) : Int32 × St :=
  if (s_X4_refusalOfSpar N V A k0 f0 l0 t0 w0 (nI (N 0))) = 0 then
    ((s_X2_add N V A k0 f0 l0 t0 w0).1, (s_X2_add N V A k0 f0 l0 t0 w0).2.1, (s_X2_add N V A k0 f0 l0 t0 w0).2.2.1, (s_X2_add N V A k0 f0 l0 t0 w0).2.2.2)
  else
    ((s_X4_refusalOfSpar N V A k0 f0 l0 t0 w0 (nI (N 0))), N, V, A)
set_option maxHeartbeats 4000000 in
set_option maxRecDepth 100000 in
theorem c_X4_spar (l : Launch) (D : va_G) (cI cZ cS : ClassId) (q : Nat → Nat) (N : Nat → Nat) (V : Nat → Int32) (A : Nat → Nat → Int32) (sz : Nat) (k0 : Int32) (f0 : Int32) (l0 : Int32) (t0 : Int32) (w0 : Int32) (h_1 : okC N A) : Met l yX4_spar wsX4_spar ({ frames := 4, cells := 0, slots := 0, locals := 91 }) (va_Pc [.ref (q 0), .int k0, .int f0, .int l0, .int t0, .int w0] (fun U => U.heap.size = sz ∧ PC D cI cZ cS q N V A U ∧ va_D (fun _ => True) (wC cI cS q N V A))) (va_Qi (fun r (_ : Unit) => r = (s_X4_spar N V A k0 f0 l0 t0 w0).1) (fun _ t => PC D cI cZ cS q (s_X4_spar N V A k0 f0 l0 t0 w0).2.1 (s_X4_spar N V A k0 f0 l0 t0 w0).2.2.1 (s_X4_spar N V A k0 f0 l0 t0 w0).2.2.2 t ∧ va_D (va_A (wC cI cS q N V A) sz) (wC cI cS q (s_X4_spar N V A k0 f0 l0 t0 w0).2.1 (s_X4_spar N V A k0 f0 l0 t0 w0).2.2.1 (s_X4_spar N V A k0 f0 l0 t0 w0).2.2.2)) (va_A (wC cI cS q N V A) sz)) 0 0 (va_A (wC cI cS q N V A) sz) := by
  refine Met.ofW (cc := cX4_spar) (maxL := 7) (ret := (some .int)) (by decide) rfl ?_
  intro p e s m args below meth c s₁ B hml hv
  obtain ⟨rfl, hsz, ⟨hP, hK, hN⟩, hD0⟩ := hv
  have hx := B.exec
  have hb := B.bytes
  have hr := B.returns
  have hts := atoms_spec (ws := wsX4_spar) B.pre
  have hown : s.vm.findClass RX4 = some m.cls := findClass_of_methodNamed B.named
  have hlocks := B.notSynchronized
  have hin2 : ∀ w ∈ u_ws RX2 TX2 9, w ∈ wsX4_spar := by decide +kernel
  have hin4 : ∀ w ∈ u_ws RX4 TX4 7, w ∈ wsX4_spar := by decide +kernel
  subst hsz
  have hD := hD0.self (sz := s.heap.size)
  generalize hAe : va_A (wC cI cS q N V A) s.heap.size = Ar at hD ⊢
  have hA : ∀ q : Nat, s.heap.size ≤ q → Ar q := fun q h => by rw [← hAe]; exact Or.inr h
  have hS : va_S Ar s.heap s.heap [] := va_S.rf
  obtain ⟨o1, o2, o3, o4, o5, o6, o7, o8, o9⟩ := id h_1
  have hl := lv_entry ([.ref (q 0), .int k0, .int f0, .int l0, .int t0, .int w0]) (n := 7) (Nat.le_of_ble_eq_true rfl)
  rw [lg_entry_eq]
  generalize (lg_sl ([.ref (q 0), .int k0, .int f0, .int l0, .int t0, .int w0]) ++ List.replicate (7 - (lg_sl ([.ref (q 0), .int k0, .int f0, .int l0, .int t0, .int w0])).length) Slot.unset).toArray = ls at hl ⊢
  have hl : lv_has ls 7 [(0, .ref (q 0)), (1, .int k0), (2, .int f0), (3, .int l0), (4, .int t0), (5, .int w0)] := hl
  refine lv_aload_n hx hb dX4_spar_0 rfl (lv_at hl 0 rfl) ?_
  refine lv_iload_n hx hb dX4_spar_1 rfl (lv_at hl 1 rfl) ?_
  refine lv_iload_n hx hb dX4_spar_2 rfl (lv_at hl 2 rfl) ?_
  refine lv_iload_n hx hb dX4_spar_3 rfl (lv_at hl 3 rfl) ?_
  refine lv_iload hx hb dX4_spar_4 (lv_at hl 4 rfl) ?_
  refine lv_iload hx hb dX4_spar_6 (lv_at hl 5 rfl) ?_
  refine lv_aload_n hx hb dX4_spar_8 rfl (lv_at hl 0 rfl) ?_
  refine va_get (D := D) (ci := 4) (v := .ref (q 2)) (C := RX4) (T := TX4) (N := 7) hx hb hts hin4 hown hK hP 0 rfl rfl 1 (by decide) (hts (.fieldLink RX4 18 "NeckShip" "spars" "LNeckShip$Spars;") (by decide +kernel)) (fun _ h9 => h9) rfl dX4_spar_9 ?_
  refine va_get (D := D) (ci := 2) (v := .int (nI (N 0))) (C := RX2) (T := TX2) (N := 9) hx hb hts hin2 hown hK hP 2 rfl rfl 7 (by decide) (hts (.fieldLink RX4 61 "NeckShip$Spars" "count" "I") (by decide +kernel)) (fun _ h9 => h9) rfl dX4_spar_12 ?_
  refine vp_callSi (W.runV (As := [.int k0, .int f0, .int l0, .int t0, .int w0, .int (nI (N 0))]) (rest := []) ⟨hx, hb, hml, hown, hts⟩ (c_X4_refusalOfSpar l D cI cZ cS q N V A k0 f0 l0 t0 w0 (nI (N 0))) (cwV 6 hts gX4_spar_X4_refusalOfSpar rfl rfl rfl (by decide +kernel) ⟨Nat.le_of_ble_eq_true rfl, Nat.le_of_ble_eq_true rfl⟩) (preC4 hK hN hP) rfl rfl hl.1 rfl (lv_room (Nat.le_of_ble_eq_true rfl)) dX4_spar_15 ⟨Nat.zero_le _, Nat.zero_le _⟩) (fun r_1 er_1 => ?_)
  subst er_1
  refine lv_istore (lv' := [(6, .int (s_X4_refusalOfSpar N V A k0 f0 l0 t0 w0 (nI (N 0)))), (0, .ref (q 0)), (1, .int k0), (2, .int f0), (3, .int l0), (4, .int t0), (5, .int w0)]) hx hb dX4_spar_18 hl (by decide) rfl (fun ls hl => ?_)
  refine lv_iload hx hb dX4_spar_20 (lv_at hl 0 rfl) ?_
  refine lv_if_eq (tgt := 28) hx hb dX4_spar_22 (by decide) (fun c_2 => ?_) (fun c_2 => ?_)
  · refine lv_aload_n hx hb dX4_spar_28 rfl (lv_at hl 1 rfl) ?_
    refine va_get (D := D) (ci := 4) (v := .ref (q 2)) (C := RX4) (T := TX4) (N := 7) hx hb hts hin4 hown hK hP 0 rfl rfl 1 (by decide) (hts (.fieldLink RX4 18 "NeckShip" "spars" "LNeckShip$Spars;") (by decide +kernel)) (fun _ h9 => h9) rfl dX4_spar_29 ?_
    refine lv_iload_n hx hb dX4_spar_32 rfl (lv_at hl 2 rfl) ?_
    refine lv_iload_n hx hb dX4_spar_33 rfl (lv_at hl 3 rfl) ?_
    refine lv_iload_n hx hb dX4_spar_34 rfl (lv_at hl 4 rfl) ?_
    refine lv_iload hx hb dX4_spar_35 (lv_at hl 5 rfl) ?_
    refine lv_iload hx hb dX4_spar_37 (lv_at hl 6 rfl) ?_
    refine callCi (va_runV (As := [.int k0, .int f0, .int l0, .int t0, .int w0]) (rest := []) ⟨hx, hb, hml, hown, hts⟩ (c_X2_add l D cI cZ cS q N V A s.heap.size k0 f0 l0 t0 w0 (by omega)) (cwV 5 hts gX4_spar_X2_add rfl rfl rfl (by decide +kernel) ⟨Nat.le_of_ble_eq_true rfl, Nat.le_of_ble_eq_true rfl⟩) (preCm2 hK hN hP hD) rfl rfl hl.1 rfl (lv_room (Nat.le_of_ble_eq_true rfl)) dX4_spar_39 ⟨Nat.zero_le _, Nat.zero_le _⟩) hD hS hA (fun H locs hP hD hS => ?_)
    have hEE : s_X4_spar N V A k0 f0 l0 t0 w0 = ((s_X2_add N V A k0 f0 l0 t0 w0).1, (s_X2_add N V A k0 f0 l0 t0 w0).2.1, (s_X2_add N V A k0 f0 l0 t0 w0).2.2.1, (s_X2_add N V A k0 f0 l0 t0 w0).2.2.2) := (by rw [s_X4_spar, if_pos c_2])
    rw [hEE]
    exact W.iret (v := (s_X2_add N V A k0 f0 l0 t0 w0).1) hx hb hr (fun t ht hW => ⟨⟨_, (), rfl, rfl, ⟨by rw [ht]; exact hP, va_K.moved hW.alike hK, hN.warm hW⟩, hD⟩, hS.F ht⟩) hS.2.2 dX4_spar_42
  · refine lv_iload hx hb dX4_spar_25 (lv_at hl 0 rfl) ?_
    have hEE : s_X4_spar N V A k0 f0 l0 t0 w0 = ((s_X4_refusalOfSpar N V A k0 f0 l0 t0 w0 (nI (N 0))), N, V, A) := (by rw [s_X4_spar, if_neg c_2])
    rw [hEE]
    exact W.iret (v := (s_X4_refusalOfSpar N V A k0 f0 l0 t0 w0 (nI (N 0)))) hx hb hr (fun t ht hW => ⟨⟨_, (), rfl, rfl, ⟨by rw [ht]; exact hP, va_K.moved hW.alike hK, hN.warm hW⟩, hD⟩, hS.F ht⟩) hS.2.2 dX4_spar_27
def s_X4_thread (N : Nat → Nat) (V : Nat → Int32) (A : Nat → Nat → Int32)  (h0 : Int32) (s0 : Int32) (p0 : Int32) : Int32 × St :=
  if (s_X2_has N V A s0) = true then
    if (s_X4_isWithin h0 (-20 : Int32) (A 1 0 + (20 : Int32))) = true then
      if (s_X4_isWithin p0 (1 : Int32) (A 5 s0.toNatClampNeg)) = true then
        if 0 ≤ ((h0 - A 4 s0.toNatClampNeg) * A 7 s0.toNatClampNeg) then
          ((s_X3_add N V A h0 (nI s0.toNatClampNeg) p0 (A 4 s0.toNatClampNeg) false).1, (s_X3_add N V A h0 (nI s0.toNatClampNeg) p0 (A 4 s0.toNatClampNeg) false).2.1, (s_X3_add N V A h0 (nI s0.toNatClampNeg) p0 (A 4 s0.toNatClampNeg) false).2.2.1, (s_X3_add N V A h0 (nI s0.toNatClampNeg) p0 (A 4 s0.toNatClampNeg) false).2.2.2)
        else
          ((s_X3_add N V A h0 (nI s0.toNatClampNeg) p0 (A 4 s0.toNatClampNeg) true).1, (s_X3_add N V A h0 (nI s0.toNatClampNeg) p0 (A 4 s0.toNatClampNeg) true).2.1, (s_X3_add N V A h0 (nI s0.toNatClampNeg) p0 (A 4 s0.toNatClampNeg) true).2.2.1, (s_X3_add N V A h0 (nI s0.toNatClampNeg) p0 (A 4 s0.toNatClampNeg) true).2.2.2)
      else
        ((-2 : Int32), N, V, A)
    else
      ((-2 : Int32), N, V, A)
  else
    ((-1 : Int32), N, V, A)
set_option maxHeartbeats 4000000 in
set_option maxRecDepth 100000 in
theorem c_X4_thread (l : Launch) (D : va_G) (cI cZ cS : ClassId) (q : Nat → Nat) (N : Nat → Nat) (V : Nat → Int32) (A : Nat → Nat → Int32) (sz : Nat) (h0 : Int32) (s0 : Int32) (p0 : Int32) (h_1 : okC N A) : Met l yX4_thread wsX4_thread ({ frames := 3, cells := 0, slots := 0, locals := 74 }) (va_Pc [.ref (q 0), .int h0, .int s0, .int p0] (fun U => U.heap.size = sz ∧ PC D cI cZ cS q N V A U ∧ va_D (fun _ => True) (wC cI cS q N V A))) (va_Qi (fun r (_ : Unit) => r = (s_X4_thread N V A h0 s0 p0).1) (fun _ t => PC D cI cZ cS q (s_X4_thread N V A h0 s0 p0).2.1 (s_X4_thread N V A h0 s0 p0).2.2.1 (s_X4_thread N V A h0 s0 p0).2.2.2 t ∧ va_D (va_A (wC cI cS q N V A) sz) (wC cI cS q (s_X4_thread N V A h0 s0 p0).2.1 (s_X4_thread N V A h0 s0 p0).2.2.1 (s_X4_thread N V A h0 s0 p0).2.2.2)) (va_A (wC cI cS q N V A) sz)) 0 0 (va_A (wC cI cS q N V A) sz) := by
  refine Met.ofW (cc := cX4_thread) (maxL := 5) (ret := (some .int)) (by decide) rfl ?_
  intro p e s m args below meth c s₁ B hml hv
  obtain ⟨rfl, hsz, ⟨hP, hK, hN⟩, hD0⟩ := hv
  have hx := B.exec
  have hb := B.bytes
  have hr := B.returns
  have hts := atoms_spec (ws := wsX4_thread) B.pre
  have hown : s.vm.findClass RX4 = some m.cls := findClass_of_methodNamed B.named
  have hlocks := B.notSynchronized
  have hin2 : ∀ w ∈ u_ws RX2 TX2 9, w ∈ wsX4_thread := by decide +kernel
  have hin4 : ∀ w ∈ u_ws RX4 TX4 7, w ∈ wsX4_thread := by decide +kernel
  subst hsz
  have hD := hD0.self (sz := s.heap.size)
  generalize hAe : va_A (wC cI cS q N V A) s.heap.size = Ar at hD ⊢
  have hA : ∀ q : Nat, s.heap.size ≤ q → Ar q := fun q h => by rw [← hAe]; exact Or.inr h
  have hS : va_S Ar s.heap s.heap [] := va_S.rf
  obtain ⟨o1, o2, o3, o4, o5, o6, o7, o8, o9⟩ := id h_1
  have hl := lv_entry ([.ref (q 0), .int h0, .int s0, .int p0]) (n := 5) (Nat.le_of_ble_eq_true rfl)
  rw [lg_entry_eq]
  generalize (lg_sl ([.ref (q 0), .int h0, .int s0, .int p0]) ++ List.replicate (5 - (lg_sl ([.ref (q 0), .int h0, .int s0, .int p0])).length) Slot.unset).toArray = ls at hl ⊢
  have hl : lv_has ls 5 [(0, .ref (q 0)), (1, .int h0), (2, .int s0), (3, .int p0)] := hl
  refine lv_aload_n hx hb dX4_thread_0 rfl (lv_at hl 0 rfl) ?_
  refine va_get (D := D) (ci := 4) (v := .ref (q 2)) (C := RX4) (T := TX4) (N := 7) hx hb hts hin4 hown hK hP 0 rfl rfl 1 (by decide) (hts (.fieldLink RX4 18 "NeckShip" "spars" "LNeckShip$Spars;") (by decide +kernel)) (fun _ h9 => h9) rfl dX4_thread_1 ?_
  refine lv_iload_n hx hb dX4_thread_4 rfl (lv_at hl 2 rfl) ?_
  refine vp_callSi (W.runV (As := [.int s0]) (rest := []) ⟨hx, hb, hml, hown, hts⟩ (c_X2_has l D cI cZ cS q N V A s0) (cwV 1 hts gX4_thread_X2_has rfl rfl rfl (by decide +kernel) ⟨Nat.le_of_ble_eq_true rfl, Nat.le_of_ble_eq_true rfl⟩) (preC2 hK hN hP) rfl rfl hl.1 rfl (lv_room (Nat.le_of_ble_eq_true rfl)) dX4_thread_5 ⟨Nat.zero_le _, Nat.zero_le _⟩) (fun r_1 er_1 => ?_)
  subst er_1
  refine lz_if_ne (tgt := 13) hx hb dX4_thread_8 (by decide) (fun c_2 => ?_) (fun c_2 => ?_)
  · obtain ⟨hlt_s0, heq_s0⟩ := has2_t o1 c_2
    have hl : lv_has ls 5 [(0, .ref (q 0)), (1, .int h0), (2, .int (nI s0.toNatClampNeg)), (3, .int p0)] := by rw [heq_s0]; exact hl
    refine lv_iload_n hx hb dX4_thread_13 rfl (lv_at hl 1 rfl) ?_
    refine lv_bipush (v := (-20)) hx hb dX4_thread_14 (by decide) ?_
    refine lv_aload_n hx hb dX4_thread_16 rfl (lv_at hl 0 rfl) ?_
    refine va_get (D := D) (ci := 4) (v := .ref (q 1)) (C := RX4) (T := TX4) (N := 7) hx hb hts hin4 hown hK hP 0 rfl rfl 0 (by decide) (hts (.fieldLink RX4 9 "NeckShip" "measures" "[I") (by decide +kernel)) (fun _ h9 => h9) rfl dX4_thread_17 ?_
    refine lv_iconst (v := (0)) hx hb dX4_thread_20 (by decide) ?_
    refine va_ialdN (i := 0) hx hb hK hP 1 0 rfl rfl (by decide) (by omega) dX4_thread_21 ?_
    refine lv_bipush (v := (20)) hx hb dX4_thread_22 (by decide) ?_
    refine lv_iadd hx hb dX4_thread_24 ?_
    refine vp_callSi (W.runS (As := [.int h0, .int (-20 : Int32), .int (A 1 0 + (20 : Int32))]) (rest := []) ⟨hx, hb, hml, hown, hts⟩ (c_X4_isWithin l h0 (-20 : Int32) (A 1 0 + (20 : Int32))) (cwS 3 hts gX4_thread_X4_isWithin rfl rfl rfl (by decide +kernel) ⟨Nat.le_of_ble_eq_true rfl, Nat.le_of_ble_eq_true rfl⟩) (preEq) rfl rfl hl.1 rfl (lv_room (Nat.le_of_ble_eq_true rfl)) dX4_thread_25 ⟨Nat.zero_le _, Nat.zero_le _⟩) (fun r_3 er_3 => ?_)
    subst er_3
    refine lz_if_eq (tgt := 48) hx hb dX4_thread_28 (by decide) (fun c_4 => ?_) (fun c_4 => ?_)
    · refine lv_bipush (v := (-2)) hx hb dX4_thread_48 (by decide) ?_
      have hEE : s_X4_thread N V A h0 s0 p0 = ((-2 : Int32), N, V, A) := (by rw [s_X4_thread, if_pos c_2, if_neg (nb c_4)])
      rw [hEE]
      exact W.iret (v := (-2 : Int32)) hx hb hr (fun t ht hW => ⟨⟨_, (), rfl, rfl, ⟨by rw [ht]; exact hP, va_K.moved hW.alike hK, hN.warm hW⟩, hD⟩, hS.F ht⟩) hS.2.2 dX4_thread_50
    · refine lv_iload_n hx hb dX4_thread_31 rfl (lv_at hl 3 rfl) ?_
      refine lv_iconst (v := (1)) hx hb dX4_thread_32 (by decide) ?_
      refine lv_aload_n hx hb dX4_thread_33 rfl (lv_at hl 0 rfl) ?_
      refine va_get (D := D) (ci := 4) (v := .ref (q 2)) (C := RX4) (T := TX4) (N := 7) hx hb hts hin4 hown hK hP 0 rfl rfl 1 (by decide) (hts (.fieldLink RX4 18 "NeckShip" "spars" "LNeckShip$Spars;") (by decide +kernel)) (fun _ h9 => h9) rfl dX4_thread_34 ?_
      refine va_get (D := D) (ci := 2) (v := .ref (q 5)) (C := RX2) (T := TX2) (N := 9) hx hb hts hin2 hown hK hP 2 rfl rfl 2 (by decide) (hts (.fieldLink RX4 106 "NeckShip$Spars" "length" "[I") (by decide +kernel)) (fun _ h9 => h9) rfl dX4_thread_37 ?_
      refine lv_iload_n hx hb dX4_thread_40 rfl (lv_at hl 2 rfl) ?_
      refine va_ialdN (i := s0.toNatClampNeg) hx hb hK hP 5 0 rfl rfl (by decide) (by omega) dX4_thread_41 ?_
      refine vp_callSi (W.runS (As := [.int p0, .int (1 : Int32), .int (A 5 s0.toNatClampNeg)]) (rest := []) ⟨hx, hb, hml, hown, hts⟩ (c_X4_isWithin l p0 (1 : Int32) (A 5 s0.toNatClampNeg)) (cwS 3 hts gX4_thread_X4_isWithin rfl rfl rfl (by decide +kernel) ⟨Nat.le_of_ble_eq_true rfl, Nat.le_of_ble_eq_true rfl⟩) (preEq) rfl rfl hl.1 rfl (lv_room (Nat.le_of_ble_eq_true rfl)) dX4_thread_42 ⟨Nat.zero_le _, Nat.zero_le _⟩) (fun r_5 er_5 => ?_)
      subst er_5
      refine lz_if_ne (tgt := 51) hx hb dX4_thread_45 (by decide) (fun c_6 => ?_) (fun c_6 => ?_)
      · refine lv_iload_n hx hb dX4_thread_51 rfl (lv_at hl 1 rfl) ?_
        refine lv_aload_n hx hb dX4_thread_52 rfl (lv_at hl 0 rfl) ?_
        refine va_get (D := D) (ci := 4) (v := .ref (q 2)) (C := RX4) (T := TX4) (N := 7) hx hb hts hin4 hown hK hP 0 rfl rfl 1 (by decide) (hts (.fieldLink RX4 18 "NeckShip" "spars" "LNeckShip$Spars;") (by decide +kernel)) (fun _ h9 => h9) rfl dX4_thread_53 ?_
        refine va_get (D := D) (ci := 2) (v := .ref (q 4)) (C := RX2) (T := TX2) (N := 9) hx hb hts hin2 hown hK hP 2 rfl rfl 1 (by decide) (hts (.fieldLink RX4 103 "NeckShip$Spars" "foot" "[I") (by decide +kernel)) (fun _ h9 => h9) rfl dX4_thread_56 ?_
        refine lv_iload_n hx hb dX4_thread_59 rfl (lv_at hl 2 rfl) ?_
        refine va_ialdN (i := s0.toNatClampNeg) hx hb hK hP 4 0 rfl rfl (by decide) (by omega) dX4_thread_60 ?_
        refine lv_isub hx hb dX4_thread_61 ?_
        refine lv_aload_n hx hb dX4_thread_62 rfl (lv_at hl 0 rfl) ?_
        refine va_get (D := D) (ci := 4) (v := .ref (q 2)) (C := RX4) (T := TX4) (N := 7) hx hb hts hin4 hown hK hP 0 rfl rfl 1 (by decide) (hts (.fieldLink RX4 18 "NeckShip" "spars" "LNeckShip$Spars;") (by decide +kernel)) (fun _ h9 => h9) rfl dX4_thread_63 ?_
        refine va_get (D := D) (ci := 2) (v := .ref (q 7)) (C := RX2) (T := TX2) (N := 9) hx hb hts hin2 hown hK hP 2 rfl rfl 4 (by decide) (hts (.fieldLink RX4 112 "NeckShip$Spars" "way" "[I") (by decide +kernel)) (fun _ h9 => h9) rfl dX4_thread_66 ?_
        refine lv_iload_n hx hb dX4_thread_69 rfl (lv_at hl 2 rfl) ?_
        refine va_ialdN (i := s0.toNatClampNeg) hx hb hK hP 7 0 rfl rfl (by decide) (by omega) dX4_thread_70 ?_
        refine lv_imul hx hb dX4_thread_71 ?_
        refine lv_if_ge (tgt := 79) hx hb dX4_thread_72 (by decide) (fun c_7 => ?_) (fun c_7 => ?_)
        · refine lv_iconst (v := (0)) hx hb dX4_thread_79 (by decide) ?_
          refine lv_istore (lv' := [(4, .int (0)), (0, .ref (q 0)), (1, .int h0), (2, .int (nI s0.toNatClampNeg)), (3, .int p0)]) hx hb dX4_thread_80 hl (by decide) rfl (fun ls hl => ?_)
          refine lv_aload_n hx hb dX4_thread_82 rfl (lv_at hl 1 rfl) ?_
          refine va_get (D := D) (ci := 4) (v := .ref (q 10)) (C := RX4) (T := TX4) (N := 7) hx hb hts hin4 hown hK hP 0 rfl rfl 2 (by decide) (hts (.fieldLink RX4 25 "NeckShip" "threads" "LNeckShip$Threads;") (by decide +kernel)) (fun _ h9 => h9) rfl dX4_thread_83 ?_
          refine lv_iload_n hx hb dX4_thread_86 rfl (lv_at hl 2 rfl) ?_
          refine lv_iload_n hx hb dX4_thread_87 rfl (lv_at hl 3 rfl) ?_
          refine lv_iload_n hx hb dX4_thread_88 rfl (lv_at hl 4 rfl) ?_
          refine lv_aload_n hx hb dX4_thread_89 rfl (lv_at hl 1 rfl) ?_
          refine va_get (D := D) (ci := 4) (v := .ref (q 2)) (C := RX4) (T := TX4) (N := 7) hx hb hts hin4 hown hK hP 0 rfl rfl 1 (by decide) (hts (.fieldLink RX4 18 "NeckShip" "spars" "LNeckShip$Spars;") (by decide +kernel)) (fun _ h9 => h9) rfl dX4_thread_90 ?_
          refine va_get (D := D) (ci := 2) (v := .ref (q 4)) (C := RX2) (T := TX2) (N := 9) hx hb hts hin2 hown hK hP 2 rfl rfl 1 (by decide) (hts (.fieldLink RX4 103 "NeckShip$Spars" "foot" "[I") (by decide +kernel)) (fun _ h9 => h9) rfl dX4_thread_93 ?_
          refine lv_iload_n hx hb dX4_thread_96 rfl (lv_at hl 3 rfl) ?_
          refine va_ialdN (i := s0.toNatClampNeg) hx hb hK hP 4 0 rfl rfl (by decide) (by omega) dX4_thread_97 ?_
          refine lv_iload hx hb dX4_thread_98 (lv_at hl 0 rfl) ?_
          refine callCi (va_runV (As := [.int h0, .int (nI s0.toNatClampNeg), .int p0, .int (A 4 s0.toNatClampNeg), .int (b2i false)]) (rest := []) ⟨hx, hb, hml, hown, hts⟩ (c_X3_add l D cI cZ cS q N V A s.heap.size h0 (nI s0.toNatClampNeg) p0 (A 4 s0.toNatClampNeg) false (by omega)) (cwV 5 hts gX4_thread_X3_add rfl rfl rfl (by decide +kernel) ⟨Nat.le_of_ble_eq_true rfl, Nat.le_of_ble_eq_true rfl⟩) (preCm3 hK hN hP hD) rfl rfl hl.1 rfl (lv_room (Nat.le_of_ble_eq_true rfl)) dX4_thread_100 ⟨Nat.zero_le _, Nat.zero_le _⟩) hD hS hA (fun H locs hP hD hS => ?_)
          have hEE : s_X4_thread N V A h0 s0 p0 = ((s_X3_add N V A h0 (nI s0.toNatClampNeg) p0 (A 4 s0.toNatClampNeg) false).1, (s_X3_add N V A h0 (nI s0.toNatClampNeg) p0 (A 4 s0.toNatClampNeg) false).2.1, (s_X3_add N V A h0 (nI s0.toNatClampNeg) p0 (A 4 s0.toNatClampNeg) false).2.2.1, (s_X3_add N V A h0 (nI s0.toNatClampNeg) p0 (A 4 s0.toNatClampNeg) false).2.2.2) := (by rw [s_X4_thread, if_pos c_2, if_pos c_4, if_pos c_6, if_pos c_7])
          rw [hEE]
          exact W.iret (v := (s_X3_add N V A h0 (nI s0.toNatClampNeg) p0 (A 4 s0.toNatClampNeg) false).1) hx hb hr (fun t ht hW => ⟨⟨_, (), rfl, rfl, ⟨by rw [ht]; exact hP, va_K.moved hW.alike hK, hN.warm hW⟩, hD⟩, hS.F ht⟩) hS.2.2 dX4_thread_103
        · refine lv_iconst (v := (1)) hx hb dX4_thread_75 (by decide) ?_
          refine lv_goto (tgt := 80) hx hb dX4_thread_76 (by decide) ?_
          refine lv_istore (lv' := [(4, .int (1)), (0, .ref (q 0)), (1, .int h0), (2, .int (nI s0.toNatClampNeg)), (3, .int p0)]) hx hb dX4_thread_80 hl (by decide) rfl (fun ls hl => ?_)
          refine lv_aload_n hx hb dX4_thread_82 rfl (lv_at hl 1 rfl) ?_
          refine va_get (D := D) (ci := 4) (v := .ref (q 10)) (C := RX4) (T := TX4) (N := 7) hx hb hts hin4 hown hK hP 0 rfl rfl 2 (by decide) (hts (.fieldLink RX4 25 "NeckShip" "threads" "LNeckShip$Threads;") (by decide +kernel)) (fun _ h9 => h9) rfl dX4_thread_83 ?_
          refine lv_iload_n hx hb dX4_thread_86 rfl (lv_at hl 2 rfl) ?_
          refine lv_iload_n hx hb dX4_thread_87 rfl (lv_at hl 3 rfl) ?_
          refine lv_iload_n hx hb dX4_thread_88 rfl (lv_at hl 4 rfl) ?_
          refine lv_aload_n hx hb dX4_thread_89 rfl (lv_at hl 1 rfl) ?_
          refine va_get (D := D) (ci := 4) (v := .ref (q 2)) (C := RX4) (T := TX4) (N := 7) hx hb hts hin4 hown hK hP 0 rfl rfl 1 (by decide) (hts (.fieldLink RX4 18 "NeckShip" "spars" "LNeckShip$Spars;") (by decide +kernel)) (fun _ h9 => h9) rfl dX4_thread_90 ?_
          refine va_get (D := D) (ci := 2) (v := .ref (q 4)) (C := RX2) (T := TX2) (N := 9) hx hb hts hin2 hown hK hP 2 rfl rfl 1 (by decide) (hts (.fieldLink RX4 103 "NeckShip$Spars" "foot" "[I") (by decide +kernel)) (fun _ h9 => h9) rfl dX4_thread_93 ?_
          refine lv_iload_n hx hb dX4_thread_96 rfl (lv_at hl 3 rfl) ?_
          refine va_ialdN (i := s0.toNatClampNeg) hx hb hK hP 4 0 rfl rfl (by decide) (by omega) dX4_thread_97 ?_
          refine lv_iload hx hb dX4_thread_98 (lv_at hl 0 rfl) ?_
          refine callCi (va_runV (As := [.int h0, .int (nI s0.toNatClampNeg), .int p0, .int (A 4 s0.toNatClampNeg), .int (b2i true)]) (rest := []) ⟨hx, hb, hml, hown, hts⟩ (c_X3_add l D cI cZ cS q N V A s.heap.size h0 (nI s0.toNatClampNeg) p0 (A 4 s0.toNatClampNeg) true (by omega)) (cwV 5 hts gX4_thread_X3_add rfl rfl rfl (by decide +kernel) ⟨Nat.le_of_ble_eq_true rfl, Nat.le_of_ble_eq_true rfl⟩) (preCm3 hK hN hP hD) rfl rfl hl.1 rfl (lv_room (Nat.le_of_ble_eq_true rfl)) dX4_thread_100 ⟨Nat.zero_le _, Nat.zero_le _⟩) hD hS hA (fun H locs hP hD hS => ?_)
          have hEE : s_X4_thread N V A h0 s0 p0 = ((s_X3_add N V A h0 (nI s0.toNatClampNeg) p0 (A 4 s0.toNatClampNeg) true).1, (s_X3_add N V A h0 (nI s0.toNatClampNeg) p0 (A 4 s0.toNatClampNeg) true).2.1, (s_X3_add N V A h0 (nI s0.toNatClampNeg) p0 (A 4 s0.toNatClampNeg) true).2.2.1, (s_X3_add N V A h0 (nI s0.toNatClampNeg) p0 (A 4 s0.toNatClampNeg) true).2.2.2) := (by rw [s_X4_thread, if_pos c_2, if_pos c_4, if_pos c_6, if_neg c_7])
          rw [hEE]
          exact W.iret (v := (s_X3_add N V A h0 (nI s0.toNatClampNeg) p0 (A 4 s0.toNatClampNeg) true).1) hx hb hr (fun t ht hW => ⟨⟨_, (), rfl, rfl, ⟨by rw [ht]; exact hP, va_K.moved hW.alike hK, hN.warm hW⟩, hD⟩, hS.F ht⟩) hS.2.2 dX4_thread_103
      · refine lv_bipush (v := (-2)) hx hb dX4_thread_48 (by decide) ?_
        have hEE : s_X4_thread N V A h0 s0 p0 = ((-2 : Int32), N, V, A) := (by rw [s_X4_thread, if_pos c_2, if_pos c_4, if_neg (nb c_6)])
        rw [hEE]
        exact W.iret (v := (-2 : Int32)) hx hb hr (fun t ht hW => ⟨⟨_, (), rfl, rfl, ⟨by rw [ht]; exact hP, va_K.moved hW.alike hK, hN.warm hW⟩, hD⟩, hS.F ht⟩) hS.2.2 dX4_thread_50
  · refine lv_iconst (v := (-1)) hx hb dX4_thread_11 (by decide) ?_
    have hEE : s_X4_thread N V A h0 s0 p0 = ((-1 : Int32), N, V, A) := (by rw [s_X4_thread, if_neg (nb c_2)])
    rw [hEE]
    exact W.iret (v := (-1 : Int32)) hx hb hr (fun t ht hW => ⟨⟨_, (), rfl, rfl, ⟨by rw [ht]; exact hP, va_K.moved hW.alike hK, hN.warm hW⟩, hD⟩, hS.F ht⟩) hS.2.2 dX4_thread_12
def s_X4_cut (N : Nat → Nat) (V : Nat → Int32) (A : Nat → Nat → Int32)  (t0 : Int32) : Int32 × St :=
  if (s_X3_has N V A t0) = true then
    ((s_X4_oneIf (s_X4_isIn (nI (N 4)) (nI t0.toNatClampNeg))), (va_up N 4 (nclr (N 4) (2 ^ t0.toNatClampNeg))), V, A)
  else
    ((-1 : Int32), N, V, A)
set_option maxHeartbeats 4000000 in
set_option maxRecDepth 100000 in
theorem c_X4_cut (l : Launch) (D : va_G) (cI cZ cS : ClassId) (q : Nat → Nat) (N : Nat → Nat) (V : Nat → Int32) (A : Nat → Nat → Int32) (sz : Nat) (t0 : Int32) (h_1 : okC N A) : Met l yX4_cut wsX4_cut ({ frames := 1, cells := 0, slots := 0, locals := 21 }) (va_Pc [.ref (q 0), .int t0] (fun U => U.heap.size = sz ∧ PC D cI cZ cS q N V A U ∧ va_D (fun _ => True) (wC cI cS q N V A))) (va_Qi (fun r (_ : Unit) => r = (s_X4_cut N V A t0).1) (fun _ t => PC D cI cZ cS q (s_X4_cut N V A t0).2.1 (s_X4_cut N V A t0).2.2.1 (s_X4_cut N V A t0).2.2.2 t ∧ va_D (va_A (wC cI cS q N V A) sz) (wC cI cS q (s_X4_cut N V A t0).2.1 (s_X4_cut N V A t0).2.2.1 (s_X4_cut N V A t0).2.2.2)) (va_A (wC cI cS q N V A) sz)) 0 0 (va_A (wC cI cS q N V A) sz) := by
  refine Met.ofW (cc := cX4_cut) (maxL := 3) (ret := (some .int)) (by decide) rfl ?_
  intro p e s m args below meth c s₁ B hml hv
  obtain ⟨rfl, hsz, ⟨hP, hK, hN⟩, hD0⟩ := hv
  have hx := B.exec
  have hb := B.bytes
  have hr := B.returns
  have hts := atoms_spec (ws := wsX4_cut) B.pre
  have hown : s.vm.findClass RX4 = some m.cls := findClass_of_methodNamed B.named
  have hlocks := B.notSynchronized
  have hin3 : ∀ w ∈ u_ws RX3 TX3 8, w ∈ wsX4_cut := by decide +kernel
  have hin4 : ∀ w ∈ u_ws RX4 TX4 7, w ∈ wsX4_cut := by decide +kernel
  subst hsz
  have hD := hD0.self (sz := s.heap.size)
  generalize hAe : va_A (wC cI cS q N V A) s.heap.size = Ar at hD ⊢
  have hA : ∀ q : Nat, s.heap.size ≤ q → Ar q := fun q h => by rw [← hAe]; exact Or.inr h
  have hS : va_S Ar s.heap s.heap [] := va_S.rf
  obtain ⟨o1, o2, o3, o4, o5, o6, o7, o8, o9⟩ := id h_1
  have hl := lv_entry ([.ref (q 0), .int t0]) (n := 3) (Nat.le_of_ble_eq_true rfl)
  rw [lg_entry_eq]
  generalize (lg_sl ([.ref (q 0), .int t0]) ++ List.replicate (3 - (lg_sl ([.ref (q 0), .int t0])).length) Slot.unset).toArray = ls at hl ⊢
  have hl : lv_has ls 3 [(0, .ref (q 0)), (1, .int t0)] := hl
  refine lv_aload_n hx hb dX4_cut_0 rfl (lv_at hl 0 rfl) ?_
  refine va_get (D := D) (ci := 4) (v := .ref (q 10)) (C := RX4) (T := TX4) (N := 7) hx hb hts hin4 hown hK hP 0 rfl rfl 2 (by decide) (hts (.fieldLink RX4 25 "NeckShip" "threads" "LNeckShip$Threads;") (by decide +kernel)) (fun _ h9 => h9) rfl dX4_cut_1 ?_
  refine lv_iload_n hx hb dX4_cut_4 rfl (lv_at hl 1 rfl) ?_
  refine vp_callSi (W.runV (As := [.int t0]) (rest := []) ⟨hx, hb, hml, hown, hts⟩ (c_X3_has l D cI cZ cS q N V A t0) (cwV 1 hts gX4_cut_X3_has rfl rfl rfl (by decide +kernel) ⟨Nat.le_of_ble_eq_true rfl, Nat.le_of_ble_eq_true rfl⟩) (preC3 hK hN hP) rfl rfl hl.1 rfl (lv_room (Nat.le_of_ble_eq_true rfl)) dX4_cut_5 ⟨Nat.zero_le _, Nat.zero_le _⟩) (fun r_1 er_1 => ?_)
  subst er_1
  refine lz_if_ne (tgt := 13) hx hb dX4_cut_8 (by decide) (fun c_2 => ?_) (fun c_2 => ?_)
  · obtain ⟨hlt_t0, heq_t0⟩ := has3_t o2 c_2
    have hl : lv_has ls 3 [(0, .ref (q 0)), (1, .int (nI t0.toNatClampNeg))] := by rw [heq_t0]; exact hl
    refine lv_aload_n hx hb dX4_cut_13 rfl (lv_at hl 0 rfl) ?_
    refine va_get (D := D) (ci := 4) (v := .ref (q 10)) (C := RX4) (T := TX4) (N := 7) hx hb hts hin4 hown hK hP 0 rfl rfl 2 (by decide) (hts (.fieldLink RX4 25 "NeckShip" "threads" "LNeckShip$Threads;") (by decide +kernel)) (fun _ h9 => h9) rfl dX4_cut_14 ?_
    refine va_get (D := D) (ci := 3) (v := .int (nI (N 4))) (C := RX3) (T := TX3) (N := 8) hx hb hts hin3 hown hK hP 10 rfl rfl 6 (by decide) (hts (.fieldLink RX4 163 "NeckShip$Threads" "whole" "I") (by decide +kernel)) (fun _ h9 => h9) rfl dX4_cut_17 ?_
    refine lv_iload_n hx hb dX4_cut_20 rfl (lv_at hl 1 rfl) ?_
    refine vp_callSi (W.runS (As := [.int (nI (N 4)), .int (nI t0.toNatClampNeg)]) (rest := []) ⟨hx, hb, hml, hown, hts⟩ (c_X4_isIn l (nI (N 4)) (nI t0.toNatClampNeg)) (cwS 2 hts gX4_cut_X4_isIn rfl rfl rfl (by decide +kernel) ⟨Nat.le_of_ble_eq_true rfl, Nat.le_of_ble_eq_true rfl⟩) (preEq) rfl rfl hl.1 rfl (lv_room (Nat.le_of_ble_eq_true rfl)) dX4_cut_21 ⟨Nat.zero_le _, Nat.zero_le _⟩) (fun r_3 er_3 => ?_)
    subst er_3
    refine vp_callSi (W.runS (As := [.int (b2i (s_X4_isIn (nI (N 4)) (nI t0.toNatClampNeg)))]) (rest := []) ⟨hx, hb, hml, hown, hts⟩ (c_X4_oneIf l (s_X4_isIn (nI (N 4)) (nI t0.toNatClampNeg))) (cwS 1 hts gX4_cut_X4_oneIf rfl rfl rfl (by decide +kernel) ⟨Nat.le_of_ble_eq_true rfl, Nat.le_of_ble_eq_true rfl⟩) (preEq) rfl rfl hl.1 rfl (lv_room (Nat.le_of_ble_eq_true rfl)) dX4_cut_24 ⟨Nat.zero_le _, Nat.zero_le _⟩) (fun r_4 er_4 => ?_)
    subst er_4
    refine lv_istore_n (lv' := [(2, .int (s_X4_oneIf (s_X4_isIn (nI (N 4)) (nI t0.toNatClampNeg)))), (0, .ref (q 0)), (1, .int (nI t0.toNatClampNeg))]) hx hb dX4_cut_27 rfl hl (by decide) rfl (fun ls hl => ?_)
    refine lv_aload_n hx hb dX4_cut_28 rfl (lv_at hl 1 rfl) ?_
    refine va_get (D := D) (ci := 4) (v := .ref (q 10)) (C := RX4) (T := TX4) (N := 7) hx hb hts hin4 hown hK hP 0 rfl rfl 2 (by decide) (hts (.fieldLink RX4 25 "NeckShip" "threads" "LNeckShip$Threads;") (by decide +kernel)) (fun _ h9 => h9) rfl dX4_cut_29 ?_
    refine lv_dup hx hb dX4_cut_32 rfl ?_
    refine va_get (D := D) (ci := 3) (v := .int (nI (N 4))) (C := RX3) (T := TX3) (N := 8) hx hb hts hin3 hown hK hP 10 rfl rfl 6 (by decide) (hts (.fieldLink RX4 163 "NeckShip$Threads" "whole" "I") (by decide +kernel)) (fun _ h9 => h9) rfl dX4_cut_33 ?_
    refine lv_iconst (v := (1)) hx hb dX4_cut_36 (by decide) ?_
    refine lv_iload_n hx hb dX4_cut_37 rfl (lv_at hl 2 rfl) ?_
    refine lv_ishl hx hb dX4_cut_38 ?_
    rw [sh1 (k := t0.toNatClampNeg) (by omega)]
    refine lv_iconst (v := (-1)) hx hb dX4_cut_39 (by decide) ?_
    refine lv_ixor hx hb dX4_cut_40 ?_
    refine lv_iand hx hb dX4_cut_41 ?_
    rw [nclr_eq (N 4) (2 ^ t0.toNatClampNeg)]
    refine va_put (D := D) (ci := 3) (v := .int (nI (nclr (N 4) (2 ^ t0.toNatClampNeg)))) (ty := .int) (C := RX3) (T := TX3) (N := 8) hx hb hts hin3 tyX3 tyX3_ok nmX3 hown hK hP hD hS 10 rfl rfl 6 (by decide) (hts (.fieldLink RX4 163 "NeckShip$Threads" "whole" "I") (by decide +kernel)) (fun _ h9 => h9) rfl (by decide +kernel) rfl rfl (Nat.le_of_ble_eq_true rfl) dX4_cut_42 (fun H locs hP hD hS => ?_)
    have hP : va_P D vwCl (wC cI cS q (va_up N 4 (nclr (N 4) (2 ^ t0.toNatClampNeg))) V A) H := hP
    have hD : va_D Ar (wC cI cS q (va_up N 4 (nclr (N 4) (2 ^ t0.toNatClampNeg))) V A) := hD
    refine lv_iload_n hx hb dX4_cut_45 rfl (lv_at hl 0 rfl) ?_
    have hEE : s_X4_cut N V A t0 = ((s_X4_oneIf (s_X4_isIn (nI (N 4)) (nI t0.toNatClampNeg))), (va_up N 4 (nclr (N 4) (2 ^ t0.toNatClampNeg))), V, A) := (by rw [s_X4_cut, if_pos c_2])
    rw [hEE]
    exact W.iret (v := (s_X4_oneIf (s_X4_isIn (nI (N 4)) (nI t0.toNatClampNeg)))) hx hb hr (fun t ht hW => ⟨⟨_, (), rfl, rfl, ⟨by rw [ht]; exact hP, va_K.moved hW.alike hK, hN.warm hW⟩, hD⟩, hS.F ht⟩) hS.2.2 dX4_cut_46
  · refine lv_iconst (v := (-1)) hx hb dX4_cut_11 (by decide) ?_
    have hEE : s_X4_cut N V A t0 = ((-1 : Int32), N, V, A) := (by rw [s_X4_cut, if_neg (nb c_2)])
    rw [hEE]
    exact W.iret (v := (-1 : Int32)) hx hb hr (fun t ht hW => ⟨⟨_, (), rfl, rfl, ⟨by rw [ht]; exact hP, va_K.moved hW.alike hK, hN.warm hW⟩, hD⟩, hS.F ht⟩) hS.2.2 dX4_cut_12
def s_X4_raise (N : Nat → Nat) (V : Nat → Int32) (A : Nat → Nat → Int32)  (s0 : Int32) : Int32 × St :=
  if (s_X2_has N V A s0) = true then
    if (s_X2_mayRise N V A s0.toNatClampNeg (nI (N 2)) (nI (s_X3_raised N V A))) = true then
      (nI (s_J6_bitCount_0f7a4 ((N 2) ||| (2 ^ s0.toNatClampNeg))), (va_up N 2 ((N 2) ||| (2 ^ s0.toNatClampNeg))), V, A)
    else
      ((-3 : Int32), N, V, A)
  else
    ((-1 : Int32), N, V, A)
set_option maxHeartbeats 4000000 in
set_option maxRecDepth 100000 in
theorem c_X4_raise (l : Launch) (D : va_G) (cI cZ cS : ClassId) (q : Nat → Nat) (N : Nat → Nat) (V : Nat → Int32) (A : Nat → Nat → Int32) (sz : Nat) (s0 : Int32) (h_1 : okC N A) : Met l yX4_raise wsX4_raise ({ frames := 2, cells := 0, slots := 0, locals := 44 }) (va_Pc [.ref (q 0), .int s0] (fun U => U.heap.size = sz ∧ PC D cI cZ cS q N V A U ∧ va_D (fun _ => True) (wC cI cS q N V A))) (va_Qi (fun r (_ : Unit) => r = (s_X4_raise N V A s0).1) (fun _ t => PC D cI cZ cS q (s_X4_raise N V A s0).2.1 (s_X4_raise N V A s0).2.2.1 (s_X4_raise N V A s0).2.2.2 t ∧ va_D (va_A (wC cI cS q N V A) sz) (wC cI cS q (s_X4_raise N V A s0).2.1 (s_X4_raise N V A s0).2.2.1 (s_X4_raise N V A s0).2.2.2)) (va_A (wC cI cS q N V A) sz)) 0 0 (va_A (wC cI cS q N V A) sz) := by
  refine Met.ofW (cc := cX4_raise) (maxL := 2) (ret := (some .int)) (by decide) rfl ?_
  intro p e s m args below meth c s₁ B hml hv
  obtain ⟨rfl, hsz, ⟨hP, hK, hN⟩, hD0⟩ := hv
  have hx := B.exec
  have hb := B.bytes
  have hr := B.returns
  have hts := atoms_spec (ws := wsX4_raise) B.pre
  have hown : s.vm.findClass RX4 = some m.cls := findClass_of_methodNamed B.named
  have hlocks := B.notSynchronized
  have hin2 : ∀ w ∈ u_ws RX2 TX2 9, w ∈ wsX4_raise := by decide +kernel
  have hin4 : ∀ w ∈ u_ws RX4 TX4 7, w ∈ wsX4_raise := by decide +kernel
  subst hsz
  have hD := hD0.self (sz := s.heap.size)
  generalize hAe : va_A (wC cI cS q N V A) s.heap.size = Ar at hD ⊢
  have hA : ∀ q : Nat, s.heap.size ≤ q → Ar q := fun q h => by rw [← hAe]; exact Or.inr h
  have hS : va_S Ar s.heap s.heap [] := va_S.rf
  obtain ⟨o1, o2, o3, o4, o5, o6, o7, o8, o9⟩ := id h_1
  have hl := lv_entry ([.ref (q 0), .int s0]) (n := 2) (Nat.le_of_ble_eq_true rfl)
  rw [lg_entry_eq]
  generalize (lg_sl ([.ref (q 0), .int s0]) ++ List.replicate (2 - (lg_sl ([.ref (q 0), .int s0])).length) Slot.unset).toArray = ls at hl ⊢
  have hl : lv_has ls 2 [(0, .ref (q 0)), (1, .int s0)] := hl
  refine lv_aload_n hx hb dX4_raise_0 rfl (lv_at hl 0 rfl) ?_
  refine va_get (D := D) (ci := 4) (v := .ref (q 2)) (C := RX4) (T := TX4) (N := 7) hx hb hts hin4 hown hK hP 0 rfl rfl 1 (by decide) (hts (.fieldLink RX4 18 "NeckShip" "spars" "LNeckShip$Spars;") (by decide +kernel)) (fun _ h9 => h9) rfl dX4_raise_1 ?_
  refine lv_iload_n hx hb dX4_raise_4 rfl (lv_at hl 1 rfl) ?_
  refine vp_callSi (W.runV (As := [.int s0]) (rest := []) ⟨hx, hb, hml, hown, hts⟩ (c_X2_has l D cI cZ cS q N V A s0) (cwV 1 hts gX4_raise_X2_has rfl rfl rfl (by decide +kernel) ⟨Nat.le_of_ble_eq_true rfl, Nat.le_of_ble_eq_true rfl⟩) (preC2 hK hN hP) rfl rfl hl.1 rfl (lv_room (Nat.le_of_ble_eq_true rfl)) dX4_raise_5 ⟨Nat.zero_le _, Nat.zero_le _⟩) (fun r_1 er_1 => ?_)
  subst er_1
  refine lz_if_ne (tgt := 13) hx hb dX4_raise_8 (by decide) (fun c_2 => ?_) (fun c_2 => ?_)
  · obtain ⟨hlt_s0, heq_s0⟩ := has2_t o1 c_2
    have hl : lv_has ls 2 [(0, .ref (q 0)), (1, .int (nI s0.toNatClampNeg))] := by rw [heq_s0]; exact hl
    refine lv_aload_n hx hb dX4_raise_13 rfl (lv_at hl 0 rfl) ?_
    refine va_get (D := D) (ci := 4) (v := .ref (q 2)) (C := RX4) (T := TX4) (N := 7) hx hb hts hin4 hown hK hP 0 rfl rfl 1 (by decide) (hts (.fieldLink RX4 18 "NeckShip" "spars" "LNeckShip$Spars;") (by decide +kernel)) (fun _ h9 => h9) rfl dX4_raise_14 ?_
    refine lv_iload_n hx hb dX4_raise_17 rfl (lv_at hl 1 rfl) ?_
    refine lv_aload_n hx hb dX4_raise_18 rfl (lv_at hl 0 rfl) ?_
    refine va_get (D := D) (ci := 4) (v := .ref (q 2)) (C := RX4) (T := TX4) (N := 7) hx hb hts hin4 hown hK hP 0 rfl rfl 1 (by decide) (hts (.fieldLink RX4 18 "NeckShip" "spars" "LNeckShip$Spars;") (by decide +kernel)) (fun _ h9 => h9) rfl dX4_raise_19 ?_
    refine va_get (D := D) (ci := 2) (v := .int (nI (N 2))) (C := RX2) (T := TX2) (N := 9) hx hb hts hin2 hown hK hP 2 rfl rfl 8 (by decide) (hts (.fieldLink RX4 125 "NeckShip$Spars" "up" "I") (by decide +kernel)) (fun _ h9 => h9) rfl dX4_raise_22 ?_
    refine lv_aload_n hx hb dX4_raise_25 rfl (lv_at hl 0 rfl) ?_
    refine va_get (D := D) (ci := 4) (v := .ref (q 10)) (C := RX4) (T := TX4) (N := 7) hx hb hts hin4 hown hK hP 0 rfl rfl 2 (by decide) (hts (.fieldLink RX4 25 "NeckShip" "threads" "LNeckShip$Threads;") (by decide +kernel)) (fun _ h9 => h9) rfl dX4_raise_26 ?_
    refine vp_callSi (W.runV (As := []) (rest := [.int (nI (N 2)), .int (nI s0.toNatClampNeg), .ref (q 2)]) ⟨hx, hb, hml, hown, hts⟩ (c_X3_raised l D cI cZ cS q N V A h_1) (cwV 0 hts gX4_raise_X3_raised rfl rfl rfl (by decide +kernel) ⟨Nat.le_of_ble_eq_true rfl, Nat.le_of_ble_eq_true rfl⟩) (preC3 hK hN hP) rfl rfl hl.1 rfl (lv_room (Nat.le_of_ble_eq_true rfl)) dX4_raise_29 ⟨Nat.zero_le _, Nat.zero_le _⟩) (fun r_3 er_3 => ?_)
    subst er_3
    refine vp_callSi (W.runV (As := [.int (nI s0.toNatClampNeg), .int (nI (N 2)), .int (nI (s_X3_raised N V A))]) (rest := []) ⟨hx, hb, hml, hown, hts⟩ (c_X2_mayRise l D cI cZ cS q N V A s0.toNatClampNeg (nI (N 2)) (nI (s_X3_raised N V A)) (by omega)) (cwV 3 hts gX4_raise_X2_mayRise rfl rfl rfl (by decide +kernel) ⟨Nat.le_of_ble_eq_true rfl, Nat.le_of_ble_eq_true rfl⟩) (preC2 hK hN hP) rfl rfl hl.1 rfl (lv_room (Nat.le_of_ble_eq_true rfl)) dX4_raise_32 ⟨Nat.zero_le _, Nat.zero_le _⟩) (fun r_4 er_4 => ?_)
    subst er_4
    refine lz_if_ne (tgt := 41) hx hb dX4_raise_35 (by decide) (fun c_5 => ?_) (fun c_5 => ?_)
    · refine lv_aload_n hx hb dX4_raise_41 rfl (lv_at hl 0 rfl) ?_
      refine va_get (D := D) (ci := 4) (v := .ref (q 2)) (C := RX4) (T := TX4) (N := 7) hx hb hts hin4 hown hK hP 0 rfl rfl 1 (by decide) (hts (.fieldLink RX4 18 "NeckShip" "spars" "LNeckShip$Spars;") (by decide +kernel)) (fun _ h9 => h9) rfl dX4_raise_42 ?_
      refine lv_dup hx hb dX4_raise_45 rfl ?_
      refine va_get (D := D) (ci := 2) (v := .int (nI (N 2))) (C := RX2) (T := TX2) (N := 9) hx hb hts hin2 hown hK hP 2 rfl rfl 8 (by decide) (hts (.fieldLink RX4 125 "NeckShip$Spars" "up" "I") (by decide +kernel)) (fun _ h9 => h9) rfl dX4_raise_46 ?_
      refine lv_iconst (v := (1)) hx hb dX4_raise_49 (by decide) ?_
      refine lv_iload_n hx hb dX4_raise_50 rfl (lv_at hl 1 rfl) ?_
      refine lv_ishl hx hb dX4_raise_51 ?_
      rw [sh1 (k := s0.toNatClampNeg) (by omega)]
      refine lv_ior hx hb dX4_raise_52 ?_
      rw [fa_or (N 2) (2 ^ s0.toNatClampNeg)]
      refine va_put (D := D) (ci := 2) (v := .int (nI ((N 2) ||| (2 ^ s0.toNatClampNeg)))) (ty := .int) (C := RX2) (T := TX2) (N := 9) hx hb hts hin2 tyX2 tyX2_ok nmX2 hown hK hP hD hS 2 rfl rfl 8 (by decide) (hts (.fieldLink RX4 125 "NeckShip$Spars" "up" "I") (by decide +kernel)) (fun _ h9 => h9) rfl (by decide +kernel) rfl rfl (Nat.le_of_ble_eq_true rfl) dX4_raise_53 (fun H locs hP hD hS => ?_)
      have hP : va_P D vwCl (wC cI cS q (va_up N 2 ((N 2) ||| (2 ^ s0.toNatClampNeg))) V A) H := hP
      have hD : va_D Ar (wC cI cS q (va_up N 2 ((N 2) ||| (2 ^ s0.toNatClampNeg))) V A) := hD
      refine lv_aload_n hx hb dX4_raise_56 rfl (lv_at hl 0 rfl) ?_
      refine va_get (D := D) (ci := 4) (v := .ref (q 2)) (C := RX4) (T := TX4) (N := 7) hx hb hts hin4 hown hK hP 0 rfl rfl 1 (by decide) (hts (.fieldLink RX4 18 "NeckShip" "spars" "LNeckShip$Spars;") (by decide +kernel)) (fun _ h9 => h9) rfl dX4_raise_57 ?_
      refine va_get (D := D) (ci := 2) (v := .int (nI ((N 2) ||| (2 ^ s0.toNatClampNeg)))) (C := RX2) (T := TX2) (N := 9) hx hb hts hin2 hown hK hP 2 rfl rfl 8 (by decide) (hts (.fieldLink RX4 125 "NeckShip$Spars" "up" "I") (by decide +kernel)) (fun _ h9 => h9) rfl dX4_raise_60 ?_
      refine vp_callSi (W.runS (As := [.int (nI ((N 2) ||| (2 ^ s0.toNatClampNeg)))]) (rest := []) ⟨hx, hb, hml, hown, hts⟩ (c_J6_bitCount_0f7a4 l ((N 2) ||| (2 ^ s0.toNatClampNeg)) (Nat.lt_trans (or1024 o3 (by omega)) (by decide))) (va_cwS 1 hts gX4_raise_J6_bitCount_0f7a4 rfl rfl rfl (by decide +kernel) ⟨Nat.le_of_ble_eq_true rfl, Nat.le_of_ble_eq_true rfl⟩) (preEq) rfl rfl hl.1 rfl (lv_room (Nat.le_of_ble_eq_true rfl)) dX4_raise_63 ⟨Nat.zero_le _, Nat.zero_le _⟩) (fun r_6 er_6 => ?_)
      subst er_6
      have hEE : s_X4_raise N V A s0 = (nI (s_J6_bitCount_0f7a4 ((N 2) ||| (2 ^ s0.toNatClampNeg))), (va_up N 2 ((N 2) ||| (2 ^ s0.toNatClampNeg))), V, A) := (by rw [s_X4_raise, if_pos c_2, if_pos c_5])
      rw [hEE]
      exact W.iret (v := nI (s_J6_bitCount_0f7a4 ((N 2) ||| (2 ^ s0.toNatClampNeg)))) hx hb hr (fun t ht hW => ⟨⟨_, (), rfl, rfl, ⟨by rw [ht]; exact hP, va_K.moved hW.alike hK, hN.warm hW⟩, hD⟩, hS.F ht⟩) hS.2.2 dX4_raise_66
    · refine lv_bipush (v := (-3)) hx hb dX4_raise_38 (by decide) ?_
      have hEE : s_X4_raise N V A s0 = ((-3 : Int32), N, V, A) := (by rw [s_X4_raise, if_pos c_2, if_neg (nb c_5)])
      rw [hEE]
      exact W.iret (v := (-3 : Int32)) hx hb hr (fun t ht hW => ⟨⟨_, (), rfl, rfl, ⟨by rw [ht]; exact hP, va_K.moved hW.alike hK, hN.warm hW⟩, hD⟩, hS.F ht⟩) hS.2.2 dX4_raise_40
  · refine lv_iconst (v := (-1)) hx hb dX4_raise_11 (by decide) ?_
    have hEE : s_X4_raise N V A s0 = ((-1 : Int32), N, V, A) := (by rw [s_X4_raise, if_neg (nb c_2)])
    rw [hEE]
    exact W.iret (v := (-1 : Int32)) hx hb hr (fun t ht hW => ⟨⟨_, (), rfl, rfl, ⟨by rw [ht]; exact hP, va_K.moved hW.alike hK, hN.warm hW⟩, hD⟩, hS.F ht⟩) hS.2.2 dX4_raise_12
def s_X4_lay (N : Nat → Nat) (V : Nat → Int32) (A : Nat → Nat → Int32)  (s0 : Int32) : Int32 × St :=
  if (s_X2_has N V A s0) = true then
    if (s_X2_mayBeLaid N V A s0.toNatClampNeg) = true then
      (nI (s_J6_bitCount_0f7a4 (s_X2_lying (va_up N 2 (nclr (N 2) (2 ^ s0.toNatClampNeg))) V A)), (va_up N 2 (nclr (N 2) (2 ^ s0.toNatClampNeg))), V, A)
    else
      ((-3 : Int32), N, V, A)
  else
    ((-1 : Int32), N, V, A)
set_option maxHeartbeats 4000000 in
set_option maxRecDepth 100000 in
theorem c_X4_lay (l : Launch) (D : va_G) (cI cZ cS : ClassId) (q : Nat → Nat) (N : Nat → Nat) (V : Nat → Int32) (A : Nat → Nat → Int32) (sz : Nat) (s0 : Int32) (h_1 : okC N A) : Met l yX4_lay wsX4_lay ({ frames := 3, cells := 0, slots := 0, locals := 63 }) (va_Pc [.ref (q 0), .int s0] (fun U => U.heap.size = sz ∧ PC D cI cZ cS q N V A U ∧ va_D (fun _ => True) (wC cI cS q N V A))) (va_Qi (fun r (_ : Unit) => r = (s_X4_lay N V A s0).1) (fun _ t => PC D cI cZ cS q (s_X4_lay N V A s0).2.1 (s_X4_lay N V A s0).2.2.1 (s_X4_lay N V A s0).2.2.2 t ∧ va_D (va_A (wC cI cS q N V A) sz) (wC cI cS q (s_X4_lay N V A s0).2.1 (s_X4_lay N V A s0).2.2.1 (s_X4_lay N V A s0).2.2.2)) (va_A (wC cI cS q N V A) sz)) 0 0 (va_A (wC cI cS q N V A) sz) := by
  refine Met.ofW (cc := cX4_lay) (maxL := 2) (ret := (some .int)) (by decide) rfl ?_
  intro p e s m args below meth c s₁ B hml hv
  obtain ⟨rfl, hsz, ⟨hP, hK, hN⟩, hD0⟩ := hv
  have hx := B.exec
  have hb := B.bytes
  have hr := B.returns
  have hts := atoms_spec (ws := wsX4_lay) B.pre
  have hown : s.vm.findClass RX4 = some m.cls := findClass_of_methodNamed B.named
  have hlocks := B.notSynchronized
  have hin2 : ∀ w ∈ u_ws RX2 TX2 9, w ∈ wsX4_lay := by decide +kernel
  have hin4 : ∀ w ∈ u_ws RX4 TX4 7, w ∈ wsX4_lay := by decide +kernel
  subst hsz
  have hD := hD0.self (sz := s.heap.size)
  generalize hAe : va_A (wC cI cS q N V A) s.heap.size = Ar at hD ⊢
  have hA : ∀ q : Nat, s.heap.size ≤ q → Ar q := fun q h => by rw [← hAe]; exact Or.inr h
  have hS : va_S Ar s.heap s.heap [] := va_S.rf
  obtain ⟨o1, o2, o3, o4, o5, o6, o7, o8, o9⟩ := id h_1
  have hl := lv_entry ([.ref (q 0), .int s0]) (n := 2) (Nat.le_of_ble_eq_true rfl)
  rw [lg_entry_eq]
  generalize (lg_sl ([.ref (q 0), .int s0]) ++ List.replicate (2 - (lg_sl ([.ref (q 0), .int s0])).length) Slot.unset).toArray = ls at hl ⊢
  have hl : lv_has ls 2 [(0, .ref (q 0)), (1, .int s0)] := hl
  refine lv_aload_n hx hb dX4_lay_0 rfl (lv_at hl 0 rfl) ?_
  refine va_get (D := D) (ci := 4) (v := .ref (q 2)) (C := RX4) (T := TX4) (N := 7) hx hb hts hin4 hown hK hP 0 rfl rfl 1 (by decide) (hts (.fieldLink RX4 18 "NeckShip" "spars" "LNeckShip$Spars;") (by decide +kernel)) (fun _ h9 => h9) rfl dX4_lay_1 ?_
  refine lv_iload_n hx hb dX4_lay_4 rfl (lv_at hl 1 rfl) ?_
  refine vp_callSi (W.runV (As := [.int s0]) (rest := []) ⟨hx, hb, hml, hown, hts⟩ (c_X2_has l D cI cZ cS q N V A s0) (cwV 1 hts gX4_lay_X2_has rfl rfl rfl (by decide +kernel) ⟨Nat.le_of_ble_eq_true rfl, Nat.le_of_ble_eq_true rfl⟩) (preC2 hK hN hP) rfl rfl hl.1 rfl (lv_room (Nat.le_of_ble_eq_true rfl)) dX4_lay_5 ⟨Nat.zero_le _, Nat.zero_le _⟩) (fun r_1 er_1 => ?_)
  subst er_1
  refine lz_if_ne (tgt := 13) hx hb dX4_lay_8 (by decide) (fun c_2 => ?_) (fun c_2 => ?_)
  · obtain ⟨hlt_s0, heq_s0⟩ := has2_t o1 c_2
    have hl : lv_has ls 2 [(0, .ref (q 0)), (1, .int (nI s0.toNatClampNeg))] := by rw [heq_s0]; exact hl
    refine lv_aload_n hx hb dX4_lay_13 rfl (lv_at hl 0 rfl) ?_
    refine va_get (D := D) (ci := 4) (v := .ref (q 2)) (C := RX4) (T := TX4) (N := 7) hx hb hts hin4 hown hK hP 0 rfl rfl 1 (by decide) (hts (.fieldLink RX4 18 "NeckShip" "spars" "LNeckShip$Spars;") (by decide +kernel)) (fun _ h9 => h9) rfl dX4_lay_14 ?_
    refine lv_iload_n hx hb dX4_lay_17 rfl (lv_at hl 1 rfl) ?_
    refine vp_callSi (W.runV (As := [.int (nI s0.toNatClampNeg)]) (rest := []) ⟨hx, hb, hml, hown, hts⟩ (c_X2_mayBeLaid l D cI cZ cS q N V A s0.toNatClampNeg h_1 (by omega)) (cwV 1 hts gX4_lay_X2_mayBeLaid rfl rfl rfl (by decide +kernel) ⟨Nat.le_of_ble_eq_true rfl, Nat.le_of_ble_eq_true rfl⟩) (preC2 hK hN hP) rfl rfl hl.1 rfl (lv_room (Nat.le_of_ble_eq_true rfl)) dX4_lay_18 ⟨Nat.zero_le _, Nat.zero_le _⟩) (fun r_3 er_3 => ?_)
    subst er_3
    refine lz_if_ne (tgt := 27) hx hb dX4_lay_21 (by decide) (fun c_4 => ?_) (fun c_4 => ?_)
    · refine lv_aload_n hx hb dX4_lay_27 rfl (lv_at hl 0 rfl) ?_
      refine va_get (D := D) (ci := 4) (v := .ref (q 2)) (C := RX4) (T := TX4) (N := 7) hx hb hts hin4 hown hK hP 0 rfl rfl 1 (by decide) (hts (.fieldLink RX4 18 "NeckShip" "spars" "LNeckShip$Spars;") (by decide +kernel)) (fun _ h9 => h9) rfl dX4_lay_28 ?_
      refine lv_dup hx hb dX4_lay_31 rfl ?_
      refine va_get (D := D) (ci := 2) (v := .int (nI (N 2))) (C := RX2) (T := TX2) (N := 9) hx hb hts hin2 hown hK hP 2 rfl rfl 8 (by decide) (hts (.fieldLink RX4 125 "NeckShip$Spars" "up" "I") (by decide +kernel)) (fun _ h9 => h9) rfl dX4_lay_32 ?_
      refine lv_iconst (v := (1)) hx hb dX4_lay_35 (by decide) ?_
      refine lv_iload_n hx hb dX4_lay_36 rfl (lv_at hl 1 rfl) ?_
      refine lv_ishl hx hb dX4_lay_37 ?_
      rw [sh1 (k := s0.toNatClampNeg) (by omega)]
      refine lv_iconst (v := (-1)) hx hb dX4_lay_38 (by decide) ?_
      refine lv_ixor hx hb dX4_lay_39 ?_
      refine lv_iand hx hb dX4_lay_40 ?_
      rw [nclr_eq (N 2) (2 ^ s0.toNatClampNeg)]
      refine va_put (D := D) (ci := 2) (v := .int (nI (nclr (N 2) (2 ^ s0.toNatClampNeg)))) (ty := .int) (C := RX2) (T := TX2) (N := 9) hx hb hts hin2 tyX2 tyX2_ok nmX2 hown hK hP hD hS 2 rfl rfl 8 (by decide) (hts (.fieldLink RX4 125 "NeckShip$Spars" "up" "I") (by decide +kernel)) (fun _ h9 => h9) rfl (by decide +kernel) rfl rfl (Nat.le_of_ble_eq_true rfl) dX4_lay_41 (fun H locs hP hD hS => ?_)
      have hP : va_P D vwCl (wC cI cS q (va_up N 2 (nclr (N 2) (2 ^ s0.toNatClampNeg))) V A) H := hP
      have hD : va_D Ar (wC cI cS q (va_up N 2 (nclr (N 2) (2 ^ s0.toNatClampNeg))) V A) := hD
      refine lv_aload_n hx hb dX4_lay_44 rfl (lv_at hl 0 rfl) ?_
      refine va_get (D := D) (ci := 4) (v := .ref (q 2)) (C := RX4) (T := TX4) (N := 7) hx hb hts hin4 hown hK hP 0 rfl rfl 1 (by decide) (hts (.fieldLink RX4 18 "NeckShip" "spars" "LNeckShip$Spars;") (by decide +kernel)) (fun _ h9 => h9) rfl dX4_lay_45 ?_
      refine vp_callSi (W.runV (As := []) (rest := []) ⟨hx, hb, hml, hown, hts⟩ (c_X2_lying l D cI cZ cS q (va_up N 2 (nclr (N 2) (2 ^ s0.toNatClampNeg))) V A o1) (cwV 0 hts gX4_lay_X2_lying rfl rfl rfl (by decide +kernel) ⟨Nat.le_of_ble_eq_true rfl, Nat.le_of_ble_eq_true rfl⟩) (preC2 hK hN hP) rfl rfl hl.1 rfl (lv_room (Nat.le_of_ble_eq_true rfl)) dX4_lay_48 ⟨Nat.zero_le _, Nat.zero_le _⟩) (fun r_5 er_5 => ?_)
      subst er_5
      refine vp_callSi (W.runS (As := [.int (nI (s_X2_lying (va_up N 2 (nclr (N 2) (2 ^ s0.toNatClampNeg))) V A))]) (rest := []) ⟨hx, hb, hml, hown, hts⟩ (c_J6_bitCount_0f7a4 l (s_X2_lying (va_up N 2 (nclr (N 2) (2 ^ s0.toNatClampNeg))) V A) (lying_lt o1)) (va_cwS 1 hts gX4_lay_J6_bitCount_0f7a4 rfl rfl rfl (by decide +kernel) ⟨Nat.le_of_ble_eq_true rfl, Nat.le_of_ble_eq_true rfl⟩) (preEq) rfl rfl hl.1 rfl (lv_room (Nat.le_of_ble_eq_true rfl)) dX4_lay_51 ⟨Nat.zero_le _, Nat.zero_le _⟩) (fun r_6 er_6 => ?_)
      subst er_6
      have hEE : s_X4_lay N V A s0 = (nI (s_J6_bitCount_0f7a4 (s_X2_lying (va_up N 2 (nclr (N 2) (2 ^ s0.toNatClampNeg))) V A)), (va_up N 2 (nclr (N 2) (2 ^ s0.toNatClampNeg))), V, A) := (by rw [s_X4_lay, if_pos c_2, if_pos c_4])
      rw [hEE]
      exact W.iret (v := nI (s_J6_bitCount_0f7a4 (s_X2_lying (va_up N 2 (nclr (N 2) (2 ^ s0.toNatClampNeg))) V A))) hx hb hr (fun t ht hW => ⟨⟨_, (), rfl, rfl, ⟨by rw [ht]; exact hP, va_K.moved hW.alike hK, hN.warm hW⟩, hD⟩, hS.F ht⟩) hS.2.2 dX4_lay_54
    · refine lv_bipush (v := (-3)) hx hb dX4_lay_24 (by decide) ?_
      have hEE : s_X4_lay N V A s0 = ((-3 : Int32), N, V, A) := (by rw [s_X4_lay, if_pos c_2, if_neg (nb c_4)])
      rw [hEE]
      exact W.iret (v := (-3 : Int32)) hx hb hr (fun t ht hW => ⟨⟨_, (), rfl, rfl, ⟨by rw [ht]; exact hP, va_K.moved hW.alike hK, hN.warm hW⟩, hD⟩, hS.F ht⟩) hS.2.2 dX4_lay_26
  · refine lv_iconst (v := (-1)) hx hb dX4_lay_11 (by decide) ?_
    have hEE : s_X4_lay N V A s0 = ((-1 : Int32), N, V, A) := (by rw [s_X4_lay, if_neg (nb c_2)])
    rw [hEE]
    exact W.iret (v := (-1 : Int32)) hx hb hr (fun t ht hW => ⟨⟨_, (), rfl, rfl, ⟨by rw [ht]; exact hP, va_K.moved hW.alike hK, hN.warm hW⟩, hD⟩, hS.F ht⟩) hS.2.2 dX4_lay_12
def s_X4_settle (N : Nat → Nat) (V : Nat → Int32) (A : Nat → Nat → Int32)  : Int32 × St :=
  (nI (s_J6_bitCount_0f7a4 (nclr (N 2) (s_X3_raised N V A))), (va_up N 2 (nclr (N 2) (nclr (N 2) (s_X3_raised N V A)))), V, A)
set_option maxHeartbeats 4000000 in
set_option maxRecDepth 100000 in
theorem c_X4_settle (l : Launch) (D : va_G) (cI cZ cS : ClassId) (q : Nat → Nat) (N : Nat → Nat) (V : Nat → Int32) (A : Nat → Nat → Int32) (sz : Nat) (h_1 : okC N A) : Met l yX4_settle wsX4_settle ({ frames := 2, cells := 0, slots := 0, locals := 43 }) (va_Pc [.ref (q 0)] (fun U => U.heap.size = sz ∧ PC D cI cZ cS q N V A U ∧ va_D (fun _ => True) (wC cI cS q N V A))) (va_Qi (fun r (_ : Unit) => r = (s_X4_settle N V A).1) (fun _ t => PC D cI cZ cS q (s_X4_settle N V A).2.1 (s_X4_settle N V A).2.2.1 (s_X4_settle N V A).2.2.2 t ∧ va_D (va_A (wC cI cS q N V A) sz) (wC cI cS q (s_X4_settle N V A).2.1 (s_X4_settle N V A).2.2.1 (s_X4_settle N V A).2.2.2)) (va_A (wC cI cS q N V A) sz)) 0 0 (va_A (wC cI cS q N V A) sz) := by
  refine Met.ofW (cc := cX4_settle) (maxL := 2) (ret := (some .int)) (by decide) rfl ?_
  intro p e s m args below meth c s₁ B hml hv
  obtain ⟨rfl, hsz, ⟨hP, hK, hN⟩, hD0⟩ := hv
  have hx := B.exec
  have hb := B.bytes
  have hr := B.returns
  have hts := atoms_spec (ws := wsX4_settle) B.pre
  have hown : s.vm.findClass RX4 = some m.cls := findClass_of_methodNamed B.named
  have hlocks := B.notSynchronized
  have hin2 : ∀ w ∈ u_ws RX2 TX2 9, w ∈ wsX4_settle := by decide +kernel
  have hin4 : ∀ w ∈ u_ws RX4 TX4 7, w ∈ wsX4_settle := by decide +kernel
  subst hsz
  have hD := hD0.self (sz := s.heap.size)
  generalize hAe : va_A (wC cI cS q N V A) s.heap.size = Ar at hD ⊢
  have hA : ∀ q : Nat, s.heap.size ≤ q → Ar q := fun q h => by rw [← hAe]; exact Or.inr h
  have hS : va_S Ar s.heap s.heap [] := va_S.rf
  obtain ⟨o1, o2, o3, o4, o5, o6, o7, o8, o9⟩ := id h_1
  have hl := lv_entry ([.ref (q 0)]) (n := 2) (Nat.le_of_ble_eq_true rfl)
  rw [lg_entry_eq]
  generalize (lg_sl ([.ref (q 0)]) ++ List.replicate (2 - (lg_sl ([.ref (q 0)])).length) Slot.unset).toArray = ls at hl ⊢
  have hl : lv_has ls 2 [(0, .ref (q 0))] := hl
  refine lv_aload_n hx hb dX4_settle_0 rfl (lv_at hl 0 rfl) ?_
  refine va_get (D := D) (ci := 4) (v := .ref (q 2)) (C := RX4) (T := TX4) (N := 7) hx hb hts hin4 hown hK hP 0 rfl rfl 1 (by decide) (hts (.fieldLink RX4 18 "NeckShip" "spars" "LNeckShip$Spars;") (by decide +kernel)) (fun _ h9 => h9) rfl dX4_settle_1 ?_
  refine va_get (D := D) (ci := 2) (v := .int (nI (N 2))) (C := RX2) (T := TX2) (N := 9) hx hb hts hin2 hown hK hP 2 rfl rfl 8 (by decide) (hts (.fieldLink RX4 125 "NeckShip$Spars" "up" "I") (by decide +kernel)) (fun _ h9 => h9) rfl dX4_settle_4 ?_
  refine lv_aload_n hx hb dX4_settle_7 rfl (lv_at hl 0 rfl) ?_
  refine va_get (D := D) (ci := 4) (v := .ref (q 10)) (C := RX4) (T := TX4) (N := 7) hx hb hts hin4 hown hK hP 0 rfl rfl 2 (by decide) (hts (.fieldLink RX4 25 "NeckShip" "threads" "LNeckShip$Threads;") (by decide +kernel)) (fun _ h9 => h9) rfl dX4_settle_8 ?_
  refine vp_callSi (W.runV (As := []) (rest := [.int (nI (N 2))]) ⟨hx, hb, hml, hown, hts⟩ (c_X3_raised l D cI cZ cS q N V A h_1) (cwV 0 hts gX4_settle_X3_raised rfl rfl rfl (by decide +kernel) ⟨Nat.le_of_ble_eq_true rfl, Nat.le_of_ble_eq_true rfl⟩) (preC3 hK hN hP) rfl rfl hl.1 rfl (lv_room (Nat.le_of_ble_eq_true rfl)) dX4_settle_11 ⟨Nat.zero_le _, Nat.zero_le _⟩) (fun r_1 er_1 => ?_)
  subst er_1
  refine lv_iconst (v := (-1)) hx hb dX4_settle_14 (by decide) ?_
  refine lv_ixor hx hb dX4_settle_15 ?_
  refine lv_iand hx hb dX4_settle_16 ?_
  rw [nclr_eq (N 2) (s_X3_raised N V A)]
  refine lv_istore_n (lv' := [(1, .int (nI (nclr (N 2) (s_X3_raised N V A)))), (0, .ref (q 0))]) hx hb dX4_settle_17 rfl hl (by decide) rfl (fun ls hl => ?_)
  refine lv_aload_n hx hb dX4_settle_18 rfl (lv_at hl 1 rfl) ?_
  refine va_get (D := D) (ci := 4) (v := .ref (q 2)) (C := RX4) (T := TX4) (N := 7) hx hb hts hin4 hown hK hP 0 rfl rfl 1 (by decide) (hts (.fieldLink RX4 18 "NeckShip" "spars" "LNeckShip$Spars;") (by decide +kernel)) (fun _ h9 => h9) rfl dX4_settle_19 ?_
  refine lv_dup hx hb dX4_settle_22 rfl ?_
  refine va_get (D := D) (ci := 2) (v := .int (nI (N 2))) (C := RX2) (T := TX2) (N := 9) hx hb hts hin2 hown hK hP 2 rfl rfl 8 (by decide) (hts (.fieldLink RX4 125 "NeckShip$Spars" "up" "I") (by decide +kernel)) (fun _ h9 => h9) rfl dX4_settle_23 ?_
  refine lv_iload_n hx hb dX4_settle_26 rfl (lv_at hl 0 rfl) ?_
  refine lv_iconst (v := (-1)) hx hb dX4_settle_27 (by decide) ?_
  refine lv_ixor hx hb dX4_settle_28 ?_
  refine lv_iand hx hb dX4_settle_29 ?_
  rw [nclr_eq (N 2) (nclr (N 2) (s_X3_raised N V A))]
  refine va_put (D := D) (ci := 2) (v := .int (nI (nclr (N 2) (nclr (N 2) (s_X3_raised N V A))))) (ty := .int) (C := RX2) (T := TX2) (N := 9) hx hb hts hin2 tyX2 tyX2_ok nmX2 hown hK hP hD hS 2 rfl rfl 8 (by decide) (hts (.fieldLink RX4 125 "NeckShip$Spars" "up" "I") (by decide +kernel)) (fun _ h9 => h9) rfl (by decide +kernel) rfl rfl (Nat.le_of_ble_eq_true rfl) dX4_settle_30 (fun H locs hP hD hS => ?_)
  have hP : va_P D vwCl (wC cI cS q (va_up N 2 (nclr (N 2) (nclr (N 2) (s_X3_raised N V A)))) V A) H := hP
  have hD : va_D Ar (wC cI cS q (va_up N 2 (nclr (N 2) (nclr (N 2) (s_X3_raised N V A)))) V A) := hD
  refine lv_iload_n hx hb dX4_settle_33 rfl (lv_at hl 0 rfl) ?_
  refine vp_callSi (W.runS (As := [.int (nI (nclr (N 2) (s_X3_raised N V A)))]) (rest := []) ⟨hx, hb, hml, hown, hts⟩ (c_J6_bitCount_0f7a4 l (nclr (N 2) (s_X3_raised N V A)) (Nat.lt_of_le_of_lt (nclr_le _ _) (by omega))) (va_cwS 1 hts gX4_settle_J6_bitCount_0f7a4 rfl rfl rfl (by decide +kernel) ⟨Nat.le_of_ble_eq_true rfl, Nat.le_of_ble_eq_true rfl⟩) (preEq) rfl rfl hl.1 rfl (lv_room (Nat.le_of_ble_eq_true rfl)) dX4_settle_34 ⟨Nat.zero_le _, Nat.zero_le _⟩) (fun r_2 er_2 => ?_)
  subst er_2
  have hEE : s_X4_settle N V A = (nI (s_J6_bitCount_0f7a4 (nclr (N 2) (s_X3_raised N V A))), (va_up N 2 (nclr (N 2) (nclr (N 2) (s_X3_raised N V A)))), V, A) := (by rw [s_X4_settle])
  rw [hEE]
  exact W.iret (v := nI (s_J6_bitCount_0f7a4 (nclr (N 2) (s_X3_raised N V A)))) hx hb hr (fun t ht hW => ⟨⟨_, (), rfl, rfl, ⟨by rw [ht]; exact hP, va_K.moved hW.alike hK, hN.warm hW⟩, hD⟩, hS.F ht⟩) hS.2.2 dX4_settle_37
def s_X4_rising (N : Nat → Nat) (V : Nat → Int32) (A : Nat → Nat → Int32)  (w0 : Int32) : Int32 × St :=
  if w0 < 0 then
    ((-2 : Int32), N, V, A)
  else
    if w0 ≤ (2 : Int32) then
      if w0 = (0) then
        ((s_X0_search N V A (nI (s_X3_raised N V A))).2.1 2, N, (s_X0_search N V A (nI (s_X3_raised N V A))).2.1, (s_X0_search N V A (nI (s_X3_raised N V A))).2.2)
      else
        if w0 = (1) then
          ((s_X0_search N V A (nI (s_X3_raised N V A))).2.1 3, N, (s_X0_search N V A (nI (s_X3_raised N V A))).2.1, (s_X0_search N V A (nI (s_X3_raised N V A))).2.2)
        else
          ((s_X0_search N V A (nI (s_X3_raised N V A))).2.1 4, N, (s_X0_search N V A (nI (s_X3_raised N V A))).2.1, (s_X0_search N V A (nI (s_X3_raised N V A))).2.2)
    else
      ((-2 : Int32), N, V, A)
set_option maxHeartbeats 4000000 in
set_option maxRecDepth 100000 in
theorem c_X4_rising (l : Launch) (D : va_G) (cI cZ cS : ClassId) (q : Nat → Nat) (N : Nat → Nat) (V : Nat → Int32) (A : Nat → Nat → Int32) (sz : Nat) (w0 : Int32) (h_1 : okC N A) (h_2 : N 2 < 2 ^ N 0) : Met l yX4_rising wsX4_rising ({ frames := 4, cells := 0, slots := 0, locals := 91 }) (va_Pc [.ref (q 0), .int w0] (fun U => U.heap.size = sz ∧ PC D cI cZ cS q N V A U ∧ va_D (fun _ => True) (wC cI cS q N V A))) (va_Qi (fun r (_ : Unit) => r = (s_X4_rising N V A w0).1) (fun _ t => PC D cI cZ cS q (s_X4_rising N V A w0).2.1 (s_X4_rising N V A w0).2.2.1 (s_X4_rising N V A w0).2.2.2 t ∧ va_D (va_A (wC cI cS q N V A) sz) (wC cI cS q (s_X4_rising N V A w0).2.1 (s_X4_rising N V A w0).2.2.1 (s_X4_rising N V A w0).2.2.2)) (va_A (wC cI cS q N V A) sz)) 0 0 (va_A (wC cI cS q N V A) sz) := by
  refine Met.ofW (cc := cX4_rising) (maxL := 2) (ret := (some .int)) (by decide) rfl ?_
  intro p e s m args below meth c s₁ B hml hv
  obtain ⟨rfl, hsz, ⟨hP, hK, hN⟩, hD0⟩ := hv
  have hx := B.exec
  have hb := B.bytes
  have hr := B.returns
  have hts := atoms_spec (ws := wsX4_rising) B.pre
  have hown : s.vm.findClass RX4 = some m.cls := findClass_of_methodNamed B.named
  have hlocks := B.notSynchronized
  have hin0 : ∀ w ∈ u_ws RX0 TX0 4, w ∈ wsX4_rising := by decide +kernel
  have hin4 : ∀ w ∈ u_ws RX4 TX4 7, w ∈ wsX4_rising := by decide +kernel
  subst hsz
  have hD := hD0.self (sz := s.heap.size)
  generalize hAe : va_A (wC cI cS q N V A) s.heap.size = Ar at hD ⊢
  have hA : ∀ q : Nat, s.heap.size ≤ q → Ar q := fun q h => by rw [← hAe]; exact Or.inr h
  have hS : va_S Ar s.heap s.heap [] := va_S.rf
  obtain ⟨o1, o2, o3, o4, o5, o6, o7, o8, o9⟩ := id h_1
  have hl := lv_entry ([.ref (q 0), .int w0]) (n := 2) (Nat.le_of_ble_eq_true rfl)
  rw [lg_entry_eq]
  generalize (lg_sl ([.ref (q 0), .int w0]) ++ List.replicate (2 - (lg_sl ([.ref (q 0), .int w0])).length) Slot.unset).toArray = ls at hl ⊢
  have hl : lv_has ls 2 [(0, .ref (q 0)), (1, .int w0)] := hl
  refine lv_iload_n hx hb dX4_rising_0 rfl (lv_at hl 1 rfl) ?_
  refine lv_if_lt (tgt := 9) hx hb dX4_rising_1 (by decide) (fun c_1 => ?_) (fun c_1 => ?_)
  · refine lv_bipush (v := (-2)) hx hb dX4_rising_9 (by decide) ?_
    have hEE : s_X4_rising N V A w0 = ((-2 : Int32), N, V, A) := (by rw [s_X4_rising, if_pos c_1])
    rw [hEE]
    exact W.iret (v := (-2 : Int32)) hx hb hr (fun t ht hW => ⟨⟨_, (), rfl, rfl, ⟨by rw [ht]; exact hP, va_K.moved hW.alike hK, hN.warm hW⟩, hD⟩, hS.F ht⟩) hS.2.2 dX4_rising_11
  · refine lv_iload_n hx hb dX4_rising_4 rfl (lv_at hl 1 rfl) ?_
    refine lv_iconst (v := (2)) hx hb dX4_rising_5 (by decide) ?_
    refine lv_icmp_le (tgt := 12) hx hb dX4_rising_6 (by decide) (fun c_2 => ?_) (fun c_2 => ?_)
    · refine lv_aload_n hx hb dX4_rising_12 rfl (lv_at hl 0 rfl) ?_
      refine va_get (D := D) (ci := 4) (v := .ref (q 25)) (C := RX4) (T := TX4) (N := 7) hx hb hts hin4 hown hK hP 0 rfl rfl 4 (by decide) (hts (.fieldLink RX4 39 "NeckShip" "reached" "LNeckShip$Rising;") (by decide +kernel)) (fun _ h9 => h9) rfl dX4_rising_13 ?_
      refine lv_aload_n hx hb dX4_rising_16 rfl (lv_at hl 0 rfl) ?_
      refine va_get (D := D) (ci := 4) (v := .ref (q 2)) (C := RX4) (T := TX4) (N := 7) hx hb hts hin4 hown hK hP 0 rfl rfl 1 (by decide) (hts (.fieldLink RX4 18 "NeckShip" "spars" "LNeckShip$Spars;") (by decide +kernel)) (fun _ h9 => h9) rfl dX4_rising_17 ?_
      refine lv_aload_n hx hb dX4_rising_20 rfl (lv_at hl 0 rfl) ?_
      refine va_get (D := D) (ci := 4) (v := .ref (q 10)) (C := RX4) (T := TX4) (N := 7) hx hb hts hin4 hown hK hP 0 rfl rfl 2 (by decide) (hts (.fieldLink RX4 25 "NeckShip" "threads" "LNeckShip$Threads;") (by decide +kernel)) (fun _ h9 => h9) rfl dX4_rising_21 ?_
      refine vp_callSi (W.runV (As := []) (rest := [.ref (q 2), .ref (q 25)]) ⟨hx, hb, hml, hown, hts⟩ (c_X3_raised l D cI cZ cS q N V A h_1) (cwV 0 hts gX4_rising_X3_raised rfl rfl rfl (by decide +kernel) ⟨Nat.le_of_ble_eq_true rfl, Nat.le_of_ble_eq_true rfl⟩) (preC3 hK hN hP) rfl rfl hl.1 rfl (lv_room (Nat.le_of_ble_eq_true rfl)) dX4_rising_24 ⟨Nat.zero_le _, Nat.zero_le _⟩) (fun r_3 er_3 => ?_)
      subst er_3
      refine callCv (va_runV (As := [.ref (q 2), .int (nI (s_X3_raised N V A))]) (rest := []) ⟨hx, hb, hml, hown, hts⟩ (c_X0_search l D cI cZ cS q N V A s.heap.size (nI (s_X3_raised N V A)) (by omega) h_2) (cwV 2 hts gX4_rising_X0_search rfl rfl rfl (by decide +kernel) ⟨Nat.le_of_ble_eq_true rfl, Nat.le_of_ble_eq_true rfl⟩) (preCm0 hK hN hP hD) rfl rfl hl.1 rfl (lv_room (Nat.le_of_ble_eq_true rfl)) dX4_rising_27 ⟨Nat.zero_le _, Nat.zero_le _⟩) hD hS hA (fun H locs hP hD hS => ?_)
      have hP : va_P D vwCl (wC cI cS q N ((s_X0_search N V A (nI (s_X3_raised N V A))).2.1) ((s_X0_search N V A (nI (s_X3_raised N V A))).2.2)) H := hP
      have hD : va_D Ar (wC cI cS q N ((s_X0_search N V A (nI (s_X3_raised N V A))).2.1) ((s_X0_search N V A (nI (s_X3_raised N V A))).2.2)) := hD
      refine lv_iload_n hx hb dX4_rising_30 rfl (lv_at hl 1 rfl) ?_
      by_cases c_4 : w0 = (0)
      · refine lv_lookup (off := 25) (tgt := 56) hx hb dX4_rising_31 rfl (by rw [c_4]; rfl) (by decide) ?_
        refine lv_aload_n hx hb dX4_rising_56 rfl (lv_at hl 0 rfl) ?_
        refine va_get (D := D) (ci := 4) (v := .ref (q 25)) (C := RX4) (T := TX4) (N := 7) hx hb hts hin4 hown hK hP 0 rfl rfl 4 (by decide) (hts (.fieldLink RX4 39 "NeckShip" "reached" "LNeckShip$Rising;") (by decide +kernel)) (fun _ h9 => h9) rfl dX4_rising_57 ?_
        refine va_get (D := D) (ci := 0) (v := .int ((s_X0_search N V A (nI (s_X3_raised N V A))).2.1 2)) (C := RX0) (T := TX0) (N := 4) hx hb hts hin0 hown hK hP 25 rfl rfl 1 (by decide) (hts (.fieldLink RX4 192 "NeckShip$Rising" "sets" "I") (by decide +kernel)) (fun _ h9 => h9) rfl dX4_rising_60 ?_
        have hEE : s_X4_rising N V A w0 = ((s_X0_search N V A (nI (s_X3_raised N V A))).2.1 2, N, (s_X0_search N V A (nI (s_X3_raised N V A))).2.1, (s_X0_search N V A (nI (s_X3_raised N V A))).2.2) := (by rw [s_X4_rising, if_neg c_1, if_pos c_2, if_pos c_4])
        rw [hEE]
        exact W.iret (v := (s_X0_search N V A (nI (s_X3_raised N V A))).2.1 2) hx hb hr (fun t ht hW => ⟨⟨_, (), rfl, rfl, ⟨by rw [ht]; exact hP, va_K.moved hW.alike hK, hN.warm hW⟩, hD⟩, hS.F ht⟩) hS.2.2 dX4_rising_63
      · by_cases c_5 : w0 = (1)
        · refine lv_lookup (off := 33) (tgt := 64) hx hb dX4_rising_31 rfl (by rw [c_5]; rfl) (by decide) ?_
          refine lv_aload_n hx hb dX4_rising_64 rfl (lv_at hl 0 rfl) ?_
          refine va_get (D := D) (ci := 4) (v := .ref (q 25)) (C := RX4) (T := TX4) (N := 7) hx hb hts hin4 hown hK hP 0 rfl rfl 4 (by decide) (hts (.fieldLink RX4 39 "NeckShip" "reached" "LNeckShip$Rising;") (by decide +kernel)) (fun _ h9 => h9) rfl dX4_rising_65 ?_
          refine va_get (D := D) (ci := 0) (v := .int ((s_X0_search N V A (nI (s_X3_raised N V A))).2.1 3)) (C := RX0) (T := TX0) (N := 4) hx hb hts hin0 hown hK hP 25 rfl rfl 2 (by decide) (hts (.fieldLink RX4 195 "NeckShip$Rising" "most" "I") (by decide +kernel)) (fun _ h9 => h9) rfl dX4_rising_68 ?_
          have hEE : s_X4_rising N V A w0 = ((s_X0_search N V A (nI (s_X3_raised N V A))).2.1 3, N, (s_X0_search N V A (nI (s_X3_raised N V A))).2.1, (s_X0_search N V A (nI (s_X3_raised N V A))).2.2) := (by rw [s_X4_rising, if_neg c_1, if_pos c_2, if_neg c_4, if_pos c_5])
          rw [hEE]
          exact W.iret (v := (s_X0_search N V A (nI (s_X3_raised N V A))).2.1 3) hx hb hr (fun t ht hW => ⟨⟨_, (), rfl, rfl, ⟨by rw [ht]; exact hP, va_K.moved hW.alike hK, hN.warm hW⟩, hD⟩, hS.F ht⟩) hS.2.2 dX4_rising_71
        · refine lv_lookup (off := 41) (tgt := 72) hx hb dX4_rising_31 rfl (by show Op.lookupswitch.offset [(0, 25), (1, 33)] (41) _ = 41; exact (lv_osw c_4 rfl).trans ((lv_osw c_5 rfl).trans (rfl))) (by decide) ?_
          refine lv_aload_n hx hb dX4_rising_72 rfl (lv_at hl 0 rfl) ?_
          refine va_get (D := D) (ci := 4) (v := .ref (q 25)) (C := RX4) (T := TX4) (N := 7) hx hb hts hin4 hown hK hP 0 rfl rfl 4 (by decide) (hts (.fieldLink RX4 39 "NeckShip" "reached" "LNeckShip$Rising;") (by decide +kernel)) (fun _ h9 => h9) rfl dX4_rising_73 ?_
          refine va_get (D := D) (ci := 0) (v := .int ((s_X0_search N V A (nI (s_X3_raised N V A))).2.1 4)) (C := RX0) (T := TX0) (N := 4) hx hb hts hin0 hown hK hP 25 rfl rfl 3 (by decide) (hts (.fieldLink RX4 198 "NeckShip$Rising" "some" "I") (by decide +kernel)) (fun _ h9 => h9) rfl dX4_rising_76 ?_
          have hEE : s_X4_rising N V A w0 = ((s_X0_search N V A (nI (s_X3_raised N V A))).2.1 4, N, (s_X0_search N V A (nI (s_X3_raised N V A))).2.1, (s_X0_search N V A (nI (s_X3_raised N V A))).2.2) := (by rw [s_X4_rising, if_neg c_1, if_pos c_2, if_neg c_4, if_neg c_5])
          rw [hEE]
          exact W.iret (v := (s_X0_search N V A (nI (s_X3_raised N V A))).2.1 4) hx hb hr (fun t ht hW => ⟨⟨_, (), rfl, rfl, ⟨by rw [ht]; exact hP, va_K.moved hW.alike hK, hN.warm hW⟩, hD⟩, hS.F ht⟩) hS.2.2 dX4_rising_79
    · refine lv_bipush (v := (-2)) hx hb dX4_rising_9 (by decide) ?_
      have hEE : s_X4_rising N V A w0 = ((-2 : Int32), N, V, A) := (by rw [s_X4_rising, if_neg c_1, if_neg c_2])
      rw [hEE]
      exact W.iret (v := (-2 : Int32)) hx hb hr (fun t ht hW => ⟨⟨_, (), rfl, rfl, ⟨by rw [ht]; exact hP, va_K.moved hW.alike hK, hN.warm hW⟩, hD⟩, hS.F ht⟩) hS.2.2 dX4_rising_11
def s_X4_tell (N : Nat → Nat) (V : Nat → Int32) (A : Nat → Nat → Int32)  (s0 : Int32) : Int32 × St :=
  if (s_X2_has N V A s0) = true then
    if A 3 s0.toNatClampNeg = (1) then
      ((s_X4_mastBody N V A s0.toNatClampNeg).1, N, (s_X4_mastBody N V A s0.toNatClampNeg).2.2.1, A)
    else
      if A 3 s0.toNatClampNeg = (2) then
        ((s_X4_bowspritBody N V A s0.toNatClampNeg).1, N, (s_X4_bowspritBody N V A s0.toNatClampNeg).2.2.1, A)
      else
        ((s_X4_sparBody N V A s0.toNatClampNeg).1, N, (s_X4_sparBody N V A s0.toNatClampNeg).2.2.1, A)
  else
    ((-1 : Int32), N, V, A)
set_option maxHeartbeats 4000000 in
set_option maxRecDepth 100000 in
theorem c_X4_tell (l : Launch) (D : va_G) (cI cZ cS : ClassId) (q : Nat → Nat) (N : Nat → Nat) (V : Nat → Int32) (A : Nat → Nat → Int32) (sz : Nat) (s0 : Int32) (h_1 : okC N A) : Met l yX4_tell wsX4_tell ({ frames := 3, cells := 0, slots := 0, locals := 63 }) (va_Pc [.ref (q 0), .int s0] (fun U => U.heap.size = sz ∧ PC D cI cZ cS q N V A U ∧ va_D (fun _ => True) (wC cI cS q N V A))) (va_Qi (fun r (_ : Unit) => r = (s_X4_tell N V A s0).1) (fun _ t => PC D cI cZ cS q (s_X4_tell N V A s0).2.1 (s_X4_tell N V A s0).2.2.1 (s_X4_tell N V A s0).2.2.2 t ∧ va_D (va_A (wC cI cS q N V A) sz) (wC cI cS q (s_X4_tell N V A s0).2.1 (s_X4_tell N V A s0).2.2.1 (s_X4_tell N V A s0).2.2.2)) (va_A (wC cI cS q N V A) sz)) 0 0 (va_A (wC cI cS q N V A) sz) := by
  refine Met.ofW (cc := cX4_tell) (maxL := 2) (ret := (some .int)) (by decide) rfl ?_
  intro p e s m args below meth c s₁ B hml hv
  obtain ⟨rfl, hsz, ⟨hP, hK, hN⟩, hD0⟩ := hv
  have hx := B.exec
  have hb := B.bytes
  have hr := B.returns
  have hts := atoms_spec (ws := wsX4_tell) B.pre
  have hown : s.vm.findClass RX4 = some m.cls := findClass_of_methodNamed B.named
  have hlocks := B.notSynchronized
  have hin2 : ∀ w ∈ u_ws RX2 TX2 9, w ∈ wsX4_tell := by decide +kernel
  have hin4 : ∀ w ∈ u_ws RX4 TX4 7, w ∈ wsX4_tell := by decide +kernel
  subst hsz
  have hD := hD0.self (sz := s.heap.size)
  generalize hAe : va_A (wC cI cS q N V A) s.heap.size = Ar at hD ⊢
  have hA : ∀ q : Nat, s.heap.size ≤ q → Ar q := fun q h => by rw [← hAe]; exact Or.inr h
  have hS : va_S Ar s.heap s.heap [] := va_S.rf
  obtain ⟨o1, o2, o3, o4, o5, o6, o7, o8, o9⟩ := id h_1
  have hl := lv_entry ([.ref (q 0), .int s0]) (n := 2) (Nat.le_of_ble_eq_true rfl)
  rw [lg_entry_eq]
  generalize (lg_sl ([.ref (q 0), .int s0]) ++ List.replicate (2 - (lg_sl ([.ref (q 0), .int s0])).length) Slot.unset).toArray = ls at hl ⊢
  have hl : lv_has ls 2 [(0, .ref (q 0)), (1, .int s0)] := hl
  refine lv_aload_n hx hb dX4_tell_0 rfl (lv_at hl 0 rfl) ?_
  refine va_get (D := D) (ci := 4) (v := .ref (q 2)) (C := RX4) (T := TX4) (N := 7) hx hb hts hin4 hown hK hP 0 rfl rfl 1 (by decide) (hts (.fieldLink RX4 18 "NeckShip" "spars" "LNeckShip$Spars;") (by decide +kernel)) (fun _ h9 => h9) rfl dX4_tell_1 ?_
  refine lv_iload_n hx hb dX4_tell_4 rfl (lv_at hl 1 rfl) ?_
  refine vp_callSi (W.runV (As := [.int s0]) (rest := []) ⟨hx, hb, hml, hown, hts⟩ (c_X2_has l D cI cZ cS q N V A s0) (cwV 1 hts gX4_tell_X2_has rfl rfl rfl (by decide +kernel) ⟨Nat.le_of_ble_eq_true rfl, Nat.le_of_ble_eq_true rfl⟩) (preC2 hK hN hP) rfl rfl hl.1 rfl (lv_room (Nat.le_of_ble_eq_true rfl)) dX4_tell_5 ⟨Nat.zero_le _, Nat.zero_le _⟩) (fun r_1 er_1 => ?_)
  subst er_1
  refine lz_if_ne (tgt := 13) hx hb dX4_tell_8 (by decide) (fun c_2 => ?_) (fun c_2 => ?_)
  · obtain ⟨hlt_s0, heq_s0⟩ := has2_t o1 c_2
    have hl : lv_has ls 2 [(0, .ref (q 0)), (1, .int (nI s0.toNatClampNeg))] := by rw [heq_s0]; exact hl
    refine lv_aload_n hx hb dX4_tell_13 rfl (lv_at hl 0 rfl) ?_
    refine va_get (D := D) (ci := 4) (v := .ref (q 2)) (C := RX4) (T := TX4) (N := 7) hx hb hts hin4 hown hK hP 0 rfl rfl 1 (by decide) (hts (.fieldLink RX4 18 "NeckShip" "spars" "LNeckShip$Spars;") (by decide +kernel)) (fun _ h9 => h9) rfl dX4_tell_14 ?_
    refine va_get (D := D) (ci := 2) (v := .ref (q 3)) (C := RX2) (T := TX2) (N := 9) hx hb hts hin2 hown hK hP 2 rfl rfl 0 (by decide) (hts (.fieldLink RX4 100 "NeckShip$Spars" "kind" "[I") (by decide +kernel)) (fun _ h9 => h9) rfl dX4_tell_17 ?_
    refine lv_iload_n hx hb dX4_tell_20 rfl (lv_at hl 1 rfl) ?_
    refine va_ialdN (i := s0.toNatClampNeg) hx hb hK hP 3 0 rfl rfl (by decide) (by omega) dX4_tell_21 ?_
    by_cases c_3 : A 3 s0.toNatClampNeg = (1)
    · refine lv_lookup (off := 26) (tgt := 48) hx hb dX4_tell_22 rfl (by rw [c_3]; rfl) (by decide) ?_
      refine lv_aload_n hx hb dX4_tell_48 rfl (lv_at hl 0 rfl) ?_
      refine lv_iload_n hx hb dX4_tell_49 rfl (lv_at hl 1 rfl) ?_
      refine callCi (va_runV (As := [.int (nI s0.toNatClampNeg)]) (rest := []) ⟨hx, hb, hml, hown, hts⟩ (c_X4_mastBody l D cI cZ cS q N V A s.heap.size s0.toNatClampNeg (by omega)) (cwV 1 hts gX4_tell_X4_mastBody rfl rfl rfl (by decide +kernel) ⟨Nat.le_of_ble_eq_true rfl, Nat.le_of_ble_eq_true rfl⟩) (preCm4 hK hN hP hD) rfl rfl hl.1 rfl (lv_room (Nat.le_of_ble_eq_true rfl)) dX4_tell_50 ⟨Nat.zero_le _, Nat.zero_le _⟩) hD hS hA (fun H locs hP hD hS => ?_)
      have hP : va_P D vwCl (wC cI cS q N ((s_X4_mastBody N V A s0.toNatClampNeg).2.2.1) A) H := hP
      have hD : va_D Ar (wC cI cS q N ((s_X4_mastBody N V A s0.toNatClampNeg).2.2.1) A) := hD
      have hEE : s_X4_tell N V A s0 = ((s_X4_mastBody N V A s0.toNatClampNeg).1, N, (s_X4_mastBody N V A s0.toNatClampNeg).2.2.1, A) := (by rw [s_X4_tell, if_pos c_2, if_pos c_3])
      rw [hEE]
      exact W.iret (v := (s_X4_mastBody N V A s0.toNatClampNeg).1) hx hb hr (fun t ht hW => ⟨⟨_, (), rfl, rfl, ⟨by rw [ht]; exact hP, va_K.moved hW.alike hK, hN.warm hW⟩, hD⟩, hS.F ht⟩) hS.2.2 dX4_tell_53
    · by_cases c_4 : A 3 s0.toNatClampNeg = (2)
      · refine lv_lookup (off := 32) (tgt := 54) hx hb dX4_tell_22 rfl (by rw [c_4]; rfl) (by decide) ?_
        refine lv_aload_n hx hb dX4_tell_54 rfl (lv_at hl 0 rfl) ?_
        refine lv_iload_n hx hb dX4_tell_55 rfl (lv_at hl 1 rfl) ?_
        refine callCi (va_runV (As := [.int (nI s0.toNatClampNeg)]) (rest := []) ⟨hx, hb, hml, hown, hts⟩ (c_X4_bowspritBody l D cI cZ cS q N V A s.heap.size s0.toNatClampNeg (by omega)) (cwV 1 hts gX4_tell_X4_bowspritBody rfl rfl rfl (by decide +kernel) ⟨Nat.le_of_ble_eq_true rfl, Nat.le_of_ble_eq_true rfl⟩) (preCm4 hK hN hP hD) rfl rfl hl.1 rfl (lv_room (Nat.le_of_ble_eq_true rfl)) dX4_tell_56 ⟨Nat.zero_le _, Nat.zero_le _⟩) hD hS hA (fun H locs hP hD hS => ?_)
        have hP : va_P D vwCl (wC cI cS q N ((s_X4_bowspritBody N V A s0.toNatClampNeg).2.2.1) A) H := hP
        have hD : va_D Ar (wC cI cS q N ((s_X4_bowspritBody N V A s0.toNatClampNeg).2.2.1) A) := hD
        have hEE : s_X4_tell N V A s0 = ((s_X4_bowspritBody N V A s0.toNatClampNeg).1, N, (s_X4_bowspritBody N V A s0.toNatClampNeg).2.2.1, A) := (by rw [s_X4_tell, if_pos c_2, if_neg c_3, if_pos c_4])
        rw [hEE]
        exact W.iret (v := (s_X4_bowspritBody N V A s0.toNatClampNeg).1) hx hb hr (fun t ht hW => ⟨⟨_, (), rfl, rfl, ⟨by rw [ht]; exact hP, va_K.moved hW.alike hK, hN.warm hW⟩, hD⟩, hS.F ht⟩) hS.2.2 dX4_tell_59
      · refine lv_lookup (off := 38) (tgt := 60) hx hb dX4_tell_22 rfl (by show Op.lookupswitch.offset [(1, 26), (2, 32)] (38) _ = 38; exact (lv_osw c_3 rfl).trans ((lv_osw c_4 rfl).trans (rfl))) (by decide) ?_
        refine lv_aload_n hx hb dX4_tell_60 rfl (lv_at hl 0 rfl) ?_
        refine lv_iload_n hx hb dX4_tell_61 rfl (lv_at hl 1 rfl) ?_
        refine callCi (va_runV (As := [.int (nI s0.toNatClampNeg)]) (rest := []) ⟨hx, hb, hml, hown, hts⟩ (c_X4_sparBody l D cI cZ cS q N V A s.heap.size s0.toNatClampNeg (by omega)) (cwV 1 hts gX4_tell_X4_sparBody rfl rfl rfl (by decide +kernel) ⟨Nat.le_of_ble_eq_true rfl, Nat.le_of_ble_eq_true rfl⟩) (preCm4 hK hN hP hD) rfl rfl hl.1 rfl (lv_room (Nat.le_of_ble_eq_true rfl)) dX4_tell_62 ⟨Nat.zero_le _, Nat.zero_le _⟩) hD hS hA (fun H locs hP hD hS => ?_)
        have hP : va_P D vwCl (wC cI cS q N ((s_X4_sparBody N V A s0.toNatClampNeg).2.2.1) A) H := hP
        have hD : va_D Ar (wC cI cS q N ((s_X4_sparBody N V A s0.toNatClampNeg).2.2.1) A) := hD
        have hEE : s_X4_tell N V A s0 = ((s_X4_sparBody N V A s0.toNatClampNeg).1, N, (s_X4_sparBody N V A s0.toNatClampNeg).2.2.1, A) := (by rw [s_X4_tell, if_pos c_2, if_neg c_3, if_neg c_4])
        rw [hEE]
        exact W.iret (v := (s_X4_sparBody N V A s0.toNatClampNeg).1) hx hb hr (fun t ht hW => ⟨⟨_, (), rfl, rfl, ⟨by rw [ht]; exact hP, va_K.moved hW.alike hK, hN.warm hW⟩, hD⟩, hS.F ht⟩) hS.2.2 dX4_tell_65
  · refine lv_iconst (v := (-1)) hx hb dX4_tell_11 (by decide) ?_
    have hEE : s_X4_tell N V A s0 = ((-1 : Int32), N, V, A) := (by rw [s_X4_tell, if_neg (nb c_2)])
    rw [hEE]
    exact W.iret (v := (-1 : Int32)) hx hb hr (fun t ht hW => ⟨⟨_, (), rfl, rfl, ⟨by rw [ht]; exact hP, va_K.moved hW.alike hK, hN.warm hW⟩, hD⟩, hS.F ht⟩) hS.2.2 dX4_tell_12
def s_X4_name (N : Nat → Nat) (V : Nat → Int32) (A : Nat → Nat → Int32)  (s0 : Int32) : Int32 × St :=
  if (s_X2_has N V A s0) = true then
    if A 3 s0.toNatClampNeg = (2 : Int32) then
      ((s_X4_bowspritNameBody N V A).1, N, (s_X4_bowspritNameBody N V A).2.2.1, A)
    else
      ((s_X4_lentNameBody N V A s0.toNatClampNeg).1, N, (s_X4_lentNameBody N V A s0.toNatClampNeg).2.2.1, A)
  else
    ((-1 : Int32), N, V, A)
set_option maxHeartbeats 4000000 in
set_option maxRecDepth 100000 in
theorem c_X4_name (l : Launch) (D : va_G) (cI cZ cS : ClassId) (q : Nat → Nat) (N : Nat → Nat) (V : Nat → Int32) (A : Nat → Nat → Int32) (sz : Nat) (s0 : Int32) (h_1 : okC N A) : Met l yX4_name wsX4_name ({ frames := 2, cells := 0, slots := 0, locals := 42 }) (va_Pc [.ref (q 0), .int s0] (fun U => U.heap.size = sz ∧ PC D cI cZ cS q N V A U ∧ va_D (fun _ => True) (wC cI cS q N V A))) (va_Qi (fun r (_ : Unit) => r = (s_X4_name N V A s0).1) (fun _ t => PC D cI cZ cS q (s_X4_name N V A s0).2.1 (s_X4_name N V A s0).2.2.1 (s_X4_name N V A s0).2.2.2 t ∧ va_D (va_A (wC cI cS q N V A) sz) (wC cI cS q (s_X4_name N V A s0).2.1 (s_X4_name N V A s0).2.2.1 (s_X4_name N V A s0).2.2.2)) (va_A (wC cI cS q N V A) sz)) 0 0 (va_A (wC cI cS q N V A) sz) := by
  refine Met.ofW (cc := cX4_name) (maxL := 2) (ret := (some .int)) (by decide) rfl ?_
  intro p e s m args below meth c s₁ B hml hv
  obtain ⟨rfl, hsz, ⟨hP, hK, hN⟩, hD0⟩ := hv
  have hx := B.exec
  have hb := B.bytes
  have hr := B.returns
  have hts := atoms_spec (ws := wsX4_name) B.pre
  have hown : s.vm.findClass RX4 = some m.cls := findClass_of_methodNamed B.named
  have hlocks := B.notSynchronized
  have hin2 : ∀ w ∈ u_ws RX2 TX2 9, w ∈ wsX4_name := by decide +kernel
  have hin4 : ∀ w ∈ u_ws RX4 TX4 7, w ∈ wsX4_name := by decide +kernel
  subst hsz
  have hD := hD0.self (sz := s.heap.size)
  generalize hAe : va_A (wC cI cS q N V A) s.heap.size = Ar at hD ⊢
  have hA : ∀ q : Nat, s.heap.size ≤ q → Ar q := fun q h => by rw [← hAe]; exact Or.inr h
  have hS : va_S Ar s.heap s.heap [] := va_S.rf
  obtain ⟨o1, o2, o3, o4, o5, o6, o7, o8, o9⟩ := id h_1
  have hl := lv_entry ([.ref (q 0), .int s0]) (n := 2) (Nat.le_of_ble_eq_true rfl)
  rw [lg_entry_eq]
  generalize (lg_sl ([.ref (q 0), .int s0]) ++ List.replicate (2 - (lg_sl ([.ref (q 0), .int s0])).length) Slot.unset).toArray = ls at hl ⊢
  have hl : lv_has ls 2 [(0, .ref (q 0)), (1, .int s0)] := hl
  refine lv_aload_n hx hb dX4_name_0 rfl (lv_at hl 0 rfl) ?_
  refine va_get (D := D) (ci := 4) (v := .ref (q 2)) (C := RX4) (T := TX4) (N := 7) hx hb hts hin4 hown hK hP 0 rfl rfl 1 (by decide) (hts (.fieldLink RX4 18 "NeckShip" "spars" "LNeckShip$Spars;") (by decide +kernel)) (fun _ h9 => h9) rfl dX4_name_1 ?_
  refine lv_iload_n hx hb dX4_name_4 rfl (lv_at hl 1 rfl) ?_
  refine vp_callSi (W.runV (As := [.int s0]) (rest := []) ⟨hx, hb, hml, hown, hts⟩ (c_X2_has l D cI cZ cS q N V A s0) (cwV 1 hts gX4_name_X2_has rfl rfl rfl (by decide +kernel) ⟨Nat.le_of_ble_eq_true rfl, Nat.le_of_ble_eq_true rfl⟩) (preC2 hK hN hP) rfl rfl hl.1 rfl (lv_room (Nat.le_of_ble_eq_true rfl)) dX4_name_5 ⟨Nat.zero_le _, Nat.zero_le _⟩) (fun r_1 er_1 => ?_)
  subst er_1
  refine lz_if_ne (tgt := 13) hx hb dX4_name_8 (by decide) (fun c_2 => ?_) (fun c_2 => ?_)
  · obtain ⟨hlt_s0, heq_s0⟩ := has2_t o1 c_2
    have hl : lv_has ls 2 [(0, .ref (q 0)), (1, .int (nI s0.toNatClampNeg))] := by rw [heq_s0]; exact hl
    refine lv_aload_n hx hb dX4_name_13 rfl (lv_at hl 0 rfl) ?_
    refine va_get (D := D) (ci := 4) (v := .ref (q 2)) (C := RX4) (T := TX4) (N := 7) hx hb hts hin4 hown hK hP 0 rfl rfl 1 (by decide) (hts (.fieldLink RX4 18 "NeckShip" "spars" "LNeckShip$Spars;") (by decide +kernel)) (fun _ h9 => h9) rfl dX4_name_14 ?_
    refine va_get (D := D) (ci := 2) (v := .ref (q 3)) (C := RX2) (T := TX2) (N := 9) hx hb hts hin2 hown hK hP 2 rfl rfl 0 (by decide) (hts (.fieldLink RX4 100 "NeckShip$Spars" "kind" "[I") (by decide +kernel)) (fun _ h9 => h9) rfl dX4_name_17 ?_
    refine lv_iload_n hx hb dX4_name_20 rfl (lv_at hl 1 rfl) ?_
    refine va_ialdN (i := s0.toNatClampNeg) hx hb hK hP 3 0 rfl rfl (by decide) (by omega) dX4_name_21 ?_
    refine lv_iconst (v := (2)) hx hb dX4_name_22 (by decide) ?_
    refine lv_icmp_ne (tgt := 33) hx hb dX4_name_23 (by decide) (fun c_3 => ?_) (fun c_3 => ?_)
    · refine lv_aload_n hx hb dX4_name_33 rfl (lv_at hl 0 rfl) ?_
      refine lv_iload_n hx hb dX4_name_34 rfl (lv_at hl 1 rfl) ?_
      refine callCi (va_runV (As := [.int (nI s0.toNatClampNeg)]) (rest := []) ⟨hx, hb, hml, hown, hts⟩ (c_X4_lentNameBody l D cI cZ cS q N V A s.heap.size s0.toNatClampNeg (by omega)) (cwV 1 hts gX4_name_X4_lentNameBody rfl rfl rfl (by decide +kernel) ⟨Nat.le_of_ble_eq_true rfl, Nat.le_of_ble_eq_true rfl⟩) (preCm4 hK hN hP hD) rfl rfl hl.1 rfl (lv_room (Nat.le_of_ble_eq_true rfl)) dX4_name_35 ⟨Nat.zero_le _, Nat.zero_le _⟩) hD hS hA (fun H locs hP hD hS => ?_)
      have hP : va_P D vwCl (wC cI cS q N ((s_X4_lentNameBody N V A s0.toNatClampNeg).2.2.1) A) H := hP
      have hD : va_D Ar (wC cI cS q N ((s_X4_lentNameBody N V A s0.toNatClampNeg).2.2.1) A) := hD
      have hEE : s_X4_name N V A s0 = ((s_X4_lentNameBody N V A s0.toNatClampNeg).1, N, (s_X4_lentNameBody N V A s0.toNatClampNeg).2.2.1, A) := (by rw [s_X4_name, if_pos c_2, if_neg c_3])
      rw [hEE]
      exact W.iret (v := (s_X4_lentNameBody N V A s0.toNatClampNeg).1) hx hb hr (fun t ht hW => ⟨⟨_, (), rfl, rfl, ⟨by rw [ht]; exact hP, va_K.moved hW.alike hK, hN.warm hW⟩, hD⟩, hS.F ht⟩) hS.2.2 dX4_name_38
    · refine lv_aload_n hx hb dX4_name_26 rfl (lv_at hl 0 rfl) ?_
      refine callCi (va_runV (As := []) (rest := []) ⟨hx, hb, hml, hown, hts⟩ (c_X4_bowspritNameBody l D cI cZ cS q N V A s.heap.size) (cwV 0 hts gX4_name_X4_bowspritNameBody rfl rfl rfl (by decide +kernel) ⟨Nat.le_of_ble_eq_true rfl, Nat.le_of_ble_eq_true rfl⟩) (preCm4 hK hN hP hD) rfl rfl hl.1 rfl (lv_room (Nat.le_of_ble_eq_true rfl)) dX4_name_27 ⟨Nat.zero_le _, Nat.zero_le _⟩) hD hS hA (fun H locs hP hD hS => ?_)
      have hP : va_P D vwCl (wC cI cS q N ((s_X4_bowspritNameBody N V A).2.2.1) A) H := hP
      have hD : va_D Ar (wC cI cS q N ((s_X4_bowspritNameBody N V A).2.2.1) A) := hD
      refine lv_goto (tgt := 38) hx hb dX4_name_30 (by decide) ?_
      have hEE : s_X4_name N V A s0 = ((s_X4_bowspritNameBody N V A).1, N, (s_X4_bowspritNameBody N V A).2.2.1, A) := (by rw [s_X4_name, if_pos c_2, if_pos c_3])
      rw [hEE]
      exact W.iret (v := (s_X4_bowspritNameBody N V A).1) hx hb hr (fun t ht hW => ⟨⟨_, (), rfl, rfl, ⟨by rw [ht]; exact hP, va_K.moved hW.alike hK, hN.warm hW⟩, hD⟩, hS.F ht⟩) hS.2.2 dX4_name_38
  · refine lv_iconst (v := (-1)) hx hb dX4_name_11 (by decide) ?_
    have hEE : s_X4_name N V A s0 = ((-1 : Int32), N, V, A) := (by rw [s_X4_name, if_neg (nb c_2)])
    rw [hEE]
    exact W.iret (v := (-1 : Int32)) hx hb hr (fun t ht hW => ⟨⟨_, (), rfl, rfl, ⟨by rw [ht]; exact hP, va_K.moved hW.alike hK, hN.warm hW⟩, hD⟩, hS.F ht⟩) hS.2.2 dX4_name_12
def s_X4_as (N : Nat → Nat) (V : Nat → Int32) (A : Nat → Nat → Int32)  (s0 : Int32) (k0 : Int32) : Int32 × St :=
  if (s_X2_has N (va_up V 0 (0 : Int32)) A s0) = true then
    if (s_X4_isWithin k0 (0 : Int32) (2 : Int32)) = true then
      if k0 ≤ A 3 s0.toNatClampNeg then
        ((1 : Int32), N, (va_up V 0 (0 : Int32)), A)
      else
        ((s_X4_failed N (va_up V 0 (0 : Int32)) A (2 : Int32)).1, N, (s_X4_failed N (va_up V 0 (0 : Int32)) A (2 : Int32)).2.2.1, A)
    else
      ((-2 : Int32), N, (va_up V 0 (0 : Int32)), A)
  else
    ((-1 : Int32), N, (va_up V 0 (0 : Int32)), A)
set_option maxHeartbeats 4000000 in
set_option maxRecDepth 100000 in
theorem c_X4_as (l : Launch) (D : va_G) (cI cZ cS : ClassId) (q : Nat → Nat) (N : Nat → Nat) (V : Nat → Int32) (A : Nat → Nat → Int32) (sz : Nat) (s0 : Int32) (k0 : Int32) (h_1 : okC N A) : Met l yX4_as wsX4_as ({ frames := 1, cells := 0, slots := 0, locals := 22 }) (va_Pc [.ref (q 0), .int s0, .int k0] (fun U => U.heap.size = sz ∧ PC D cI cZ cS q N V A U ∧ va_D (fun _ => True) (wC cI cS q N V A))) (va_Qi (fun r (_ : Unit) => r = (s_X4_as N V A s0 k0).1) (fun _ t => PC D cI cZ cS q (s_X4_as N V A s0 k0).2.1 (s_X4_as N V A s0 k0).2.2.1 (s_X4_as N V A s0 k0).2.2.2 t ∧ va_D (va_A (wC cI cS q N V A) sz) (wC cI cS q (s_X4_as N V A s0 k0).2.1 (s_X4_as N V A s0 k0).2.2.1 (s_X4_as N V A s0 k0).2.2.2)) (va_A (wC cI cS q N V A) sz)) 0 0 (va_A (wC cI cS q N V A) sz) := by
  refine Met.ofW (cc := cX4_as) (maxL := 3) (ret := (some .int)) (by decide) rfl ?_
  intro p e s m args below meth c s₁ B hml hv
  obtain ⟨rfl, hsz, ⟨hP, hK, hN⟩, hD0⟩ := hv
  have hx := B.exec
  have hb := B.bytes
  have hr := B.returns
  have hts := atoms_spec (ws := wsX4_as) B.pre
  have hown : s.vm.findClass RX4 = some m.cls := findClass_of_methodNamed B.named
  have hlocks := B.notSynchronized
  have hin2 : ∀ w ∈ u_ws RX2 TX2 9, w ∈ wsX4_as := by decide +kernel
  have hin4 : ∀ w ∈ u_ws RX4 TX4 7, w ∈ wsX4_as := by decide +kernel
  subst hsz
  have hD := hD0.self (sz := s.heap.size)
  generalize hAe : va_A (wC cI cS q N V A) s.heap.size = Ar at hD ⊢
  have hA : ∀ q : Nat, s.heap.size ≤ q → Ar q := fun q h => by rw [← hAe]; exact Or.inr h
  have hS : va_S Ar s.heap s.heap [] := va_S.rf
  obtain ⟨o1, o2, o3, o4, o5, o6, o7, o8, o9⟩ := id h_1
  have hl := lv_entry ([.ref (q 0), .int s0, .int k0]) (n := 3) (Nat.le_of_ble_eq_true rfl)
  rw [lg_entry_eq]
  generalize (lg_sl ([.ref (q 0), .int s0, .int k0]) ++ List.replicate (3 - (lg_sl ([.ref (q 0), .int s0, .int k0])).length) Slot.unset).toArray = ls at hl ⊢
  have hl : lv_has ls 3 [(0, .ref (q 0)), (1, .int s0), (2, .int k0)] := hl
  refine lv_aload_n hx hb dX4_as_0 rfl (lv_at hl 0 rfl) ?_
  refine lv_iconst (v := (0)) hx hb dX4_as_1 (by decide) ?_
  refine va_put (D := D) (ci := 4) (v := .int (0)) (ty := .int) (C := RX4) (T := TX4) (N := 7) hx hb hts hin4 tyX4 tyX4_ok nmX4 hown hK hP hD hS 0 rfl rfl 6 (by decide) (hts (.fieldLink RX4 47 "NeckShip" "latestFault" "I") (by decide +kernel)) (fun _ h9 => h9) rfl (by decide +kernel) rfl rfl (Nat.le_of_ble_eq_true rfl) dX4_as_2 (fun H locs hP hD hS => ?_)
  have hP : va_P D vwCl (wC cI cS q N (va_up V 0 (0 : Int32)) A) H := hP
  have hD : va_D Ar (wC cI cS q N (va_up V 0 (0 : Int32)) A) := hD
  refine lv_aload_n hx hb dX4_as_5 rfl (lv_at hl 0 rfl) ?_
  refine va_get (D := D) (ci := 4) (v := .ref (q 2)) (C := RX4) (T := TX4) (N := 7) hx hb hts hin4 hown hK hP 0 rfl rfl 1 (by decide) (hts (.fieldLink RX4 18 "NeckShip" "spars" "LNeckShip$Spars;") (by decide +kernel)) (fun _ h9 => h9) rfl dX4_as_6 ?_
  refine lv_iload_n hx hb dX4_as_9 rfl (lv_at hl 1 rfl) ?_
  refine vp_callSi (W.runV (As := [.int s0]) (rest := []) ⟨hx, hb, hml, hown, hts⟩ (c_X2_has l D cI cZ cS q N (va_up V 0 (0 : Int32)) A s0) (cwV 1 hts gX4_as_X2_has rfl rfl rfl (by decide +kernel) ⟨Nat.le_of_ble_eq_true rfl, Nat.le_of_ble_eq_true rfl⟩) (preC2 hK hN hP) rfl rfl hl.1 rfl (lv_room (Nat.le_of_ble_eq_true rfl)) dX4_as_10 ⟨Nat.zero_le _, Nat.zero_le _⟩) (fun r_1 er_1 => ?_)
  subst er_1
  refine lz_if_ne (tgt := 18) hx hb dX4_as_13 (by decide) (fun c_2 => ?_) (fun c_2 => ?_)
  · obtain ⟨hlt_s0, heq_s0⟩ := has2_t o1 c_2
    have hl : lv_has ls 3 [(0, .ref (q 0)), (1, .int (nI s0.toNatClampNeg)), (2, .int k0)] := by rw [heq_s0]; exact hl
    refine lv_iload_n hx hb dX4_as_18 rfl (lv_at hl 2 rfl) ?_
    refine lv_iconst (v := (0)) hx hb dX4_as_19 (by decide) ?_
    refine lv_iconst (v := (2)) hx hb dX4_as_20 (by decide) ?_
    refine vp_callSi (W.runS (As := [.int k0, .int (0 : Int32), .int (2 : Int32)]) (rest := []) ⟨hx, hb, hml, hown, hts⟩ (c_X4_isWithin l k0 (0 : Int32) (2 : Int32)) (cwS 3 hts gX4_as_X4_isWithin rfl rfl rfl (by decide +kernel) ⟨Nat.le_of_ble_eq_true rfl, Nat.le_of_ble_eq_true rfl⟩) (preEq) rfl rfl hl.1 rfl (lv_room (Nat.le_of_ble_eq_true rfl)) dX4_as_21 ⟨Nat.zero_le _, Nat.zero_le _⟩) (fun r_3 er_3 => ?_)
    subst er_3
    refine lz_if_ne (tgt := 30) hx hb dX4_as_24 (by decide) (fun c_4 => ?_) (fun c_4 => ?_)
    · refine lv_aload_n hx hb dX4_as_30 rfl (lv_at hl 0 rfl) ?_
      refine va_get (D := D) (ci := 4) (v := .ref (q 2)) (C := RX4) (T := TX4) (N := 7) hx hb hts hin4 hown hK hP 0 rfl rfl 1 (by decide) (hts (.fieldLink RX4 18 "NeckShip" "spars" "LNeckShip$Spars;") (by decide +kernel)) (fun _ h9 => h9) rfl dX4_as_31 ?_
      refine va_get (D := D) (ci := 2) (v := .ref (q 3)) (C := RX2) (T := TX2) (N := 9) hx hb hts hin2 hown hK hP 2 rfl rfl 0 (by decide) (hts (.fieldLink RX4 100 "NeckShip$Spars" "kind" "[I") (by decide +kernel)) (fun _ h9 => h9) rfl dX4_as_34 ?_
      refine lv_iload_n hx hb dX4_as_37 rfl (lv_at hl 1 rfl) ?_
      refine va_ialdN (i := s0.toNatClampNeg) hx hb hK hP 3 0 rfl rfl (by decide) (by omega) dX4_as_38 ?_
      refine lv_iload_n hx hb dX4_as_39 rfl (lv_at hl 2 rfl) ?_
      refine lv_icmp_ge (tgt := 51) hx hb dX4_as_40 (by decide) (fun c_5 => ?_) (fun c_5 => ?_)
      · refine lv_iconst (v := (1)) hx hb dX4_as_51 (by decide) ?_
        have hEE : s_X4_as N V A s0 k0 = ((1 : Int32), N, (va_up V 0 (0 : Int32)), A) := (by rw [s_X4_as, if_pos c_2, if_pos c_4, if_pos c_5])
        rw [hEE]
        exact W.iret (v := (1 : Int32)) hx hb hr (fun t ht hW => ⟨⟨_, (), rfl, rfl, ⟨by rw [ht]; exact hP, va_K.moved hW.alike hK, hN.warm hW⟩, hD⟩, hS.F ht⟩) hS.2.2 dX4_as_52
      · refine lv_aload_n hx hb dX4_as_43 rfl (lv_at hl 0 rfl) ?_
        refine lv_iconst (v := (2)) hx hb dX4_as_44 (by decide) ?_
        refine callCi (va_runV (As := [.int (2 : Int32)]) (rest := []) ⟨hx, hb, hml, hown, hts⟩ (c_X4_failed l D cI cZ cS q N (va_up V 0 (0 : Int32)) A H.size (2 : Int32)) (cwV 1 hts gX4_as_X4_failed rfl rfl rfl (by decide +kernel) ⟨Nat.le_of_ble_eq_true rfl, Nat.le_of_ble_eq_true rfl⟩) (preCm4 hK hN hP hD) rfl rfl hl.1 rfl (lv_room (Nat.le_of_ble_eq_true rfl)) dX4_as_45 ⟨Nat.zero_le _, Nat.zero_le _⟩) hD hS hA (fun H locs hP hD hS => ?_)
        have hP : va_P D vwCl (wC cI cS q N ((s_X4_failed N (va_up V 0 (0 : Int32)) A (2 : Int32)).2.2.1) A) H := hP
        have hD : va_D Ar (wC cI cS q N ((s_X4_failed N (va_up V 0 (0 : Int32)) A (2 : Int32)).2.2.1) A) := hD
        refine lv_goto (tgt := 52) hx hb dX4_as_48 (by decide) ?_
        have hEE : s_X4_as N V A s0 k0 = ((s_X4_failed N (va_up V 0 (0 : Int32)) A (2 : Int32)).1, N, (s_X4_failed N (va_up V 0 (0 : Int32)) A (2 : Int32)).2.2.1, A) := (by rw [s_X4_as, if_pos c_2, if_pos c_4, if_neg c_5])
        rw [hEE]
        exact W.iret (v := (s_X4_failed N (va_up V 0 (0 : Int32)) A (2 : Int32)).1) hx hb hr (fun t ht hW => ⟨⟨_, (), rfl, rfl, ⟨by rw [ht]; exact hP, va_K.moved hW.alike hK, hN.warm hW⟩, hD⟩, hS.F ht⟩) hS.2.2 dX4_as_52
    · refine lv_bipush (v := (-2)) hx hb dX4_as_27 (by decide) ?_
      have hEE : s_X4_as N V A s0 k0 = ((-2 : Int32), N, (va_up V 0 (0 : Int32)), A) := (by rw [s_X4_as, if_pos c_2, if_neg (nb c_4)])
      rw [hEE]
      exact W.iret (v := (-2 : Int32)) hx hb hr (fun t ht hW => ⟨⟨_, (), rfl, rfl, ⟨by rw [ht]; exact hP, va_K.moved hW.alike hK, hN.warm hW⟩, hD⟩, hS.F ht⟩) hS.2.2 dX4_as_29
  · refine lv_iconst (v := (-1)) hx hb dX4_as_16 (by decide) ?_
    have hEE : s_X4_as N V A s0 k0 = ((-1 : Int32), N, (va_up V 0 (0 : Int32)), A) := (by rw [s_X4_as, if_neg (nb c_2)])
    rw [hEE]
    exact W.iret (v := (-1 : Int32)) hx hb hr (fun t ht hW => ⟨⟨_, (), rfl, rfl, ⟨by rw [ht]; exact hP, va_K.moved hW.alike hK, hN.warm hW⟩, hD⟩, hS.F ht⟩) hS.2.2 dX4_as_17
def s_X4_sheet (N : Nat → Nat) (V : Nat → Int32) (A : Nat → Nat → Int32)  (k0 : Int32) (l0 : Int32) (n0 : Int32) : Int32 × St :=
  if (s_X4_isSheet N (va_up V 0 (0 : Int32)) A k0) = true then
    if (s_X1_isLane N (va_up V 0 (0 : Int32)) A l0) = true then
      if n0 ≤ (50 : Int32) then
        if 0 ≤ n0 then
          ((1 : Int32), N, (s_X1_renew N (va_up V 0 (0 : Int32)) A k0.toNatClampNeg l0 n0).2.1, (s_X1_renew N (va_up V 0 (0 : Int32)) A k0.toNatClampNeg l0 n0).2.2)
        else
          ((s_X4_failed N (va_up V 0 (0 : Int32)) A (4 : Int32)).1, N, (s_X4_failed N (va_up V 0 (0 : Int32)) A (4 : Int32)).2.2.1, A)
      else
        ((-2 : Int32), N, (va_up V 0 (0 : Int32)), A)
    else
      ((-2 : Int32), N, (va_up V 0 (0 : Int32)), A)
  else
    ((-1 : Int32), N, (va_up V 0 (0 : Int32)), A)
set_option maxHeartbeats 4000000 in
set_option maxRecDepth 100000 in
theorem c_X4_sheet (l : Launch) (D : va_G) (cI cZ cS : ClassId) (q : Nat → Nat) (N : Nat → Nat) (V : Nat → Int32) (A : Nat → Nat → Int32) (sz : Nat) (k0 : Int32) (l0 : Int32) (n0 : Int32) : Met l yX4_sheet wsX4_sheet ({ frames := 2, cells := 0, slots := 0, locals := 45 }) (va_Pc [.ref (q 0), .int k0, .int l0, .int n0] (fun U => U.heap.size = sz ∧ PC D cI cZ cS q N V A U ∧ va_D (fun _ => True) (wC cI cS q N V A))) (va_Qi (fun r (_ : Unit) => r = (s_X4_sheet N V A k0 l0 n0).1) (fun _ t => PC D cI cZ cS q (s_X4_sheet N V A k0 l0 n0).2.1 (s_X4_sheet N V A k0 l0 n0).2.2.1 (s_X4_sheet N V A k0 l0 n0).2.2.2 t ∧ va_D (va_A (wC cI cS q N V A) sz) (wC cI cS q (s_X4_sheet N V A k0 l0 n0).2.1 (s_X4_sheet N V A k0 l0 n0).2.2.1 (s_X4_sheet N V A k0 l0 n0).2.2.2)) (va_A (wC cI cS q N V A) sz)) 0 0 (va_A (wC cI cS q N V A) sz) := by
  refine Met.ofW (cc := cX4_sheet) (maxL := 4) (ret := (some .int)) (by decide) rfl ?_
  intro p e s m args below meth c s₁ B hml hv
  obtain ⟨rfl, hsz, ⟨hP, hK, hN⟩, hD0⟩ := hv
  have hx := B.exec
  have hb := B.bytes
  have hr := B.returns
  have hts := atoms_spec (ws := wsX4_sheet) B.pre
  have hown : s.vm.findClass RX4 = some m.cls := findClass_of_methodNamed B.named
  have hlocks := B.notSynchronized
  have hin4 : ∀ w ∈ u_ws RX4 TX4 7, w ∈ wsX4_sheet := by decide +kernel
  subst hsz
  have hD := hD0.self (sz := s.heap.size)
  generalize hAe : va_A (wC cI cS q N V A) s.heap.size = Ar at hD ⊢
  have hA : ∀ q : Nat, s.heap.size ≤ q → Ar q := fun q h => by rw [← hAe]; exact Or.inr h
  have hS : va_S Ar s.heap s.heap [] := va_S.rf
  have hl := lv_entry ([.ref (q 0), .int k0, .int l0, .int n0]) (n := 4) (Nat.le_of_ble_eq_true rfl)
  rw [lg_entry_eq]
  generalize (lg_sl ([.ref (q 0), .int k0, .int l0, .int n0]) ++ List.replicate (4 - (lg_sl ([.ref (q 0), .int k0, .int l0, .int n0])).length) Slot.unset).toArray = ls at hl ⊢
  have hl : lv_has ls 4 [(0, .ref (q 0)), (1, .int k0), (2, .int l0), (3, .int n0)] := hl
  refine lv_aload_n hx hb dX4_sheet_0 rfl (lv_at hl 0 rfl) ?_
  refine lv_iconst (v := (0)) hx hb dX4_sheet_1 (by decide) ?_
  refine va_put (D := D) (ci := 4) (v := .int (0)) (ty := .int) (C := RX4) (T := TX4) (N := 7) hx hb hts hin4 tyX4 tyX4_ok nmX4 hown hK hP hD hS 0 rfl rfl 6 (by decide) (hts (.fieldLink RX4 47 "NeckShip" "latestFault" "I") (by decide +kernel)) (fun _ h9 => h9) rfl (by decide +kernel) rfl rfl (Nat.le_of_ble_eq_true rfl) dX4_sheet_2 (fun H locs hP hD hS => ?_)
  have hP : va_P D vwCl (wC cI cS q N (va_up V 0 (0 : Int32)) A) H := hP
  have hD : va_D Ar (wC cI cS q N (va_up V 0 (0 : Int32)) A) := hD
  refine lv_aload_n hx hb dX4_sheet_5 rfl (lv_at hl 0 rfl) ?_
  refine lv_iload_n hx hb dX4_sheet_6 rfl (lv_at hl 1 rfl) ?_
  refine vp_callSi (W.runV (As := [.int k0]) (rest := []) ⟨hx, hb, hml, hown, hts⟩ (c_X4_isSheet l D cI cZ cS q N (va_up V 0 (0 : Int32)) A k0) (cwV 1 hts gX4_sheet_X4_isSheet rfl rfl rfl (by decide +kernel) ⟨Nat.le_of_ble_eq_true rfl, Nat.le_of_ble_eq_true rfl⟩) (preC4 hK hN hP) rfl rfl hl.1 rfl (lv_room (Nat.le_of_ble_eq_true rfl)) dX4_sheet_7 ⟨Nat.zero_le _, Nat.zero_le _⟩) (fun r_1 er_1 => ?_)
  subst er_1
  refine lz_if_ne (tgt := 15) hx hb dX4_sheet_10 (by decide) (fun c_2 => ?_) (fun c_2 => ?_)
  · obtain ⟨hlt_k0, heq_k0⟩ := isSheet_t c_2
    have hl : lv_has ls 4 [(0, .ref (q 0)), (1, .int (nI k0.toNatClampNeg)), (2, .int l0), (3, .int n0)] := by rw [heq_k0]; exact hl
    refine lv_iload_n hx hb dX4_sheet_15 rfl (lv_at hl 2 rfl) ?_
    refine vp_callSi (W.runS (As := [.int l0]) (rest := []) ⟨hx, hb, hml, hown, hts⟩ (c_X1_isLane l D cI cZ cS q N (va_up V 0 (0 : Int32)) A l0) (va_cwS 1 hts gX4_sheet_X1_isLane rfl rfl rfl (by decide +kernel) ⟨Nat.le_of_ble_eq_true rfl, Nat.le_of_ble_eq_true rfl⟩) (preCS hK hN hP) rfl rfl hl.1 rfl (lv_room (Nat.le_of_ble_eq_true rfl)) dX4_sheet_16 ⟨Nat.zero_le _, Nat.zero_le _⟩) (fun r_3 er_3 => ?_)
    subst er_3
    refine lz_if_eq (tgt := 28) hx hb dX4_sheet_19 (by decide) (fun c_4 => ?_) (fun c_4 => ?_)
    · refine lv_bipush (v := (-2)) hx hb dX4_sheet_28 (by decide) ?_
      have hEE : s_X4_sheet N V A k0 l0 n0 = ((-2 : Int32), N, (va_up V 0 (0 : Int32)), A) := (by rw [s_X4_sheet, if_pos c_2, if_neg (nb c_4)])
      rw [hEE]
      exact W.iret (v := (-2 : Int32)) hx hb hr (fun t ht hW => ⟨⟨_, (), rfl, rfl, ⟨by rw [ht]; exact hP, va_K.moved hW.alike hK, hN.warm hW⟩, hD⟩, hS.F ht⟩) hS.2.2 dX4_sheet_30
    · refine lv_iload_n hx hb dX4_sheet_22 rfl (lv_at hl 3 rfl) ?_
      refine lv_bipush (v := (50)) hx hb dX4_sheet_23 (by decide) ?_
      refine lv_icmp_le (tgt := 31) hx hb dX4_sheet_25 (by decide) (fun c_5 => ?_) (fun c_5 => ?_)
      · refine lv_iload_n hx hb dX4_sheet_31 rfl (lv_at hl 3 rfl) ?_
        refine lv_if_ge (tgt := 41) hx hb dX4_sheet_32 (by decide) (fun c_6 => ?_) (fun c_6 => ?_)
        · refine lv_aload_n hx hb dX4_sheet_41 rfl (lv_at hl 0 rfl) ?_
          refine va_get (D := D) (ci := 4) (v := .ref (q 16)) (C := RX4) (T := TX4) (N := 7) hx hb hts hin4 hown hK hP 0 rfl rfl 3 (by decide) (hts (.fieldLink RX4 32 "NeckShip" "sheets" "[LNeckShip$Sheet;") (by decide +kernel)) (fun _ h9 => h9) rfl dX4_sheet_42 ?_
          refine lv_iload_n hx hb dX4_sheet_45 rfl (lv_at hl 1 rfl) ?_
          have hs_7 : k0.toNatClampNeg < 4 := (by omega)
          refine va_shN hs_7 hx hb hK hP dX4_sheet_46 ?_
          refine lv_iload_n hx hb dX4_sheet_47 rfl (lv_at hl 2 rfl) ?_
          refine lv_iload_n hx hb dX4_sheet_48 rfl (lv_at hl 3 rfl) ?_
          refine callCv (va_runV (As := [.int l0, .int n0]) (rest := []) ⟨hx, hb, hml, hown, hts⟩ (c_X1_renew l D cI cZ cS q N (va_up V 0 (0 : Int32)) A H.size k0.toNatClampNeg l0 n0 hs_7) (cwV 2 hts gX4_sheet_X1_renew rfl rfl rfl (by decide +kernel) ⟨Nat.le_of_ble_eq_true rfl, Nat.le_of_ble_eq_true rfl⟩) (preCm1 hs_7 hK hN hP hD) rfl rfl hl.1 rfl (lv_room (Nat.le_of_ble_eq_true rfl)) dX4_sheet_49 ⟨Nat.zero_le _, Nat.zero_le _⟩) hD hS hA (fun H locs hP hD hS => ?_)
          have hP : va_P D vwCl (wC cI cS q N ((s_X1_renew N (va_up V 0 (0 : Int32)) A k0.toNatClampNeg l0 n0).2.1) ((s_X1_renew N (va_up V 0 (0 : Int32)) A k0.toNatClampNeg l0 n0).2.2)) H := hP
          have hD : va_D Ar (wC cI cS q N ((s_X1_renew N (va_up V 0 (0 : Int32)) A k0.toNatClampNeg l0 n0).2.1) ((s_X1_renew N (va_up V 0 (0 : Int32)) A k0.toNatClampNeg l0 n0).2.2)) := hD
          refine lv_iconst (v := (1)) hx hb dX4_sheet_52 (by decide) ?_
          have hEE : s_X4_sheet N V A k0 l0 n0 = ((1 : Int32), N, (s_X1_renew N (va_up V 0 (0 : Int32)) A k0.toNatClampNeg l0 n0).2.1, (s_X1_renew N (va_up V 0 (0 : Int32)) A k0.toNatClampNeg l0 n0).2.2) := (by rw [s_X4_sheet, if_pos c_2, if_pos c_4, if_pos c_5, if_pos c_6])
          rw [hEE]
          exact W.iret (v := (1 : Int32)) hx hb hr (fun t ht hW => ⟨⟨_, (), rfl, rfl, ⟨by rw [ht]; exact hP, va_K.moved hW.alike hK, hN.warm hW⟩, hD⟩, hS.F ht⟩) hS.2.2 dX4_sheet_53
        · refine lv_aload_n hx hb dX4_sheet_35 rfl (lv_at hl 0 rfl) ?_
          refine lv_iconst (v := (4)) hx hb dX4_sheet_36 (by decide) ?_
          refine callCi (va_runV (As := [.int (4 : Int32)]) (rest := []) ⟨hx, hb, hml, hown, hts⟩ (c_X4_failed l D cI cZ cS q N (va_up V 0 (0 : Int32)) A H.size (4 : Int32)) (cwV 1 hts gX4_sheet_X4_failed rfl rfl rfl (by decide +kernel) ⟨Nat.le_of_ble_eq_true rfl, Nat.le_of_ble_eq_true rfl⟩) (preCm4 hK hN hP hD) rfl rfl hl.1 rfl (lv_room (Nat.le_of_ble_eq_true rfl)) dX4_sheet_37 ⟨Nat.zero_le _, Nat.zero_le _⟩) hD hS hA (fun H locs hP hD hS => ?_)
          have hP : va_P D vwCl (wC cI cS q N ((s_X4_failed N (va_up V 0 (0 : Int32)) A (4 : Int32)).2.2.1) A) H := hP
          have hD : va_D Ar (wC cI cS q N ((s_X4_failed N (va_up V 0 (0 : Int32)) A (4 : Int32)).2.2.1) A) := hD
          have hEE : s_X4_sheet N V A k0 l0 n0 = ((s_X4_failed N (va_up V 0 (0 : Int32)) A (4 : Int32)).1, N, (s_X4_failed N (va_up V 0 (0 : Int32)) A (4 : Int32)).2.2.1, A) := (by rw [s_X4_sheet, if_pos c_2, if_pos c_4, if_pos c_5, if_neg c_6])
          rw [hEE]
          exact W.iret (v := (s_X4_failed N (va_up V 0 (0 : Int32)) A (4 : Int32)).1) hx hb hr (fun t ht hW => ⟨⟨_, (), rfl, rfl, ⟨by rw [ht]; exact hP, va_K.moved hW.alike hK, hN.warm hW⟩, hD⟩, hS.F ht⟩) hS.2.2 dX4_sheet_40
      · refine lv_bipush (v := (-2)) hx hb dX4_sheet_28 (by decide) ?_
        have hEE : s_X4_sheet N V A k0 l0 n0 = ((-2 : Int32), N, (va_up V 0 (0 : Int32)), A) := (by rw [s_X4_sheet, if_pos c_2, if_pos c_4, if_neg c_5])
        rw [hEE]
        exact W.iret (v := (-2 : Int32)) hx hb hr (fun t ht hW => ⟨⟨_, (), rfl, rfl, ⟨by rw [ht]; exact hP, va_K.moved hW.alike hK, hN.warm hW⟩, hD⟩, hS.F ht⟩) hS.2.2 dX4_sheet_30
  · refine lv_iconst (v := (-1)) hx hb dX4_sheet_13 (by decide) ?_
    have hEE : s_X4_sheet N V A k0 l0 n0 = ((-1 : Int32), N, (va_up V 0 (0 : Int32)), A) := (by rw [s_X4_sheet, if_neg (nb c_2)])
    rw [hEE]
    exact W.iret (v := (-1 : Int32)) hx hb hr (fun t ht hW => ⟨⟨_, (), rfl, rfl, ⟨by rw [ht]; exact hP, va_K.moved hW.alike hK, hN.warm hW⟩, hD⟩, hS.F ht⟩) hS.2.2 dX4_sheet_14
def s_X4_lose (N : Nat → Nat) (V : Nat → Int32) (A : Nat → Nat → Int32)  (k0 : Int32) : Int32 × St :=
  if (s_X4_isSheet N V A k0) = true then
    if (s_X1_hasNothing N V A k0.toNatClampNeg) = true then
      ((s_X4_oneIf false), N, (s_X1_empty N V A k0.toNatClampNeg).2.1, A)
    else
      ((s_X4_oneIf true), N, (s_X1_empty N V A k0.toNatClampNeg).2.1, A)
  else
    ((-1 : Int32), N, V, A)
set_option maxHeartbeats 4000000 in
set_option maxRecDepth 100000 in
theorem c_X4_lose (l : Launch) (D : va_G) (cI cZ cS : ClassId) (q : Nat → Nat) (N : Nat → Nat) (V : Nat → Int32) (A : Nat → Nat → Int32) (sz : Nat) (k0 : Int32) : Met l yX4_lose wsX4_lose ({ frames := 1, cells := 0, slots := 0, locals := 21 }) (va_Pc [.ref (q 0), .int k0] (fun U => U.heap.size = sz ∧ PC D cI cZ cS q N V A U ∧ va_D (fun _ => True) (wC cI cS q N V A))) (va_Qi (fun r (_ : Unit) => r = (s_X4_lose N V A k0).1) (fun _ t => PC D cI cZ cS q (s_X4_lose N V A k0).2.1 (s_X4_lose N V A k0).2.2.1 (s_X4_lose N V A k0).2.2.2 t ∧ va_D (va_A (wC cI cS q N V A) sz) (wC cI cS q (s_X4_lose N V A k0).2.1 (s_X4_lose N V A k0).2.2.1 (s_X4_lose N V A k0).2.2.2)) (va_A (wC cI cS q N V A) sz)) 0 0 (va_A (wC cI cS q N V A) sz) := by
  refine Met.ofW (cc := cX4_lose) (maxL := 3) (ret := (some .int)) (by decide) rfl ?_
  intro p e s m args below meth c s₁ B hml hv
  obtain ⟨rfl, hsz, ⟨hP, hK, hN⟩, hD0⟩ := hv
  have hx := B.exec
  have hb := B.bytes
  have hr := B.returns
  have hts := atoms_spec (ws := wsX4_lose) B.pre
  have hown : s.vm.findClass RX4 = some m.cls := findClass_of_methodNamed B.named
  have hlocks := B.notSynchronized
  have hin4 : ∀ w ∈ u_ws RX4 TX4 7, w ∈ wsX4_lose := by decide +kernel
  subst hsz
  have hD := hD0.self (sz := s.heap.size)
  generalize hAe : va_A (wC cI cS q N V A) s.heap.size = Ar at hD ⊢
  have hA : ∀ q : Nat, s.heap.size ≤ q → Ar q := fun q h => by rw [← hAe]; exact Or.inr h
  have hS : va_S Ar s.heap s.heap [] := va_S.rf
  have hl := lv_entry ([.ref (q 0), .int k0]) (n := 3) (Nat.le_of_ble_eq_true rfl)
  rw [lg_entry_eq]
  generalize (lg_sl ([.ref (q 0), .int k0]) ++ List.replicate (3 - (lg_sl ([.ref (q 0), .int k0])).length) Slot.unset).toArray = ls at hl ⊢
  have hl : lv_has ls 3 [(0, .ref (q 0)), (1, .int k0)] := hl
  refine lv_aload_n hx hb dX4_lose_0 rfl (lv_at hl 0 rfl) ?_
  refine lv_iload_n hx hb dX4_lose_1 rfl (lv_at hl 1 rfl) ?_
  refine vp_callSi (W.runV (As := [.int k0]) (rest := []) ⟨hx, hb, hml, hown, hts⟩ (c_X4_isSheet l D cI cZ cS q N V A k0) (cwV 1 hts gX4_lose_X4_isSheet rfl rfl rfl (by decide +kernel) ⟨Nat.le_of_ble_eq_true rfl, Nat.le_of_ble_eq_true rfl⟩) (preC4 hK hN hP) rfl rfl hl.1 rfl (lv_room (Nat.le_of_ble_eq_true rfl)) dX4_lose_2 ⟨Nat.zero_le _, Nat.zero_le _⟩) (fun r_1 er_1 => ?_)
  subst er_1
  refine lz_if_ne (tgt := 10) hx hb dX4_lose_5 (by decide) (fun c_2 => ?_) (fun c_2 => ?_)
  · obtain ⟨hlt_k0, heq_k0⟩ := isSheet_t c_2
    have hl : lv_has ls 3 [(0, .ref (q 0)), (1, .int (nI k0.toNatClampNeg))] := by rw [heq_k0]; exact hl
    refine lv_aload_n hx hb dX4_lose_10 rfl (lv_at hl 0 rfl) ?_
    refine va_get (D := D) (ci := 4) (v := .ref (q 16)) (C := RX4) (T := TX4) (N := 7) hx hb hts hin4 hown hK hP 0 rfl rfl 3 (by decide) (hts (.fieldLink RX4 32 "NeckShip" "sheets" "[LNeckShip$Sheet;") (by decide +kernel)) (fun _ h9 => h9) rfl dX4_lose_11 ?_
    refine lv_iload_n hx hb dX4_lose_14 rfl (lv_at hl 1 rfl) ?_
    have hs_3 : k0.toNatClampNeg < 4 := (by omega)
    refine va_shN hs_3 hx hb hK hP dX4_lose_15 ?_
    refine vp_callSi (W.runV (As := []) (rest := []) ⟨hx, hb, hml, hown, hts⟩ (c_X1_hasNothing l D cI cZ cS q N V A k0.toNatClampNeg hs_3) (cwV 0 hts gX4_lose_X1_hasNothing rfl rfl rfl (by decide +kernel) ⟨Nat.le_of_ble_eq_true rfl, Nat.le_of_ble_eq_true rfl⟩) (preC1 hs_3 hK hN hP) rfl rfl hl.1 rfl (lv_room (Nat.le_of_ble_eq_true rfl)) dX4_lose_16 ⟨Nat.zero_le _, Nat.zero_le _⟩) (fun r_4 er_4 => ?_)
    subst er_4
    refine lz_if_ne (tgt := 26) hx hb dX4_lose_19 (by decide) (fun c_5 => ?_) (fun c_5 => ?_)
    · refine lv_iconst (v := (0)) hx hb dX4_lose_26 (by decide) ?_
      refine vp_callSi (W.runS (As := [.int (b2i false)]) (rest := []) ⟨hx, hb, hml, hown, hts⟩ (c_X4_oneIf l false) (cwS 1 hts gX4_lose_X4_oneIf rfl rfl rfl (by decide +kernel) ⟨Nat.le_of_ble_eq_true rfl, Nat.le_of_ble_eq_true rfl⟩) (preEq) rfl rfl hl.1 rfl (lv_room (Nat.le_of_ble_eq_true rfl)) dX4_lose_27 ⟨Nat.zero_le _, Nat.zero_le _⟩) (fun r_6 er_6 => ?_)
      subst er_6
      refine lv_istore_n (lv' := [(2, .int (s_X4_oneIf false)), (0, .ref (q 0)), (1, .int (nI k0.toNatClampNeg))]) hx hb dX4_lose_30 rfl hl (by decide) rfl (fun ls hl => ?_)
      refine lv_aload_n hx hb dX4_lose_31 rfl (lv_at hl 1 rfl) ?_
      refine va_get (D := D) (ci := 4) (v := .ref (q 16)) (C := RX4) (T := TX4) (N := 7) hx hb hts hin4 hown hK hP 0 rfl rfl 3 (by decide) (hts (.fieldLink RX4 32 "NeckShip" "sheets" "[LNeckShip$Sheet;") (by decide +kernel)) (fun _ h9 => h9) rfl dX4_lose_32 ?_
      refine lv_iload_n hx hb dX4_lose_35 rfl (lv_at hl 2 rfl) ?_
      have hs_7 : k0.toNatClampNeg < 4 := (by omega)
      refine va_shN hs_7 hx hb hK hP dX4_lose_36 ?_
      refine callCv (va_runV (As := []) (rest := []) ⟨hx, hb, hml, hown, hts⟩ (c_X1_empty l D cI cZ cS q N V A s.heap.size k0.toNatClampNeg hs_7) (cwV 0 hts gX4_lose_X1_empty rfl rfl rfl (by decide +kernel) ⟨Nat.le_of_ble_eq_true rfl, Nat.le_of_ble_eq_true rfl⟩) (preCm1 hs_7 hK hN hP hD) rfl rfl hl.1 rfl (lv_room (Nat.le_of_ble_eq_true rfl)) dX4_lose_37 ⟨Nat.zero_le _, Nat.zero_le _⟩) hD hS hA (fun H locs hP hD hS => ?_)
      have hP : va_P D vwCl (wC cI cS q N ((s_X1_empty N V A k0.toNatClampNeg).2.1) A) H := hP
      have hD : va_D Ar (wC cI cS q N ((s_X1_empty N V A k0.toNatClampNeg).2.1) A) := hD
      refine lv_iload_n hx hb dX4_lose_40 rfl (lv_at hl 0 rfl) ?_
      have hEE : s_X4_lose N V A k0 = ((s_X4_oneIf false), N, (s_X1_empty N V A k0.toNatClampNeg).2.1, A) := (by rw [s_X4_lose, if_pos c_2, if_pos c_5])
      rw [hEE]
      exact W.iret (v := (s_X4_oneIf false)) hx hb hr (fun t ht hW => ⟨⟨_, (), rfl, rfl, ⟨by rw [ht]; exact hP, va_K.moved hW.alike hK, hN.warm hW⟩, hD⟩, hS.F ht⟩) hS.2.2 dX4_lose_41
    · refine lv_iconst (v := (1)) hx hb dX4_lose_22 (by decide) ?_
      refine lv_goto (tgt := 27) hx hb dX4_lose_23 (by decide) ?_
      refine vp_callSi (W.runS (As := [.int (b2i true)]) (rest := []) ⟨hx, hb, hml, hown, hts⟩ (c_X4_oneIf l true) (cwS 1 hts gX4_lose_X4_oneIf rfl rfl rfl (by decide +kernel) ⟨Nat.le_of_ble_eq_true rfl, Nat.le_of_ble_eq_true rfl⟩) (preEq) rfl rfl hl.1 rfl (lv_room (Nat.le_of_ble_eq_true rfl)) dX4_lose_27 ⟨Nat.zero_le _, Nat.zero_le _⟩) (fun r_8 er_8 => ?_)
      subst er_8
      refine lv_istore_n (lv' := [(2, .int (s_X4_oneIf true)), (0, .ref (q 0)), (1, .int (nI k0.toNatClampNeg))]) hx hb dX4_lose_30 rfl hl (by decide) rfl (fun ls hl => ?_)
      refine lv_aload_n hx hb dX4_lose_31 rfl (lv_at hl 1 rfl) ?_
      refine va_get (D := D) (ci := 4) (v := .ref (q 16)) (C := RX4) (T := TX4) (N := 7) hx hb hts hin4 hown hK hP 0 rfl rfl 3 (by decide) (hts (.fieldLink RX4 32 "NeckShip" "sheets" "[LNeckShip$Sheet;") (by decide +kernel)) (fun _ h9 => h9) rfl dX4_lose_32 ?_
      refine lv_iload_n hx hb dX4_lose_35 rfl (lv_at hl 2 rfl) ?_
      have hs_9 : k0.toNatClampNeg < 4 := (by omega)
      refine va_shN hs_9 hx hb hK hP dX4_lose_36 ?_
      refine callCv (va_runV (As := []) (rest := []) ⟨hx, hb, hml, hown, hts⟩ (c_X1_empty l D cI cZ cS q N V A s.heap.size k0.toNatClampNeg hs_9) (cwV 0 hts gX4_lose_X1_empty rfl rfl rfl (by decide +kernel) ⟨Nat.le_of_ble_eq_true rfl, Nat.le_of_ble_eq_true rfl⟩) (preCm1 hs_9 hK hN hP hD) rfl rfl hl.1 rfl (lv_room (Nat.le_of_ble_eq_true rfl)) dX4_lose_37 ⟨Nat.zero_le _, Nat.zero_le _⟩) hD hS hA (fun H locs hP hD hS => ?_)
      have hP : va_P D vwCl (wC cI cS q N ((s_X1_empty N V A k0.toNatClampNeg).2.1) A) H := hP
      have hD : va_D Ar (wC cI cS q N ((s_X1_empty N V A k0.toNatClampNeg).2.1) A) := hD
      refine lv_iload_n hx hb dX4_lose_40 rfl (lv_at hl 0 rfl) ?_
      have hEE : s_X4_lose N V A k0 = ((s_X4_oneIf true), N, (s_X1_empty N V A k0.toNatClampNeg).2.1, A) := (by rw [s_X4_lose, if_pos c_2, if_neg (nb c_5)])
      rw [hEE]
      exact W.iret (v := (s_X4_oneIf true)) hx hb hr (fun t ht hW => ⟨⟨_, (), rfl, rfl, ⟨by rw [ht]; exact hP, va_K.moved hW.alike hK, hN.warm hW⟩, hD⟩, hS.F ht⟩) hS.2.2 dX4_lose_41
  · refine lv_iconst (v := (-1)) hx hb dX4_lose_8 (by decide) ?_
    have hEE : s_X4_lose N V A k0 = ((-1 : Int32), N, V, A) := (by rw [s_X4_lose, if_neg (nb c_2)])
    rw [hEE]
    exact W.iret (v := (-1 : Int32)) hx hb hr (fun t ht hW => ⟨⟨_, (), rfl, rfl, ⟨by rw [ht]; exact hP, va_K.moved hW.alike hK, hN.warm hW⟩, hD⟩, hS.F ht⟩) hS.2.2 dX4_lose_9
def s_X4_put (N : Nat → Nat) (V : Nat → Int32) (A : Nat → Nat → Int32)  (k0 : Int32) (i0 : Int32) (v0 : Int32) : Int32 × St :=
  if (s_X4_isSheet N (va_up V 0 (0 : Int32)) A k0) = true then
    if (s_X1_hasNothing N (va_up V 0 (0 : Int32)) A k0.toNatClampNeg) = true then
      ((s_X4_failed N (va_up V 0 (0 : Int32)) A (1 : Int32)).1, N, (s_X4_failed N (va_up V 0 (0 : Int32)) A (1 : Int32)).2.2.1, A)
    else
      if (s_X1_hasCells N (va_up V 0 (0 : Int32)) A k0.toNatClampNeg i0 (1 : Int32)) = true then
        ((1 : Int32), N, (va_up V 0 (0 : Int32)), (va_up A (18 + 2 * k0.toNatClampNeg) (upd (A (18 + 2 * k0.toNatClampNeg)) i0.toNatClampNeg (s_X1_cutToLane N (va_up V 0 (0 : Int32)) A k0.toNatClampNeg v0))))
      else
        ((s_X4_failed N (va_up V 0 (0 : Int32)) A (3 : Int32)).1, N, (s_X4_failed N (va_up V 0 (0 : Int32)) A (3 : Int32)).2.2.1, A)
  else
    ((-1 : Int32), N, (va_up V 0 (0 : Int32)), A)
set_option maxHeartbeats 4000000 in
set_option maxRecDepth 100000 in
theorem c_X4_put (l : Launch) (D : va_G) (cI cZ cS : ClassId) (q : Nat → Nat) (N : Nat → Nat) (V : Nat → Int32) (A : Nat → Nat → Int32) (sz : Nat) (k0 : Int32) (i0 : Int32) (v0 : Int32) (h_1 : okV V) : Met l yX4_put wsX4_put ({ frames := 1, cells := 0, slots := 0, locals := 22 }) (va_Pc [.ref (q 0), .int k0, .int i0, .int v0] (fun U => U.heap.size = sz ∧ PC D cI cZ cS q N V A U ∧ va_D (fun _ => True) (wC cI cS q N V A))) (va_Qi (fun r (_ : Unit) => r = (s_X4_put N V A k0 i0 v0).1) (fun _ t => PC D cI cZ cS q (s_X4_put N V A k0 i0 v0).2.1 (s_X4_put N V A k0 i0 v0).2.2.1 (s_X4_put N V A k0 i0 v0).2.2.2 t ∧ va_D (va_A (wC cI cS q N V A) sz) (wC cI cS q (s_X4_put N V A k0 i0 v0).2.1 (s_X4_put N V A k0 i0 v0).2.2.1 (s_X4_put N V A k0 i0 v0).2.2.2)) (va_A (wC cI cS q N V A) sz)) 0 0 (va_A (wC cI cS q N V A) sz) := by
  refine Met.ofW (cc := cX4_put) (maxL := 5) (ret := (some .int)) (by decide) rfl ?_
  intro p e s m args below meth c s₁ B hml hv
  obtain ⟨rfl, hsz, ⟨hP, hK, hN⟩, hD0⟩ := hv
  have hx := B.exec
  have hb := B.bytes
  have hr := B.returns
  have hts := atoms_spec (ws := wsX4_put) B.pre
  have hown : s.vm.findClass RX4 = some m.cls := findClass_of_methodNamed B.named
  have hlocks := B.notSynchronized
  have hin1 : ∀ w ∈ u_ws RX1 TX1 3, w ∈ wsX4_put := by decide +kernel
  have hin4 : ∀ w ∈ u_ws RX4 TX4 7, w ∈ wsX4_put := by decide +kernel
  subst hsz
  have hD := hD0.self (sz := s.heap.size)
  generalize hAe : va_A (wC cI cS q N V A) s.heap.size = Ar at hD ⊢
  have hA : ∀ q : Nat, s.heap.size ≤ q → Ar q := fun q h => by rw [← hAe]; exact Or.inr h
  have hS : va_S Ar s.heap s.heap [] := va_S.rf
  have hl := lv_entry ([.ref (q 0), .int k0, .int i0, .int v0]) (n := 5) (Nat.le_of_ble_eq_true rfl)
  rw [lg_entry_eq]
  generalize (lg_sl ([.ref (q 0), .int k0, .int i0, .int v0]) ++ List.replicate (5 - (lg_sl ([.ref (q 0), .int k0, .int i0, .int v0])).length) Slot.unset).toArray = ls at hl ⊢
  have hl : lv_has ls 5 [(0, .ref (q 0)), (1, .int k0), (2, .int i0), (3, .int v0)] := hl
  refine lv_aload_n hx hb dX4_put_0 rfl (lv_at hl 0 rfl) ?_
  refine lv_iconst (v := (0)) hx hb dX4_put_1 (by decide) ?_
  refine va_put (D := D) (ci := 4) (v := .int (0)) (ty := .int) (C := RX4) (T := TX4) (N := 7) hx hb hts hin4 tyX4 tyX4_ok nmX4 hown hK hP hD hS 0 rfl rfl 6 (by decide) (hts (.fieldLink RX4 47 "NeckShip" "latestFault" "I") (by decide +kernel)) (fun _ h9 => h9) rfl (by decide +kernel) rfl rfl (Nat.le_of_ble_eq_true rfl) dX4_put_2 (fun H locs hP hD hS => ?_)
  have hP : va_P D vwCl (wC cI cS q N (va_up V 0 (0 : Int32)) A) H := hP
  have hD : va_D Ar (wC cI cS q N (va_up V 0 (0 : Int32)) A) := hD
  refine lv_aload_n hx hb dX4_put_5 rfl (lv_at hl 0 rfl) ?_
  refine lv_iload_n hx hb dX4_put_6 rfl (lv_at hl 1 rfl) ?_
  refine vp_callSi (W.runV (As := [.int k0]) (rest := []) ⟨hx, hb, hml, hown, hts⟩ (c_X4_isSheet l D cI cZ cS q N (va_up V 0 (0 : Int32)) A k0) (cwV 1 hts gX4_put_X4_isSheet rfl rfl rfl (by decide +kernel) ⟨Nat.le_of_ble_eq_true rfl, Nat.le_of_ble_eq_true rfl⟩) (preC4 hK hN hP) rfl rfl hl.1 rfl (lv_room (Nat.le_of_ble_eq_true rfl)) dX4_put_7 ⟨Nat.zero_le _, Nat.zero_le _⟩) (fun r_1 er_1 => ?_)
  subst er_1
  refine lz_if_ne (tgt := 15) hx hb dX4_put_10 (by decide) (fun c_2 => ?_) (fun c_2 => ?_)
  · obtain ⟨hlt_k0, heq_k0⟩ := isSheet_t c_2
    have hl : lv_has ls 5 [(0, .ref (q 0)), (1, .int (nI k0.toNatClampNeg)), (2, .int i0), (3, .int v0)] := by rw [heq_k0]; exact hl
    refine lv_aload_n hx hb dX4_put_15 rfl (lv_at hl 0 rfl) ?_
    refine va_get (D := D) (ci := 4) (v := .ref (q 16)) (C := RX4) (T := TX4) (N := 7) hx hb hts hin4 hown hK hP 0 rfl rfl 3 (by decide) (hts (.fieldLink RX4 32 "NeckShip" "sheets" "[LNeckShip$Sheet;") (by decide +kernel)) (fun _ h9 => h9) rfl dX4_put_16 ?_
    refine lv_iload_n hx hb dX4_put_19 rfl (lv_at hl 1 rfl) ?_
    have hs_3 : k0.toNatClampNeg < 4 := (by omega)
    refine va_shN hs_3 hx hb hK hP dX4_put_20 ?_
    refine lv_astore (lv' := [(4, .ref (q (17 + 2 * k0.toNatClampNeg))), (0, .ref (q 0)), (1, .int (nI k0.toNatClampNeg)), (2, .int i0), (3, .int v0)]) hx hb dX4_put_21 hl (by decide) rfl (fun ls hl => ?_)
    refine lv_aload hx hb dX4_put_23 (lv_at hl 0 rfl) ?_
    refine vp_callSi (W.runV (As := []) (rest := []) ⟨hx, hb, hml, hown, hts⟩ (c_X1_hasNothing l D cI cZ cS q N (va_up V 0 (0 : Int32)) A k0.toNatClampNeg hs_3) (cwV 0 hts gX4_put_X1_hasNothing rfl rfl rfl (by decide +kernel) ⟨Nat.le_of_ble_eq_true rfl, Nat.le_of_ble_eq_true rfl⟩) (preC1 hs_3 hK hN hP) rfl rfl hl.1 rfl (lv_room (Nat.le_of_ble_eq_true rfl)) dX4_put_25 ⟨Nat.zero_le _, Nat.zero_le _⟩) (fun r_4 er_4 => ?_)
    subst er_4
    refine lz_if_eq (tgt := 37) hx hb dX4_put_28 (by decide) (fun c_5 => ?_) (fun c_5 => ?_)
    · refine lv_aload hx hb dX4_put_37 (lv_at hl 0 rfl) ?_
      refine lv_iload_n hx hb dX4_put_39 rfl (lv_at hl 3 rfl) ?_
      refine lv_iconst (v := (1)) hx hb dX4_put_40 (by decide) ?_
      refine vp_callSi (W.runV (As := [.int i0, .int (1 : Int32)]) (rest := []) ⟨hx, hb, hml, hown, hts⟩ (c_X1_hasCells l D cI cZ cS q N (va_up V 0 (0 : Int32)) A k0.toNatClampNeg i0 (1 : Int32) hs_3) (cwV 2 hts gX4_put_X1_hasCells rfl rfl rfl (by decide +kernel) ⟨Nat.le_of_ble_eq_true rfl, Nat.le_of_ble_eq_true rfl⟩) (preC1 hs_3 hK hN hP) rfl rfl hl.1 rfl (lv_room (Nat.le_of_ble_eq_true rfl)) dX4_put_41 ⟨Nat.zero_le _, Nat.zero_le _⟩) (fun r_6 er_6 => ?_)
      subst er_6
      refine lz_if_ne (tgt := 53) hx hb dX4_put_44 (by decide) (fun c_7 => ?_) (fun c_7 => ?_)
      · obtain ⟨hlt_i0, heq_i0⟩ := hasCells_1 (okV_0 h_1 0 _ (by omega)) c_7
        have hl : lv_has ls 5 [(4, .ref (q (17 + 2 * k0.toNatClampNeg))), (0, .ref (q 0)), (1, .int (nI k0.toNatClampNeg)), (2, .int (nI i0.toNatClampNeg)), (3, .int v0)] := by rw [heq_i0]; exact hl
        refine lv_aload hx hb dX4_put_53 (lv_at hl 0 rfl) ?_
        refine va_get (D := D) (ci := 1) (v := .ref (q (18 + 2 * k0.toNatClampNeg))) (C := RX1) (T := TX1) (N := 3) hx hb hts hin1 hown hK hP (17 + 2 * k0.toNatClampNeg) (wC_sheet hs_3) rfl 0 (by decide) (hts (.fieldLink RX4 86 "NeckShip$Sheet" "cells" "[I") (by decide +kernel)) (fun _ h9 => h9) rfl dX4_put_55 ?_
        refine lv_iload_n hx hb dX4_put_58 rfl (lv_at hl 3 rfl) ?_
        refine lv_aload hx hb dX4_put_59 (lv_at hl 0 rfl) ?_
        refine lv_iload_n hx hb dX4_put_61 rfl (lv_at hl 4 rfl) ?_
        refine vp_callSi (W.runV (As := [.int v0]) (rest := [.int (nI i0.toNatClampNeg), .ref (q (18 + 2 * k0.toNatClampNeg))]) ⟨hx, hb, hml, hown, hts⟩ (c_X1_cutToLane l D cI cZ cS q N (va_up V 0 (0 : Int32)) A k0.toNatClampNeg v0 hs_3) (cwV 1 hts gX4_put_X1_cutToLane rfl rfl rfl (by decide +kernel) ⟨Nat.le_of_ble_eq_true rfl, Nat.le_of_ble_eq_true rfl⟩) (preC1 hs_3 hK hN hP) rfl rfl hl.1 rfl (lv_room (Nat.le_of_ble_eq_true rfl)) dX4_put_62 ⟨Nat.zero_le _, Nat.zero_le _⟩) (fun r_8 er_8 => ?_)
        subst er_8
        refine va_iastN (i := i0.toNatClampNeg) hx hb hK hP hD hS (18 + 2 * k0.toNatClampNeg) 0 (wC_cells hs_3) rfl (by decide) (by omega) dX4_put_65 (fun H locs hP hD hS => ?_)
        rw [wC_put_cells hs_3] at hP hD
        have hP : va_P D vwCl (wC cI cS q N (va_up V 0 (0 : Int32)) (va_up A (18 + 2 * k0.toNatClampNeg) (upd (A (18 + 2 * k0.toNatClampNeg)) i0.toNatClampNeg (s_X1_cutToLane N (va_up V 0 (0 : Int32)) A k0.toNatClampNeg v0)))) H := hP
        have hD : va_D Ar (wC cI cS q N (va_up V 0 (0 : Int32)) (va_up A (18 + 2 * k0.toNatClampNeg) (upd (A (18 + 2 * k0.toNatClampNeg)) i0.toNatClampNeg (s_X1_cutToLane N (va_up V 0 (0 : Int32)) A k0.toNatClampNeg v0)))) := hD
        refine lv_iconst (v := (1)) hx hb dX4_put_66 (by decide) ?_
        have hEE : s_X4_put N V A k0 i0 v0 = ((1 : Int32), N, (va_up V 0 (0 : Int32)), (va_up A (18 + 2 * k0.toNatClampNeg) (upd (A (18 + 2 * k0.toNatClampNeg)) i0.toNatClampNeg (s_X1_cutToLane N (va_up V 0 (0 : Int32)) A k0.toNatClampNeg v0)))) := (by rw [s_X4_put, if_pos c_2, if_neg (nb c_5), if_pos c_7])
        rw [hEE]
        exact W.iret (v := (1 : Int32)) hx hb hr (fun t ht hW => ⟨⟨_, (), rfl, rfl, ⟨by rw [ht]; exact hP, va_K.moved hW.alike hK, hN.warm hW⟩, hD⟩, hS.F ht⟩) hS.2.2 dX4_put_67
      · refine lv_aload_n hx hb dX4_put_47 rfl (lv_at hl 1 rfl) ?_
        refine lv_iconst (v := (3)) hx hb dX4_put_48 (by decide) ?_
        refine callCi (va_runV (As := [.int (3 : Int32)]) (rest := []) ⟨hx, hb, hml, hown, hts⟩ (c_X4_failed l D cI cZ cS q N (va_up V 0 (0 : Int32)) A H.size (3 : Int32)) (cwV 1 hts gX4_put_X4_failed rfl rfl rfl (by decide +kernel) ⟨Nat.le_of_ble_eq_true rfl, Nat.le_of_ble_eq_true rfl⟩) (preCm4 hK hN hP hD) rfl rfl hl.1 rfl (lv_room (Nat.le_of_ble_eq_true rfl)) dX4_put_49 ⟨Nat.zero_le _, Nat.zero_le _⟩) hD hS hA (fun H locs hP hD hS => ?_)
        have hP : va_P D vwCl (wC cI cS q N ((s_X4_failed N (va_up V 0 (0 : Int32)) A (3 : Int32)).2.2.1) A) H := hP
        have hD : va_D Ar (wC cI cS q N ((s_X4_failed N (va_up V 0 (0 : Int32)) A (3 : Int32)).2.2.1) A) := hD
        have hEE : s_X4_put N V A k0 i0 v0 = ((s_X4_failed N (va_up V 0 (0 : Int32)) A (3 : Int32)).1, N, (s_X4_failed N (va_up V 0 (0 : Int32)) A (3 : Int32)).2.2.1, A) := (by rw [s_X4_put, if_pos c_2, if_neg (nb c_5), if_neg (nb c_7)])
        rw [hEE]
        exact W.iret (v := (s_X4_failed N (va_up V 0 (0 : Int32)) A (3 : Int32)).1) hx hb hr (fun t ht hW => ⟨⟨_, (), rfl, rfl, ⟨by rw [ht]; exact hP, va_K.moved hW.alike hK, hN.warm hW⟩, hD⟩, hS.F ht⟩) hS.2.2 dX4_put_52
    · refine lv_aload_n hx hb dX4_put_31 rfl (lv_at hl 1 rfl) ?_
      refine lv_iconst (v := (1)) hx hb dX4_put_32 (by decide) ?_
      refine callCi (va_runV (As := [.int (1 : Int32)]) (rest := []) ⟨hx, hb, hml, hown, hts⟩ (c_X4_failed l D cI cZ cS q N (va_up V 0 (0 : Int32)) A H.size (1 : Int32)) (cwV 1 hts gX4_put_X4_failed rfl rfl rfl (by decide +kernel) ⟨Nat.le_of_ble_eq_true rfl, Nat.le_of_ble_eq_true rfl⟩) (preCm4 hK hN hP hD) rfl rfl hl.1 rfl (lv_room (Nat.le_of_ble_eq_true rfl)) dX4_put_33 ⟨Nat.zero_le _, Nat.zero_le _⟩) hD hS hA (fun H locs hP hD hS => ?_)
      have hP : va_P D vwCl (wC cI cS q N ((s_X4_failed N (va_up V 0 (0 : Int32)) A (1 : Int32)).2.2.1) A) H := hP
      have hD : va_D Ar (wC cI cS q N ((s_X4_failed N (va_up V 0 (0 : Int32)) A (1 : Int32)).2.2.1) A) := hD
      have hEE : s_X4_put N V A k0 i0 v0 = ((s_X4_failed N (va_up V 0 (0 : Int32)) A (1 : Int32)).1, N, (s_X4_failed N (va_up V 0 (0 : Int32)) A (1 : Int32)).2.2.1, A) := (by rw [s_X4_put, if_pos c_2, if_pos c_5])
      rw [hEE]
      exact W.iret (v := (s_X4_failed N (va_up V 0 (0 : Int32)) A (1 : Int32)).1) hx hb hr (fun t ht hW => ⟨⟨_, (), rfl, rfl, ⟨by rw [ht]; exact hP, va_K.moved hW.alike hK, hN.warm hW⟩, hD⟩, hS.F ht⟩) hS.2.2 dX4_put_36
  · refine lv_iconst (v := (-1)) hx hb dX4_put_13 (by decide) ?_
    have hEE : s_X4_put N V A k0 i0 v0 = ((-1 : Int32), N, (va_up V 0 (0 : Int32)), A) := (by rw [s_X4_put, if_neg (nb c_2)])
    rw [hEE]
    exact W.iret (v := (-1 : Int32)) hx hb hr (fun t ht hW => ⟨⟨_, (), rfl, rfl, ⟨by rw [ht]; exact hP, va_K.moved hW.alike hK, hN.warm hW⟩, hD⟩, hS.F ht⟩) hS.2.2 dX4_put_14
def s_X4_cell (N : Nat → Nat) (V : Nat → Int32) (A : Nat → Nat → Int32)  (k0 : Int32) (i0 : Int32) (l0 : Int32) : Int64 × St :=
  if (s_X4_isSheet N (va_up V 0 (0 : Int32)) A k0) = true then
    if (s_X1_isLane N (va_up V 0 (0 : Int32)) A l0) = true then
      if (s_X1_faultAsLane N (va_up V 0 (0 : Int32)) A k0.toNatClampNeg l0) = 0 then
        if (s_X1_hasCells N (va_up V 0 (0 : Int32)) A k0.toNatClampNeg i0 (1 : Int32)) = true then
          ((A (18 + 2 * k0.toNatClampNeg) i0.toNatClampNeg).toInt64, N, (va_up V 0 (0 : Int32)), A)
        else
          ((-9223372036854775808 : Int64), N, (va_up (va_up V 0 (0 : Int32)) 0 (3 : Int32)), A)
      else
        ((-9223372036854775808 : Int64), N, (va_up (va_up V 0 (0 : Int32)) 0 (s_X1_faultAsLane N (va_up V 0 (0 : Int32)) A k0.toNatClampNeg l0)), A)
    else
      ((-9223372036854775808 : Int64), N, (va_up V 0 (0 : Int32)), A)
  else
    ((-9223372036854775808 : Int64), N, (va_up V 0 (0 : Int32)), A)
set_option maxHeartbeats 4000000 in
set_option maxRecDepth 100000 in
theorem c_X4_cell (l : Launch) (D : va_G) (cI cZ cS : ClassId) (q : Nat → Nat) (N : Nat → Nat) (V : Nat → Int32) (A : Nat → Nat → Int32) (sz : Nat) (k0 : Int32) (i0 : Int32) (l0 : Int32) (h_1 : okV V) : Met l yX4_cell wsX4_cell ({ frames := 2, cells := 0, slots := 0, locals := 42 }) (va_Pc [.ref (q 0), .int k0, .int i0, .int l0] (fun U => U.heap.size = sz ∧ PC D cI cZ cS q N V A U ∧ va_D (fun _ => True) (wC cI cS q N V A))) (va_Ql (fun r (_ : Unit) => r = (s_X4_cell N V A k0 i0 l0).1) (fun _ t => PC D cI cZ cS q (s_X4_cell N V A k0 i0 l0).2.1 (s_X4_cell N V A k0 i0 l0).2.2.1 (s_X4_cell N V A k0 i0 l0).2.2.2 t ∧ va_D (va_A (wC cI cS q N V A) sz) (wC cI cS q (s_X4_cell N V A k0 i0 l0).2.1 (s_X4_cell N V A k0 i0 l0).2.2.1 (s_X4_cell N V A k0 i0 l0).2.2.2)) (va_A (wC cI cS q N V A) sz)) 0 0 (va_A (wC cI cS q N V A) sz) := by
  refine Met.ofW (cc := cX4_cell) (maxL := 6) (ret := (some .long)) (by decide) rfl ?_
  intro p e s m args below meth c s₁ B hml hv
  obtain ⟨rfl, hsz, ⟨hP, hK, hN⟩, hD0⟩ := hv
  have hx := B.exec
  have hb := B.bytes
  have hr := B.returns
  have hts := atoms_spec (ws := wsX4_cell) B.pre
  have hown : s.vm.findClass RX4 = some m.cls := findClass_of_methodNamed B.named
  have hlocks := B.notSynchronized
  have hin1 : ∀ w ∈ u_ws RX1 TX1 3, w ∈ wsX4_cell := by decide +kernel
  have hin4 : ∀ w ∈ u_ws RX4 TX4 7, w ∈ wsX4_cell := by decide +kernel
  subst hsz
  have hD := hD0.self (sz := s.heap.size)
  generalize hAe : va_A (wC cI cS q N V A) s.heap.size = Ar at hD ⊢
  have hA : ∀ q : Nat, s.heap.size ≤ q → Ar q := fun q h => by rw [← hAe]; exact Or.inr h
  have hS : va_S Ar s.heap s.heap [] := va_S.rf
  have hl := lv_entry ([.ref (q 0), .int k0, .int i0, .int l0]) (n := 6) (Nat.le_of_ble_eq_true rfl)
  rw [lg_entry_eq]
  generalize (lg_sl ([.ref (q 0), .int k0, .int i0, .int l0]) ++ List.replicate (6 - (lg_sl ([.ref (q 0), .int k0, .int i0, .int l0])).length) Slot.unset).toArray = ls at hl ⊢
  have hl : lv_has ls 6 [(0, .ref (q 0)), (1, .int k0), (2, .int i0), (3, .int l0)] := hl
  refine lv_aload_n hx hb dX4_cell_0 rfl (lv_at hl 0 rfl) ?_
  refine lv_iconst (v := (0)) hx hb dX4_cell_1 (by decide) ?_
  refine va_put (D := D) (ci := 4) (v := .int (0)) (ty := .int) (C := RX4) (T := TX4) (N := 7) hx hb hts hin4 tyX4 tyX4_ok nmX4 hown hK hP hD hS 0 rfl rfl 6 (by decide) (hts (.fieldLink RX4 47 "NeckShip" "latestFault" "I") (by decide +kernel)) (fun _ h9 => h9) rfl (by decide +kernel) rfl rfl (Nat.le_of_ble_eq_true rfl) dX4_cell_2 (fun H locs hP hD hS => ?_)
  have hP : va_P D vwCl (wC cI cS q N (va_up V 0 (0 : Int32)) A) H := hP
  have hD : va_D Ar (wC cI cS q N (va_up V 0 (0 : Int32)) A) := hD
  refine lv_aload_n hx hb dX4_cell_5 rfl (lv_at hl 0 rfl) ?_
  refine lv_iload_n hx hb dX4_cell_6 rfl (lv_at hl 1 rfl) ?_
  refine vp_callSi (W.runV (As := [.int k0]) (rest := []) ⟨hx, hb, hml, hown, hts⟩ (c_X4_isSheet l D cI cZ cS q N (va_up V 0 (0 : Int32)) A k0) (cwV 1 hts gX4_cell_X4_isSheet rfl rfl rfl (by decide +kernel) ⟨Nat.le_of_ble_eq_true rfl, Nat.le_of_ble_eq_true rfl⟩) (preC4 hK hN hP) rfl rfl hl.1 rfl (lv_room (Nat.le_of_ble_eq_true rfl)) dX4_cell_7 ⟨Nat.zero_le _, Nat.zero_le _⟩) (fun r_1 er_1 => ?_)
  subst er_1
  refine lz_if_eq (tgt := 20) hx hb dX4_cell_10 (by decide) (fun c_2 => ?_) (fun c_2 => ?_)
  · refine lv_ldc2 (v := (-9223372036854775808)) hx hb hown (hts (.constantLong RX4 222 (-9223372036854775808)) (by decide +kernel)) dX4_cell_20 ?_
    have hEE : s_X4_cell N V A k0 i0 l0 = ((-9223372036854775808 : Int64), N, (va_up V 0 (0 : Int32)), A) := (by rw [s_X4_cell, if_neg (nb c_2)])
    rw [hEE]
    exact W.lret (v := (-9223372036854775808 : Int64)) hx hb hr (fun t ht hW => ⟨⟨_, (), rfl, rfl, ⟨by rw [ht]; exact hP, va_K.moved hW.alike hK, hN.warm hW⟩, hD⟩, hS.F ht⟩) hS.2.2 dX4_cell_23
  · obtain ⟨hlt_k0, heq_k0⟩ := isSheet_t c_2
    have hl : lv_has ls 6 [(0, .ref (q 0)), (1, .int (nI k0.toNatClampNeg)), (2, .int i0), (3, .int l0)] := by rw [heq_k0]; exact hl
    refine lv_iload_n hx hb dX4_cell_13 rfl (lv_at hl 3 rfl) ?_
    refine vp_callSi (W.runS (As := [.int l0]) (rest := []) ⟨hx, hb, hml, hown, hts⟩ (c_X1_isLane l D cI cZ cS q N (va_up V 0 (0 : Int32)) A l0) (va_cwS 1 hts gX4_cell_X1_isLane rfl rfl rfl (by decide +kernel) ⟨Nat.le_of_ble_eq_true rfl, Nat.le_of_ble_eq_true rfl⟩) (preCS hK hN hP) rfl rfl hl.1 rfl (lv_room (Nat.le_of_ble_eq_true rfl)) dX4_cell_14 ⟨Nat.zero_le _, Nat.zero_le _⟩) (fun r_3 er_3 => ?_)
    subst er_3
    refine lz_if_ne (tgt := 24) hx hb dX4_cell_17 (by decide) (fun c_4 => ?_) (fun c_4 => ?_)
    · refine lv_aload_n hx hb dX4_cell_24 rfl (lv_at hl 0 rfl) ?_
      refine va_get (D := D) (ci := 4) (v := .ref (q 16)) (C := RX4) (T := TX4) (N := 7) hx hb hts hin4 hown hK hP 0 rfl rfl 3 (by decide) (hts (.fieldLink RX4 32 "NeckShip" "sheets" "[LNeckShip$Sheet;") (by decide +kernel)) (fun _ h9 => h9) rfl dX4_cell_25 ?_
      refine lv_iload_n hx hb dX4_cell_28 rfl (lv_at hl 1 rfl) ?_
      have hs_5 : k0.toNatClampNeg < 4 := (by omega)
      refine va_shN hs_5 hx hb hK hP dX4_cell_29 ?_
      refine lv_astore (lv' := [(4, .ref (q (17 + 2 * k0.toNatClampNeg))), (0, .ref (q 0)), (1, .int (nI k0.toNatClampNeg)), (2, .int i0), (3, .int l0)]) hx hb dX4_cell_30 hl (by decide) rfl (fun ls hl => ?_)
      refine lv_aload hx hb dX4_cell_32 (lv_at hl 0 rfl) ?_
      refine lv_iload_n hx hb dX4_cell_34 rfl (lv_at hl 4 rfl) ?_
      refine vp_callSi (W.runV (As := [.int l0]) (rest := []) ⟨hx, hb, hml, hown, hts⟩ (c_X1_faultAsLane l D cI cZ cS q N (va_up V 0 (0 : Int32)) A k0.toNatClampNeg l0 hs_5) (cwV 1 hts gX4_cell_X1_faultAsLane rfl rfl rfl (by decide +kernel) ⟨Nat.le_of_ble_eq_true rfl, Nat.le_of_ble_eq_true rfl⟩) (preC1 hs_5 hK hN hP) rfl rfl hl.1 rfl (lv_room (Nat.le_of_ble_eq_true rfl)) dX4_cell_35 ⟨Nat.zero_le _, Nat.zero_le _⟩) (fun r_6 er_6 => ?_)
      subst er_6
      refine lv_istore (lv' := [(5, .int (s_X1_faultAsLane N (va_up V 0 (0 : Int32)) A k0.toNatClampNeg l0)), (4, .ref (q (17 + 2 * k0.toNatClampNeg))), (0, .ref (q 0)), (1, .int (nI k0.toNatClampNeg)), (2, .int i0), (3, .int l0)]) hx hb dX4_cell_38 hl (by decide) rfl (fun ls hl => ?_)
      refine lv_iload hx hb dX4_cell_40 (lv_at hl 0 rfl) ?_
      refine lv_if_ne (tgt := 58) hx hb dX4_cell_42 (by decide) (fun c_7 => ?_) (fun c_7 => ?_)
      · have hnz := c_7
        refine lv_iload hx hb dX4_cell_58 (lv_at hl 0 rfl) ?_
        refine lv_if_eq (tgt := 73) hx hb dX4_cell_60 (by decide) (fun c_8 => absurd c_8 hnz) (fun _ => ?_)
        refine lv_aload_n hx hb dX4_cell_63 rfl (lv_at hl 2 rfl) ?_
        refine lv_iload hx hb dX4_cell_64 (lv_at hl 0 rfl) ?_
        refine va_put (D := D) (ci := 4) (v := .int (s_X1_faultAsLane N (va_up V 0 (0 : Int32)) A k0.toNatClampNeg l0)) (ty := .int) (C := RX4) (T := TX4) (N := 7) hx hb hts hin4 tyX4 tyX4_ok nmX4 hown hK hP hD hS 0 rfl rfl 6 (by decide) (hts (.fieldLink RX4 47 "NeckShip" "latestFault" "I") (by decide +kernel)) (fun _ h9 => h9) rfl (by decide +kernel) rfl rfl (Nat.le_of_ble_eq_true rfl) dX4_cell_66 (fun H locs hP hD hS => ?_)
        have hP : va_P D vwCl (wC cI cS q N (va_up (va_up V 0 (0 : Int32)) 0 (s_X1_faultAsLane N (va_up V 0 (0 : Int32)) A k0.toNatClampNeg l0)) A) H := hP
        have hD : va_D Ar (wC cI cS q N (va_up (va_up V 0 (0 : Int32)) 0 (s_X1_faultAsLane N (va_up V 0 (0 : Int32)) A k0.toNatClampNeg l0)) A) := hD
        refine lv_ldc2 (v := (-9223372036854775808)) hx hb hown (hts (.constantLong RX4 222 (-9223372036854775808)) (by decide +kernel)) dX4_cell_69 ?_
        have hEE : s_X4_cell N V A k0 i0 l0 = ((-9223372036854775808 : Int64), N, (va_up (va_up V 0 (0 : Int32)) 0 (s_X1_faultAsLane N (va_up V 0 (0 : Int32)) A k0.toNatClampNeg l0)), A) := (by rw [s_X4_cell, if_pos c_2, if_pos c_4, if_neg c_7])
        rw [hEE]
        exact W.lret (v := (-9223372036854775808 : Int64)) hx hb hr (fun t ht hW => ⟨⟨_, (), rfl, rfl, ⟨by rw [ht]; exact hP, va_K.moved hW.alike hK, hN.warm hW⟩, hD⟩, hS.F ht⟩) hS.2.2 dX4_cell_72
      · have hnz := c_7
        refine lv_aload hx hb dX4_cell_45 (lv_at hl 1 rfl) ?_
        refine lv_iload_n hx hb dX4_cell_47 rfl (lv_at hl 4 rfl) ?_
        refine lv_iconst (v := (1)) hx hb dX4_cell_48 (by decide) ?_
        refine vp_callSi (W.runV (As := [.int i0, .int (1 : Int32)]) (rest := []) ⟨hx, hb, hml, hown, hts⟩ (c_X1_hasCells l D cI cZ cS q N (va_up V 0 (0 : Int32)) A k0.toNatClampNeg i0 (1 : Int32) hs_5) (cwV 2 hts gX4_cell_X1_hasCells rfl rfl rfl (by decide +kernel) ⟨Nat.le_of_ble_eq_true rfl, Nat.le_of_ble_eq_true rfl⟩) (preC1 hs_5 hK hN hP) rfl rfl hl.1 rfl (lv_room (Nat.le_of_ble_eq_true rfl)) dX4_cell_49 ⟨Nat.zero_le _, Nat.zero_le _⟩) (fun r_9 er_9 => ?_)
        subst er_9
        refine lz_if_ne (tgt := 58) hx hb dX4_cell_52 (by decide) (fun c_10 => ?_) (fun c_10 => ?_)
        · obtain ⟨hlt_i0, heq_i0⟩ := hasCells_1 (okV_0 h_1 0 _ (by omega)) c_10
          have hl : lv_has ls 6 [(5, .int (s_X1_faultAsLane N (va_up V 0 (0 : Int32)) A k0.toNatClampNeg l0)), (4, .ref (q (17 + 2 * k0.toNatClampNeg))), (0, .ref (q 0)), (1, .int (nI k0.toNatClampNeg)), (2, .int (nI i0.toNatClampNeg)), (3, .int l0)] := by rw [heq_i0]; exact hl
          refine lv_iload hx hb dX4_cell_58 (lv_at hl 0 rfl) ?_
          refine lv_if_eq (tgt := 73) hx hb dX4_cell_60 (by decide) (fun _ => ?_) (fun c_11 => absurd hnz c_11)
          refine lv_aload hx hb dX4_cell_73 (lv_at hl 1 rfl) ?_
          refine va_get (D := D) (ci := 1) (v := .ref (q (18 + 2 * k0.toNatClampNeg))) (C := RX1) (T := TX1) (N := 3) hx hb hts hin1 hown hK hP (17 + 2 * k0.toNatClampNeg) (wC_sheet hs_5) rfl 0 (by decide) (hts (.fieldLink RX4 86 "NeckShip$Sheet" "cells" "[I") (by decide +kernel)) (fun _ h9 => h9) rfl dX4_cell_75 ?_
          refine lv_iload_n hx hb dX4_cell_78 rfl (lv_at hl 4 rfl) ?_
          refine va_ialdN (i := i0.toNatClampNeg) hx hb hK hP (18 + 2 * k0.toNatClampNeg) 0 (wC_cells hs_5) rfl (by decide) (by omega) dX4_cell_79 ?_
          refine lv_i2l (v := (A (18 + 2 * k0.toNatClampNeg) i0.toNatClampNeg).toInt64) hx hb dX4_cell_80 rfl ?_
          have hEE : s_X4_cell N V A k0 i0 l0 = ((A (18 + 2 * k0.toNatClampNeg) i0.toNatClampNeg).toInt64, N, (va_up V 0 (0 : Int32)), A) := (by rw [s_X4_cell, if_pos c_2, if_pos c_4, if_pos c_7, if_pos c_10])
          rw [hEE]
          exact W.lret (v := (A (18 + 2 * k0.toNatClampNeg) i0.toNatClampNeg).toInt64) hx hb hr (fun t ht hW => ⟨⟨_, (), rfl, rfl, ⟨by rw [ht]; exact hP, va_K.moved hW.alike hK, hN.warm hW⟩, hD⟩, hS.F ht⟩) hS.2.2 dX4_cell_81
        · refine lv_iconst (v := (3)) hx hb dX4_cell_55 (by decide) ?_
          refine lv_istore (lv' := [(5, .int (3)), (4, .ref (q (17 + 2 * k0.toNatClampNeg))), (0, .ref (q 0)), (1, .int (nI k0.toNatClampNeg)), (2, .int i0), (3, .int l0)]) hx hb dX4_cell_56 hl (by decide) rfl (fun ls hl => ?_)
          refine lv_iload hx hb dX4_cell_58 (lv_at hl 0 rfl) ?_
          refine lv_if_eq (tgt := 73) hx hb dX4_cell_60 (by decide) (fun c_12 => absurd c_12 (by decide)) (fun _ => ?_)
          refine lv_aload_n hx hb dX4_cell_63 rfl (lv_at hl 2 rfl) ?_
          refine lv_iload hx hb dX4_cell_64 (lv_at hl 0 rfl) ?_
          refine va_put (D := D) (ci := 4) (v := .int (3)) (ty := .int) (C := RX4) (T := TX4) (N := 7) hx hb hts hin4 tyX4 tyX4_ok nmX4 hown hK hP hD hS 0 rfl rfl 6 (by decide) (hts (.fieldLink RX4 47 "NeckShip" "latestFault" "I") (by decide +kernel)) (fun _ h9 => h9) rfl (by decide +kernel) rfl rfl (Nat.le_of_ble_eq_true rfl) dX4_cell_66 (fun H locs hP hD hS => ?_)
          have hP : va_P D vwCl (wC cI cS q N (va_up (va_up V 0 (0 : Int32)) 0 (3 : Int32)) A) H := hP
          have hD : va_D Ar (wC cI cS q N (va_up (va_up V 0 (0 : Int32)) 0 (3 : Int32)) A) := hD
          refine lv_ldc2 (v := (-9223372036854775808)) hx hb hown (hts (.constantLong RX4 222 (-9223372036854775808)) (by decide +kernel)) dX4_cell_69 ?_
          have hEE : s_X4_cell N V A k0 i0 l0 = ((-9223372036854775808 : Int64), N, (va_up (va_up V 0 (0 : Int32)) 0 (3 : Int32)), A) := (by rw [s_X4_cell, if_pos c_2, if_pos c_4, if_pos c_7, if_neg (nb c_10)])
          rw [hEE]
          exact W.lret (v := (-9223372036854775808 : Int64)) hx hb hr (fun t ht hW => ⟨⟨_, (), rfl, rfl, ⟨by rw [ht]; exact hP, va_K.moved hW.alike hK, hN.warm hW⟩, hD⟩, hS.F ht⟩) hS.2.2 dX4_cell_72
    · refine lv_ldc2 (v := (-9223372036854775808)) hx hb hown (hts (.constantLong RX4 222 (-9223372036854775808)) (by decide +kernel)) dX4_cell_20 ?_
      have hEE : s_X4_cell N V A k0 i0 l0 = ((-9223372036854775808 : Int64), N, (va_up V 0 (0 : Int32)), A) := (by rw [s_X4_cell, if_pos c_2, if_neg (nb c_4)])
      rw [hEE]
      exact W.lret (v := (-9223372036854775808 : Int64)) hx hb hr (fun t ht hW => ⟨⟨_, (), rfl, rfl, ⟨by rw [ht]; exact hP, va_K.moved hW.alike hK, hN.warm hW⟩, hD⟩, hS.F ht⟩) hS.2.2 dX4_cell_23
def s_X4_copy (N : Nat → Nat) (V : Nat → Int32) (A : Nat → Nat → Int32)  (k0 : Int32) (i0 : Int32) (o0 : Int32) (j0 : Int32) (n0 : Int32) : Int32 × St :=
  if (s_X4_isSheet N (va_up V 0 (0 : Int32)) A k0) = true then
    if (s_X4_isSheet N (va_up V 0 (0 : Int32)) A o0) = true then
      if (s_X1_hasNothing N (va_up V 0 (0 : Int32)) A k0.toNatClampNeg) = true then
        ((s_X4_failed N (va_up V 0 (0 : Int32)) A (1 : Int32)).1, N, (s_X4_failed N (va_up V 0 (0 : Int32)) A (1 : Int32)).2.2.1, A)
      else
        if (s_X1_hasNothing N (va_up V 0 (0 : Int32)) A o0.toNatClampNeg) = true then
          ((s_X4_failed N (va_up V 0 (0 : Int32)) A (1 : Int32)).1, N, (s_X4_failed N (va_up V 0 (0 : Int32)) A (1 : Int32)).2.2.1, A)
        else
          if (va_up V 0 (0 : Int32)) (5 + k0.toNatClampNeg) = (va_up V 0 (0 : Int32)) (5 + o0.toNatClampNeg) then
            if (s_X1_hasCells N (va_up V 0 (0 : Int32)) A k0.toNatClampNeg i0 n0) = true then
              if (s_X1_hasCells N (va_up V 0 (0 : Int32)) A o0.toNatClampNeg j0 n0) = true then
                (n0, N, (va_up V 0 (0 : Int32)), (va_up A (18 + 2 * o0.toNatClampNeg) (va_cpy (A (18 + 2 * k0.toNatClampNeg)) (A (18 + 2 * o0.toNatClampNeg)) i0.toNatClampNeg j0.toNatClampNeg n0.toNatClampNeg)))
              else
                ((s_X4_failed N (va_up V 0 (0 : Int32)) A (3 : Int32)).1, N, (s_X4_failed N (va_up V 0 (0 : Int32)) A (3 : Int32)).2.2.1, A)
            else
              ((s_X4_failed N (va_up V 0 (0 : Int32)) A (3 : Int32)).1, N, (s_X4_failed N (va_up V 0 (0 : Int32)) A (3 : Int32)).2.2.1, A)
          else
            ((s_X4_failed N (va_up V 0 (0 : Int32)) A (2 : Int32)).1, N, (s_X4_failed N (va_up V 0 (0 : Int32)) A (2 : Int32)).2.2.1, A)
    else
      ((-1 : Int32), N, (va_up V 0 (0 : Int32)), A)
  else
    ((-1 : Int32), N, (va_up V 0 (0 : Int32)), A)
set_option maxHeartbeats 4000000 in
set_option maxRecDepth 100000 in
theorem c_X4_copy (l : Launch) (D : va_G) (cI cZ cS : ClassId) (q : Nat → Nat) (N : Nat → Nat) (V : Nat → Int32) (A : Nat → Nat → Int32) (sz : Nat) (k0 : Int32) (i0 : Int32) (o0 : Int32) (j0 : Int32) (n0 : Int32) (h_1 : okV V) : Met l yX4_copy wsX4_copy ({ frames := 1, cells := 0, slots := 0, locals := 80 }) (va_Pc [.ref (q 0), .int k0, .int i0, .int o0, .int j0, .int n0] (fun U => U.heap.size = sz ∧ PC D cI cZ cS q N V A U ∧ va_D (fun _ => True) (wC cI cS q N V A))) (va_Qi (fun r (_ : Unit) => r = (s_X4_copy N V A k0 i0 o0 j0 n0).1) (fun _ t => PC D cI cZ cS q (s_X4_copy N V A k0 i0 o0 j0 n0).2.1 (s_X4_copy N V A k0 i0 o0 j0 n0).2.2.1 (s_X4_copy N V A k0 i0 o0 j0 n0).2.2.2 t ∧ va_D (va_A (wC cI cS q N V A) sz) (wC cI cS q (s_X4_copy N V A k0 i0 o0 j0 n0).2.1 (s_X4_copy N V A k0 i0 o0 j0 n0).2.2.1 (s_X4_copy N V A k0 i0 o0 j0 n0).2.2.2)) (va_A (wC cI cS q N V A) sz)) 0 0 (va_A (wC cI cS q N V A) sz) := by
  refine Met.ofW (cc := cX4_copy) (maxL := 8) (ret := (some .int)) (by decide) rfl ?_
  intro p e s m args below meth c s₁ B hml hv
  obtain ⟨rfl, hsz, ⟨hP, hK, hN⟩, hD0⟩ := hv
  have hx := B.exec
  have hb := B.bytes
  have hr := B.returns
  have hts := atoms_spec (ws := wsX4_copy) B.pre
  have hown : s.vm.findClass RX4 = some m.cls := findClass_of_methodNamed B.named
  have hlocks := B.notSynchronized
  have hin1 : ∀ w ∈ u_ws RX1 TX1 3, w ∈ wsX4_copy := by decide +kernel
  have hin4 : ∀ w ∈ u_ws RX4 TX4 7, w ∈ wsX4_copy := by decide +kernel
  subst hsz
  have hD := hD0.self (sz := s.heap.size)
  generalize hAe : va_A (wC cI cS q N V A) s.heap.size = Ar at hD ⊢
  have hA : ∀ q : Nat, s.heap.size ≤ q → Ar q := fun q h => by rw [← hAe]; exact Or.inr h
  have hS : va_S Ar s.heap s.heap [] := va_S.rf
  have hl := lv_entry ([.ref (q 0), .int k0, .int i0, .int o0, .int j0, .int n0]) (n := 8) (Nat.le_of_ble_eq_true rfl)
  rw [lg_entry_eq]
  generalize (lg_sl ([.ref (q 0), .int k0, .int i0, .int o0, .int j0, .int n0]) ++ List.replicate (8 - (lg_sl ([.ref (q 0), .int k0, .int i0, .int o0, .int j0, .int n0])).length) Slot.unset).toArray = ls at hl ⊢
  have hl : lv_has ls 8 [(0, .ref (q 0)), (1, .int k0), (2, .int i0), (3, .int o0), (4, .int j0), (5, .int n0)] := hl
  refine lv_aload_n hx hb dX4_copy_0 rfl (lv_at hl 0 rfl) ?_
  refine lv_iconst (v := (0)) hx hb dX4_copy_1 (by decide) ?_
  refine va_put (D := D) (ci := 4) (v := .int (0)) (ty := .int) (C := RX4) (T := TX4) (N := 7) hx hb hts hin4 tyX4 tyX4_ok nmX4 hown hK hP hD hS 0 rfl rfl 6 (by decide) (hts (.fieldLink RX4 47 "NeckShip" "latestFault" "I") (by decide +kernel)) (fun _ h9 => h9) rfl (by decide +kernel) rfl rfl (Nat.le_of_ble_eq_true rfl) dX4_copy_2 (fun H locs hP hD hS => ?_)
  have hP : va_P D vwCl (wC cI cS q N (va_up V 0 (0 : Int32)) A) H := hP
  have hD : va_D Ar (wC cI cS q N (va_up V 0 (0 : Int32)) A) := hD
  refine lv_aload_n hx hb dX4_copy_5 rfl (lv_at hl 0 rfl) ?_
  refine lv_iload_n hx hb dX4_copy_6 rfl (lv_at hl 1 rfl) ?_
  refine vp_callSi (W.runV (As := [.int k0]) (rest := []) ⟨hx, hb, hml, hown, hts⟩ (c_X4_isSheet l D cI cZ cS q N (va_up V 0 (0 : Int32)) A k0) (cwV 1 hts gX4_copy_X4_isSheet rfl rfl rfl (by decide +kernel) ⟨Nat.le_of_ble_eq_true rfl, Nat.le_of_ble_eq_true rfl⟩) (preC4 hK hN hP) rfl rfl hl.1 rfl (lv_room (Nat.le_of_ble_eq_true rfl)) dX4_copy_7 ⟨Nat.zero_le _, Nat.zero_le _⟩) (fun r_1 er_1 => ?_)
  subst er_1
  refine lz_if_eq (tgt := 21) hx hb dX4_copy_10 (by decide) (fun c_2 => ?_) (fun c_2 => ?_)
  · refine lv_iconst (v := (-1)) hx hb dX4_copy_21 (by decide) ?_
    have hEE : s_X4_copy N V A k0 i0 o0 j0 n0 = ((-1 : Int32), N, (va_up V 0 (0 : Int32)), A) := (by rw [s_X4_copy, if_neg (nb c_2)])
    rw [hEE]
    exact W.iret (v := (-1 : Int32)) hx hb hr (fun t ht hW => ⟨⟨_, (), rfl, rfl, ⟨by rw [ht]; exact hP, va_K.moved hW.alike hK, hN.warm hW⟩, hD⟩, hS.F ht⟩) hS.2.2 dX4_copy_22
  · obtain ⟨hlt_k0, heq_k0⟩ := isSheet_t c_2
    have hl : lv_has ls 8 [(0, .ref (q 0)), (1, .int (nI k0.toNatClampNeg)), (2, .int i0), (3, .int o0), (4, .int j0), (5, .int n0)] := by rw [heq_k0]; exact hl
    refine lv_aload_n hx hb dX4_copy_13 rfl (lv_at hl 0 rfl) ?_
    refine lv_iload_n hx hb dX4_copy_14 rfl (lv_at hl 3 rfl) ?_
    refine vp_callSi (W.runV (As := [.int o0]) (rest := []) ⟨hx, hb, hml, hown, hts⟩ (c_X4_isSheet l D cI cZ cS q N (va_up V 0 (0 : Int32)) A o0) (cwV 1 hts gX4_copy_X4_isSheet rfl rfl rfl (by decide +kernel) ⟨Nat.le_of_ble_eq_true rfl, Nat.le_of_ble_eq_true rfl⟩) (preC4 hK hN hP) rfl rfl hl.1 rfl (lv_room (Nat.le_of_ble_eq_true rfl)) dX4_copy_15 ⟨Nat.zero_le _, Nat.zero_le _⟩) (fun r_3 er_3 => ?_)
    subst er_3
    refine lz_if_ne (tgt := 23) hx hb dX4_copy_18 (by decide) (fun c_4 => ?_) (fun c_4 => ?_)
    · obtain ⟨hlt_o0, heq_o0⟩ := isSheet_t c_4
      have hl : lv_has ls 8 [(0, .ref (q 0)), (1, .int (nI k0.toNatClampNeg)), (2, .int i0), (3, .int (nI o0.toNatClampNeg)), (4, .int j0), (5, .int n0)] := by rw [heq_o0]; exact hl
      refine lv_aload_n hx hb dX4_copy_23 rfl (lv_at hl 0 rfl) ?_
      refine va_get (D := D) (ci := 4) (v := .ref (q 16)) (C := RX4) (T := TX4) (N := 7) hx hb hts hin4 hown hK hP 0 rfl rfl 3 (by decide) (hts (.fieldLink RX4 32 "NeckShip" "sheets" "[LNeckShip$Sheet;") (by decide +kernel)) (fun _ h9 => h9) rfl dX4_copy_24 ?_
      refine lv_iload_n hx hb dX4_copy_27 rfl (lv_at hl 1 rfl) ?_
      have hs_5 : k0.toNatClampNeg < 4 := (by omega)
      refine va_shN hs_5 hx hb hK hP dX4_copy_28 ?_
      refine lv_astore (lv' := [(6, .ref (q (17 + 2 * k0.toNatClampNeg))), (0, .ref (q 0)), (1, .int (nI k0.toNatClampNeg)), (2, .int i0), (3, .int (nI o0.toNatClampNeg)), (4, .int j0), (5, .int n0)]) hx hb dX4_copy_29 hl (by decide) rfl (fun ls hl => ?_)
      refine lv_aload_n hx hb dX4_copy_31 rfl (lv_at hl 1 rfl) ?_
      refine va_get (D := D) (ci := 4) (v := .ref (q 16)) (C := RX4) (T := TX4) (N := 7) hx hb hts hin4 hown hK hP 0 rfl rfl 3 (by decide) (hts (.fieldLink RX4 32 "NeckShip" "sheets" "[LNeckShip$Sheet;") (by decide +kernel)) (fun _ h9 => h9) rfl dX4_copy_32 ?_
      refine lv_iload_n hx hb dX4_copy_35 rfl (lv_at hl 4 rfl) ?_
      have hs_6 : o0.toNatClampNeg < 4 := (by omega)
      refine va_shN hs_6 hx hb hK hP dX4_copy_36 ?_
      refine lv_astore (lv' := [(7, .ref (q (17 + 2 * o0.toNatClampNeg))), (6, .ref (q (17 + 2 * k0.toNatClampNeg))), (0, .ref (q 0)), (1, .int (nI k0.toNatClampNeg)), (2, .int i0), (3, .int (nI o0.toNatClampNeg)), (4, .int j0), (5, .int n0)]) hx hb dX4_copy_37 hl (by decide) rfl (fun ls hl => ?_)
      refine lv_aload hx hb dX4_copy_39 (lv_at hl 1 rfl) ?_
      refine vp_callSi (W.runV (As := []) (rest := []) ⟨hx, hb, hml, hown, hts⟩ (c_X1_hasNothing l D cI cZ cS q N (va_up V 0 (0 : Int32)) A k0.toNatClampNeg hs_5) (cwV 0 hts gX4_copy_X1_hasNothing rfl rfl rfl (by decide +kernel) ⟨Nat.le_of_ble_eq_true rfl, Nat.le_of_ble_eq_true rfl⟩) (preC1 hs_5 hK hN hP) rfl rfl hl.1 rfl (lv_room (Nat.le_of_ble_eq_true rfl)) dX4_copy_41 ⟨Nat.zero_le _, Nat.zero_le _⟩) (fun r_7 er_7 => ?_)
      subst er_7
      refine lz_if_ne (tgt := 55) hx hb dX4_copy_44 (by decide) (fun c_8 => ?_) (fun c_8 => ?_)
      · refine lv_aload_n hx hb dX4_copy_55 rfl (lv_at hl 2 rfl) ?_
        refine lv_iconst (v := (1)) hx hb dX4_copy_56 (by decide) ?_
        refine callCi (va_runV (As := [.int (1 : Int32)]) (rest := []) ⟨hx, hb, hml, hown, hts⟩ (c_X4_failed l D cI cZ cS q N (va_up V 0 (0 : Int32)) A H.size (1 : Int32)) (cwV 1 hts gX4_copy_X4_failed rfl rfl rfl (by decide +kernel) ⟨Nat.le_of_ble_eq_true rfl, Nat.le_of_ble_eq_true rfl⟩) (preCm4 hK hN hP hD) rfl rfl hl.1 rfl (lv_room (Nat.le_of_ble_eq_true rfl)) dX4_copy_57 ⟨Nat.zero_le _, Nat.zero_le _⟩) hD hS hA (fun H locs hP hD hS => ?_)
        have hP : va_P D vwCl (wC cI cS q N ((s_X4_failed N (va_up V 0 (0 : Int32)) A (1 : Int32)).2.2.1) A) H := hP
        have hD : va_D Ar (wC cI cS q N ((s_X4_failed N (va_up V 0 (0 : Int32)) A (1 : Int32)).2.2.1) A) := hD
        have hEE : s_X4_copy N V A k0 i0 o0 j0 n0 = ((s_X4_failed N (va_up V 0 (0 : Int32)) A (1 : Int32)).1, N, (s_X4_failed N (va_up V 0 (0 : Int32)) A (1 : Int32)).2.2.1, A) := (by rw [s_X4_copy, if_pos c_2, if_pos c_4, if_pos c_8])
        rw [hEE]
        exact W.iret (v := (s_X4_failed N (va_up V 0 (0 : Int32)) A (1 : Int32)).1) hx hb hr (fun t ht hW => ⟨⟨_, (), rfl, rfl, ⟨by rw [ht]; exact hP, va_K.moved hW.alike hK, hN.warm hW⟩, hD⟩, hS.F ht⟩) hS.2.2 dX4_copy_60
      · refine lv_aload hx hb dX4_copy_47 (lv_at hl 0 rfl) ?_
        refine vp_callSi (W.runV (As := []) (rest := []) ⟨hx, hb, hml, hown, hts⟩ (c_X1_hasNothing l D cI cZ cS q N (va_up V 0 (0 : Int32)) A o0.toNatClampNeg hs_6) (cwV 0 hts gX4_copy_X1_hasNothing rfl rfl rfl (by decide +kernel) ⟨Nat.le_of_ble_eq_true rfl, Nat.le_of_ble_eq_true rfl⟩) (preC1 hs_6 hK hN hP) rfl rfl hl.1 rfl (lv_room (Nat.le_of_ble_eq_true rfl)) dX4_copy_49 ⟨Nat.zero_le _, Nat.zero_le _⟩) (fun r_9 er_9 => ?_)
        subst er_9
        refine lz_if_eq (tgt := 61) hx hb dX4_copy_52 (by decide) (fun c_10 => ?_) (fun c_10 => ?_)
        · refine lv_aload hx hb dX4_copy_61 (lv_at hl 1 rfl) ?_
          refine va_get (D := D) (ci := 1) (v := .int ((va_up V 0 (0 : Int32)) (5 + k0.toNatClampNeg))) (C := RX1) (T := TX1) (N := 3) hx hb hts hin1 hown hK hP (17 + 2 * k0.toNatClampNeg) (wC_sheet hs_5) rfl 1 (by decide) (hts (.fieldLink RX4 227 "NeckShip$Sheet" "lane" "I") (by decide +kernel)) (fun _ h9 => h9) rfl dX4_copy_63 ?_
          refine lv_aload hx hb dX4_copy_66 (lv_at hl 0 rfl) ?_
          refine va_get (D := D) (ci := 1) (v := .int ((va_up V 0 (0 : Int32)) (5 + o0.toNatClampNeg))) (C := RX1) (T := TX1) (N := 3) hx hb hts hin1 hown hK hP (17 + 2 * o0.toNatClampNeg) (wC_sheet hs_6) rfl 1 (by decide) (hts (.fieldLink RX4 227 "NeckShip$Sheet" "lane" "I") (by decide +kernel)) (fun _ h9 => h9) rfl dX4_copy_68 ?_
          refine lv_icmp_eq (tgt := 80) hx hb dX4_copy_71 (by decide) (fun c_11 => ?_) (fun c_11 => ?_)
          · refine lv_aload hx hb dX4_copy_80 (lv_at hl 1 rfl) ?_
            refine lv_iload_n hx hb dX4_copy_82 rfl (lv_at hl 4 rfl) ?_
            refine lv_iload hx hb dX4_copy_83 (lv_at hl 7 rfl) ?_
            refine vp_callSi (W.runV (As := [.int i0, .int n0]) (rest := []) ⟨hx, hb, hml, hown, hts⟩ (c_X1_hasCells l D cI cZ cS q N (va_up V 0 (0 : Int32)) A k0.toNatClampNeg i0 n0 hs_5) (cwV 2 hts gX4_copy_X1_hasCells rfl rfl rfl (by decide +kernel) ⟨Nat.le_of_ble_eq_true rfl, Nat.le_of_ble_eq_true rfl⟩) (preC1 hs_5 hK hN hP) rfl rfl hl.1 rfl (lv_room (Nat.le_of_ble_eq_true rfl)) dX4_copy_85 ⟨Nat.zero_le _, Nat.zero_le _⟩) (fun r_12 er_12 => ?_)
            subst er_12
            refine lz_if_eq (tgt := 103) hx hb dX4_copy_88 (by decide) (fun c_13 => ?_) (fun c_13 => ?_)
            · refine lv_aload_n hx hb dX4_copy_103 rfl (lv_at hl 2 rfl) ?_
              refine lv_iconst (v := (3)) hx hb dX4_copy_104 (by decide) ?_
              refine callCi (va_runV (As := [.int (3 : Int32)]) (rest := []) ⟨hx, hb, hml, hown, hts⟩ (c_X4_failed l D cI cZ cS q N (va_up V 0 (0 : Int32)) A H.size (3 : Int32)) (cwV 1 hts gX4_copy_X4_failed rfl rfl rfl (by decide +kernel) ⟨Nat.le_of_ble_eq_true rfl, Nat.le_of_ble_eq_true rfl⟩) (preCm4 hK hN hP hD) rfl rfl hl.1 rfl (lv_room (Nat.le_of_ble_eq_true rfl)) dX4_copy_105 ⟨Nat.zero_le _, Nat.zero_le _⟩) hD hS hA (fun H locs hP hD hS => ?_)
              have hP : va_P D vwCl (wC cI cS q N ((s_X4_failed N (va_up V 0 (0 : Int32)) A (3 : Int32)).2.2.1) A) H := hP
              have hD : va_D Ar (wC cI cS q N ((s_X4_failed N (va_up V 0 (0 : Int32)) A (3 : Int32)).2.2.1) A) := hD
              have hEE : s_X4_copy N V A k0 i0 o0 j0 n0 = ((s_X4_failed N (va_up V 0 (0 : Int32)) A (3 : Int32)).1, N, (s_X4_failed N (va_up V 0 (0 : Int32)) A (3 : Int32)).2.2.1, A) := (by rw [s_X4_copy, if_pos c_2, if_pos c_4, if_neg (nb c_8), if_neg (nb c_10), if_pos c_11, if_neg (nb c_13)])
              rw [hEE]
              exact W.iret (v := (s_X4_failed N (va_up V 0 (0 : Int32)) A (3 : Int32)).1) hx hb hr (fun t ht hW => ⟨⟨_, (), rfl, rfl, ⟨by rw [ht]; exact hP, va_K.moved hW.alike hK, hN.warm hW⟩, hD⟩, hS.F ht⟩) hS.2.2 dX4_copy_108
            · have hc1 := hasCells_n (okV_0 h_1 0 _ (by omega)) c_13
              refine lv_aload hx hb dX4_copy_91 (lv_at hl 0 rfl) ?_
              refine lv_iload hx hb dX4_copy_93 (lv_at hl 6 rfl) ?_
              refine lv_iload hx hb dX4_copy_95 (lv_at hl 7 rfl) ?_
              refine vp_callSi (W.runV (As := [.int j0, .int n0]) (rest := []) ⟨hx, hb, hml, hown, hts⟩ (c_X1_hasCells l D cI cZ cS q N (va_up V 0 (0 : Int32)) A o0.toNatClampNeg j0 n0 hs_6) (cwV 2 hts gX4_copy_X1_hasCells rfl rfl rfl (by decide +kernel) ⟨Nat.le_of_ble_eq_true rfl, Nat.le_of_ble_eq_true rfl⟩) (preC1 hs_6 hK hN hP) rfl rfl hl.1 rfl (lv_room (Nat.le_of_ble_eq_true rfl)) dX4_copy_97 ⟨Nat.zero_le _, Nat.zero_le _⟩) (fun r_14 er_14 => ?_)
              subst er_14
              refine lz_if_ne (tgt := 109) hx hb dX4_copy_100 (by decide) (fun c_15 => ?_) (fun c_15 => ?_)
              · have hc2 := hasCells_n (okV_0 h_1 0 _ (by omega)) c_15
                refine lv_aload hx hb dX4_copy_109 (lv_at hl 1 rfl) ?_
                refine va_get (D := D) (ci := 1) (v := .ref (q (18 + 2 * k0.toNatClampNeg))) (C := RX1) (T := TX1) (N := 3) hx hb hts hin1 hown hK hP (17 + 2 * k0.toNatClampNeg) (wC_sheet hs_5) rfl 0 (by decide) (hts (.fieldLink RX4 86 "NeckShip$Sheet" "cells" "[I") (by decide +kernel)) (fun _ h9 => h9) rfl dX4_copy_111 ?_
                refine lv_iload_n hx hb dX4_copy_114 rfl (lv_at hl 4 rfl) ?_
                refine lv_aload hx hb dX4_copy_115 (lv_at hl 0 rfl) ?_
                refine va_get (D := D) (ci := 1) (v := .ref (q (18 + 2 * o0.toNatClampNeg))) (C := RX1) (T := TX1) (N := 3) hx hb hts hin1 hown hK hP (17 + 2 * o0.toNatClampNeg) (wC_sheet hs_6) rfl 0 (by decide) (hts (.fieldLink RX4 86 "NeckShip$Sheet" "cells" "[I") (by decide +kernel)) (fun _ h9 => h9) rfl dX4_copy_117 ?_
                refine lv_iload hx hb dX4_copy_120 (lv_at hl 6 rfl) ?_
                refine lv_iload hx hb dX4_copy_122 (lv_at hl 7 rfl) ?_
                refine va_copyi hx hb (by rw [hml]; exact hl.1.symm) hown (hts (.methodLink RX4 230 arraycopyName) (by decide +kernel)) (hts (.native arraycopyName) (by decide +kernel)) (hts (.static arraycopyName) (by decide +kernel)) (hts (.initialized "java/lang/System") (by decide +kernel)) hK hP hD hS (18 + 2 * k0.toNatClampNeg) (18 + 2 * o0.toNatClampNeg) 0 0 (wC_cells hs_5) (wC_cells hs_6) rfl rfl rfl hc1.1 hc2.1 hc1.2.1 hc1.2.2 hc2.2.2 (fun _ _ => rfl) (Nat.le_of_ble_eq_true rfl) (Nat.le_of_ble_eq_true rfl) dX4_copy_124 (fun H locs hP hD hS => ?_)
                rw [wC_put_cells hs_6] at hP hD
                have hP : va_P D vwCl (wC cI cS q N (va_up V 0 (0 : Int32)) (va_up A (18 + 2 * o0.toNatClampNeg) (va_cpy (A (18 + 2 * k0.toNatClampNeg)) (A (18 + 2 * o0.toNatClampNeg)) i0.toNatClampNeg j0.toNatClampNeg n0.toNatClampNeg))) H := hP
                have hD : va_D Ar (wC cI cS q N (va_up V 0 (0 : Int32)) (va_up A (18 + 2 * o0.toNatClampNeg) (va_cpy (A (18 + 2 * k0.toNatClampNeg)) (A (18 + 2 * o0.toNatClampNeg)) i0.toNatClampNeg j0.toNatClampNeg n0.toNatClampNeg))) := hD
                refine lv_iload hx hb dX4_copy_127 (lv_at hl 7 rfl) ?_
                have hEE : s_X4_copy N V A k0 i0 o0 j0 n0 = (n0, N, (va_up V 0 (0 : Int32)), (va_up A (18 + 2 * o0.toNatClampNeg) (va_cpy (A (18 + 2 * k0.toNatClampNeg)) (A (18 + 2 * o0.toNatClampNeg)) i0.toNatClampNeg j0.toNatClampNeg n0.toNatClampNeg))) := (by rw [s_X4_copy, if_pos c_2, if_pos c_4, if_neg (nb c_8), if_neg (nb c_10), if_pos c_11, if_pos c_13, if_pos c_15])
                rw [hEE]
                exact W.iret (v := n0) hx hb hr (fun t ht hW => ⟨⟨_, (), rfl, rfl, ⟨by rw [ht]; exact hP, va_K.moved hW.alike hK, hN.warm hW⟩, hD⟩, hS.F ht⟩) hS.2.2 dX4_copy_129
              · refine lv_aload_n hx hb dX4_copy_103 rfl (lv_at hl 2 rfl) ?_
                refine lv_iconst (v := (3)) hx hb dX4_copy_104 (by decide) ?_
                refine callCi (va_runV (As := [.int (3 : Int32)]) (rest := []) ⟨hx, hb, hml, hown, hts⟩ (c_X4_failed l D cI cZ cS q N (va_up V 0 (0 : Int32)) A H.size (3 : Int32)) (cwV 1 hts gX4_copy_X4_failed rfl rfl rfl (by decide +kernel) ⟨Nat.le_of_ble_eq_true rfl, Nat.le_of_ble_eq_true rfl⟩) (preCm4 hK hN hP hD) rfl rfl hl.1 rfl (lv_room (Nat.le_of_ble_eq_true rfl)) dX4_copy_105 ⟨Nat.zero_le _, Nat.zero_le _⟩) hD hS hA (fun H locs hP hD hS => ?_)
                have hP : va_P D vwCl (wC cI cS q N ((s_X4_failed N (va_up V 0 (0 : Int32)) A (3 : Int32)).2.2.1) A) H := hP
                have hD : va_D Ar (wC cI cS q N ((s_X4_failed N (va_up V 0 (0 : Int32)) A (3 : Int32)).2.2.1) A) := hD
                have hEE : s_X4_copy N V A k0 i0 o0 j0 n0 = ((s_X4_failed N (va_up V 0 (0 : Int32)) A (3 : Int32)).1, N, (s_X4_failed N (va_up V 0 (0 : Int32)) A (3 : Int32)).2.2.1, A) := (by rw [s_X4_copy, if_pos c_2, if_pos c_4, if_neg (nb c_8), if_neg (nb c_10), if_pos c_11, if_pos c_13, if_neg (nb c_15)])
                rw [hEE]
                exact W.iret (v := (s_X4_failed N (va_up V 0 (0 : Int32)) A (3 : Int32)).1) hx hb hr (fun t ht hW => ⟨⟨_, (), rfl, rfl, ⟨by rw [ht]; exact hP, va_K.moved hW.alike hK, hN.warm hW⟩, hD⟩, hS.F ht⟩) hS.2.2 dX4_copy_108
          · refine lv_aload_n hx hb dX4_copy_74 rfl (lv_at hl 2 rfl) ?_
            refine lv_iconst (v := (2)) hx hb dX4_copy_75 (by decide) ?_
            refine callCi (va_runV (As := [.int (2 : Int32)]) (rest := []) ⟨hx, hb, hml, hown, hts⟩ (c_X4_failed l D cI cZ cS q N (va_up V 0 (0 : Int32)) A H.size (2 : Int32)) (cwV 1 hts gX4_copy_X4_failed rfl rfl rfl (by decide +kernel) ⟨Nat.le_of_ble_eq_true rfl, Nat.le_of_ble_eq_true rfl⟩) (preCm4 hK hN hP hD) rfl rfl hl.1 rfl (lv_room (Nat.le_of_ble_eq_true rfl)) dX4_copy_76 ⟨Nat.zero_le _, Nat.zero_le _⟩) hD hS hA (fun H locs hP hD hS => ?_)
            have hP : va_P D vwCl (wC cI cS q N ((s_X4_failed N (va_up V 0 (0 : Int32)) A (2 : Int32)).2.2.1) A) H := hP
            have hD : va_D Ar (wC cI cS q N ((s_X4_failed N (va_up V 0 (0 : Int32)) A (2 : Int32)).2.2.1) A) := hD
            have hEE : s_X4_copy N V A k0 i0 o0 j0 n0 = ((s_X4_failed N (va_up V 0 (0 : Int32)) A (2 : Int32)).1, N, (s_X4_failed N (va_up V 0 (0 : Int32)) A (2 : Int32)).2.2.1, A) := (by rw [s_X4_copy, if_pos c_2, if_pos c_4, if_neg (nb c_8), if_neg (nb c_10), if_neg c_11])
            rw [hEE]
            exact W.iret (v := (s_X4_failed N (va_up V 0 (0 : Int32)) A (2 : Int32)).1) hx hb hr (fun t ht hW => ⟨⟨_, (), rfl, rfl, ⟨by rw [ht]; exact hP, va_K.moved hW.alike hK, hN.warm hW⟩, hD⟩, hS.F ht⟩) hS.2.2 dX4_copy_79
        · refine lv_aload_n hx hb dX4_copy_55 rfl (lv_at hl 2 rfl) ?_
          refine lv_iconst (v := (1)) hx hb dX4_copy_56 (by decide) ?_
          refine callCi (va_runV (As := [.int (1 : Int32)]) (rest := []) ⟨hx, hb, hml, hown, hts⟩ (c_X4_failed l D cI cZ cS q N (va_up V 0 (0 : Int32)) A H.size (1 : Int32)) (cwV 1 hts gX4_copy_X4_failed rfl rfl rfl (by decide +kernel) ⟨Nat.le_of_ble_eq_true rfl, Nat.le_of_ble_eq_true rfl⟩) (preCm4 hK hN hP hD) rfl rfl hl.1 rfl (lv_room (Nat.le_of_ble_eq_true rfl)) dX4_copy_57 ⟨Nat.zero_le _, Nat.zero_le _⟩) hD hS hA (fun H locs hP hD hS => ?_)
          have hP : va_P D vwCl (wC cI cS q N ((s_X4_failed N (va_up V 0 (0 : Int32)) A (1 : Int32)).2.2.1) A) H := hP
          have hD : va_D Ar (wC cI cS q N ((s_X4_failed N (va_up V 0 (0 : Int32)) A (1 : Int32)).2.2.1) A) := hD
          have hEE : s_X4_copy N V A k0 i0 o0 j0 n0 = ((s_X4_failed N (va_up V 0 (0 : Int32)) A (1 : Int32)).1, N, (s_X4_failed N (va_up V 0 (0 : Int32)) A (1 : Int32)).2.2.1, A) := (by rw [s_X4_copy, if_pos c_2, if_pos c_4, if_neg (nb c_8), if_pos c_10])
          rw [hEE]
          exact W.iret (v := (s_X4_failed N (va_up V 0 (0 : Int32)) A (1 : Int32)).1) hx hb hr (fun t ht hW => ⟨⟨_, (), rfl, rfl, ⟨by rw [ht]; exact hP, va_K.moved hW.alike hK, hN.warm hW⟩, hD⟩, hS.F ht⟩) hS.2.2 dX4_copy_60
    · refine lv_iconst (v := (-1)) hx hb dX4_copy_21 (by decide) ?_
      have hEE : s_X4_copy N V A k0 i0 o0 j0 n0 = ((-1 : Int32), N, (va_up V 0 (0 : Int32)), A) := (by rw [s_X4_copy, if_pos c_2, if_neg (nb c_4)])
      rw [hEE]
      exact W.iret (v := (-1 : Int32)) hx hb hr (fun t ht hW => ⟨⟨_, (), rfl, rfl, ⟨by rw [ht]; exact hP, va_K.moved hW.alike hK, hN.warm hW⟩, hD⟩, hS.F ht⟩) hS.2.2 dX4_copy_22
