theorem pw1 (n : Nat) : nI (2 ^ n) - (1 : Int32) = nI (2 ^ n - 1) := by
  rw [show (1 : Int32) = nI 1 from rfl, pk_sub Nat.one_le_two_pow]
theorem ok_put {N : Nat → Nat} {A : Nat → Nat → Int32} (h : okM N A) {k : Nat} (h8 : k ≠ 8) (h10 : k ≠ 10) (h11 : k ≠ 11) (h12 : k ≠ 12) (f : Nat → Int32) : okM N (va_up A k f) := by
  obtain ⟨o1, o2, o3, o4, o5, o6, o7⟩ := h
  refine ⟨o1, o2, o3, ?_, ?_, ?_, ?_⟩
  · intro t; rw [show va_up A k f 8 = A 8 from if_neg (Ne.symm h8)]; exact o4 t
  · rw [show va_up A k f 10 = A 10 from if_neg (Ne.symm h10)]; exact o5
  · rw [show va_up A k f 11 = A 11 from if_neg (Ne.symm h11)]; exact o6
  · rw [show va_up A k f 12 = A 12 from if_neg (Ne.symm h12)]; exact o7
theorem ok_putB {N : Nat → Nat} {A : Nat → Nat → Int32} (h : okM N A) {k : Nat} (hk : k = 10 ∨ k = 11 ∨ k = 12) (i : Nat) (b : Bool) : okM N (va_up A k (upd (A k) i (b2i b))) := by
  obtain ⟨o1, o2, o3, o4, o5, o6, o7⟩ := h
  rcases hk with rfl | rfl | rfl
  · exact ⟨o1, o2, o3, o4, by rw [va_up_self]; exact isB_upd o5 i b, o6, o7⟩
  · exact ⟨o1, o2, o3, o4, o5, by rw [va_up_self]; exact isB_upd o6 i b, o7⟩
  · exact ⟨o1, o2, o3, o4, o5, o6, by rw [va_up_self]; exact isB_upd o7 i b⟩
/-- the sheets' sizes -/
def okS (A : Nat → Nat → Int32) : Prop := ∀ k, k < 4 → (A 14 k).toInt ≤ 50
def s_X5_over (N : Nat → Nat) (V : Nat → Int32) (A : Nat → Nat → Int32)  (a0 : Int32) (b0 : Int32) : Int32 :=
  if (s_X5_noSpar N V A a0) = true then
    (-1 : Int32)
  else
    if (s_X5_noSpar N V A b0) = true then
      (-1 : Int32)
    else
      if (s_X5_isOver N V A a0.toNatClampNeg b0.toNatClampNeg) = true then
        (1 : Int32)
      else
        (0 : Int32)
set_option maxHeartbeats 4000000 in
set_option maxRecDepth 100000 in
theorem c_X5_over (l : Launch) (D : va_G) (cI cZ cS : ClassId) (q : Nat → Nat) (N : Nat → Nat) (V : Nat → Int32) (A : Nat → Nat → Int32) (a0 : Int32) (b0 : Int32) (h_1 : okM N A) : Met l yX5_over wsX5_over ({ frames := 2, cells := 0, slots := 0, locals := 46 }) (va_Pc [.ref (q 0), .int a0, .int b0] (PM D cI cZ cS q N V A)) (vp_Si (fun r => r = (s_X5_over N V A a0 b0))) 0 0 (fun _ => False) := by
  refine Met.ofW (cc := cX5_over) (maxL := 3) (ret := (some .int)) (by decide) rfl ?_
  intro p e s m args below meth c s₁ B hml hv
  obtain ⟨rfl, hP, hK⟩ := hv
  have hx := B.exec
  have hb := B.bytes
  have hr := B.returns
  have hts := atoms_spec (ws := wsX5_over) B.pre
  have hown : s.vm.findClass RX5 = some m.cls := findClass_of_methodNamed B.named
  have hlocks := B.notSynchronized
  obtain ⟨o1, o2, o3, o4, o5, o6, o7⟩ := id h_1
  have hl := lv_entry ([.ref (q 0), .int a0, .int b0]) (n := 3) (Nat.le_of_ble_eq_true rfl)
  rw [lg_entry_eq]
  generalize (lg_sl ([.ref (q 0), .int a0, .int b0]) ++ List.replicate (3 - (lg_sl ([.ref (q 0), .int a0, .int b0])).length) Slot.unset).toArray = ls at hl ⊢
  have hl : lv_has ls 3 [(0, .ref (q 0)), (1, .int a0), (2, .int b0)] := hl
  refine lv_aload_n hx hb dX5_over_0 rfl (lv_at hl 0 rfl) ?_
  refine lv_iload_n hx hb dX5_over_1 rfl (lv_at hl 1 rfl) ?_
  refine vp_callSi (W.runV (As := [.int a0]) (rest := []) ⟨hx, hb, hml, hown, hts⟩ (c_X5_noSpar l D cI cZ cS q N V A a0) (cwV 1 hts gX5_over_X5_noSpar rfl rfl rfl (by decide +kernel) ⟨Nat.le_of_ble_eq_true rfl, Nat.le_of_ble_eq_true rfl⟩) (preM hK hP) rfl rfl hl.1 rfl (lv_room (Nat.le_of_ble_eq_true rfl)) dX5_over_2 ⟨Nat.zero_le _, Nat.zero_le _⟩) (fun r_1 er_1 => ?_)
  subst er_1
  refine lz_if_ne (tgt := 16) hx hb dX5_over_5 (by decide) (fun c_2 => ?_) (fun c_2 => ?_)
  · refine lv_iconst (v := (-1)) hx hb dX5_over_16 (by decide) ?_
    refine lv_goto (tgt := 34) hx hb dX5_over_17 (by decide) ?_
    exact W.iret (v := (-1 : Int32)) hx hb hr (fun t ht hW => ⟨_, rfl, (by rw [s_X5_over, if_pos c_2]), ht⟩) (fun _ h => by cases h) dX5_over_34
  · obtain ⟨hlt_a0, heq_a0⟩ := noSpar_f o1 c_2
    have hl : lv_has ls 3 [(0, .ref (q 0)), (1, .int (nI a0.toNatClampNeg)), (2, .int b0)] := by rw [heq_a0]; exact hl
    refine lv_aload_n hx hb dX5_over_8 rfl (lv_at hl 0 rfl) ?_
    refine lv_iload_n hx hb dX5_over_9 rfl (lv_at hl 2 rfl) ?_
    refine vp_callSi (W.runV (As := [.int b0]) (rest := []) ⟨hx, hb, hml, hown, hts⟩ (c_X5_noSpar l D cI cZ cS q N V A b0) (cwV 1 hts gX5_over_X5_noSpar rfl rfl rfl (by decide +kernel) ⟨Nat.le_of_ble_eq_true rfl, Nat.le_of_ble_eq_true rfl⟩) (preM hK hP) rfl rfl hl.1 rfl (lv_room (Nat.le_of_ble_eq_true rfl)) dX5_over_10 ⟨Nat.zero_le _, Nat.zero_le _⟩) (fun r_3 er_3 => ?_)
    subst er_3
    refine lz_if_eq (tgt := 20) hx hb dX5_over_13 (by decide) (fun c_4 => ?_) (fun c_4 => ?_)
    · obtain ⟨hlt_b0, heq_b0⟩ := noSpar_f o1 c_4
      have hl : lv_has ls 3 [(0, .ref (q 0)), (1, .int (nI a0.toNatClampNeg)), (2, .int (nI b0.toNatClampNeg))] := by rw [heq_b0]; exact hl
      refine lv_aload_n hx hb dX5_over_20 rfl (lv_at hl 0 rfl) ?_
      refine lv_iload_n hx hb dX5_over_21 rfl (lv_at hl 1 rfl) ?_
      refine lv_iload_n hx hb dX5_over_22 rfl (lv_at hl 2 rfl) ?_
      refine vp_callSi (W.runV (As := [.int (nI a0.toNatClampNeg), .int (nI b0.toNatClampNeg)]) (rest := []) ⟨hx, hb, hml, hown, hts⟩ (c_X5_isOver l D cI cZ cS q N V A a0.toNatClampNeg b0.toNatClampNeg (by omega) (by omega)) (cwV 2 hts gX5_over_X5_isOver rfl rfl rfl (by decide +kernel) ⟨Nat.le_of_ble_eq_true rfl, Nat.le_of_ble_eq_true rfl⟩) (preM hK hP) rfl rfl hl.1 rfl (lv_room (Nat.le_of_ble_eq_true rfl)) dX5_over_23 ⟨Nat.zero_le _, Nat.zero_le _⟩) (fun r_5 er_5 => ?_)
      subst er_5
      refine lz_if_eq (tgt := 33) hx hb dX5_over_26 (by decide) (fun c_6 => ?_) (fun c_6 => ?_)
      · refine lv_iconst (v := (0)) hx hb dX5_over_33 (by decide) ?_
        exact W.iret (v := (0 : Int32)) hx hb hr (fun t ht hW => ⟨_, rfl, (by rw [s_X5_over, if_neg (nb c_2), if_neg (nb c_4), if_neg (nb c_6)]), ht⟩) (fun _ h => by cases h) dX5_over_34
      · refine lv_iconst (v := (1)) hx hb dX5_over_29 (by decide) ?_
        refine lv_goto (tgt := 34) hx hb dX5_over_30 (by decide) ?_
        exact W.iret (v := (1 : Int32)) hx hb hr (fun t ht hW => ⟨_, rfl, (by rw [s_X5_over, if_neg (nb c_2), if_neg (nb c_4), if_pos c_6]), ht⟩) (fun _ h => by cases h) dX5_over_34
    · refine lv_iconst (v := (-1)) hx hb dX5_over_16 (by decide) ?_
      refine lv_goto (tgt := 34) hx hb dX5_over_17 (by decide) ?_
      exact W.iret (v := (-1 : Int32)) hx hb hr (fun t ht hW => ⟨_, rfl, (by rw [s_X5_over, if_neg (nb c_2), if_pos c_4]), ht⟩) (fun _ h => by cases h) dX5_over_34
def s_X5_cross (N : Nat → Nat) (V : Nat → Int32) (A : Nat → Nat → Int32)  (t0 : Int32) (u0 : Int32) : Int32 :=
  if (s_X5_noThread N V A t0) = true then
    (-1 : Int32)
  else
    if (s_X5_noThread N V A u0) = true then
      (-1 : Int32)
    else
      if (s_X5_doCross N V A t0.toNatClampNeg u0.toNatClampNeg) = true then
        (1 : Int32)
      else
        (0 : Int32)
set_option maxHeartbeats 4000000 in
set_option maxRecDepth 100000 in
theorem c_X5_cross (l : Launch) (D : va_G) (cI cZ cS : ClassId) (q : Nat → Nat) (N : Nat → Nat) (V : Nat → Int32) (A : Nat → Nat → Int32) (t0 : Int32) (u0 : Int32) (h_1 : okM N A) : Met l yX5_cross wsX5_cross ({ frames := 2, cells := 0, slots := 0, locals := 50 }) (va_Pc [.ref (q 0), .int t0, .int u0] (PM D cI cZ cS q N V A)) (vp_Si (fun r => r = (s_X5_cross N V A t0 u0))) 0 0 (fun _ => False) := by
  refine Met.ofW (cc := cX5_cross) (maxL := 3) (ret := (some .int)) (by decide) rfl ?_
  intro p e s m args below meth c s₁ B hml hv
  obtain ⟨rfl, hP, hK⟩ := hv
  have hx := B.exec
  have hb := B.bytes
  have hr := B.returns
  have hts := atoms_spec (ws := wsX5_cross) B.pre
  have hown : s.vm.findClass RX5 = some m.cls := findClass_of_methodNamed B.named
  have hlocks := B.notSynchronized
  obtain ⟨o1, o2, o3, o4, o5, o6, o7⟩ := id h_1
  have hl := lv_entry ([.ref (q 0), .int t0, .int u0]) (n := 3) (Nat.le_of_ble_eq_true rfl)
  rw [lg_entry_eq]
  generalize (lg_sl ([.ref (q 0), .int t0, .int u0]) ++ List.replicate (3 - (lg_sl ([.ref (q 0), .int t0, .int u0])).length) Slot.unset).toArray = ls at hl ⊢
  have hl : lv_has ls 3 [(0, .ref (q 0)), (1, .int t0), (2, .int u0)] := hl
  refine lv_aload_n hx hb dX5_cross_0 rfl (lv_at hl 0 rfl) ?_
  refine lv_iload_n hx hb dX5_cross_1 rfl (lv_at hl 1 rfl) ?_
  refine vp_callSi (W.runV (As := [.int t0]) (rest := []) ⟨hx, hb, hml, hown, hts⟩ (c_X5_noThread l D cI cZ cS q N V A t0) (cwV 1 hts gX5_cross_X5_noThread rfl rfl rfl (by decide +kernel) ⟨Nat.le_of_ble_eq_true rfl, Nat.le_of_ble_eq_true rfl⟩) (preM hK hP) rfl rfl hl.1 rfl (lv_room (Nat.le_of_ble_eq_true rfl)) dX5_cross_2 ⟨Nat.zero_le _, Nat.zero_le _⟩) (fun r_1 er_1 => ?_)
  subst er_1
  refine lz_if_ne (tgt := 16) hx hb dX5_cross_5 (by decide) (fun c_2 => ?_) (fun c_2 => ?_)
  · refine lv_iconst (v := (-1)) hx hb dX5_cross_16 (by decide) ?_
    refine lv_goto (tgt := 34) hx hb dX5_cross_17 (by decide) ?_
    exact W.iret (v := (-1 : Int32)) hx hb hr (fun t ht hW => ⟨_, rfl, (by rw [s_X5_cross, if_pos c_2]), ht⟩) (fun _ h => by cases h) dX5_cross_34
  · obtain ⟨hlt_t0, heq_t0⟩ := noThread_f o2 c_2
    have hl : lv_has ls 3 [(0, .ref (q 0)), (1, .int (nI t0.toNatClampNeg)), (2, .int u0)] := by rw [heq_t0]; exact hl
    refine lv_aload_n hx hb dX5_cross_8 rfl (lv_at hl 0 rfl) ?_
    refine lv_iload_n hx hb dX5_cross_9 rfl (lv_at hl 2 rfl) ?_
    refine vp_callSi (W.runV (As := [.int u0]) (rest := []) ⟨hx, hb, hml, hown, hts⟩ (c_X5_noThread l D cI cZ cS q N V A u0) (cwV 1 hts gX5_cross_X5_noThread rfl rfl rfl (by decide +kernel) ⟨Nat.le_of_ble_eq_true rfl, Nat.le_of_ble_eq_true rfl⟩) (preM hK hP) rfl rfl hl.1 rfl (lv_room (Nat.le_of_ble_eq_true rfl)) dX5_cross_10 ⟨Nat.zero_le _, Nat.zero_le _⟩) (fun r_3 er_3 => ?_)
    subst er_3
    refine lz_if_eq (tgt := 20) hx hb dX5_cross_13 (by decide) (fun c_4 => ?_) (fun c_4 => ?_)
    · obtain ⟨hlt_u0, heq_u0⟩ := noThread_f o2 c_4
      have hl : lv_has ls 3 [(0, .ref (q 0)), (1, .int (nI t0.toNatClampNeg)), (2, .int (nI u0.toNatClampNeg))] := by rw [heq_u0]; exact hl
      refine lv_aload_n hx hb dX5_cross_20 rfl (lv_at hl 0 rfl) ?_
      refine lv_iload_n hx hb dX5_cross_21 rfl (lv_at hl 1 rfl) ?_
      refine lv_iload_n hx hb dX5_cross_22 rfl (lv_at hl 2 rfl) ?_
      refine vp_callSi (W.runV (As := [.int (nI t0.toNatClampNeg), .int (nI u0.toNatClampNeg)]) (rest := []) ⟨hx, hb, hml, hown, hts⟩ (c_X5_doCross l D cI cZ cS q N V A t0.toNatClampNeg u0.toNatClampNeg h_1 (by omega) (by omega)) (cwV 2 hts gX5_cross_X5_doCross rfl rfl rfl (by decide +kernel) ⟨Nat.le_of_ble_eq_true rfl, Nat.le_of_ble_eq_true rfl⟩) (preM hK hP) rfl rfl hl.1 rfl (lv_room (Nat.le_of_ble_eq_true rfl)) dX5_cross_23 ⟨Nat.zero_le _, Nat.zero_le _⟩) (fun r_5 er_5 => ?_)
      subst er_5
      refine lz_if_eq (tgt := 33) hx hb dX5_cross_26 (by decide) (fun c_6 => ?_) (fun c_6 => ?_)
      · refine lv_iconst (v := (0)) hx hb dX5_cross_33 (by decide) ?_
        exact W.iret (v := (0 : Int32)) hx hb hr (fun t ht hW => ⟨_, rfl, (by rw [s_X5_cross, if_neg (nb c_2), if_neg (nb c_4), if_neg (nb c_6)]), ht⟩) (fun _ h => by cases h) dX5_cross_34
      · refine lv_iconst (v := (1)) hx hb dX5_cross_29 (by decide) ?_
        refine lv_goto (tgt := 34) hx hb dX5_cross_30 (by decide) ?_
        exact W.iret (v := (1 : Int32)) hx hb hr (fun t ht hW => ⟨_, rfl, (by rw [s_X5_cross, if_neg (nb c_2), if_neg (nb c_4), if_pos c_6]), ht⟩) (fun _ h => by cases h) dX5_cross_34
    · refine lv_iconst (v := (-1)) hx hb dX5_cross_16 (by decide) ?_
      refine lv_goto (tgt := 34) hx hb dX5_cross_17 (by decide) ?_
      exact W.iret (v := (-1 : Int32)) hx hb hr (fun t ht hW => ⟨_, rfl, (by rw [s_X5_cross, if_neg (nb c_2), if_pos c_4]), ht⟩) (fun _ h => by cases h) dX5_cross_34
def s_X5_threaded (N : Nat → Nat) (V : Nat → Int32) (A : Nat → Nat → Int32)  (t0 : Int32) (w0 : Int32) : Int32 :=
  if (s_X5_noThread N V A t0) = true then
    (-1 : Int32)
  else
    if w0 = (0) then
      A 7 t0.toNatClampNeg
    else
      if w0 = (1) then
        A 8 t0.toNatClampNeg
      else
        if w0 = (2) then
          A 9 t0.toNatClampNeg
        else
          if w0 = (3) then
            if (bz (A 10 t0.toNatClampNeg)) = true then
              (0 : Int32)
            else
              (1 : Int32)
          else
            if w0 = (4) then
              if (s_X5_raises N V A t0.toNatClampNeg) = true then
                (1 : Int32)
              else
                (0 : Int32)
            else
              if w0 = (5) then
                (s_X5_crossers N V A t0.toNatClampNeg)
              else
                (-2 : Int32)
set_option maxHeartbeats 4000000 in
set_option maxRecDepth 100000 in
theorem c_X5_threaded (l : Launch) (D : va_G) (cI cZ cS : ClassId) (q : Nat → Nat) (N : Nat → Nat) (V : Nat → Int32) (A : Nat → Nat → Int32) (t0 : Int32) (w0 : Int32) (h_1 : okM N A) : Met l yX5_threaded wsX5_threaded ({ frames := 3, cells := 0, slots := 0, locals := 73 }) (va_Pc [.ref (q 0), .int t0, .int w0] (PM D cI cZ cS q N V A)) (vp_Si (fun r => r = (s_X5_threaded N V A t0 w0))) 0 0 (fun _ => False) := by
  refine Met.ofW (cc := cX5_threaded) (maxL := 3) (ret := (some .int)) (by decide) rfl ?_
  intro p e s m args below meth c s₁ B hml hv
  obtain ⟨rfl, hP, hK⟩ := hv
  have hx := B.exec
  have hb := B.bytes
  have hr := B.returns
  have hts := atoms_spec (ws := wsX5_threaded) B.pre
  have hown : s.vm.findClass RX5 = some m.cls := findClass_of_methodNamed B.named
  have hlocks := B.notSynchronized
  have hin5 : ∀ w ∈ u_ws RX5 TX5 22, w ∈ wsX5_threaded := by decide +kernel
  obtain ⟨o1, o2, o3, o4, o5, o6, o7⟩ := id h_1
  have hl := lv_entry ([.ref (q 0), .int t0, .int w0]) (n := 3) (Nat.le_of_ble_eq_true rfl)
  rw [lg_entry_eq]
  generalize (lg_sl ([.ref (q 0), .int t0, .int w0]) ++ List.replicate (3 - (lg_sl ([.ref (q 0), .int t0, .int w0])).length) Slot.unset).toArray = ls at hl ⊢
  have hl : lv_has ls 3 [(0, .ref (q 0)), (1, .int t0), (2, .int w0)] := hl
  refine lv_aload_n hx hb dX5_threaded_0 rfl (lv_at hl 0 rfl) ?_
  refine lv_iload_n hx hb dX5_threaded_1 rfl (lv_at hl 1 rfl) ?_
  refine vp_callSi (W.runV (As := [.int t0]) (rest := []) ⟨hx, hb, hml, hown, hts⟩ (c_X5_noThread l D cI cZ cS q N V A t0) (cwV 1 hts gX5_threaded_X5_noThread rfl rfl rfl (by decide +kernel) ⟨Nat.le_of_ble_eq_true rfl, Nat.le_of_ble_eq_true rfl⟩) (preM hK hP) rfl rfl hl.1 rfl (lv_room (Nat.le_of_ble_eq_true rfl)) dX5_threaded_2 ⟨Nat.zero_le _, Nat.zero_le _⟩) (fun r_1 er_1 => ?_)
  subst er_1
  refine lz_if_eq (tgt := 10) hx hb dX5_threaded_5 (by decide) (fun c_2 => ?_) (fun c_2 => ?_)
  · obtain ⟨hlt_t0, heq_t0⟩ := noThread_f o2 c_2
    have hl : lv_has ls 3 [(0, .ref (q 0)), (1, .int (nI t0.toNatClampNeg)), (2, .int w0)] := by rw [heq_t0]; exact hl
    refine lv_iload_n hx hb dX5_threaded_10 rfl (lv_at hl 2 rfl) ?_
    by_cases c_3 : w0 = (0)
    · refine lv_tableIn (off := 37) (tgt := 48) hx hb dX5_threaded_11 (by rw [c_3]; decide) (by rw [c_3]; decide) (by rw [c_3]; rfl) (by decide) ?_
      refine lv_aload_n hx hb dX5_threaded_48 rfl (lv_at hl 0 rfl) ?_
      refine va_get (D := D) (ci := 5) (v := .ref (q 7)) (C := RX5) (T := TX5) (N := 22) hx hb hts hin5 hown hK hP 0 rfl rfl 10 (by decide) (hts (.fieldLink RX5 28 "NeckShipModel" "holes" "[I") (by decide +kernel)) (fun _ h9 => h9) rfl dX5_threaded_49 ?_
      refine lv_iload_n hx hb dX5_threaded_52 rfl (lv_at hl 1 rfl) ?_
      refine va_ialdN (i := t0.toNatClampNeg) hx hb hK hP 7 0 rfl rfl (by decide) (by omega) dX5_threaded_53 ?_
      exact W.iret (v := A 7 t0.toNatClampNeg) hx hb hr (fun t ht hW => ⟨_, rfl, (by rw [s_X5_threaded, if_neg (nb c_2), if_pos c_3]), ht⟩) (fun _ h => by cases h) dX5_threaded_54
    · by_cases c_4 : w0 = (1)
      · refine lv_tableIn (off := 44) (tgt := 55) hx hb dX5_threaded_11 (by rw [c_4]; decide) (by rw [c_4]; decide) (by rw [c_4]; rfl) (by decide) ?_
        refine lv_aload_n hx hb dX5_threaded_55 rfl (lv_at hl 0 rfl) ?_
        refine va_get (D := D) (ci := 5) (v := .ref (q 8)) (C := RX5) (T := TX5) (N := 22) hx hb hts hin5 hown hK hP 0 rfl rfl 11 (by decide) (hts (.fieldLink RX5 31 "NeckShipModel" "sparOf" "[I") (by decide +kernel)) (fun _ h9 => h9) rfl dX5_threaded_56 ?_
        refine lv_iload_n hx hb dX5_threaded_59 rfl (lv_at hl 1 rfl) ?_
        refine va_ialdN (i := t0.toNatClampNeg) hx hb hK hP 8 0 rfl rfl (by decide) (by omega) dX5_threaded_60 ?_
        exact W.iret (v := A 8 t0.toNatClampNeg) hx hb hr (fun t ht hW => ⟨_, rfl, (by rw [s_X5_threaded, if_neg (nb c_2), if_neg c_3, if_pos c_4]), ht⟩) (fun _ h => by cases h) dX5_threaded_61
      · by_cases c_5 : w0 = (2)
        · refine lv_tableIn (off := 51) (tgt := 62) hx hb dX5_threaded_11 (by rw [c_5]; decide) (by rw [c_5]; decide) (by rw [c_5]; rfl) (by decide) ?_
          refine lv_aload_n hx hb dX5_threaded_62 rfl (lv_at hl 0 rfl) ?_
          refine va_get (D := D) (ci := 5) (v := .ref (q 9)) (C := RX5) (T := TX5) (N := 22) hx hb hts hin5 hown hK hP 0 rfl rfl 12 (by decide) (hts (.fieldLink RX5 34 "NeckShipModel" "places" "[I") (by decide +kernel)) (fun _ h9 => h9) rfl dX5_threaded_63 ?_
          refine lv_iload_n hx hb dX5_threaded_66 rfl (lv_at hl 1 rfl) ?_
          refine va_ialdN (i := t0.toNatClampNeg) hx hb hK hP 9 0 rfl rfl (by decide) (by omega) dX5_threaded_67 ?_
          exact W.iret (v := A 9 t0.toNatClampNeg) hx hb hr (fun t ht hW => ⟨_, rfl, (by rw [s_X5_threaded, if_neg (nb c_2), if_neg c_3, if_neg c_4, if_pos c_5]), ht⟩) (fun _ h => by cases h) dX5_threaded_68
        · by_cases c_6 : w0 = (3)
          · refine lv_tableIn (off := 58) (tgt := 69) hx hb dX5_threaded_11 (by rw [c_6]; decide) (by rw [c_6]; decide) (by rw [c_6]; rfl) (by decide) ?_
            refine lv_aload_n hx hb dX5_threaded_69 rfl (lv_at hl 0 rfl) ?_
            refine va_get (D := D) (ci := 5) (v := .ref (q 10)) (C := RX5) (T := TX5) (N := 22) hx hb hts hin5 hown hK hP 0 rfl rfl 13 (by decide) (hts (.fieldLink RX5 37 "NeckShipModel" "isCut" "[Z") (by decide +kernel)) (fun _ h9 => h9) rfl dX5_threaded_70 ?_
            refine lv_iload_n hx hb dX5_threaded_73 rfl (lv_at hl 1 rfl) ?_
            refine va_zaldB (i := t0.toNatClampNeg) (x := bz (A 10 t0.toNatClampNeg)) hx hb hK hP 10 1 rfl rfl (o5 _) (by decide) (by omega) dX5_threaded_74 ?_
            refine lz_if_eq (tgt := 82) hx hb dX5_threaded_75 (by decide) (fun c_7 => ?_) (fun c_7 => ?_)
            · refine lv_iconst (v := (1)) hx hb dX5_threaded_82 (by decide) ?_
              exact W.iret (v := (1 : Int32)) hx hb hr (fun t ht hW => ⟨_, rfl, (by rw [s_X5_threaded, if_neg (nb c_2), if_neg c_3, if_neg c_4, if_neg c_5, if_pos c_6, if_neg (nb c_7)]), ht⟩) (fun _ h => by cases h) dX5_threaded_83
            · refine lv_iconst (v := (0)) hx hb dX5_threaded_78 (by decide) ?_
              refine lv_goto (tgt := 83) hx hb dX5_threaded_79 (by decide) ?_
              exact W.iret (v := (0 : Int32)) hx hb hr (fun t ht hW => ⟨_, rfl, (by rw [s_X5_threaded, if_neg (nb c_2), if_neg c_3, if_neg c_4, if_neg c_5, if_pos c_6, if_pos c_7]), ht⟩) (fun _ h => by cases h) dX5_threaded_83
          · by_cases c_8 : w0 = (4)
            · refine lv_tableIn (off := 73) (tgt := 84) hx hb dX5_threaded_11 (by rw [c_8]; decide) (by rw [c_8]; decide) (by rw [c_8]; rfl) (by decide) ?_
              refine lv_aload_n hx hb dX5_threaded_84 rfl (lv_at hl 0 rfl) ?_
              refine lv_iload_n hx hb dX5_threaded_85 rfl (lv_at hl 1 rfl) ?_
              refine vp_callSi (W.runV (As := [.int (nI t0.toNatClampNeg)]) (rest := []) ⟨hx, hb, hml, hown, hts⟩ (c_X5_raises l D cI cZ cS q N V A t0.toNatClampNeg h_1 (by omega)) (cwV 1 hts gX5_threaded_X5_raises rfl rfl rfl (by decide +kernel) ⟨Nat.le_of_ble_eq_true rfl, Nat.le_of_ble_eq_true rfl⟩) (preM hK hP) rfl rfl hl.1 rfl (lv_room (Nat.le_of_ble_eq_true rfl)) dX5_threaded_86 ⟨Nat.zero_le _, Nat.zero_le _⟩) (fun r_9 er_9 => ?_)
              subst er_9
              refine lz_if_eq (tgt := 96) hx hb dX5_threaded_89 (by decide) (fun c_10 => ?_) (fun c_10 => ?_)
              · refine lv_iconst (v := (0)) hx hb dX5_threaded_96 (by decide) ?_
                exact W.iret (v := (0 : Int32)) hx hb hr (fun t ht hW => ⟨_, rfl, (by rw [s_X5_threaded, if_neg (nb c_2), if_neg c_3, if_neg c_4, if_neg c_5, if_neg c_6, if_pos c_8, if_neg (nb c_10)]), ht⟩) (fun _ h => by cases h) dX5_threaded_97
              · refine lv_iconst (v := (1)) hx hb dX5_threaded_92 (by decide) ?_
                refine lv_goto (tgt := 97) hx hb dX5_threaded_93 (by decide) ?_
                exact W.iret (v := (1 : Int32)) hx hb hr (fun t ht hW => ⟨_, rfl, (by rw [s_X5_threaded, if_neg (nb c_2), if_neg c_3, if_neg c_4, if_neg c_5, if_neg c_6, if_pos c_8, if_pos c_10]), ht⟩) (fun _ h => by cases h) dX5_threaded_97
            · by_cases c_11 : w0 = (5)
              · refine lv_tableIn (off := 87) (tgt := 98) hx hb dX5_threaded_11 (by rw [c_11]; decide) (by rw [c_11]; decide) (by rw [c_11]; rfl) (by decide) ?_
                refine lv_aload_n hx hb dX5_threaded_98 rfl (lv_at hl 0 rfl) ?_
                refine lv_iload_n hx hb dX5_threaded_99 rfl (lv_at hl 1 rfl) ?_
                refine vp_callSi (W.runV (As := [.int (nI t0.toNatClampNeg)]) (rest := []) ⟨hx, hb, hml, hown, hts⟩ (c_X5_crossers l D cI cZ cS q N V A t0.toNatClampNeg h_1 (by omega)) (cwV 1 hts gX5_threaded_X5_crossers rfl rfl rfl (by decide +kernel) ⟨Nat.le_of_ble_eq_true rfl, Nat.le_of_ble_eq_true rfl⟩) (preM hK hP) rfl rfl hl.1 rfl (lv_room (Nat.le_of_ble_eq_true rfl)) dX5_threaded_100 ⟨Nat.zero_le _, Nat.zero_le _⟩) (fun r_12 er_12 => ?_)
                subst er_12
                exact W.iret (v := (s_X5_crossers N V A t0.toNatClampNeg)) hx hb hr (fun t ht hW => ⟨_, rfl, (by rw [s_X5_threaded, if_neg (nb c_2), if_neg c_3, if_neg c_4, if_neg c_5, if_neg c_6, if_neg c_8, if_pos c_11]), ht⟩) (fun _ h => by cases h) dX5_threaded_103
              · refine lv_tableOut (tgt := 104) hx hb dX5_threaded_11 (tsw_out w0 (by decide) [0, 1, 2, 3, 4, 5] rfl (by simp only [List.forall_mem_cons]; exact ⟨c_3, c_4, c_5, c_6, c_8, c_11, fun _ h => absurd h List.not_mem_nil⟩)) (by decide) ?_
                refine lv_bipush (v := (-2)) hx hb dX5_threaded_104 (by decide) ?_
                exact W.iret (v := (-2 : Int32)) hx hb hr (fun t ht hW => ⟨_, rfl, (by rw [s_X5_threaded, if_neg (nb c_2), if_neg c_3, if_neg c_4, if_neg c_5, if_neg c_6, if_neg c_8, if_neg c_11]), ht⟩) (fun _ h => by cases h) dX5_threaded_106
  · refine lv_iconst (v := (-1)) hx hb dX5_threaded_8 (by decide) ?_
    exact W.iret (v := (-1 : Int32)) hx hb hr (fun t ht hW => ⟨_, rfl, (by rw [s_X5_threaded, if_pos c_2]), ht⟩) (fun _ h => by cases h) dX5_threaded_9
def s_X5_about (N : Nat → Nat) (V : Nat → Int32) (A : Nat → Nat → Int32)  (s0 : Int32) (w0 : Int32) : Int32 :=
  if (s_X5_noSpar N V A s0) = true then
    (-1 : Int32)
  else
    if w0 = (0) then
      A 2 s0.toNatClampNeg
    else
      if w0 = (1) then
        A 3 s0.toNatClampNeg
      else
        if w0 = (2) then
          A 4 s0.toNatClampNeg
        else
          if w0 = (3) then
            A 5 s0.toNatClampNeg
          else
            if w0 = (4) then
              A 6 s0.toNatClampNeg
            else
              if w0 = (5) then
                if (s_X5_isUp N V A (nI (N 2)) (nI s0.toNatClampNeg)) = true then
                  (1 : Int32)
                else
                  (0 : Int32)
              else
                if w0 = (6) then
                  if (s_X5_isUp N V A (nI (N 2)) (nI s0.toNatClampNeg)) = true then
                    if (s_X5_raisers N V A s0.toNatClampNeg) ≤ 0 then
                      (0 : Int32)
                    else
                      (1 : Int32)
                  else
                    (0 : Int32)
                else
                  if w0 = (7) then
                    if (s_X5_mayRise N V A (nI (N 2)) s0.toNatClampNeg) = true then
                      (1 : Int32)
                    else
                      (0 : Int32)
                  else
                    if w0 = (8) then
                      (s_X5_raisers N V A s0.toNatClampNeg)
                    else
                      if w0 = (9) then
                        (s_X5_overThatLie N V A (nI (N 2)) s0.toNatClampNeg)
                      else
                        (-2 : Int32)
set_option maxHeartbeats 4000000 in
set_option maxRecDepth 100000 in
theorem c_X5_about (l : Launch) (D : va_G) (cI cZ cS : ClassId) (q : Nat → Nat) (N : Nat → Nat) (V : Nat → Int32) (A : Nat → Nat → Int32) (s0 : Int32) (w0 : Int32) (h_1 : okM N A) : Met l yX5_about wsX5_about ({ frames := 4, cells := 0, slots := 0, locals := 89 }) (va_Pc [.ref (q 0), .int s0, .int w0] (PM D cI cZ cS q N V A)) (vp_Si (fun r => r = (s_X5_about N V A s0 w0))) 0 0 (fun _ => False) := by
  refine Met.ofW (cc := cX5_about) (maxL := 3) (ret := (some .int)) (by decide) rfl ?_
  intro p e s m args below meth c s₁ B hml hv
  obtain ⟨rfl, hP, hK⟩ := hv
  have hx := B.exec
  have hb := B.bytes
  have hr := B.returns
  have hts := atoms_spec (ws := wsX5_about) B.pre
  have hown : s.vm.findClass RX5 = some m.cls := findClass_of_methodNamed B.named
  have hlocks := B.notSynchronized
  have hin5 : ∀ w ∈ u_ws RX5 TX5 22, w ∈ wsX5_about := by decide +kernel
  obtain ⟨o1, o2, o3, o4, o5, o6, o7⟩ := id h_1
  have hl := lv_entry ([.ref (q 0), .int s0, .int w0]) (n := 3) (Nat.le_of_ble_eq_true rfl)
  rw [lg_entry_eq]
  generalize (lg_sl ([.ref (q 0), .int s0, .int w0]) ++ List.replicate (3 - (lg_sl ([.ref (q 0), .int s0, .int w0])).length) Slot.unset).toArray = ls at hl ⊢
  have hl : lv_has ls 3 [(0, .ref (q 0)), (1, .int s0), (2, .int w0)] := hl
  refine lv_aload_n hx hb dX5_about_0 rfl (lv_at hl 0 rfl) ?_
  refine lv_iload_n hx hb dX5_about_1 rfl (lv_at hl 1 rfl) ?_
  refine vp_callSi (W.runV (As := [.int s0]) (rest := []) ⟨hx, hb, hml, hown, hts⟩ (c_X5_noSpar l D cI cZ cS q N V A s0) (cwV 1 hts gX5_about_X5_noSpar rfl rfl rfl (by decide +kernel) ⟨Nat.le_of_ble_eq_true rfl, Nat.le_of_ble_eq_true rfl⟩) (preM hK hP) rfl rfl hl.1 rfl (lv_room (Nat.le_of_ble_eq_true rfl)) dX5_about_2 ⟨Nat.zero_le _, Nat.zero_le _⟩) (fun r_1 er_1 => ?_)
  subst er_1
  refine lz_if_eq (tgt := 10) hx hb dX5_about_5 (by decide) (fun c_2 => ?_) (fun c_2 => ?_)
  · obtain ⟨hlt_s0, heq_s0⟩ := noSpar_f o1 c_2
    have hl : lv_has ls 3 [(0, .ref (q 0)), (1, .int (nI s0.toNatClampNeg)), (2, .int w0)] := by rw [heq_s0]; exact hl
    refine lv_iload_n hx hb dX5_about_10 rfl (lv_at hl 2 rfl) ?_
    by_cases c_3 : w0 = (0)
    · refine lv_tableIn (off := 53) (tgt := 64) hx hb dX5_about_11 (by rw [c_3]; decide) (by rw [c_3]; decide) (by rw [c_3]; rfl) (by decide) ?_
      refine lv_aload_n hx hb dX5_about_64 rfl (lv_at hl 0 rfl) ?_
      refine va_get (D := D) (ci := 5) (v := .ref (q 2)) (C := RX5) (T := TX5) (N := 22) hx hb hts hin5 hown hK hP 0 rfl rfl 3 (by decide) (hts (.fieldLink RX5 13 "NeckShipModel" "kind" "[I") (by decide +kernel)) (fun _ h9 => h9) rfl dX5_about_65 ?_
      refine lv_iload_n hx hb dX5_about_68 rfl (lv_at hl 1 rfl) ?_
      refine va_ialdN (i := s0.toNatClampNeg) hx hb hK hP 2 0 rfl rfl (by decide) (by omega) dX5_about_69 ?_
      exact W.iret (v := A 2 s0.toNatClampNeg) hx hb hr (fun t ht hW => ⟨_, rfl, (by rw [s_X5_about, if_neg (nb c_2), if_pos c_3]), ht⟩) (fun _ h => by cases h) dX5_about_70
    · by_cases c_4 : w0 = (1)
      · refine lv_tableIn (off := 60) (tgt := 71) hx hb dX5_about_11 (by rw [c_4]; decide) (by rw [c_4]; decide) (by rw [c_4]; rfl) (by decide) ?_
        refine lv_aload_n hx hb dX5_about_71 rfl (lv_at hl 0 rfl) ?_
        refine va_get (D := D) (ci := 5) (v := .ref (q 3)) (C := RX5) (T := TX5) (N := 22) hx hb hts hin5 hown hK hP 0 rfl rfl 4 (by decide) (hts (.fieldLink RX5 16 "NeckShipModel" "foot" "[I") (by decide +kernel)) (fun _ h9 => h9) rfl dX5_about_72 ?_
        refine lv_iload_n hx hb dX5_about_75 rfl (lv_at hl 1 rfl) ?_
        refine va_ialdN (i := s0.toNatClampNeg) hx hb hK hP 3 0 rfl rfl (by decide) (by omega) dX5_about_76 ?_
        exact W.iret (v := A 3 s0.toNatClampNeg) hx hb hr (fun t ht hW => ⟨_, rfl, (by rw [s_X5_about, if_neg (nb c_2), if_neg c_3, if_pos c_4]), ht⟩) (fun _ h => by cases h) dX5_about_77
      · by_cases c_5 : w0 = (2)
        · refine lv_tableIn (off := 67) (tgt := 78) hx hb dX5_about_11 (by rw [c_5]; decide) (by rw [c_5]; decide) (by rw [c_5]; rfl) (by decide) ?_
          refine lv_aload_n hx hb dX5_about_78 rfl (lv_at hl 0 rfl) ?_
          refine va_get (D := D) (ci := 5) (v := .ref (q 4)) (C := RX5) (T := TX5) (N := 22) hx hb hts hin5 hown hK hP 0 rfl rfl 5 (by decide) (hts (.fieldLink RX5 19 "NeckShipModel" "size" "[I") (by decide +kernel)) (fun _ h9 => h9) rfl dX5_about_79 ?_
          refine lv_iload_n hx hb dX5_about_82 rfl (lv_at hl 1 rfl) ?_
          refine va_ialdN (i := s0.toNatClampNeg) hx hb hK hP 4 0 rfl rfl (by decide) (by omega) dX5_about_83 ?_
          exact W.iret (v := A 4 s0.toNatClampNeg) hx hb hr (fun t ht hW => ⟨_, rfl, (by rw [s_X5_about, if_neg (nb c_2), if_neg c_3, if_neg c_4, if_pos c_5]), ht⟩) (fun _ h => by cases h) dX5_about_84
        · by_cases c_6 : w0 = (3)
          · refine lv_tableIn (off := 74) (tgt := 85) hx hb dX5_about_11 (by rw [c_6]; decide) (by rw [c_6]; decide) (by rw [c_6]; rfl) (by decide) ?_
            refine lv_aload_n hx hb dX5_about_85 rfl (lv_at hl 0 rfl) ?_
            refine va_get (D := D) (ci := 5) (v := .ref (q 5)) (C := RX5) (T := TX5) (N := 22) hx hb hts hin5 hown hK hP 0 rfl rfl 6 (by decide) (hts (.fieldLink RX5 22 "NeckShipModel" "thick" "[I") (by decide +kernel)) (fun _ h9 => h9) rfl dX5_about_86 ?_
            refine lv_iload_n hx hb dX5_about_89 rfl (lv_at hl 1 rfl) ?_
            refine va_ialdN (i := s0.toNatClampNeg) hx hb hK hP 5 0 rfl rfl (by decide) (by omega) dX5_about_90 ?_
            exact W.iret (v := A 5 s0.toNatClampNeg) hx hb hr (fun t ht hW => ⟨_, rfl, (by rw [s_X5_about, if_neg (nb c_2), if_neg c_3, if_neg c_4, if_neg c_5, if_pos c_6]), ht⟩) (fun _ h => by cases h) dX5_about_91
          · by_cases c_7 : w0 = (4)
            · refine lv_tableIn (off := 81) (tgt := 92) hx hb dX5_about_11 (by rw [c_7]; decide) (by rw [c_7]; decide) (by rw [c_7]; rfl) (by decide) ?_
              refine lv_aload_n hx hb dX5_about_92 rfl (lv_at hl 0 rfl) ?_
              refine va_get (D := D) (ci := 5) (v := .ref (q 6)) (C := RX5) (T := TX5) (N := 22) hx hb hts hin5 hown hK hP 0 rfl rfl 7 (by decide) (hts (.fieldLink RX5 25 "NeckShipModel" "way" "[I") (by decide +kernel)) (fun _ h9 => h9) rfl dX5_about_93 ?_
              refine lv_iload_n hx hb dX5_about_96 rfl (lv_at hl 1 rfl) ?_
              refine va_ialdN (i := s0.toNatClampNeg) hx hb hK hP 6 0 rfl rfl (by decide) (by omega) dX5_about_97 ?_
              exact W.iret (v := A 6 s0.toNatClampNeg) hx hb hr (fun t ht hW => ⟨_, rfl, (by rw [s_X5_about, if_neg (nb c_2), if_neg c_3, if_neg c_4, if_neg c_5, if_neg c_6, if_pos c_7]), ht⟩) (fun _ h => by cases h) dX5_about_98
            · by_cases c_8 : w0 = (5)
              · refine lv_tableIn (off := 88) (tgt := 99) hx hb dX5_about_11 (by rw [c_8]; decide) (by rw [c_8]; decide) (by rw [c_8]; rfl) (by decide) ?_
                refine lv_aload_n hx hb dX5_about_99 rfl (lv_at hl 0 rfl) ?_
                refine lv_aload_n hx hb dX5_about_100 rfl (lv_at hl 0 rfl) ?_
                refine va_get (D := D) (ci := 5) (v := .int (nI (N 2))) (C := RX5) (T := TX5) (N := 22) hx hb hts hin5 hown hK hP 0 rfl rfl 8 (by decide) (hts (.fieldLink RX5 125 "NeckShipModel" "up" "I") (by decide +kernel)) (fun _ h9 => h9) rfl dX5_about_101 ?_
                refine lv_iload_n hx hb dX5_about_104 rfl (lv_at hl 1 rfl) ?_
                refine vp_callSi (W.runV (As := [.int (nI (N 2)), .int (nI s0.toNatClampNeg)]) (rest := []) ⟨hx, hb, hml, hown, hts⟩ (c_X5_isUp l D cI cZ cS q N V A (nI (N 2)) (nI s0.toNatClampNeg)) (cwV 2 hts gX5_about_X5_isUp rfl rfl rfl (by decide +kernel) ⟨Nat.le_of_ble_eq_true rfl, Nat.le_of_ble_eq_true rfl⟩) (preM hK hP) rfl rfl hl.1 rfl (lv_room (Nat.le_of_ble_eq_true rfl)) dX5_about_105 ⟨Nat.zero_le _, Nat.zero_le _⟩) (fun r_9 er_9 => ?_)
                subst er_9
                refine lz_if_eq (tgt := 115) hx hb dX5_about_108 (by decide) (fun c_10 => ?_) (fun c_10 => ?_)
                · refine lv_iconst (v := (0)) hx hb dX5_about_115 (by decide) ?_
                  exact W.iret (v := (0 : Int32)) hx hb hr (fun t ht hW => ⟨_, rfl, (by rw [s_X5_about, if_neg (nb c_2), if_neg c_3, if_neg c_4, if_neg c_5, if_neg c_6, if_neg c_7, if_pos c_8, if_neg (nb c_10)]), ht⟩) (fun _ h => by cases h) dX5_about_116
                · refine lv_iconst (v := (1)) hx hb dX5_about_111 (by decide) ?_
                  refine lv_goto (tgt := 116) hx hb dX5_about_112 (by decide) ?_
                  exact W.iret (v := (1 : Int32)) hx hb hr (fun t ht hW => ⟨_, rfl, (by rw [s_X5_about, if_neg (nb c_2), if_neg c_3, if_neg c_4, if_neg c_5, if_neg c_6, if_neg c_7, if_pos c_8, if_pos c_10]), ht⟩) (fun _ h => by cases h) dX5_about_116
              · by_cases c_11 : w0 = (6)
                · refine lv_tableIn (off := 106) (tgt := 117) hx hb dX5_about_11 (by rw [c_11]; decide) (by rw [c_11]; decide) (by rw [c_11]; rfl) (by decide) ?_
                  refine lv_aload_n hx hb dX5_about_117 rfl (lv_at hl 0 rfl) ?_
                  refine lv_aload_n hx hb dX5_about_118 rfl (lv_at hl 0 rfl) ?_
                  refine va_get (D := D) (ci := 5) (v := .int (nI (N 2))) (C := RX5) (T := TX5) (N := 22) hx hb hts hin5 hown hK hP 0 rfl rfl 8 (by decide) (hts (.fieldLink RX5 125 "NeckShipModel" "up" "I") (by decide +kernel)) (fun _ h9 => h9) rfl dX5_about_119 ?_
                  refine lv_iload_n hx hb dX5_about_122 rfl (lv_at hl 1 rfl) ?_
                  refine vp_callSi (W.runV (As := [.int (nI (N 2)), .int (nI s0.toNatClampNeg)]) (rest := []) ⟨hx, hb, hml, hown, hts⟩ (c_X5_isUp l D cI cZ cS q N V A (nI (N 2)) (nI s0.toNatClampNeg)) (cwV 2 hts gX5_about_X5_isUp rfl rfl rfl (by decide +kernel) ⟨Nat.le_of_ble_eq_true rfl, Nat.le_of_ble_eq_true rfl⟩) (preM hK hP) rfl rfl hl.1 rfl (lv_room (Nat.le_of_ble_eq_true rfl)) dX5_about_123 ⟨Nat.zero_le _, Nat.zero_le _⟩) (fun r_12 er_12 => ?_)
                  subst er_12
                  refine lz_if_eq (tgt := 141) hx hb dX5_about_126 (by decide) (fun c_13 => ?_) (fun c_13 => ?_)
                  · refine lv_iconst (v := (0)) hx hb dX5_about_141 (by decide) ?_
                    exact W.iret (v := (0 : Int32)) hx hb hr (fun t ht hW => ⟨_, rfl, (by rw [s_X5_about, if_neg (nb c_2), if_neg c_3, if_neg c_4, if_neg c_5, if_neg c_6, if_neg c_7, if_neg c_8, if_pos c_11, if_neg (nb c_13)]), ht⟩) (fun _ h => by cases h) dX5_about_142
                  · refine lv_aload_n hx hb dX5_about_129 rfl (lv_at hl 0 rfl) ?_
                    refine lv_iload_n hx hb dX5_about_130 rfl (lv_at hl 1 rfl) ?_
                    refine vp_callSi (W.runV (As := [.int (nI s0.toNatClampNeg)]) (rest := []) ⟨hx, hb, hml, hown, hts⟩ (c_X5_raisers l D cI cZ cS q N V A s0.toNatClampNeg h_1) (cwV 1 hts gX5_about_X5_raisers rfl rfl rfl (by decide +kernel) ⟨Nat.le_of_ble_eq_true rfl, Nat.le_of_ble_eq_true rfl⟩) (preM hK hP) rfl rfl hl.1 rfl (lv_room (Nat.le_of_ble_eq_true rfl)) dX5_about_131 ⟨Nat.zero_le _, Nat.zero_le _⟩) (fun r_14 er_14 => ?_)
                    subst er_14
                    refine lv_if_le (tgt := 141) hx hb dX5_about_134 (by decide) (fun c_15 => ?_) (fun c_15 => ?_)
                    · refine lv_iconst (v := (0)) hx hb dX5_about_141 (by decide) ?_
                      exact W.iret (v := (0 : Int32)) hx hb hr (fun t ht hW => ⟨_, rfl, (by rw [s_X5_about, if_neg (nb c_2), if_neg c_3, if_neg c_4, if_neg c_5, if_neg c_6, if_neg c_7, if_neg c_8, if_pos c_11, if_pos c_13, if_pos c_15]), ht⟩) (fun _ h => by cases h) dX5_about_142
                    · refine lv_iconst (v := (1)) hx hb dX5_about_137 (by decide) ?_
                      refine lv_goto (tgt := 142) hx hb dX5_about_138 (by decide) ?_
                      exact W.iret (v := (1 : Int32)) hx hb hr (fun t ht hW => ⟨_, rfl, (by rw [s_X5_about, if_neg (nb c_2), if_neg c_3, if_neg c_4, if_neg c_5, if_neg c_6, if_neg c_7, if_neg c_8, if_pos c_11, if_pos c_13, if_neg c_15]), ht⟩) (fun _ h => by cases h) dX5_about_142
                · by_cases c_16 : w0 = (7)
                  · refine lv_tableIn (off := 132) (tgt := 143) hx hb dX5_about_11 (by rw [c_16]; decide) (by rw [c_16]; decide) (by rw [c_16]; rfl) (by decide) ?_
                    refine lv_aload_n hx hb dX5_about_143 rfl (lv_at hl 0 rfl) ?_
                    refine lv_aload_n hx hb dX5_about_144 rfl (lv_at hl 0 rfl) ?_
                    refine va_get (D := D) (ci := 5) (v := .int (nI (N 2))) (C := RX5) (T := TX5) (N := 22) hx hb hts hin5 hown hK hP 0 rfl rfl 8 (by decide) (hts (.fieldLink RX5 125 "NeckShipModel" "up" "I") (by decide +kernel)) (fun _ h9 => h9) rfl dX5_about_145 ?_
                    refine lv_iload_n hx hb dX5_about_148 rfl (lv_at hl 1 rfl) ?_
                    refine vp_callSi (W.runV (As := [.int (nI (N 2)), .int (nI s0.toNatClampNeg)]) (rest := []) ⟨hx, hb, hml, hown, hts⟩ (c_X5_mayRise l D cI cZ cS q N V A (nI (N 2)) s0.toNatClampNeg h_1 (by omega)) (cwV 2 hts gX5_about_X5_mayRise rfl rfl rfl (by decide +kernel) ⟨Nat.le_of_ble_eq_true rfl, Nat.le_of_ble_eq_true rfl⟩) (preM hK hP) rfl rfl hl.1 rfl (lv_room (Nat.le_of_ble_eq_true rfl)) dX5_about_149 ⟨Nat.zero_le _, Nat.zero_le _⟩) (fun r_17 er_17 => ?_)
                    subst er_17
                    refine lz_if_eq (tgt := 159) hx hb dX5_about_152 (by decide) (fun c_18 => ?_) (fun c_18 => ?_)
                    · refine lv_iconst (v := (0)) hx hb dX5_about_159 (by decide) ?_
                      exact W.iret (v := (0 : Int32)) hx hb hr (fun t ht hW => ⟨_, rfl, (by rw [s_X5_about, if_neg (nb c_2), if_neg c_3, if_neg c_4, if_neg c_5, if_neg c_6, if_neg c_7, if_neg c_8, if_neg c_11, if_pos c_16, if_neg (nb c_18)]), ht⟩) (fun _ h => by cases h) dX5_about_160
                    · refine lv_iconst (v := (1)) hx hb dX5_about_155 (by decide) ?_
                      refine lv_goto (tgt := 160) hx hb dX5_about_156 (by decide) ?_
                      exact W.iret (v := (1 : Int32)) hx hb hr (fun t ht hW => ⟨_, rfl, (by rw [s_X5_about, if_neg (nb c_2), if_neg c_3, if_neg c_4, if_neg c_5, if_neg c_6, if_neg c_7, if_neg c_8, if_neg c_11, if_pos c_16, if_pos c_18]), ht⟩) (fun _ h => by cases h) dX5_about_160
                  · by_cases c_19 : w0 = (8)
                    · refine lv_tableIn (off := 150) (tgt := 161) hx hb dX5_about_11 (by rw [c_19]; decide) (by rw [c_19]; decide) (by rw [c_19]; rfl) (by decide) ?_
                      refine lv_aload_n hx hb dX5_about_161 rfl (lv_at hl 0 rfl) ?_
                      refine lv_iload_n hx hb dX5_about_162 rfl (lv_at hl 1 rfl) ?_
                      refine vp_callSi (W.runV (As := [.int (nI s0.toNatClampNeg)]) (rest := []) ⟨hx, hb, hml, hown, hts⟩ (c_X5_raisers l D cI cZ cS q N V A s0.toNatClampNeg h_1) (cwV 1 hts gX5_about_X5_raisers rfl rfl rfl (by decide +kernel) ⟨Nat.le_of_ble_eq_true rfl, Nat.le_of_ble_eq_true rfl⟩) (preM hK hP) rfl rfl hl.1 rfl (lv_room (Nat.le_of_ble_eq_true rfl)) dX5_about_163 ⟨Nat.zero_le _, Nat.zero_le _⟩) (fun r_20 er_20 => ?_)
                      subst er_20
                      exact W.iret (v := (s_X5_raisers N V A s0.toNatClampNeg)) hx hb hr (fun t ht hW => ⟨_, rfl, (by rw [s_X5_about, if_neg (nb c_2), if_neg c_3, if_neg c_4, if_neg c_5, if_neg c_6, if_neg c_7, if_neg c_8, if_neg c_11, if_neg c_16, if_pos c_19]), ht⟩) (fun _ h => by cases h) dX5_about_166
                    · by_cases c_21 : w0 = (9)
                      · refine lv_tableIn (off := 156) (tgt := 167) hx hb dX5_about_11 (by rw [c_21]; decide) (by rw [c_21]; decide) (by rw [c_21]; rfl) (by decide) ?_
                        refine lv_aload_n hx hb dX5_about_167 rfl (lv_at hl 0 rfl) ?_
                        refine lv_aload_n hx hb dX5_about_168 rfl (lv_at hl 0 rfl) ?_
                        refine va_get (D := D) (ci := 5) (v := .int (nI (N 2))) (C := RX5) (T := TX5) (N := 22) hx hb hts hin5 hown hK hP 0 rfl rfl 8 (by decide) (hts (.fieldLink RX5 125 "NeckShipModel" "up" "I") (by decide +kernel)) (fun _ h9 => h9) rfl dX5_about_169 ?_
                        refine lv_iload_n hx hb dX5_about_172 rfl (lv_at hl 1 rfl) ?_
                        refine vp_callSi (W.runV (As := [.int (nI (N 2)), .int (nI s0.toNatClampNeg)]) (rest := []) ⟨hx, hb, hml, hown, hts⟩ (c_X5_overThatLie l D cI cZ cS q N V A (nI (N 2)) s0.toNatClampNeg h_1 (by omega)) (cwV 2 hts gX5_about_X5_overThatLie rfl rfl rfl (by decide +kernel) ⟨Nat.le_of_ble_eq_true rfl, Nat.le_of_ble_eq_true rfl⟩) (preM hK hP) rfl rfl hl.1 rfl (lv_room (Nat.le_of_ble_eq_true rfl)) dX5_about_173 ⟨Nat.zero_le _, Nat.zero_le _⟩) (fun r_22 er_22 => ?_)
                        subst er_22
                        exact W.iret (v := (s_X5_overThatLie N V A (nI (N 2)) s0.toNatClampNeg)) hx hb hr (fun t ht hW => ⟨_, rfl, (by rw [s_X5_about, if_neg (nb c_2), if_neg c_3, if_neg c_4, if_neg c_5, if_neg c_6, if_neg c_7, if_neg c_8, if_neg c_11, if_neg c_16, if_neg c_19, if_pos c_21]), ht⟩) (fun _ h => by cases h) dX5_about_176
                      · refine lv_tableOut (tgt := 177) hx hb dX5_about_11 (tsw_out w0 (by decide) [0, 1, 2, 3, 4, 5, 6, 7, 8, 9] rfl (by simp only [List.forall_mem_cons]; exact ⟨c_3, c_4, c_5, c_6, c_7, c_8, c_11, c_16, c_19, c_21, fun _ h => absurd h List.not_mem_nil⟩)) (by decide) ?_
                        refine lv_bipush (v := (-2)) hx hb dX5_about_177 (by decide) ?_
                        exact W.iret (v := (-2 : Int32)) hx hb hr (fun t ht hW => ⟨_, rfl, (by rw [s_X5_about, if_neg (nb c_2), if_neg c_3, if_neg c_4, if_neg c_5, if_neg c_6, if_neg c_7, if_neg c_8, if_neg c_11, if_neg c_16, if_neg c_19, if_neg c_21]), ht⟩) (fun _ h => by cases h) dX5_about_179
  · refine lv_iconst (v := (-1)) hx hb dX5_about_8 (by decide) ?_
    exact W.iret (v := (-1 : Int32)) hx hb hr (fun t ht hW => ⟨_, rfl, (by rw [s_X5_about, if_pos c_2]), ht⟩) (fun _ h => by cases h) dX5_about_9
def s_X5_isSpar (N : Nat → Nat) (V : Nat → Int32) (A : Nat → Nat → Int32)  (k0 : Int32) (f0 : Int32) (l0 : Int32) (t0 : Int32) (w0 : Int32) : Bool :=
  if (s_X5_in ((k0).toInt64) (0 : Int64) (2 : Int64)) = true then
    if (s_X5_in ((f0).toInt64) (0 : Int64) ((A 1 0).toInt64)) = true then
      if (s_X5_in ((l0).toInt64) (1 : Int64) (60 : Int64)) = true then
        if (s_X5_in ((t0).toInt64) (1 : Int64) (9 : Int64)) = true then
          if w0 = (1 : Int32) then
            true
          else
            if w0 = (-1 : Int32) then
              true
            else
              false
        else
          false
      else
        false
    else
      false
  else
    false
set_option maxHeartbeats 4000000 in
set_option maxRecDepth 100000 in
theorem c_X5_isSpar (l : Launch) (D : va_G) (cI cZ cS : ClassId) (q : Nat → Nat) (N : Nat → Nat) (V : Nat → Int32) (A : Nat → Nat → Int32) (k0 : Int32) (f0 : Int32) (l0 : Int32) (t0 : Int32) (w0 : Int32) : Met l yX5_isSpar wsX5_isSpar ({ frames := 1, cells := 0, slots := 0, locals := 25 }) (va_Pc [.ref (q 0), .int k0, .int f0, .int l0, .int t0, .int w0] (PM D cI cZ cS q N V A)) (vp_Si (fun r => r = b2i (s_X5_isSpar N V A k0 f0 l0 t0 w0))) 0 0 (fun _ => False) := by
  refine Met.ofW (cc := cX5_isSpar) (maxL := 6) (ret := (some .boolean)) (by decide) rfl ?_
  intro p e s m args below meth c s₁ B hml hv
  obtain ⟨rfl, hP, hK⟩ := hv
  have hx := B.exec
  have hb := B.bytes
  have hr := B.returns
  have hts := atoms_spec (ws := wsX5_isSpar) B.pre
  have hown : s.vm.findClass RX5 = some m.cls := findClass_of_methodNamed B.named
  have hlocks := B.notSynchronized
  have hin5 : ∀ w ∈ u_ws RX5 TX5 22, w ∈ wsX5_isSpar := by decide +kernel
  have hl := lv_entry ([.ref (q 0), .int k0, .int f0, .int l0, .int t0, .int w0]) (n := 6) (Nat.le_of_ble_eq_true rfl)
  rw [lg_entry_eq]
  generalize (lg_sl ([.ref (q 0), .int k0, .int f0, .int l0, .int t0, .int w0]) ++ List.replicate (6 - (lg_sl ([.ref (q 0), .int k0, .int f0, .int l0, .int t0, .int w0])).length) Slot.unset).toArray = ls at hl ⊢
  have hl : lv_has ls 6 [(0, .ref (q 0)), (1, .int k0), (2, .int f0), (3, .int l0), (4, .int t0), (5, .int w0)] := hl
  refine lv_iload_n hx hb dX5_isSpar_0 rfl (lv_at hl 1 rfl) ?_
  refine lv_i2l (v := (k0).toInt64) hx hb dX5_isSpar_1 rfl ?_
  refine lv_lconst (v := (0)) hx hb dX5_isSpar_2 (by decide) ?_
  refine lv_ldc2 (v := (2)) hx hb hown (hts (.constantLong RX5 92 (2)) (by decide +kernel)) dX5_isSpar_3 ?_
  refine vp_callSi (W.runS (As := [.long ((k0).toInt64), .long (0 : Int64), .long (2 : Int64)]) (rest := []) ⟨hx, hb, hml, hown, hts⟩ (c_X5_in l ((k0).toInt64) (0 : Int64) (2 : Int64)) (cwS 3 hts gX5_isSpar_X5_in rfl rfl rfl (by decide +kernel) ⟨Nat.le_of_ble_eq_true rfl, Nat.le_of_ble_eq_true rfl⟩) (preEq) rfl rfl hl.1 rfl (lv_room (Nat.le_of_ble_eq_true rfl)) dX5_isSpar_6 ⟨Nat.zero_le _, Nat.zero_le _⟩) (fun r_1 er_1 => ?_)
  subst er_1
  refine lz_if_eq (tgt := 69) hx hb dX5_isSpar_9 (by decide) (fun c_2 => ?_) (fun c_2 => ?_)
  · refine lv_iconst (v := (0)) hx hb dX5_isSpar_69 (by decide) ?_
    exact W.zret (v := b2i false) hx hb hr (b2i_nar _) (fun t ht hW => ⟨_, rfl, (by rw [s_X5_isSpar, if_neg (nb c_2)]), ht⟩) (fun _ h => by cases h) dX5_isSpar_70
  · refine lv_iload_n hx hb dX5_isSpar_12 rfl (lv_at hl 2 rfl) ?_
    refine lv_i2l (v := (f0).toInt64) hx hb dX5_isSpar_13 rfl ?_
    refine lv_lconst (v := (0)) hx hb dX5_isSpar_14 (by decide) ?_
    refine lv_aload_n hx hb dX5_isSpar_15 rfl (lv_at hl 0 rfl) ?_
    refine va_get (D := D) (ci := 5) (v := .ref (q 1)) (C := RX5) (T := TX5) (N := 22) hx hb hts hin5 hown hK hP 0 rfl rfl 1 (by decide) (hts (.fieldLink RX5 7 "NeckShipModel" "rules" "[I") (by decide +kernel)) (fun _ h9 => h9) rfl dX5_isSpar_16 ?_
    refine lv_iconst (v := (0)) hx hb dX5_isSpar_19 (by decide) ?_
    refine va_ialdN (i := 0) hx hb hK hP 1 0 rfl rfl (by decide) (by omega) dX5_isSpar_20 ?_
    refine lv_i2l (v := (A 1 0).toInt64) hx hb dX5_isSpar_21 rfl ?_
    refine vp_callSi (W.runS (As := [.long ((f0).toInt64), .long (0 : Int64), .long ((A 1 0).toInt64)]) (rest := []) ⟨hx, hb, hml, hown, hts⟩ (c_X5_in l ((f0).toInt64) (0 : Int64) ((A 1 0).toInt64)) (cwS 3 hts gX5_isSpar_X5_in rfl rfl rfl (by decide +kernel) ⟨Nat.le_of_ble_eq_true rfl, Nat.le_of_ble_eq_true rfl⟩) (preEq) rfl rfl hl.1 rfl (lv_room (Nat.le_of_ble_eq_true rfl)) dX5_isSpar_22 ⟨Nat.zero_le _, Nat.zero_le _⟩) (fun r_3 er_3 => ?_)
    subst er_3
    refine lz_if_eq (tgt := 69) hx hb dX5_isSpar_25 (by decide) (fun c_4 => ?_) (fun c_4 => ?_)
    · refine lv_iconst (v := (0)) hx hb dX5_isSpar_69 (by decide) ?_
      exact W.zret (v := b2i false) hx hb hr (b2i_nar _) (fun t ht hW => ⟨_, rfl, (by rw [s_X5_isSpar, if_pos c_2, if_neg (nb c_4)]), ht⟩) (fun _ h => by cases h) dX5_isSpar_70
    · refine lv_iload_n hx hb dX5_isSpar_28 rfl (lv_at hl 3 rfl) ?_
      refine lv_i2l (v := (l0).toInt64) hx hb dX5_isSpar_29 rfl ?_
      refine lv_lconst (v := (1)) hx hb dX5_isSpar_30 (by decide) ?_
      refine lv_ldc2 (v := (60)) hx hb hown (hts (.constantLong RX5 86 (60)) (by decide +kernel)) dX5_isSpar_31 ?_
      refine vp_callSi (W.runS (As := [.long ((l0).toInt64), .long (1 : Int64), .long (60 : Int64)]) (rest := []) ⟨hx, hb, hml, hown, hts⟩ (c_X5_in l ((l0).toInt64) (1 : Int64) (60 : Int64)) (cwS 3 hts gX5_isSpar_X5_in rfl rfl rfl (by decide +kernel) ⟨Nat.le_of_ble_eq_true rfl, Nat.le_of_ble_eq_true rfl⟩) (preEq) rfl rfl hl.1 rfl (lv_room (Nat.le_of_ble_eq_true rfl)) dX5_isSpar_34 ⟨Nat.zero_le _, Nat.zero_le _⟩) (fun r_5 er_5 => ?_)
      subst er_5
      refine lz_if_eq (tgt := 69) hx hb dX5_isSpar_37 (by decide) (fun c_6 => ?_) (fun c_6 => ?_)
      · refine lv_iconst (v := (0)) hx hb dX5_isSpar_69 (by decide) ?_
        exact W.zret (v := b2i false) hx hb hr (b2i_nar _) (fun t ht hW => ⟨_, rfl, (by rw [s_X5_isSpar, if_pos c_2, if_pos c_4, if_neg (nb c_6)]), ht⟩) (fun _ h => by cases h) dX5_isSpar_70
      · refine lv_iload hx hb dX5_isSpar_40 (lv_at hl 4 rfl) ?_
        refine lv_i2l (v := (t0).toInt64) hx hb dX5_isSpar_42 rfl ?_
        refine lv_lconst (v := (1)) hx hb dX5_isSpar_43 (by decide) ?_
        refine lv_ldc2 (v := (9)) hx hb hown (hts (.constantLong RX5 94 (9)) (by decide +kernel)) dX5_isSpar_44 ?_
        refine vp_callSi (W.runS (As := [.long ((t0).toInt64), .long (1 : Int64), .long (9 : Int64)]) (rest := []) ⟨hx, hb, hml, hown, hts⟩ (c_X5_in l ((t0).toInt64) (1 : Int64) (9 : Int64)) (cwS 3 hts gX5_isSpar_X5_in rfl rfl rfl (by decide +kernel) ⟨Nat.le_of_ble_eq_true rfl, Nat.le_of_ble_eq_true rfl⟩) (preEq) rfl rfl hl.1 rfl (lv_room (Nat.le_of_ble_eq_true rfl)) dX5_isSpar_47 ⟨Nat.zero_le _, Nat.zero_le _⟩) (fun r_7 er_7 => ?_)
        subst er_7
        refine lz_if_eq (tgt := 69) hx hb dX5_isSpar_50 (by decide) (fun c_8 => ?_) (fun c_8 => ?_)
        · refine lv_iconst (v := (0)) hx hb dX5_isSpar_69 (by decide) ?_
          exact W.zret (v := b2i false) hx hb hr (b2i_nar _) (fun t ht hW => ⟨_, rfl, (by rw [s_X5_isSpar, if_pos c_2, if_pos c_4, if_pos c_6, if_neg (nb c_8)]), ht⟩) (fun _ h => by cases h) dX5_isSpar_70
        · refine lv_iload hx hb dX5_isSpar_53 (lv_at hl 5 rfl) ?_
          refine lv_iconst (v := (1)) hx hb dX5_isSpar_55 (by decide) ?_
          refine lv_icmp_eq (tgt := 65) hx hb dX5_isSpar_56 (by decide) (fun c_9 => ?_) (fun c_9 => ?_)
          · refine lv_iconst (v := (1)) hx hb dX5_isSpar_65 (by decide) ?_
            refine lv_goto (tgt := 70) hx hb dX5_isSpar_66 (by decide) ?_
            exact W.zret (v := b2i true) hx hb hr (b2i_nar _) (fun t ht hW => ⟨_, rfl, (by rw [s_X5_isSpar, if_pos c_2, if_pos c_4, if_pos c_6, if_pos c_8, if_pos c_9]), ht⟩) (fun _ h => by cases h) dX5_isSpar_70
          · refine lv_iload hx hb dX5_isSpar_59 (lv_at hl 5 rfl) ?_
            refine lv_iconst (v := (-1)) hx hb dX5_isSpar_61 (by decide) ?_
            refine lv_icmp_ne (tgt := 69) hx hb dX5_isSpar_62 (by decide) (fun c_10 => ?_) (fun c_10 => ?_)
            · refine lv_iconst (v := (0)) hx hb dX5_isSpar_69 (by decide) ?_
              exact W.zret (v := b2i false) hx hb hr (b2i_nar _) (fun t ht hW => ⟨_, rfl, (by rw [s_X5_isSpar, if_pos c_2, if_pos c_4, if_pos c_6, if_pos c_8, if_neg c_9, if_neg c_10]), ht⟩) (fun _ h => by cases h) dX5_isSpar_70
            · refine lv_iconst (v := (1)) hx hb dX5_isSpar_65 (by decide) ?_
              refine lv_goto (tgt := 70) hx hb dX5_isSpar_66 (by decide) ?_
              exact W.zret (v := b2i true) hx hb hr (b2i_nar _) (fun t ht hW => ⟨_, rfl, (by rw [s_X5_isSpar, if_pos c_2, if_pos c_4, if_pos c_6, if_pos c_8, if_neg c_9, if_pos c_10]), ht⟩) (fun _ h => by cases h) dX5_isSpar_70
def s_X5_refused (N : Nat → Nat) (V : Nat → Int32) (A : Nat → Nat → Int32)  (c0 : Int32) : Int32 × St :=
  (c0, N, (va_up V 0 (0 : Int32)), A)
set_option maxHeartbeats 4000000 in
set_option maxRecDepth 100000 in
theorem c_X5_refused (l : Launch) (D : va_G) (cI cZ cS : ClassId) (q : Nat → Nat) (N : Nat → Nat) (V : Nat → Int32) (A : Nat → Nat → Int32) (sz : Nat) (c0 : Int32) : Met l yX5_refused wsX5_refused ({ frames := 0, cells := 0, slots := 0, locals := 0 }) (va_Pc [.ref (q 0), .int c0] (fun U => U.heap.size = sz ∧ PM D cI cZ cS q N V A U ∧ va_D (fun _ => True) (wM cI cZ q N V A))) (va_Qi (fun r (_ : Unit) => r = (s_X5_refused N V A c0).1) (fun _ t => PM D cI cZ cS q (s_X5_refused N V A c0).2.1 (s_X5_refused N V A c0).2.2.1 (s_X5_refused N V A c0).2.2.2 t ∧ va_D (va_A (wM cI cZ q N V A) sz) (wM cI cZ q (s_X5_refused N V A c0).2.1 (s_X5_refused N V A c0).2.2.1 (s_X5_refused N V A c0).2.2.2)) (va_A (wM cI cZ q N V A) sz)) 0 0 (va_A (wM cI cZ q N V A) sz) := by
  refine Met.ofW (cc := cX5_refused) (maxL := 2) (ret := (some .int)) (by decide) rfl ?_
  intro p e s m args below meth c s₁ B hml hv
  obtain ⟨rfl, hsz, ⟨hP, hK⟩, hD0⟩ := hv
  have hx := B.exec
  have hb := B.bytes
  have hr := B.returns
  have hts := atoms_spec (ws := wsX5_refused) B.pre
  have hown : s.vm.findClass RX5 = some m.cls := findClass_of_methodNamed B.named
  have hlocks := B.notSynchronized
  have hin5 : ∀ w ∈ u_ws RX5 TX5 22, w ∈ wsX5_refused := by decide +kernel
  subst hsz
  have hD := hD0.self (sz := s.heap.size)
  generalize hAe : va_A (wM cI cZ q N V A) s.heap.size = Ar at hD ⊢
  have hA : ∀ q : Nat, s.heap.size ≤ q → Ar q := fun q h => by rw [← hAe]; exact Or.inr h
  have hS : va_S Ar s.heap s.heap [] := va_S.rf
  have hl := lv_entry ([.ref (q 0), .int c0]) (n := 2) (Nat.le_of_ble_eq_true rfl)
  rw [lg_entry_eq]
  generalize (lg_sl ([.ref (q 0), .int c0]) ++ List.replicate (2 - (lg_sl ([.ref (q 0), .int c0])).length) Slot.unset).toArray = ls at hl ⊢
  have hl : lv_has ls 2 [(0, .ref (q 0)), (1, .int c0)] := hl
  refine lv_aload_n hx hb dX5_refused_0 rfl (lv_at hl 0 rfl) ?_
  refine lv_iconst (v := (0)) hx hb dX5_refused_1 (by decide) ?_
  refine va_put (D := D) (ci := 5) (v := .int (0)) (ty := .int) (C := RX5) (T := TX5) (N := 22) hx hb hts hin5 tyX5 tyX5_ok nmX5 hown hK hP hD hS 0 rfl rfl 0 (by decide) (hts (.fieldLink RX5 64 "NeckShipModel" "fault" "I") (by decide +kernel)) (fun _ h9 => h9) rfl (by decide +kernel) rfl rfl (Nat.le_of_ble_eq_true rfl) dX5_refused_2 (fun H locs hP hD hS => ?_)
  have hP : va_P D vwCl (wM cI cZ q N (va_up V 0 (0 : Int32)) A) H := hP
  have hD : va_D Ar (wM cI cZ q N (va_up V 0 (0 : Int32)) A) := hD
  refine lv_iload_n hx hb dX5_refused_5 rfl (lv_at hl 1 rfl) ?_
  have hEE : s_X5_refused N V A c0 = (c0, N, (va_up V 0 (0 : Int32)), A) := (by rw [s_X5_refused])
  rw [hEE]
  exact W.iret (v := c0) hx hb hr (fun t ht hW => ⟨⟨_, (), rfl, rfl, ⟨by rw [ht]; exact hP, va_K.moved hW.alike hK⟩, hD⟩, hS.F ht⟩) hS.2.2 dX5_refused_6
def s_X5_failed (N : Nat → Nat) (V : Nat → Int32) (A : Nat → Nat → Int32)  (f0 : Int32) : Int32 × St :=
  (((-10 : Int32) - f0), N, (va_up V 0 f0), A)
set_option maxHeartbeats 4000000 in
set_option maxRecDepth 100000 in
theorem c_X5_failed (l : Launch) (D : va_G) (cI cZ cS : ClassId) (q : Nat → Nat) (N : Nat → Nat) (V : Nat → Int32) (A : Nat → Nat → Int32) (sz : Nat) (f0 : Int32) : Met l yX5_failed wsX5_failed ({ frames := 0, cells := 0, slots := 0, locals := 0 }) (va_Pc [.ref (q 0), .int f0] (fun U => U.heap.size = sz ∧ PM D cI cZ cS q N V A U ∧ va_D (fun _ => True) (wM cI cZ q N V A))) (va_Qi (fun r (_ : Unit) => r = (s_X5_failed N V A f0).1) (fun _ t => PM D cI cZ cS q (s_X5_failed N V A f0).2.1 (s_X5_failed N V A f0).2.2.1 (s_X5_failed N V A f0).2.2.2 t ∧ va_D (va_A (wM cI cZ q N V A) sz) (wM cI cZ q (s_X5_failed N V A f0).2.1 (s_X5_failed N V A f0).2.2.1 (s_X5_failed N V A f0).2.2.2)) (va_A (wM cI cZ q N V A) sz)) 0 0 (va_A (wM cI cZ q N V A) sz) := by
  refine Met.ofW (cc := cX5_failed) (maxL := 2) (ret := (some .int)) (by decide) rfl ?_
  intro p e s m args below meth c s₁ B hml hv
  obtain ⟨rfl, hsz, ⟨hP, hK⟩, hD0⟩ := hv
  have hx := B.exec
  have hb := B.bytes
  have hr := B.returns
  have hts := atoms_spec (ws := wsX5_failed) B.pre
  have hown : s.vm.findClass RX5 = some m.cls := findClass_of_methodNamed B.named
  have hlocks := B.notSynchronized
  have hin5 : ∀ w ∈ u_ws RX5 TX5 22, w ∈ wsX5_failed := by decide +kernel
  subst hsz
  have hD := hD0.self (sz := s.heap.size)
  generalize hAe : va_A (wM cI cZ q N V A) s.heap.size = Ar at hD ⊢
  have hA : ∀ q : Nat, s.heap.size ≤ q → Ar q := fun q h => by rw [← hAe]; exact Or.inr h
  have hS : va_S Ar s.heap s.heap [] := va_S.rf
  have hl := lv_entry ([.ref (q 0), .int f0]) (n := 2) (Nat.le_of_ble_eq_true rfl)
  rw [lg_entry_eq]
  generalize (lg_sl ([.ref (q 0), .int f0]) ++ List.replicate (2 - (lg_sl ([.ref (q 0), .int f0])).length) Slot.unset).toArray = ls at hl ⊢
  have hl : lv_has ls 2 [(0, .ref (q 0)), (1, .int f0)] := hl
  refine lv_aload_n hx hb dX5_failed_0 rfl (lv_at hl 0 rfl) ?_
  refine lv_iload_n hx hb dX5_failed_1 rfl (lv_at hl 1 rfl) ?_
  refine va_put (D := D) (ci := 5) (v := .int f0) (ty := .int) (C := RX5) (T := TX5) (N := 22) hx hb hts hin5 tyX5 tyX5_ok nmX5 hown hK hP hD hS 0 rfl rfl 0 (by decide) (hts (.fieldLink RX5 64 "NeckShipModel" "fault" "I") (by decide +kernel)) (fun _ h9 => h9) rfl (by decide +kernel) rfl rfl (Nat.le_of_ble_eq_true rfl) dX5_failed_2 (fun H locs hP hD hS => ?_)
  have hP : va_P D vwCl (wM cI cZ q N (va_up V 0 f0) A) H := hP
  have hD : va_D Ar (wM cI cZ q N (va_up V 0 f0) A) := hD
  refine lv_bipush (v := (-10)) hx hb dX5_failed_5 (by decide) ?_
  refine lv_iload_n hx hb dX5_failed_7 rfl (lv_at hl 1 rfl) ?_
  refine lv_isub hx hb dX5_failed_8 ?_
  have hEE : s_X5_failed N V A f0 = (((-10 : Int32) - f0), N, (va_up V 0 f0), A) := (by rw [s_X5_failed])
  rw [hEE]
  exact W.iret (v := ((-10 : Int32) - f0)) hx hb hr (fun t ht hW => ⟨⟨_, (), rfl, rfl, ⟨by rw [ht]; exact hP, va_K.moved hW.alike hK⟩, hD⟩, hS.F ht⟩) hS.2.2 dX5_failed_9
def s_X5_failedLong (N : Nat → Nat) (V : Nat → Int32) (A : Nat → Nat → Int32)  (f0 : Int32) : Int64 × St :=
  ((s_X5_lost), N, (va_up V 0 f0), A)
set_option maxHeartbeats 4000000 in
set_option maxRecDepth 100000 in
theorem c_X5_failedLong (l : Launch) (D : va_G) (cI cZ cS : ClassId) (q : Nat → Nat) (N : Nat → Nat) (V : Nat → Int32) (A : Nat → Nat → Int32) (sz : Nat) (f0 : Int32) : Met l yX5_failedLong wsX5_failedLong ({ frames := 1, cells := 0, slots := 0, locals := 19 }) (va_Pc [.ref (q 0), .int f0] (fun U => U.heap.size = sz ∧ PM D cI cZ cS q N V A U ∧ va_D (fun _ => True) (wM cI cZ q N V A))) (va_Ql (fun r (_ : Unit) => r = (s_X5_failedLong N V A f0).1) (fun _ t => PM D cI cZ cS q (s_X5_failedLong N V A f0).2.1 (s_X5_failedLong N V A f0).2.2.1 (s_X5_failedLong N V A f0).2.2.2 t ∧ va_D (va_A (wM cI cZ q N V A) sz) (wM cI cZ q (s_X5_failedLong N V A f0).2.1 (s_X5_failedLong N V A f0).2.2.1 (s_X5_failedLong N V A f0).2.2.2)) (va_A (wM cI cZ q N V A) sz)) 0 0 (va_A (wM cI cZ q N V A) sz) := by
  refine Met.ofW (cc := cX5_failedLong) (maxL := 2) (ret := (some .long)) (by decide) rfl ?_
  intro p e s m args below meth c s₁ B hml hv
  obtain ⟨rfl, hsz, ⟨hP, hK⟩, hD0⟩ := hv
  have hx := B.exec
  have hb := B.bytes
  have hr := B.returns
  have hts := atoms_spec (ws := wsX5_failedLong) B.pre
  have hown : s.vm.findClass RX5 = some m.cls := findClass_of_methodNamed B.named
  have hlocks := B.notSynchronized
  have hin5 : ∀ w ∈ u_ws RX5 TX5 22, w ∈ wsX5_failedLong := by decide +kernel
  subst hsz
  have hD := hD0.self (sz := s.heap.size)
  generalize hAe : va_A (wM cI cZ q N V A) s.heap.size = Ar at hD ⊢
  have hA : ∀ q : Nat, s.heap.size ≤ q → Ar q := fun q h => by rw [← hAe]; exact Or.inr h
  have hS : va_S Ar s.heap s.heap [] := va_S.rf
  have hl := lv_entry ([.ref (q 0), .int f0]) (n := 2) (Nat.le_of_ble_eq_true rfl)
  rw [lg_entry_eq]
  generalize (lg_sl ([.ref (q 0), .int f0]) ++ List.replicate (2 - (lg_sl ([.ref (q 0), .int f0])).length) Slot.unset).toArray = ls at hl ⊢
  have hl : lv_has ls 2 [(0, .ref (q 0)), (1, .int f0)] := hl
  refine lv_aload_n hx hb dX5_failedLong_0 rfl (lv_at hl 0 rfl) ?_
  refine lv_iload_n hx hb dX5_failedLong_1 rfl (lv_at hl 1 rfl) ?_
  refine va_put (D := D) (ci := 5) (v := .int f0) (ty := .int) (C := RX5) (T := TX5) (N := 22) hx hb hts hin5 tyX5 tyX5_ok nmX5 hown hK hP hD hS 0 rfl rfl 0 (by decide) (hts (.fieldLink RX5 64 "NeckShipModel" "fault" "I") (by decide +kernel)) (fun _ h9 => h9) rfl (by decide +kernel) rfl rfl (Nat.le_of_ble_eq_true rfl) dX5_failedLong_2 (fun H locs hP hD hS => ?_)
  have hP : va_P D vwCl (wM cI cZ q N (va_up V 0 f0) A) H := hP
  have hD : va_D Ar (wM cI cZ q N (va_up V 0 f0) A) := hD
  refine vp_callSl (W.runS (As := []) (rest := []) ⟨hx, hb, hml, hown, hts⟩ (c_X5_lost l) (cwS 0 hts gX5_failedLong_X5_lost rfl rfl rfl (by decide +kernel) ⟨Nat.le_of_ble_eq_true rfl, Nat.le_of_ble_eq_true rfl⟩) (preEq) rfl rfl hl.1 rfl (lv_room (Nat.le_of_ble_eq_true rfl)) dX5_failedLong_5 ⟨Nat.zero_le _, Nat.zero_le _⟩) (fun r_1 er_1 => ?_)
  subst er_1
  have hEE : s_X5_failedLong N V A f0 = ((s_X5_lost), N, (va_up V 0 f0), A) := (by rw [s_X5_failedLong])
  rw [hEE]
  exact W.lret (v := (s_X5_lost)) hx hb hr (fun t ht hW => ⟨⟨_, (), rfl, rfl, ⟨by rw [ht]; exact hP, va_K.moved hW.alike hK⟩, hD⟩, hS.F ht⟩) hS.2.2 dX5_failedLong_8
def s_X5_traced (N : Nat → Nat) (V : Nat → Int32) (A : Nat → Nat → Int32)  (n0 : Int32) : St :=
  (N, (va_up V 1 (((31 : Int32) * V 1) + n0)), A)
set_option maxHeartbeats 4000000 in
set_option maxRecDepth 100000 in
theorem c_X5_traced (l : Launch) (D : va_G) (cI cZ cS : ClassId) (q : Nat → Nat) (N : Nat → Nat) (V : Nat → Int32) (A : Nat → Nat → Int32) (sz : Nat) (n0 : Int32) : Met l yX5_traced wsX5_traced ({ frames := 0, cells := 0, slots := 0, locals := 0 }) (va_Pc [.ref (q 0), .int n0] (fun U => U.heap.size = sz ∧ PM D cI cZ cS q N V A U ∧ va_D (fun _ => True) (wM cI cZ q N V A))) (va_Qv (fun (_ : Unit) => True) (fun _ t => PM D cI cZ cS q (s_X5_traced N V A n0).1 (s_X5_traced N V A n0).2.1 (s_X5_traced N V A n0).2.2 t ∧ va_D (va_A (wM cI cZ q N V A) sz) (wM cI cZ q (s_X5_traced N V A n0).1 (s_X5_traced N V A n0).2.1 (s_X5_traced N V A n0).2.2)) (va_A (wM cI cZ q N V A) sz)) 0 0 (va_A (wM cI cZ q N V A) sz) := by
  refine Met.ofW (cc := cX5_traced) (maxL := 2) (ret := none) (by decide) rfl ?_
  intro p e s m args below meth c s₁ B hml hv
  obtain ⟨rfl, hsz, ⟨hP, hK⟩, hD0⟩ := hv
  have hx := B.exec
  have hb := B.bytes
  have hr := B.returns
  have hts := atoms_spec (ws := wsX5_traced) B.pre
  have hown : s.vm.findClass RX5 = some m.cls := findClass_of_methodNamed B.named
  have hlocks := B.notSynchronized
  have hin5 : ∀ w ∈ u_ws RX5 TX5 22, w ∈ wsX5_traced := by decide +kernel
  subst hsz
  have hD := hD0.self (sz := s.heap.size)
  generalize hAe : va_A (wM cI cZ q N V A) s.heap.size = Ar at hD ⊢
  have hA : ∀ q : Nat, s.heap.size ≤ q → Ar q := fun q h => by rw [← hAe]; exact Or.inr h
  have hS : va_S Ar s.heap s.heap [] := va_S.rf
  have hl := lv_entry ([.ref (q 0), .int n0]) (n := 2) (Nat.le_of_ble_eq_true rfl)
  rw [lg_entry_eq]
  generalize (lg_sl ([.ref (q 0), .int n0]) ++ List.replicate (2 - (lg_sl ([.ref (q 0), .int n0])).length) Slot.unset).toArray = ls at hl ⊢
  have hl : lv_has ls 2 [(0, .ref (q 0)), (1, .int n0)] := hl
  refine lv_aload_n hx hb dX5_traced_0 rfl (lv_at hl 0 rfl) ?_
  refine lv_bipush (v := (31)) hx hb dX5_traced_1 (by decide) ?_
  refine lv_aload_n hx hb dX5_traced_3 rfl (lv_at hl 0 rfl) ?_
  refine va_get (D := D) (ci := 5) (v := .int (V 1)) (C := RX5) (T := TX5) (N := 22) hx hb hts hin5 hown hK hP 0 rfl rfl 21 (by decide) (hts (.fieldLink RX5 199 "NeckShipModel" "trace" "I") (by decide +kernel)) (fun _ h9 => h9) rfl dX5_traced_4 ?_
  refine lv_imul hx hb dX5_traced_7 ?_
  refine lv_iload_n hx hb dX5_traced_8 rfl (lv_at hl 1 rfl) ?_
  refine lv_iadd hx hb dX5_traced_9 ?_
  refine va_put (D := D) (ci := 5) (v := .int (((31 : Int32) * V 1) + n0)) (ty := .int) (C := RX5) (T := TX5) (N := 22) hx hb hts hin5 tyX5 tyX5_ok nmX5 hown hK hP hD hS 0 rfl rfl 21 (by decide) (hts (.fieldLink RX5 199 "NeckShipModel" "trace" "I") (by decide +kernel)) (fun _ h9 => h9) rfl (by decide +kernel) rfl rfl (Nat.le_of_ble_eq_true rfl) dX5_traced_10 (fun H locs hP hD hS => ?_)
  have hP : va_P D vwCl (wM cI cZ q N (va_up V 1 (((31 : Int32) * V 1) + n0)) A) H := hP
  have hD : va_D Ar (wM cI cZ q N (va_up V 1 (((31 : Int32) * V 1) + n0)) A) := hD
  have hEE : s_X5_traced N V A n0 = (N, (va_up V 1 (((31 : Int32) * V 1) + n0)), A) := (by rw [s_X5_traced])
  rw [hEE]
  exact W.vret hx hb hr (fun t ht hW => ⟨⟨(), rfl, trivial, ⟨by rw [ht]; exact hP, va_K.moved hW.alike hK⟩, hD⟩, hS.F ht⟩) hS.2.2 dX5_traced_13
def s_X5_addSpar (N : Nat → Nat) (V : Nat → Int32) (A : Nat → Nat → Int32)  (k0 : Int32) (f0 : Int32) (l0 : Int32) (t0 : Int32) (w0 : Int32) : St :=
  ((va_up N 0 ((N 0) + 1)), V, (va_up (va_up (va_up (va_up (va_up A 2 (upd (A 2) (N 0) k0)) 3 (upd ((va_up A 2 (upd (A 2) (N 0) k0)) 3) (N 0) f0)) 4 (upd ((va_up (va_up A 2 (upd (A 2) (N 0) k0)) 3 (upd ((va_up A 2 (upd (A 2) (N 0) k0)) 3) (N 0) f0)) 4) (N 0) l0)) 5 (upd ((va_up (va_up (va_up A 2 (upd (A 2) (N 0) k0)) 3 (upd ((va_up A 2 (upd (A 2) (N 0) k0)) 3) (N 0) f0)) 4 (upd ((va_up (va_up A 2 (upd (A 2) (N 0) k0)) 3 (upd ((va_up A 2 (upd (A 2) (N 0) k0)) 3) (N 0) f0)) 4) (N 0) l0)) 5) (N 0) t0)) 6 (upd ((va_up (va_up (va_up (va_up A 2 (upd (A 2) (N 0) k0)) 3 (upd ((va_up A 2 (upd (A 2) (N 0) k0)) 3) (N 0) f0)) 4 (upd ((va_up (va_up A 2 (upd (A 2) (N 0) k0)) 3 (upd ((va_up A 2 (upd (A 2) (N 0) k0)) 3) (N 0) f0)) 4) (N 0) l0)) 5 (upd ((va_up (va_up (va_up A 2 (upd (A 2) (N 0) k0)) 3 (upd ((va_up A 2 (upd (A 2) (N 0) k0)) 3) (N 0) f0)) 4 (upd ((va_up (va_up A 2 (upd (A 2) (N 0) k0)) 3 (upd ((va_up A 2 (upd (A 2) (N 0) k0)) 3) (N 0) f0)) 4) (N 0) l0)) 5) (N 0) t0)) 6) (N 0) w0)))
set_option maxHeartbeats 4000000 in
set_option maxRecDepth 100000 in
theorem c_X5_addSpar (l : Launch) (D : va_G) (cI cZ cS : ClassId) (q : Nat → Nat) (N : Nat → Nat) (V : Nat → Int32) (A : Nat → Nat → Int32) (sz : Nat) (k0 : Int32) (f0 : Int32) (l0 : Int32) (t0 : Int32) (w0 : Int32) (h_1 : N 0 < 10) : Met l yX5_addSpar wsX5_addSpar ({ frames := 0, cells := 0, slots := 0, locals := 0 }) (va_Pc [.ref (q 0), .int k0, .int f0, .int l0, .int t0, .int w0] (fun U => U.heap.size = sz ∧ PM D cI cZ cS q N V A U ∧ va_D (fun _ => True) (wM cI cZ q N V A))) (va_Qv (fun (_ : Unit) => True) (fun _ t => PM D cI cZ cS q (s_X5_addSpar N V A k0 f0 l0 t0 w0).1 (s_X5_addSpar N V A k0 f0 l0 t0 w0).2.1 (s_X5_addSpar N V A k0 f0 l0 t0 w0).2.2 t ∧ va_D (va_A (wM cI cZ q N V A) sz) (wM cI cZ q (s_X5_addSpar N V A k0 f0 l0 t0 w0).1 (s_X5_addSpar N V A k0 f0 l0 t0 w0).2.1 (s_X5_addSpar N V A k0 f0 l0 t0 w0).2.2)) (va_A (wM cI cZ q N V A) sz)) 0 0 (va_A (wM cI cZ q N V A) sz) := by
  refine Met.ofW (cc := cX5_addSpar) (maxL := 6) (ret := none) (by decide) rfl ?_
  intro p e s m args below meth c s₁ B hml hv
  obtain ⟨rfl, hsz, ⟨hP, hK⟩, hD0⟩ := hv
  have hx := B.exec
  have hb := B.bytes
  have hr := B.returns
  have hts := atoms_spec (ws := wsX5_addSpar) B.pre
  have hown : s.vm.findClass RX5 = some m.cls := findClass_of_methodNamed B.named
  have hlocks := B.notSynchronized
  have hin5 : ∀ w ∈ u_ws RX5 TX5 22, w ∈ wsX5_addSpar := by decide +kernel
  subst hsz
  have hD := hD0.self (sz := s.heap.size)
  generalize hAe : va_A (wM cI cZ q N V A) s.heap.size = Ar at hD ⊢
  have hA : ∀ q : Nat, s.heap.size ≤ q → Ar q := fun q h => by rw [← hAe]; exact Or.inr h
  have hS : va_S Ar s.heap s.heap [] := va_S.rf
  have hl := lv_entry ([.ref (q 0), .int k0, .int f0, .int l0, .int t0, .int w0]) (n := 6) (Nat.le_of_ble_eq_true rfl)
  rw [lg_entry_eq]
  generalize (lg_sl ([.ref (q 0), .int k0, .int f0, .int l0, .int t0, .int w0]) ++ List.replicate (6 - (lg_sl ([.ref (q 0), .int k0, .int f0, .int l0, .int t0, .int w0])).length) Slot.unset).toArray = ls at hl ⊢
  have hl : lv_has ls 6 [(0, .ref (q 0)), (1, .int k0), (2, .int f0), (3, .int l0), (4, .int t0), (5, .int w0)] := hl
  refine lv_aload_n hx hb dX5_addSpar_0 rfl (lv_at hl 0 rfl) ?_
  refine va_get (D := D) (ci := 5) (v := .ref (q 2)) (C := RX5) (T := TX5) (N := 22) hx hb hts hin5 hown hK hP 0 rfl rfl 3 (by decide) (hts (.fieldLink RX5 13 "NeckShipModel" "kind" "[I") (by decide +kernel)) (fun _ h9 => h9) rfl dX5_addSpar_1 ?_
  refine lv_aload_n hx hb dX5_addSpar_4 rfl (lv_at hl 0 rfl) ?_
  refine va_get (D := D) (ci := 5) (v := .int (nI (N 0))) (C := RX5) (T := TX5) (N := 22) hx hb hts hin5 hown hK hP 0 rfl rfl 2 (by decide) (hts (.fieldLink RX5 72 "NeckShipModel" "spars" "I") (by decide +kernel)) (fun _ h9 => h9) rfl dX5_addSpar_5 ?_
  refine lv_iload_n hx hb dX5_addSpar_8 rfl (lv_at hl 1 rfl) ?_
  refine va_iastN (i := N 0) hx hb hK hP hD hS 2 0 rfl rfl (by decide) (by omega) dX5_addSpar_9 (fun H locs hP hD hS => ?_)
  have hP : va_P D vwCl (wM cI cZ q N V (va_up A 2 (upd (A 2) (N 0) k0))) H := hP
  have hD : va_D Ar (wM cI cZ q N V (va_up A 2 (upd (A 2) (N 0) k0))) := hD
  refine lv_aload_n hx hb dX5_addSpar_10 rfl (lv_at hl 0 rfl) ?_
  refine va_get (D := D) (ci := 5) (v := .ref (q 3)) (C := RX5) (T := TX5) (N := 22) hx hb hts hin5 hown hK hP 0 rfl rfl 4 (by decide) (hts (.fieldLink RX5 16 "NeckShipModel" "foot" "[I") (by decide +kernel)) (fun _ h9 => h9) rfl dX5_addSpar_11 ?_
  refine lv_aload_n hx hb dX5_addSpar_14 rfl (lv_at hl 0 rfl) ?_
  refine va_get (D := D) (ci := 5) (v := .int (nI (N 0))) (C := RX5) (T := TX5) (N := 22) hx hb hts hin5 hown hK hP 0 rfl rfl 2 (by decide) (hts (.fieldLink RX5 72 "NeckShipModel" "spars" "I") (by decide +kernel)) (fun _ h9 => h9) rfl dX5_addSpar_15 ?_
  refine lv_iload_n hx hb dX5_addSpar_18 rfl (lv_at hl 2 rfl) ?_
  refine va_iastN (i := N 0) hx hb hK hP hD hS 3 0 rfl rfl (by decide) (by omega) dX5_addSpar_19 (fun H locs hP hD hS => ?_)
  have hP : va_P D vwCl (wM cI cZ q N V (va_up (va_up A 2 (upd (A 2) (N 0) k0)) 3 (upd ((va_up A 2 (upd (A 2) (N 0) k0)) 3) (N 0) f0))) H := hP
  have hD : va_D Ar (wM cI cZ q N V (va_up (va_up A 2 (upd (A 2) (N 0) k0)) 3 (upd ((va_up A 2 (upd (A 2) (N 0) k0)) 3) (N 0) f0))) := hD
  refine lv_aload_n hx hb dX5_addSpar_20 rfl (lv_at hl 0 rfl) ?_
  refine va_get (D := D) (ci := 5) (v := .ref (q 4)) (C := RX5) (T := TX5) (N := 22) hx hb hts hin5 hown hK hP 0 rfl rfl 5 (by decide) (hts (.fieldLink RX5 19 "NeckShipModel" "size" "[I") (by decide +kernel)) (fun _ h9 => h9) rfl dX5_addSpar_21 ?_
  refine lv_aload_n hx hb dX5_addSpar_24 rfl (lv_at hl 0 rfl) ?_
  refine va_get (D := D) (ci := 5) (v := .int (nI (N 0))) (C := RX5) (T := TX5) (N := 22) hx hb hts hin5 hown hK hP 0 rfl rfl 2 (by decide) (hts (.fieldLink RX5 72 "NeckShipModel" "spars" "I") (by decide +kernel)) (fun _ h9 => h9) rfl dX5_addSpar_25 ?_
  refine lv_iload_n hx hb dX5_addSpar_28 rfl (lv_at hl 3 rfl) ?_
  refine va_iastN (i := N 0) hx hb hK hP hD hS 4 0 rfl rfl (by decide) (by omega) dX5_addSpar_29 (fun H locs hP hD hS => ?_)
  have hP : va_P D vwCl (wM cI cZ q N V (va_up (va_up (va_up A 2 (upd (A 2) (N 0) k0)) 3 (upd ((va_up A 2 (upd (A 2) (N 0) k0)) 3) (N 0) f0)) 4 (upd ((va_up (va_up A 2 (upd (A 2) (N 0) k0)) 3 (upd ((va_up A 2 (upd (A 2) (N 0) k0)) 3) (N 0) f0)) 4) (N 0) l0))) H := hP
  have hD : va_D Ar (wM cI cZ q N V (va_up (va_up (va_up A 2 (upd (A 2) (N 0) k0)) 3 (upd ((va_up A 2 (upd (A 2) (N 0) k0)) 3) (N 0) f0)) 4 (upd ((va_up (va_up A 2 (upd (A 2) (N 0) k0)) 3 (upd ((va_up A 2 (upd (A 2) (N 0) k0)) 3) (N 0) f0)) 4) (N 0) l0))) := hD
  refine lv_aload_n hx hb dX5_addSpar_30 rfl (lv_at hl 0 rfl) ?_
  refine va_get (D := D) (ci := 5) (v := .ref (q 5)) (C := RX5) (T := TX5) (N := 22) hx hb hts hin5 hown hK hP 0 rfl rfl 6 (by decide) (hts (.fieldLink RX5 22 "NeckShipModel" "thick" "[I") (by decide +kernel)) (fun _ h9 => h9) rfl dX5_addSpar_31 ?_
  refine lv_aload_n hx hb dX5_addSpar_34 rfl (lv_at hl 0 rfl) ?_
  refine va_get (D := D) (ci := 5) (v := .int (nI (N 0))) (C := RX5) (T := TX5) (N := 22) hx hb hts hin5 hown hK hP 0 rfl rfl 2 (by decide) (hts (.fieldLink RX5 72 "NeckShipModel" "spars" "I") (by decide +kernel)) (fun _ h9 => h9) rfl dX5_addSpar_35 ?_
  refine lv_iload hx hb dX5_addSpar_38 (lv_at hl 4 rfl) ?_
  refine va_iastN (i := N 0) hx hb hK hP hD hS 5 0 rfl rfl (by decide) (by omega) dX5_addSpar_40 (fun H locs hP hD hS => ?_)
  have hP : va_P D vwCl (wM cI cZ q N V (va_up (va_up (va_up (va_up A 2 (upd (A 2) (N 0) k0)) 3 (upd ((va_up A 2 (upd (A 2) (N 0) k0)) 3) (N 0) f0)) 4 (upd ((va_up (va_up A 2 (upd (A 2) (N 0) k0)) 3 (upd ((va_up A 2 (upd (A 2) (N 0) k0)) 3) (N 0) f0)) 4) (N 0) l0)) 5 (upd ((va_up (va_up (va_up A 2 (upd (A 2) (N 0) k0)) 3 (upd ((va_up A 2 (upd (A 2) (N 0) k0)) 3) (N 0) f0)) 4 (upd ((va_up (va_up A 2 (upd (A 2) (N 0) k0)) 3 (upd ((va_up A 2 (upd (A 2) (N 0) k0)) 3) (N 0) f0)) 4) (N 0) l0)) 5) (N 0) t0))) H := hP
  have hD : va_D Ar (wM cI cZ q N V (va_up (va_up (va_up (va_up A 2 (upd (A 2) (N 0) k0)) 3 (upd ((va_up A 2 (upd (A 2) (N 0) k0)) 3) (N 0) f0)) 4 (upd ((va_up (va_up A 2 (upd (A 2) (N 0) k0)) 3 (upd ((va_up A 2 (upd (A 2) (N 0) k0)) 3) (N 0) f0)) 4) (N 0) l0)) 5 (upd ((va_up (va_up (va_up A 2 (upd (A 2) (N 0) k0)) 3 (upd ((va_up A 2 (upd (A 2) (N 0) k0)) 3) (N 0) f0)) 4 (upd ((va_up (va_up A 2 (upd (A 2) (N 0) k0)) 3 (upd ((va_up A 2 (upd (A 2) (N 0) k0)) 3) (N 0) f0)) 4) (N 0) l0)) 5) (N 0) t0))) := hD
  refine lv_aload_n hx hb dX5_addSpar_41 rfl (lv_at hl 0 rfl) ?_
  refine va_get (D := D) (ci := 5) (v := .ref (q 6)) (C := RX5) (T := TX5) (N := 22) hx hb hts hin5 hown hK hP 0 rfl rfl 7 (by decide) (hts (.fieldLink RX5 25 "NeckShipModel" "way" "[I") (by decide +kernel)) (fun _ h9 => h9) rfl dX5_addSpar_42 ?_
  refine lv_aload_n hx hb dX5_addSpar_45 rfl (lv_at hl 0 rfl) ?_
  refine va_get (D := D) (ci := 5) (v := .int (nI (N 0))) (C := RX5) (T := TX5) (N := 22) hx hb hts hin5 hown hK hP 0 rfl rfl 2 (by decide) (hts (.fieldLink RX5 72 "NeckShipModel" "spars" "I") (by decide +kernel)) (fun _ h9 => h9) rfl dX5_addSpar_46 ?_
  refine lv_iload hx hb dX5_addSpar_49 (lv_at hl 5 rfl) ?_
  refine va_iastN (i := N 0) hx hb hK hP hD hS 6 0 rfl rfl (by decide) (by omega) dX5_addSpar_51 (fun H locs hP hD hS => ?_)
  have hP : va_P D vwCl (wM cI cZ q N V (va_up (va_up (va_up (va_up (va_up A 2 (upd (A 2) (N 0) k0)) 3 (upd ((va_up A 2 (upd (A 2) (N 0) k0)) 3) (N 0) f0)) 4 (upd ((va_up (va_up A 2 (upd (A 2) (N 0) k0)) 3 (upd ((va_up A 2 (upd (A 2) (N 0) k0)) 3) (N 0) f0)) 4) (N 0) l0)) 5 (upd ((va_up (va_up (va_up A 2 (upd (A 2) (N 0) k0)) 3 (upd ((va_up A 2 (upd (A 2) (N 0) k0)) 3) (N 0) f0)) 4 (upd ((va_up (va_up A 2 (upd (A 2) (N 0) k0)) 3 (upd ((va_up A 2 (upd (A 2) (N 0) k0)) 3) (N 0) f0)) 4) (N 0) l0)) 5) (N 0) t0)) 6 (upd ((va_up (va_up (va_up (va_up A 2 (upd (A 2) (N 0) k0)) 3 (upd ((va_up A 2 (upd (A 2) (N 0) k0)) 3) (N 0) f0)) 4 (upd ((va_up (va_up A 2 (upd (A 2) (N 0) k0)) 3 (upd ((va_up A 2 (upd (A 2) (N 0) k0)) 3) (N 0) f0)) 4) (N 0) l0)) 5 (upd ((va_up (va_up (va_up A 2 (upd (A 2) (N 0) k0)) 3 (upd ((va_up A 2 (upd (A 2) (N 0) k0)) 3) (N 0) f0)) 4 (upd ((va_up (va_up A 2 (upd (A 2) (N 0) k0)) 3 (upd ((va_up A 2 (upd (A 2) (N 0) k0)) 3) (N 0) f0)) 4) (N 0) l0)) 5) (N 0) t0)) 6) (N 0) w0))) H := hP
  have hD : va_D Ar (wM cI cZ q N V (va_up (va_up (va_up (va_up (va_up A 2 (upd (A 2) (N 0) k0)) 3 (upd ((va_up A 2 (upd (A 2) (N 0) k0)) 3) (N 0) f0)) 4 (upd ((va_up (va_up A 2 (upd (A 2) (N 0) k0)) 3 (upd ((va_up A 2 (upd (A 2) (N 0) k0)) 3) (N 0) f0)) 4) (N 0) l0)) 5 (upd ((va_up (va_up (va_up A 2 (upd (A 2) (N 0) k0)) 3 (upd ((va_up A 2 (upd (A 2) (N 0) k0)) 3) (N 0) f0)) 4 (upd ((va_up (va_up A 2 (upd (A 2) (N 0) k0)) 3 (upd ((va_up A 2 (upd (A 2) (N 0) k0)) 3) (N 0) f0)) 4) (N 0) l0)) 5) (N 0) t0)) 6 (upd ((va_up (va_up (va_up (va_up A 2 (upd (A 2) (N 0) k0)) 3 (upd ((va_up A 2 (upd (A 2) (N 0) k0)) 3) (N 0) f0)) 4 (upd ((va_up (va_up A 2 (upd (A 2) (N 0) k0)) 3 (upd ((va_up A 2 (upd (A 2) (N 0) k0)) 3) (N 0) f0)) 4) (N 0) l0)) 5 (upd ((va_up (va_up (va_up A 2 (upd (A 2) (N 0) k0)) 3 (upd ((va_up A 2 (upd (A 2) (N 0) k0)) 3) (N 0) f0)) 4 (upd ((va_up (va_up A 2 (upd (A 2) (N 0) k0)) 3 (upd ((va_up A 2 (upd (A 2) (N 0) k0)) 3) (N 0) f0)) 4) (N 0) l0)) 5) (N 0) t0)) 6) (N 0) w0))) := hD
  refine lv_aload_n hx hb dX5_addSpar_52 rfl (lv_at hl 0 rfl) ?_
  refine lv_dup hx hb dX5_addSpar_53 rfl ?_
  refine va_get (D := D) (ci := 5) (v := .int (nI (N 0))) (C := RX5) (T := TX5) (N := 22) hx hb hts hin5 hown hK hP 0 rfl rfl 2 (by decide) (hts (.fieldLink RX5 72 "NeckShipModel" "spars" "I") (by decide +kernel)) (fun _ h9 => h9) rfl dX5_addSpar_54 ?_
  refine lv_iconst (v := (1)) hx hb dX5_addSpar_57 (by decide) ?_
  refine lv_iadd hx hb dX5_addSpar_58 ?_
  rw [nI_1 (N 0)]
  refine va_put (D := D) (ci := 5) (v := .int (nI ((N 0) + 1))) (ty := .int) (C := RX5) (T := TX5) (N := 22) hx hb hts hin5 tyX5 tyX5_ok nmX5 hown hK hP hD hS 0 rfl rfl 2 (by decide) (hts (.fieldLink RX5 72 "NeckShipModel" "spars" "I") (by decide +kernel)) (fun _ h9 => h9) rfl (by decide +kernel) rfl rfl (Nat.le_of_ble_eq_true rfl) dX5_addSpar_59 (fun H locs hP hD hS => ?_)
  have hP : va_P D vwCl (wM cI cZ q (va_up N 0 ((N 0) + 1)) V (va_up (va_up (va_up (va_up (va_up A 2 (upd (A 2) (N 0) k0)) 3 (upd ((va_up A 2 (upd (A 2) (N 0) k0)) 3) (N 0) f0)) 4 (upd ((va_up (va_up A 2 (upd (A 2) (N 0) k0)) 3 (upd ((va_up A 2 (upd (A 2) (N 0) k0)) 3) (N 0) f0)) 4) (N 0) l0)) 5 (upd ((va_up (va_up (va_up A 2 (upd (A 2) (N 0) k0)) 3 (upd ((va_up A 2 (upd (A 2) (N 0) k0)) 3) (N 0) f0)) 4 (upd ((va_up (va_up A 2 (upd (A 2) (N 0) k0)) 3 (upd ((va_up A 2 (upd (A 2) (N 0) k0)) 3) (N 0) f0)) 4) (N 0) l0)) 5) (N 0) t0)) 6 (upd ((va_up (va_up (va_up (va_up A 2 (upd (A 2) (N 0) k0)) 3 (upd ((va_up A 2 (upd (A 2) (N 0) k0)) 3) (N 0) f0)) 4 (upd ((va_up (va_up A 2 (upd (A 2) (N 0) k0)) 3 (upd ((va_up A 2 (upd (A 2) (N 0) k0)) 3) (N 0) f0)) 4) (N 0) l0)) 5 (upd ((va_up (va_up (va_up A 2 (upd (A 2) (N 0) k0)) 3 (upd ((va_up A 2 (upd (A 2) (N 0) k0)) 3) (N 0) f0)) 4 (upd ((va_up (va_up A 2 (upd (A 2) (N 0) k0)) 3 (upd ((va_up A 2 (upd (A 2) (N 0) k0)) 3) (N 0) f0)) 4) (N 0) l0)) 5) (N 0) t0)) 6) (N 0) w0))) H := hP
  have hD : va_D Ar (wM cI cZ q (va_up N 0 ((N 0) + 1)) V (va_up (va_up (va_up (va_up (va_up A 2 (upd (A 2) (N 0) k0)) 3 (upd ((va_up A 2 (upd (A 2) (N 0) k0)) 3) (N 0) f0)) 4 (upd ((va_up (va_up A 2 (upd (A 2) (N 0) k0)) 3 (upd ((va_up A 2 (upd (A 2) (N 0) k0)) 3) (N 0) f0)) 4) (N 0) l0)) 5 (upd ((va_up (va_up (va_up A 2 (upd (A 2) (N 0) k0)) 3 (upd ((va_up A 2 (upd (A 2) (N 0) k0)) 3) (N 0) f0)) 4 (upd ((va_up (va_up A 2 (upd (A 2) (N 0) k0)) 3 (upd ((va_up A 2 (upd (A 2) (N 0) k0)) 3) (N 0) f0)) 4) (N 0) l0)) 5) (N 0) t0)) 6 (upd ((va_up (va_up (va_up (va_up A 2 (upd (A 2) (N 0) k0)) 3 (upd ((va_up A 2 (upd (A 2) (N 0) k0)) 3) (N 0) f0)) 4 (upd ((va_up (va_up A 2 (upd (A 2) (N 0) k0)) 3 (upd ((va_up A 2 (upd (A 2) (N 0) k0)) 3) (N 0) f0)) 4) (N 0) l0)) 5 (upd ((va_up (va_up (va_up A 2 (upd (A 2) (N 0) k0)) 3 (upd ((va_up A 2 (upd (A 2) (N 0) k0)) 3) (N 0) f0)) 4 (upd ((va_up (va_up A 2 (upd (A 2) (N 0) k0)) 3 (upd ((va_up A 2 (upd (A 2) (N 0) k0)) 3) (N 0) f0)) 4) (N 0) l0)) 5) (N 0) t0)) 6) (N 0) w0))) := hD
  have hEE : s_X5_addSpar N V A k0 f0 l0 t0 w0 = ((va_up N 0 ((N 0) + 1)), V, (va_up (va_up (va_up (va_up (va_up A 2 (upd (A 2) (N 0) k0)) 3 (upd ((va_up A 2 (upd (A 2) (N 0) k0)) 3) (N 0) f0)) 4 (upd ((va_up (va_up A 2 (upd (A 2) (N 0) k0)) 3 (upd ((va_up A 2 (upd (A 2) (N 0) k0)) 3) (N 0) f0)) 4) (N 0) l0)) 5 (upd ((va_up (va_up (va_up A 2 (upd (A 2) (N 0) k0)) 3 (upd ((va_up A 2 (upd (A 2) (N 0) k0)) 3) (N 0) f0)) 4 (upd ((va_up (va_up A 2 (upd (A 2) (N 0) k0)) 3 (upd ((va_up A 2 (upd (A 2) (N 0) k0)) 3) (N 0) f0)) 4) (N 0) l0)) 5) (N 0) t0)) 6 (upd ((va_up (va_up (va_up (va_up A 2 (upd (A 2) (N 0) k0)) 3 (upd ((va_up A 2 (upd (A 2) (N 0) k0)) 3) (N 0) f0)) 4 (upd ((va_up (va_up A 2 (upd (A 2) (N 0) k0)) 3 (upd ((va_up A 2 (upd (A 2) (N 0) k0)) 3) (N 0) f0)) 4) (N 0) l0)) 5 (upd ((va_up (va_up (va_up A 2 (upd (A 2) (N 0) k0)) 3 (upd ((va_up A 2 (upd (A 2) (N 0) k0)) 3) (N 0) f0)) 4 (upd ((va_up (va_up A 2 (upd (A 2) (N 0) k0)) 3 (upd ((va_up A 2 (upd (A 2) (N 0) k0)) 3) (N 0) f0)) 4) (N 0) l0)) 5) (N 0) t0)) 6) (N 0) w0))) := (by rw [s_X5_addSpar])
  rw [hEE]
  exact W.vret hx hb hr (fun t ht hW => ⟨⟨(), rfl, trivial, ⟨by rw [ht]; exact hP, va_K.moved hW.alike hK⟩, hD⟩, hS.F ht⟩) hS.2.2 dX5_addSpar_62
def s_X5_rule (N : Nat → Nat) (V : Nat → Int32) (A : Nat → Nat → Int32)  (w0 : Int32) (v0 : Int32) : Int32 × St :=
  if (s_X5_in ((w0).toInt64) (0 : Int64) (4 : Int64)) = true then
    if nI w0.toNatClampNeg = 0 then
      if (s_X5_in ((v0).toInt64) (1 : Int64) (100 : Int64)) = true then
        if nI w0.toNatClampNeg = 0 then
          if (s_X5_isTooShort N V A v0) = true then
            ((-3 : Int32), N, V, A)
          else
            (A 1 w0.toNatClampNeg, N, V, (va_up A 1 (upd (A 1) w0.toNatClampNeg v0)))
        else
          (A 1 w0.toNatClampNeg, N, V, (va_up A 1 (upd (A 1) w0.toNatClampNeg v0)))
      else
        ((-2 : Int32), N, V, A)
    else
      if (s_X5_in ((v0).toInt64) (1 : Int64) (60 : Int64)) = true then
        if nI w0.toNatClampNeg = 0 then
          if (s_X5_isTooShort N V A v0) = true then
            ((-3 : Int32), N, V, A)
          else
            (A 1 w0.toNatClampNeg, N, V, (va_up A 1 (upd (A 1) w0.toNatClampNeg v0)))
        else
          (A 1 w0.toNatClampNeg, N, V, (va_up A 1 (upd (A 1) w0.toNatClampNeg v0)))
      else
        ((-2 : Int32), N, V, A)
  else
    ((-1 : Int32), N, V, A)
set_option maxHeartbeats 4000000 in
set_option maxRecDepth 100000 in
theorem c_X5_rule (l : Launch) (D : va_G) (cI cZ cS : ClassId) (q : Nat → Nat) (N : Nat → Nat) (V : Nat → Int32) (A : Nat → Nat → Int32) (sz : Nat) (w0 : Int32) (v0 : Int32) (h_1 : okM N A) : Met l yX5_rule wsX5_rule ({ frames := 1, cells := 0, slots := 0, locals := 25 }) (va_Pc [.ref (q 0), .int w0, .int v0] (fun U => U.heap.size = sz ∧ PM D cI cZ cS q N V A U ∧ va_D (fun _ => True) (wM cI cZ q N V A))) (va_Qi (fun r (_ : Unit) => r = (s_X5_rule N V A w0 v0).1) (fun _ t => PM D cI cZ cS q (s_X5_rule N V A w0 v0).2.1 (s_X5_rule N V A w0 v0).2.2.1 (s_X5_rule N V A w0 v0).2.2.2 t ∧ va_D (va_A (wM cI cZ q N V A) sz) (wM cI cZ q (s_X5_rule N V A w0 v0).2.1 (s_X5_rule N V A w0 v0).2.2.1 (s_X5_rule N V A w0 v0).2.2.2)) (va_A (wM cI cZ q N V A) sz)) 0 0 (va_A (wM cI cZ q N V A) sz) := by
  refine Met.ofW (cc := cX5_rule) (maxL := 4) (ret := (some .int)) (by decide) rfl ?_
  intro p e s m args below meth c s₁ B hml hv
  obtain ⟨rfl, hsz, ⟨hP, hK⟩, hD0⟩ := hv
  have hx := B.exec
  have hb := B.bytes
  have hr := B.returns
  have hts := atoms_spec (ws := wsX5_rule) B.pre
  have hown : s.vm.findClass RX5 = some m.cls := findClass_of_methodNamed B.named
  have hlocks := B.notSynchronized
  have hin5 : ∀ w ∈ u_ws RX5 TX5 22, w ∈ wsX5_rule := by decide +kernel
  subst hsz
  have hD := hD0.self (sz := s.heap.size)
  generalize hAe : va_A (wM cI cZ q N V A) s.heap.size = Ar at hD ⊢
  have hA : ∀ q : Nat, s.heap.size ≤ q → Ar q := fun q h => by rw [← hAe]; exact Or.inr h
  have hS : va_S Ar s.heap s.heap [] := va_S.rf
  obtain ⟨o1, o2, o3, o4, o5, o6, o7⟩ := id h_1
  have hl := lv_entry ([.ref (q 0), .int w0, .int v0]) (n := 4) (Nat.le_of_ble_eq_true rfl)
  rw [lg_entry_eq]
  generalize (lg_sl ([.ref (q 0), .int w0, .int v0]) ++ List.replicate (4 - (lg_sl ([.ref (q 0), .int w0, .int v0])).length) Slot.unset).toArray = ls at hl ⊢
  have hl : lv_has ls 4 [(0, .ref (q 0)), (1, .int w0), (2, .int v0)] := hl
  refine lv_iload_n hx hb dX5_rule_0 rfl (lv_at hl 1 rfl) ?_
  refine lv_i2l (v := (w0).toInt64) hx hb dX5_rule_1 rfl ?_
  refine lv_lconst (v := (0)) hx hb dX5_rule_2 (by decide) ?_
  refine lv_ldc2 (v := (4)) hx hb hown (hts (.constantLong RX5 82 (4)) (by decide +kernel)) dX5_rule_3 ?_
  refine vp_callSi (W.runS (As := [.long ((w0).toInt64), .long (0 : Int64), .long (4 : Int64)]) (rest := []) ⟨hx, hb, hml, hown, hts⟩ (c_X5_in l ((w0).toInt64) (0 : Int64) (4 : Int64)) (cwS 3 hts gX5_rule_X5_in rfl rfl rfl (by decide +kernel) ⟨Nat.le_of_ble_eq_true rfl, Nat.le_of_ble_eq_true rfl⟩) (preEq) rfl rfl hl.1 rfl (lv_room (Nat.le_of_ble_eq_true rfl)) dX5_rule_6 ⟨Nat.zero_le _, Nat.zero_le _⟩) (fun r_1 er_1 => ?_)
  subst er_1
  refine lz_if_ne (tgt := 14) hx hb dX5_rule_9 (by decide) (fun c_2 => ?_) (fun c_2 => ?_)
  · obtain ⟨hlt_w0, heq_w0⟩ := in_tn (n := 5) (by omega) (by decide) c_2
    have hl : lv_has ls 4 [(0, .ref (q 0)), (1, .int (nI w0.toNatClampNeg)), (2, .int v0)] := by rw [heq_w0]; exact hl
    refine lv_iload_n hx hb dX5_rule_14 rfl (lv_at hl 2 rfl) ?_
    refine lv_i2l (v := (v0).toInt64) hx hb dX5_rule_15 rfl ?_
    refine lv_lconst (v := (1)) hx hb dX5_rule_16 (by decide) ?_
    refine lv_iload_n hx hb dX5_rule_17 rfl (lv_at hl 1 rfl) ?_
    refine lv_if_ne (tgt := 27) hx hb dX5_rule_18 (by decide) (fun c_3 => ?_) (fun c_3 => ?_)
    · refine lv_ldc2 (v := (60)) hx hb hown (hts (.constantLong RX5 86 (60)) (by decide +kernel)) dX5_rule_27 ?_
      refine vp_callSi (W.runS (As := [.long ((v0).toInt64), .long (1 : Int64), .long (60 : Int64)]) (rest := []) ⟨hx, hb, hml, hown, hts⟩ (c_X5_in l ((v0).toInt64) (1 : Int64) (60 : Int64)) (cwS 3 hts gX5_rule_X5_in rfl rfl rfl (by decide +kernel) ⟨Nat.le_of_ble_eq_true rfl, Nat.le_of_ble_eq_true rfl⟩) (preEq) rfl rfl hl.1 rfl (lv_room (Nat.le_of_ble_eq_true rfl)) dX5_rule_30 ⟨Nat.zero_le _, Nat.zero_le _⟩) (fun r_4 er_4 => ?_)
      subst er_4
      refine lz_if_ne (tgt := 39) hx hb dX5_rule_33 (by decide) (fun c_5 => ?_) (fun c_5 => ?_)
      · refine lv_iload_n hx hb dX5_rule_39 rfl (lv_at hl 1 rfl) ?_
        refine lv_if_ne (tgt := 54) hx hb dX5_rule_40 (by decide) (fun c_6 => ?_) (fun c_6 => ?_)
        · refine lv_aload_n hx hb dX5_rule_54 rfl (lv_at hl 0 rfl) ?_
          refine va_get (D := D) (ci := 5) (v := .ref (q 1)) (C := RX5) (T := TX5) (N := 22) hx hb hts hin5 hown hK hP 0 rfl rfl 1 (by decide) (hts (.fieldLink RX5 7 "NeckShipModel" "rules" "[I") (by decide +kernel)) (fun _ h9 => h9) rfl dX5_rule_55 ?_
          refine lv_iload_n hx hb dX5_rule_58 rfl (lv_at hl 1 rfl) ?_
          refine va_ialdN (i := w0.toNatClampNeg) hx hb hK hP 1 0 rfl rfl (by decide) (by omega) dX5_rule_59 ?_
          refine lv_istore_n (lv' := [(3, .int (A 1 w0.toNatClampNeg)), (0, .ref (q 0)), (1, .int (nI w0.toNatClampNeg)), (2, .int v0)]) hx hb dX5_rule_60 rfl hl (by decide) rfl (fun ls hl => ?_)
          refine lv_aload_n hx hb dX5_rule_61 rfl (lv_at hl 1 rfl) ?_
          refine va_get (D := D) (ci := 5) (v := .ref (q 1)) (C := RX5) (T := TX5) (N := 22) hx hb hts hin5 hown hK hP 0 rfl rfl 1 (by decide) (hts (.fieldLink RX5 7 "NeckShipModel" "rules" "[I") (by decide +kernel)) (fun _ h9 => h9) rfl dX5_rule_62 ?_
          refine lv_iload_n hx hb dX5_rule_65 rfl (lv_at hl 2 rfl) ?_
          refine lv_iload_n hx hb dX5_rule_66 rfl (lv_at hl 3 rfl) ?_
          refine va_iastN (i := w0.toNatClampNeg) hx hb hK hP hD hS 1 0 rfl rfl (by decide) (by omega) dX5_rule_67 (fun H locs hP hD hS => ?_)
          have hP : va_P D vwCl (wM cI cZ q N V (va_up A 1 (upd (A 1) w0.toNatClampNeg v0))) H := hP
          have hD : va_D Ar (wM cI cZ q N V (va_up A 1 (upd (A 1) w0.toNatClampNeg v0))) := hD
          refine lv_iload_n hx hb dX5_rule_68 rfl (lv_at hl 0 rfl) ?_
          have hEE : s_X5_rule N V A w0 v0 = (A 1 w0.toNatClampNeg, N, V, (va_up A 1 (upd (A 1) w0.toNatClampNeg v0))) := (by rw [s_X5_rule, if_pos c_2, if_neg c_3, if_pos c_5, if_neg c_6])
          rw [hEE]
          exact W.iret (v := A 1 w0.toNatClampNeg) hx hb hr (fun t ht hW => ⟨⟨_, (), rfl, rfl, ⟨by rw [ht]; exact hP, va_K.moved hW.alike hK⟩, hD⟩, hS.F ht⟩) hS.2.2 dX5_rule_69
        · refine lv_aload_n hx hb dX5_rule_43 rfl (lv_at hl 0 rfl) ?_
          refine lv_iload_n hx hb dX5_rule_44 rfl (lv_at hl 2 rfl) ?_
          refine vp_callSi (W.runV (As := [.int v0]) (rest := []) ⟨hx, hb, hml, hown, hts⟩ (c_X5_isTooShort l D cI cZ cS q N V A v0 (by omega)) (cwV 1 hts gX5_rule_X5_isTooShort rfl rfl rfl (by decide +kernel) ⟨Nat.le_of_ble_eq_true rfl, Nat.le_of_ble_eq_true rfl⟩) (preM hK hP) rfl rfl hl.1 rfl (lv_room (Nat.le_of_ble_eq_true rfl)) dX5_rule_45 ⟨Nat.zero_le _, Nat.zero_le _⟩) (fun r_7 er_7 => ?_)
          subst er_7
          refine lz_if_eq (tgt := 54) hx hb dX5_rule_48 (by decide) (fun c_8 => ?_) (fun c_8 => ?_)
          · refine lv_aload_n hx hb dX5_rule_54 rfl (lv_at hl 0 rfl) ?_
            refine va_get (D := D) (ci := 5) (v := .ref (q 1)) (C := RX5) (T := TX5) (N := 22) hx hb hts hin5 hown hK hP 0 rfl rfl 1 (by decide) (hts (.fieldLink RX5 7 "NeckShipModel" "rules" "[I") (by decide +kernel)) (fun _ h9 => h9) rfl dX5_rule_55 ?_
            refine lv_iload_n hx hb dX5_rule_58 rfl (lv_at hl 1 rfl) ?_
            refine va_ialdN (i := w0.toNatClampNeg) hx hb hK hP 1 0 rfl rfl (by decide) (by omega) dX5_rule_59 ?_
            refine lv_istore_n (lv' := [(3, .int (A 1 w0.toNatClampNeg)), (0, .ref (q 0)), (1, .int (nI w0.toNatClampNeg)), (2, .int v0)]) hx hb dX5_rule_60 rfl hl (by decide) rfl (fun ls hl => ?_)
            refine lv_aload_n hx hb dX5_rule_61 rfl (lv_at hl 1 rfl) ?_
            refine va_get (D := D) (ci := 5) (v := .ref (q 1)) (C := RX5) (T := TX5) (N := 22) hx hb hts hin5 hown hK hP 0 rfl rfl 1 (by decide) (hts (.fieldLink RX5 7 "NeckShipModel" "rules" "[I") (by decide +kernel)) (fun _ h9 => h9) rfl dX5_rule_62 ?_
            refine lv_iload_n hx hb dX5_rule_65 rfl (lv_at hl 2 rfl) ?_
            refine lv_iload_n hx hb dX5_rule_66 rfl (lv_at hl 3 rfl) ?_
            refine va_iastN (i := w0.toNatClampNeg) hx hb hK hP hD hS 1 0 rfl rfl (by decide) (by omega) dX5_rule_67 (fun H locs hP hD hS => ?_)
            have hP : va_P D vwCl (wM cI cZ q N V (va_up A 1 (upd (A 1) w0.toNatClampNeg v0))) H := hP
            have hD : va_D Ar (wM cI cZ q N V (va_up A 1 (upd (A 1) w0.toNatClampNeg v0))) := hD
            refine lv_iload_n hx hb dX5_rule_68 rfl (lv_at hl 0 rfl) ?_
            have hEE : s_X5_rule N V A w0 v0 = (A 1 w0.toNatClampNeg, N, V, (va_up A 1 (upd (A 1) w0.toNatClampNeg v0))) := (by rw [s_X5_rule, if_pos c_2, if_neg c_3, if_pos c_5, if_pos c_6, if_neg (nb c_8)])
            rw [hEE]
            exact W.iret (v := A 1 w0.toNatClampNeg) hx hb hr (fun t ht hW => ⟨⟨_, (), rfl, rfl, ⟨by rw [ht]; exact hP, va_K.moved hW.alike hK⟩, hD⟩, hS.F ht⟩) hS.2.2 dX5_rule_69
          · refine lv_bipush (v := (-3)) hx hb dX5_rule_51 (by decide) ?_
            have hEE : s_X5_rule N V A w0 v0 = ((-3 : Int32), N, V, A) := (by rw [s_X5_rule, if_pos c_2, if_neg c_3, if_pos c_5, if_pos c_6, if_pos c_8])
            rw [hEE]
            exact W.iret (v := (-3 : Int32)) hx hb hr (fun t ht hW => ⟨⟨_, (), rfl, rfl, ⟨by rw [ht]; exact hP, va_K.moved hW.alike hK⟩, hD⟩, hS.F ht⟩) hS.2.2 dX5_rule_53
      · refine lv_bipush (v := (-2)) hx hb dX5_rule_36 (by decide) ?_
        have hEE : s_X5_rule N V A w0 v0 = ((-2 : Int32), N, V, A) := (by rw [s_X5_rule, if_pos c_2, if_neg c_3, if_neg (nb c_5)])
        rw [hEE]
        exact W.iret (v := (-2 : Int32)) hx hb hr (fun t ht hW => ⟨⟨_, (), rfl, rfl, ⟨by rw [ht]; exact hP, va_K.moved hW.alike hK⟩, hD⟩, hS.F ht⟩) hS.2.2 dX5_rule_38
    · refine lv_ldc2 (v := (100)) hx hb hown (hts (.constantLong RX5 84 (100)) (by decide +kernel)) dX5_rule_21 ?_
      refine lv_goto (tgt := 30) hx hb dX5_rule_24 (by decide) ?_
      refine vp_callSi (W.runS (As := [.long ((v0).toInt64), .long (1 : Int64), .long (100 : Int64)]) (rest := []) ⟨hx, hb, hml, hown, hts⟩ (c_X5_in l ((v0).toInt64) (1 : Int64) (100 : Int64)) (cwS 3 hts gX5_rule_X5_in rfl rfl rfl (by decide +kernel) ⟨Nat.le_of_ble_eq_true rfl, Nat.le_of_ble_eq_true rfl⟩) (preEq) rfl rfl hl.1 rfl (lv_room (Nat.le_of_ble_eq_true rfl)) dX5_rule_30 ⟨Nat.zero_le _, Nat.zero_le _⟩) (fun r_9 er_9 => ?_)
      subst er_9
      refine lz_if_ne (tgt := 39) hx hb dX5_rule_33 (by decide) (fun c_10 => ?_) (fun c_10 => ?_)
      · refine lv_iload_n hx hb dX5_rule_39 rfl (lv_at hl 1 rfl) ?_
        refine lv_if_ne (tgt := 54) hx hb dX5_rule_40 (by decide) (fun c_11 => ?_) (fun c_11 => ?_)
        · refine lv_aload_n hx hb dX5_rule_54 rfl (lv_at hl 0 rfl) ?_
          refine va_get (D := D) (ci := 5) (v := .ref (q 1)) (C := RX5) (T := TX5) (N := 22) hx hb hts hin5 hown hK hP 0 rfl rfl 1 (by decide) (hts (.fieldLink RX5 7 "NeckShipModel" "rules" "[I") (by decide +kernel)) (fun _ h9 => h9) rfl dX5_rule_55 ?_
          refine lv_iload_n hx hb dX5_rule_58 rfl (lv_at hl 1 rfl) ?_
          refine va_ialdN (i := w0.toNatClampNeg) hx hb hK hP 1 0 rfl rfl (by decide) (by omega) dX5_rule_59 ?_
          refine lv_istore_n (lv' := [(3, .int (A 1 w0.toNatClampNeg)), (0, .ref (q 0)), (1, .int (nI w0.toNatClampNeg)), (2, .int v0)]) hx hb dX5_rule_60 rfl hl (by decide) rfl (fun ls hl => ?_)
          refine lv_aload_n hx hb dX5_rule_61 rfl (lv_at hl 1 rfl) ?_
          refine va_get (D := D) (ci := 5) (v := .ref (q 1)) (C := RX5) (T := TX5) (N := 22) hx hb hts hin5 hown hK hP 0 rfl rfl 1 (by decide) (hts (.fieldLink RX5 7 "NeckShipModel" "rules" "[I") (by decide +kernel)) (fun _ h9 => h9) rfl dX5_rule_62 ?_
          refine lv_iload_n hx hb dX5_rule_65 rfl (lv_at hl 2 rfl) ?_
          refine lv_iload_n hx hb dX5_rule_66 rfl (lv_at hl 3 rfl) ?_
          refine va_iastN (i := w0.toNatClampNeg) hx hb hK hP hD hS 1 0 rfl rfl (by decide) (by omega) dX5_rule_67 (fun H locs hP hD hS => ?_)
          have hP : va_P D vwCl (wM cI cZ q N V (va_up A 1 (upd (A 1) w0.toNatClampNeg v0))) H := hP
          have hD : va_D Ar (wM cI cZ q N V (va_up A 1 (upd (A 1) w0.toNatClampNeg v0))) := hD
          refine lv_iload_n hx hb dX5_rule_68 rfl (lv_at hl 0 rfl) ?_
          have hEE : s_X5_rule N V A w0 v0 = (A 1 w0.toNatClampNeg, N, V, (va_up A 1 (upd (A 1) w0.toNatClampNeg v0))) := (by rw [s_X5_rule, if_pos c_2, if_pos c_3, if_pos c_10, if_neg c_11])
          rw [hEE]
          exact W.iret (v := A 1 w0.toNatClampNeg) hx hb hr (fun t ht hW => ⟨⟨_, (), rfl, rfl, ⟨by rw [ht]; exact hP, va_K.moved hW.alike hK⟩, hD⟩, hS.F ht⟩) hS.2.2 dX5_rule_69
        · refine lv_aload_n hx hb dX5_rule_43 rfl (lv_at hl 0 rfl) ?_
          refine lv_iload_n hx hb dX5_rule_44 rfl (lv_at hl 2 rfl) ?_
          refine vp_callSi (W.runV (As := [.int v0]) (rest := []) ⟨hx, hb, hml, hown, hts⟩ (c_X5_isTooShort l D cI cZ cS q N V A v0 (by omega)) (cwV 1 hts gX5_rule_X5_isTooShort rfl rfl rfl (by decide +kernel) ⟨Nat.le_of_ble_eq_true rfl, Nat.le_of_ble_eq_true rfl⟩) (preM hK hP) rfl rfl hl.1 rfl (lv_room (Nat.le_of_ble_eq_true rfl)) dX5_rule_45 ⟨Nat.zero_le _, Nat.zero_le _⟩) (fun r_12 er_12 => ?_)
          subst er_12
          refine lz_if_eq (tgt := 54) hx hb dX5_rule_48 (by decide) (fun c_13 => ?_) (fun c_13 => ?_)
          · refine lv_aload_n hx hb dX5_rule_54 rfl (lv_at hl 0 rfl) ?_
            refine va_get (D := D) (ci := 5) (v := .ref (q 1)) (C := RX5) (T := TX5) (N := 22) hx hb hts hin5 hown hK hP 0 rfl rfl 1 (by decide) (hts (.fieldLink RX5 7 "NeckShipModel" "rules" "[I") (by decide +kernel)) (fun _ h9 => h9) rfl dX5_rule_55 ?_
            refine lv_iload_n hx hb dX5_rule_58 rfl (lv_at hl 1 rfl) ?_
            refine va_ialdN (i := w0.toNatClampNeg) hx hb hK hP 1 0 rfl rfl (by decide) (by omega) dX5_rule_59 ?_
            refine lv_istore_n (lv' := [(3, .int (A 1 w0.toNatClampNeg)), (0, .ref (q 0)), (1, .int (nI w0.toNatClampNeg)), (2, .int v0)]) hx hb dX5_rule_60 rfl hl (by decide) rfl (fun ls hl => ?_)
            refine lv_aload_n hx hb dX5_rule_61 rfl (lv_at hl 1 rfl) ?_
            refine va_get (D := D) (ci := 5) (v := .ref (q 1)) (C := RX5) (T := TX5) (N := 22) hx hb hts hin5 hown hK hP 0 rfl rfl 1 (by decide) (hts (.fieldLink RX5 7 "NeckShipModel" "rules" "[I") (by decide +kernel)) (fun _ h9 => h9) rfl dX5_rule_62 ?_
            refine lv_iload_n hx hb dX5_rule_65 rfl (lv_at hl 2 rfl) ?_
            refine lv_iload_n hx hb dX5_rule_66 rfl (lv_at hl 3 rfl) ?_
            refine va_iastN (i := w0.toNatClampNeg) hx hb hK hP hD hS 1 0 rfl rfl (by decide) (by omega) dX5_rule_67 (fun H locs hP hD hS => ?_)
            have hP : va_P D vwCl (wM cI cZ q N V (va_up A 1 (upd (A 1) w0.toNatClampNeg v0))) H := hP
            have hD : va_D Ar (wM cI cZ q N V (va_up A 1 (upd (A 1) w0.toNatClampNeg v0))) := hD
            refine lv_iload_n hx hb dX5_rule_68 rfl (lv_at hl 0 rfl) ?_
            have hEE : s_X5_rule N V A w0 v0 = (A 1 w0.toNatClampNeg, N, V, (va_up A 1 (upd (A 1) w0.toNatClampNeg v0))) := (by rw [s_X5_rule, if_pos c_2, if_pos c_3, if_pos c_10, if_pos c_11, if_neg (nb c_13)])
            rw [hEE]
            exact W.iret (v := A 1 w0.toNatClampNeg) hx hb hr (fun t ht hW => ⟨⟨_, (), rfl, rfl, ⟨by rw [ht]; exact hP, va_K.moved hW.alike hK⟩, hD⟩, hS.F ht⟩) hS.2.2 dX5_rule_69
          · refine lv_bipush (v := (-3)) hx hb dX5_rule_51 (by decide) ?_
            have hEE : s_X5_rule N V A w0 v0 = ((-3 : Int32), N, V, A) := (by rw [s_X5_rule, if_pos c_2, if_pos c_3, if_pos c_10, if_pos c_11, if_pos c_13])
            rw [hEE]
            exact W.iret (v := (-3 : Int32)) hx hb hr (fun t ht hW => ⟨⟨_, (), rfl, rfl, ⟨by rw [ht]; exact hP, va_K.moved hW.alike hK⟩, hD⟩, hS.F ht⟩) hS.2.2 dX5_rule_53
      · refine lv_bipush (v := (-2)) hx hb dX5_rule_36 (by decide) ?_
        have hEE : s_X5_rule N V A w0 v0 = ((-2 : Int32), N, V, A) := (by rw [s_X5_rule, if_pos c_2, if_pos c_3, if_neg (nb c_10)])
        rw [hEE]
        exact W.iret (v := (-2 : Int32)) hx hb hr (fun t ht hW => ⟨⟨_, (), rfl, rfl, ⟨by rw [ht]; exact hP, va_K.moved hW.alike hK⟩, hD⟩, hS.F ht⟩) hS.2.2 dX5_rule_38
  · refine lv_iconst (v := (-1)) hx hb dX5_rule_12 (by decide) ?_
    have hEE : s_X5_rule N V A w0 v0 = ((-1 : Int32), N, V, A) := (by rw [s_X5_rule, if_neg (nb c_2)])
    rw [hEE]
    exact W.iret (v := (-1 : Int32)) hx hb hr (fun t ht hW => ⟨⟨_, (), rfl, rfl, ⟨by rw [ht]; exact hP, va_K.moved hW.alike hK⟩, hD⟩, hS.F ht⟩) hS.2.2 dX5_rule_13
def s_X5_spar (N : Nat → Nat) (V : Nat → Int32) (A : Nat → Nat → Int32)  (k0 : Int32) (f0 : Int32) (l0 : Int32) (t0 : Int32) (w0 : Int32) : Int32 × St :=
  if (s_X5_isSpar N V A k0 f0 l0 t0 w0) = true then
    if nI (N 0) = (10 : Int32) then
      ((-4 : Int32), N, V, A)
    else
      ((nI ((s_X5_addSpar N V A k0 f0 l0 t0 w0).1 0) - (1 : Int32)), (s_X5_addSpar N V A k0 f0 l0 t0 w0).1, (s_X5_addSpar N V A k0 f0 l0 t0 w0).2.1, (s_X5_addSpar N V A k0 f0 l0 t0 w0).2.2)
  else
    ((-2 : Int32), N, V, A)
set_option maxHeartbeats 4000000 in
set_option maxRecDepth 100000 in
theorem c_X5_spar (l : Launch) (D : va_G) (cI cZ cS : ClassId) (q : Nat → Nat) (N : Nat → Nat) (V : Nat → Int32) (A : Nat → Nat → Int32) (sz : Nat) (k0 : Int32) (f0 : Int32) (l0 : Int32) (t0 : Int32) (w0 : Int32) (h_1 : okM N A) : Met l yX5_spar wsX5_spar ({ frames := 2, cells := 0, slots := 0, locals := 50 }) (va_Pc [.ref (q 0), .int k0, .int f0, .int l0, .int t0, .int w0] (fun U => U.heap.size = sz ∧ PM D cI cZ cS q N V A U ∧ va_D (fun _ => True) (wM cI cZ q N V A))) (va_Qi (fun r (_ : Unit) => r = (s_X5_spar N V A k0 f0 l0 t0 w0).1) (fun _ t => PM D cI cZ cS q (s_X5_spar N V A k0 f0 l0 t0 w0).2.1 (s_X5_spar N V A k0 f0 l0 t0 w0).2.2.1 (s_X5_spar N V A k0 f0 l0 t0 w0).2.2.2 t ∧ va_D (va_A (wM cI cZ q N V A) sz) (wM cI cZ q (s_X5_spar N V A k0 f0 l0 t0 w0).2.1 (s_X5_spar N V A k0 f0 l0 t0 w0).2.2.1 (s_X5_spar N V A k0 f0 l0 t0 w0).2.2.2)) (va_A (wM cI cZ q N V A) sz)) 0 0 (va_A (wM cI cZ q N V A) sz) := by
  refine Met.ofW (cc := cX5_spar) (maxL := 6) (ret := (some .int)) (by decide) rfl ?_
  intro p e s m args below meth c s₁ B hml hv
  obtain ⟨rfl, hsz, ⟨hP, hK⟩, hD0⟩ := hv
  have hx := B.exec
  have hb := B.bytes
  have hr := B.returns
  have hts := atoms_spec (ws := wsX5_spar) B.pre
  have hown : s.vm.findClass RX5 = some m.cls := findClass_of_methodNamed B.named
  have hlocks := B.notSynchronized
  have hin5 : ∀ w ∈ u_ws RX5 TX5 22, w ∈ wsX5_spar := by decide +kernel
  subst hsz
  have hD := hD0.self (sz := s.heap.size)
  generalize hAe : va_A (wM cI cZ q N V A) s.heap.size = Ar at hD ⊢
  have hA : ∀ q : Nat, s.heap.size ≤ q → Ar q := fun q h => by rw [← hAe]; exact Or.inr h
  have hS : va_S Ar s.heap s.heap [] := va_S.rf
  obtain ⟨o1, o2, o3, o4, o5, o6, o7⟩ := id h_1
  have hl := lv_entry ([.ref (q 0), .int k0, .int f0, .int l0, .int t0, .int w0]) (n := 6) (Nat.le_of_ble_eq_true rfl)
  rw [lg_entry_eq]
  generalize (lg_sl ([.ref (q 0), .int k0, .int f0, .int l0, .int t0, .int w0]) ++ List.replicate (6 - (lg_sl ([.ref (q 0), .int k0, .int f0, .int l0, .int t0, .int w0])).length) Slot.unset).toArray = ls at hl ⊢
  have hl : lv_has ls 6 [(0, .ref (q 0)), (1, .int k0), (2, .int f0), (3, .int l0), (4, .int t0), (5, .int w0)] := hl
  refine lv_aload_n hx hb dX5_spar_0 rfl (lv_at hl 0 rfl) ?_
  refine lv_iload_n hx hb dX5_spar_1 rfl (lv_at hl 1 rfl) ?_
  refine lv_iload_n hx hb dX5_spar_2 rfl (lv_at hl 2 rfl) ?_
  refine lv_iload_n hx hb dX5_spar_3 rfl (lv_at hl 3 rfl) ?_
  refine lv_iload hx hb dX5_spar_4 (lv_at hl 4 rfl) ?_
  refine lv_iload hx hb dX5_spar_6 (lv_at hl 5 rfl) ?_
  refine vp_callSi (W.runV (As := [.int k0, .int f0, .int l0, .int t0, .int w0]) (rest := []) ⟨hx, hb, hml, hown, hts⟩ (c_X5_isSpar l D cI cZ cS q N V A k0 f0 l0 t0 w0) (cwV 5 hts gX5_spar_X5_isSpar rfl rfl rfl (by decide +kernel) ⟨Nat.le_of_ble_eq_true rfl, Nat.le_of_ble_eq_true rfl⟩) (preM hK hP) rfl rfl hl.1 rfl (lv_room (Nat.le_of_ble_eq_true rfl)) dX5_spar_8 ⟨Nat.zero_le _, Nat.zero_le _⟩) (fun r_1 er_1 => ?_)
  subst er_1
  refine lz_if_ne (tgt := 17) hx hb dX5_spar_11 (by decide) (fun c_2 => ?_) (fun c_2 => ?_)
  · refine lv_aload_n hx hb dX5_spar_17 rfl (lv_at hl 0 rfl) ?_
    refine va_get (D := D) (ci := 5) (v := .int (nI (N 0))) (C := RX5) (T := TX5) (N := 22) hx hb hts hin5 hown hK hP 0 rfl rfl 2 (by decide) (hts (.fieldLink RX5 72 "NeckShipModel" "spars" "I") (by decide +kernel)) (fun _ h9 => h9) rfl dX5_spar_18 ?_
    refine lv_bipush (v := (10)) hx hb dX5_spar_21 (by decide) ?_
    refine lv_icmp_ne (tgt := 29) hx hb dX5_spar_23 (by decide) (fun c_3 => ?_) (fun c_3 => ?_)
    · have hne : N 0 ≠ 10 := fun e => c_3 (by rw [e]; rfl)
      refine lv_aload_n hx hb dX5_spar_29 rfl (lv_at hl 0 rfl) ?_
      refine lv_iload_n hx hb dX5_spar_30 rfl (lv_at hl 1 rfl) ?_
      refine lv_iload_n hx hb dX5_spar_31 rfl (lv_at hl 2 rfl) ?_
      refine lv_iload_n hx hb dX5_spar_32 rfl (lv_at hl 3 rfl) ?_
      refine lv_iload hx hb dX5_spar_33 (lv_at hl 4 rfl) ?_
      refine lv_iload hx hb dX5_spar_35 (lv_at hl 5 rfl) ?_
      refine callMv (va_runV (As := [.int k0, .int f0, .int l0, .int t0, .int w0]) (rest := []) ⟨hx, hb, hml, hown, hts⟩ (c_X5_addSpar l D cI cZ cS q N V A s.heap.size k0 f0 l0 t0 w0 (by omega)) (cwV 5 hts gX5_spar_X5_addSpar rfl rfl rfl (by decide +kernel) ⟨Nat.le_of_ble_eq_true rfl, Nat.le_of_ble_eq_true rfl⟩) (preMm hK hP hD) rfl rfl hl.1 rfl (lv_room (Nat.le_of_ble_eq_true rfl)) dX5_spar_37 ⟨Nat.zero_le _, Nat.zero_le _⟩) hD hS hA (fun H locs hP hD hS => ?_)
      refine lv_aload_n hx hb dX5_spar_40 rfl (lv_at hl 0 rfl) ?_
      refine va_get (D := D) (ci := 5) (v := .int (nI ((s_X5_addSpar N V A k0 f0 l0 t0 w0).1 0))) (C := RX5) (T := TX5) (N := 22) hx hb hts hin5 hown hK hP 0 rfl rfl 2 (by decide) (hts (.fieldLink RX5 72 "NeckShipModel" "spars" "I") (by decide +kernel)) (fun _ h9 => h9) rfl dX5_spar_41 ?_
      refine lv_iconst (v := (1)) hx hb dX5_spar_44 (by decide) ?_
      refine lv_isub hx hb dX5_spar_45 ?_
      have hEE : s_X5_spar N V A k0 f0 l0 t0 w0 = ((nI ((s_X5_addSpar N V A k0 f0 l0 t0 w0).1 0) - (1 : Int32)), (s_X5_addSpar N V A k0 f0 l0 t0 w0).1, (s_X5_addSpar N V A k0 f0 l0 t0 w0).2.1, (s_X5_addSpar N V A k0 f0 l0 t0 w0).2.2) := (by rw [s_X5_spar, if_pos c_2, if_neg c_3])
      rw [hEE]
      exact W.iret (v := (nI ((s_X5_addSpar N V A k0 f0 l0 t0 w0).1 0) - (1 : Int32))) hx hb hr (fun t ht hW => ⟨⟨_, (), rfl, rfl, ⟨by rw [ht]; exact hP, va_K.moved hW.alike hK⟩, hD⟩, hS.F ht⟩) hS.2.2 dX5_spar_46
    · refine lv_bipush (v := (-4)) hx hb dX5_spar_26 (by decide) ?_
      have hEE : s_X5_spar N V A k0 f0 l0 t0 w0 = ((-4 : Int32), N, V, A) := (by rw [s_X5_spar, if_pos c_2, if_pos c_3])
      rw [hEE]
      exact W.iret (v := (-4 : Int32)) hx hb hr (fun t ht hW => ⟨⟨_, (), rfl, rfl, ⟨by rw [ht]; exact hP, va_K.moved hW.alike hK⟩, hD⟩, hS.F ht⟩) hS.2.2 dX5_spar_28
  · refine lv_bipush (v := (-2)) hx hb dX5_spar_14 (by decide) ?_
    have hEE : s_X5_spar N V A k0 f0 l0 t0 w0 = ((-2 : Int32), N, V, A) := (by rw [s_X5_spar, if_neg (nb c_2)])
    rw [hEE]
    exact W.iret (v := (-2 : Int32)) hx hb hr (fun t ht hW => ⟨⟨_, (), rfl, rfl, ⟨by rw [ht]; exact hP, va_K.moved hW.alike hK⟩, hD⟩, hS.F ht⟩) hS.2.2 dX5_spar_16
def s_X5_thread (N : Nat → Nat) (V : Nat → Int32) (A : Nat → Nat → Int32)  (h0 : Int32) (s0 : Int32) (p0 : Int32) : Int32 × St :=
  if (s_X5_noSpar N V A s0) = true then
    ((-1 : Int32), N, V, A)
  else
    if (s_X5_in ((h0).toInt64) (-20 : Int64) ((A 1 0).toInt64 + (20 : Int64))) = true then
      if (s_X5_in ((p0).toInt64) (1 : Int64) ((A 4 s0.toNatClampNeg).toInt64)) = true then
        if nI (N 1) = (16 : Int32) then
          ((-4 : Int32), N, V, A)
        else
          ((nI ((N 1) + 1) - (1 : Int32)), (va_up N 1 ((N 1) + 1)), V, (va_up (va_up (va_up (va_up A 7 (upd (A 7) (N 1) h0)) 8 (upd ((va_up A 7 (upd (A 7) (N 1) h0)) 8) (N 1) (nI s0.toNatClampNeg))) 9 (upd ((va_up (va_up A 7 (upd (A 7) (N 1) h0)) 8 (upd ((va_up A 7 (upd (A 7) (N 1) h0)) 8) (N 1) (nI s0.toNatClampNeg))) 9) (N 1) p0)) 10 (upd ((va_up (va_up (va_up A 7 (upd (A 7) (N 1) h0)) 8 (upd ((va_up A 7 (upd (A 7) (N 1) h0)) 8) (N 1) (nI s0.toNatClampNeg))) 9 (upd ((va_up (va_up A 7 (upd (A 7) (N 1) h0)) 8 (upd ((va_up A 7 (upd (A 7) (N 1) h0)) 8) (N 1) (nI s0.toNatClampNeg))) 9) (N 1) p0)) 10) (N 1) (b2i false))))
      else
        ((-2 : Int32), N, V, A)
    else
      ((-2 : Int32), N, V, A)
set_option maxHeartbeats 4000000 in
set_option maxRecDepth 100000 in
theorem c_X5_thread (l : Launch) (D : va_G) (cI cZ cS : ClassId) (q : Nat → Nat) (N : Nat → Nat) (V : Nat → Int32) (A : Nat → Nat → Int32) (sz : Nat) (h0 : Int32) (s0 : Int32) (p0 : Int32) (h_1 : okM N A) : Met l yX5_thread wsX5_thread ({ frames := 2, cells := 0, slots := 0, locals := 46 }) (va_Pc [.ref (q 0), .int h0, .int s0, .int p0] (fun U => U.heap.size = sz ∧ PM D cI cZ cS q N V A U ∧ va_D (fun _ => True) (wM cI cZ q N V A))) (va_Qi (fun r (_ : Unit) => r = (s_X5_thread N V A h0 s0 p0).1) (fun _ t => PM D cI cZ cS q (s_X5_thread N V A h0 s0 p0).2.1 (s_X5_thread N V A h0 s0 p0).2.2.1 (s_X5_thread N V A h0 s0 p0).2.2.2 t ∧ va_D (va_A (wM cI cZ q N V A) sz) (wM cI cZ q (s_X5_thread N V A h0 s0 p0).2.1 (s_X5_thread N V A h0 s0 p0).2.2.1 (s_X5_thread N V A h0 s0 p0).2.2.2)) (va_A (wM cI cZ q N V A) sz)) 0 0 (va_A (wM cI cZ q N V A) sz) := by
  refine Met.ofW (cc := cX5_thread) (maxL := 4) (ret := (some .int)) (by decide) rfl ?_
  intro p e s m args below meth c s₁ B hml hv
  obtain ⟨rfl, hsz, ⟨hP, hK⟩, hD0⟩ := hv
  have hx := B.exec
  have hb := B.bytes
  have hr := B.returns
  have hts := atoms_spec (ws := wsX5_thread) B.pre
  have hown : s.vm.findClass RX5 = some m.cls := findClass_of_methodNamed B.named
  have hlocks := B.notSynchronized
  have hin5 : ∀ w ∈ u_ws RX5 TX5 22, w ∈ wsX5_thread := by decide +kernel
  subst hsz
  have hD := hD0.self (sz := s.heap.size)
  generalize hAe : va_A (wM cI cZ q N V A) s.heap.size = Ar at hD ⊢
  have hA : ∀ q : Nat, s.heap.size ≤ q → Ar q := fun q h => by rw [← hAe]; exact Or.inr h
  have hS : va_S Ar s.heap s.heap [] := va_S.rf
  obtain ⟨o1, o2, o3, o4, o5, o6, o7⟩ := id h_1
  have hl := lv_entry ([.ref (q 0), .int h0, .int s0, .int p0]) (n := 4) (Nat.le_of_ble_eq_true rfl)
  rw [lg_entry_eq]
  generalize (lg_sl ([.ref (q 0), .int h0, .int s0, .int p0]) ++ List.replicate (4 - (lg_sl ([.ref (q 0), .int h0, .int s0, .int p0])).length) Slot.unset).toArray = ls at hl ⊢
  have hl : lv_has ls 4 [(0, .ref (q 0)), (1, .int h0), (2, .int s0), (3, .int p0)] := hl
  refine lv_aload_n hx hb dX5_thread_0 rfl (lv_at hl 0 rfl) ?_
  refine lv_iload_n hx hb dX5_thread_1 rfl (lv_at hl 2 rfl) ?_
  refine vp_callSi (W.runV (As := [.int s0]) (rest := []) ⟨hx, hb, hml, hown, hts⟩ (c_X5_noSpar l D cI cZ cS q N V A s0) (cwV 1 hts gX5_thread_X5_noSpar rfl rfl rfl (by decide +kernel) ⟨Nat.le_of_ble_eq_true rfl, Nat.le_of_ble_eq_true rfl⟩) (preM hK hP) rfl rfl hl.1 rfl (lv_room (Nat.le_of_ble_eq_true rfl)) dX5_thread_2 ⟨Nat.zero_le _, Nat.zero_le _⟩) (fun r_1 er_1 => ?_)
  subst er_1
  refine lz_if_eq (tgt := 10) hx hb dX5_thread_5 (by decide) (fun c_2 => ?_) (fun c_2 => ?_)
  · obtain ⟨hlt_s0, heq_s0⟩ := noSpar_f o1 c_2
    have hl : lv_has ls 4 [(0, .ref (q 0)), (1, .int h0), (2, .int (nI s0.toNatClampNeg)), (3, .int p0)] := by rw [heq_s0]; exact hl
    refine lv_iload_n hx hb dX5_thread_10 rfl (lv_at hl 1 rfl) ?_
    refine lv_i2l (v := (h0).toInt64) hx hb dX5_thread_11 rfl ?_
    refine lv_ldc2 (v := (-20)) hx hb hown (hts (.constantLong RX5 138 (-20)) (by decide +kernel)) dX5_thread_12 ?_
    refine lv_aload_n hx hb dX5_thread_15 rfl (lv_at hl 0 rfl) ?_
    refine va_get (D := D) (ci := 5) (v := .ref (q 1)) (C := RX5) (T := TX5) (N := 22) hx hb hts hin5 hown hK hP 0 rfl rfl 1 (by decide) (hts (.fieldLink RX5 7 "NeckShipModel" "rules" "[I") (by decide +kernel)) (fun _ h9 => h9) rfl dX5_thread_16 ?_
    refine lv_iconst (v := (0)) hx hb dX5_thread_19 (by decide) ?_
    refine va_ialdN (i := 0) hx hb hK hP 1 0 rfl rfl (by decide) (by omega) dX5_thread_20 ?_
    refine lv_i2l (v := (A 1 0).toInt64) hx hb dX5_thread_21 rfl ?_
    refine lv_ldc2 (v := (20)) hx hb hown (hts (.constantLong RX5 140 (20)) (by decide +kernel)) dX5_thread_22 ?_
    refine lv_ladd hx hb dX5_thread_25 ?_
    refine vp_callSi (W.runS (As := [.long ((h0).toInt64), .long (-20 : Int64), .long ((A 1 0).toInt64 + (20 : Int64))]) (rest := []) ⟨hx, hb, hml, hown, hts⟩ (c_X5_in l ((h0).toInt64) (-20 : Int64) ((A 1 0).toInt64 + (20 : Int64))) (cwS 3 hts gX5_thread_X5_in rfl rfl rfl (by decide +kernel) ⟨Nat.le_of_ble_eq_true rfl, Nat.le_of_ble_eq_true rfl⟩) (preEq) rfl rfl hl.1 rfl (lv_room (Nat.le_of_ble_eq_true rfl)) dX5_thread_26 ⟨Nat.zero_le _, Nat.zero_le _⟩) (fun r_3 er_3 => ?_)
    subst er_3
    refine lz_if_eq (tgt := 48) hx hb dX5_thread_29 (by decide) (fun c_4 => ?_) (fun c_4 => ?_)
    · refine lv_bipush (v := (-2)) hx hb dX5_thread_48 (by decide) ?_
      have hEE : s_X5_thread N V A h0 s0 p0 = ((-2 : Int32), N, V, A) := (by rw [s_X5_thread, if_neg (nb c_2), if_neg (nb c_4)])
      rw [hEE]
      exact W.iret (v := (-2 : Int32)) hx hb hr (fun t ht hW => ⟨⟨_, (), rfl, rfl, ⟨by rw [ht]; exact hP, va_K.moved hW.alike hK⟩, hD⟩, hS.F ht⟩) hS.2.2 dX5_thread_50
    · refine lv_iload_n hx hb dX5_thread_32 rfl (lv_at hl 3 rfl) ?_
      refine lv_i2l (v := (p0).toInt64) hx hb dX5_thread_33 rfl ?_
      refine lv_lconst (v := (1)) hx hb dX5_thread_34 (by decide) ?_
      refine lv_aload_n hx hb dX5_thread_35 rfl (lv_at hl 0 rfl) ?_
      refine va_get (D := D) (ci := 5) (v := .ref (q 4)) (C := RX5) (T := TX5) (N := 22) hx hb hts hin5 hown hK hP 0 rfl rfl 5 (by decide) (hts (.fieldLink RX5 19 "NeckShipModel" "size" "[I") (by decide +kernel)) (fun _ h9 => h9) rfl dX5_thread_36 ?_
      refine lv_iload_n hx hb dX5_thread_39 rfl (lv_at hl 2 rfl) ?_
      refine va_ialdN (i := s0.toNatClampNeg) hx hb hK hP 4 0 rfl rfl (by decide) (by omega) dX5_thread_40 ?_
      refine lv_i2l (v := (A 4 s0.toNatClampNeg).toInt64) hx hb dX5_thread_41 rfl ?_
      refine vp_callSi (W.runS (As := [.long ((p0).toInt64), .long (1 : Int64), .long ((A 4 s0.toNatClampNeg).toInt64)]) (rest := []) ⟨hx, hb, hml, hown, hts⟩ (c_X5_in l ((p0).toInt64) (1 : Int64) ((A 4 s0.toNatClampNeg).toInt64)) (cwS 3 hts gX5_thread_X5_in rfl rfl rfl (by decide +kernel) ⟨Nat.le_of_ble_eq_true rfl, Nat.le_of_ble_eq_true rfl⟩) (preEq) rfl rfl hl.1 rfl (lv_room (Nat.le_of_ble_eq_true rfl)) dX5_thread_42 ⟨Nat.zero_le _, Nat.zero_le _⟩) (fun r_5 er_5 => ?_)
      subst er_5
      refine lz_if_ne (tgt := 51) hx hb dX5_thread_45 (by decide) (fun c_6 => ?_) (fun c_6 => ?_)
      · refine lv_aload_n hx hb dX5_thread_51 rfl (lv_at hl 0 rfl) ?_
        refine va_get (D := D) (ci := 5) (v := .int (nI (N 1))) (C := RX5) (T := TX5) (N := 22) hx hb hts hin5 hown hK hP 0 rfl rfl 9 (by decide) (hts (.fieldLink RX5 79 "NeckShipModel" "threads" "I") (by decide +kernel)) (fun _ h9 => h9) rfl dX5_thread_52 ?_
        refine lv_bipush (v := (16)) hx hb dX5_thread_55 (by decide) ?_
        refine lv_icmp_ne (tgt := 63) hx hb dX5_thread_57 (by decide) (fun c_7 => ?_) (fun c_7 => ?_)
        · have hne : N 1 ≠ 16 := fun e => c_7 (by rw [e]; rfl)
          refine lv_aload_n hx hb dX5_thread_63 rfl (lv_at hl 0 rfl) ?_
          refine va_get (D := D) (ci := 5) (v := .ref (q 7)) (C := RX5) (T := TX5) (N := 22) hx hb hts hin5 hown hK hP 0 rfl rfl 10 (by decide) (hts (.fieldLink RX5 28 "NeckShipModel" "holes" "[I") (by decide +kernel)) (fun _ h9 => h9) rfl dX5_thread_64 ?_
          refine lv_aload_n hx hb dX5_thread_67 rfl (lv_at hl 0 rfl) ?_
          refine va_get (D := D) (ci := 5) (v := .int (nI (N 1))) (C := RX5) (T := TX5) (N := 22) hx hb hts hin5 hown hK hP 0 rfl rfl 9 (by decide) (hts (.fieldLink RX5 79 "NeckShipModel" "threads" "I") (by decide +kernel)) (fun _ h9 => h9) rfl dX5_thread_68 ?_
          refine lv_iload_n hx hb dX5_thread_71 rfl (lv_at hl 1 rfl) ?_
          refine va_iastN (i := N 1) hx hb hK hP hD hS 7 0 rfl rfl (by decide) (by omega) dX5_thread_72 (fun H locs hP hD hS => ?_)
          have hP : va_P D vwCl (wM cI cZ q N V (va_up A 7 (upd (A 7) (N 1) h0))) H := hP
          have hD : va_D Ar (wM cI cZ q N V (va_up A 7 (upd (A 7) (N 1) h0))) := hD
          refine lv_aload_n hx hb dX5_thread_73 rfl (lv_at hl 0 rfl) ?_
          refine va_get (D := D) (ci := 5) (v := .ref (q 8)) (C := RX5) (T := TX5) (N := 22) hx hb hts hin5 hown hK hP 0 rfl rfl 11 (by decide) (hts (.fieldLink RX5 31 "NeckShipModel" "sparOf" "[I") (by decide +kernel)) (fun _ h9 => h9) rfl dX5_thread_74 ?_
          refine lv_aload_n hx hb dX5_thread_77 rfl (lv_at hl 0 rfl) ?_
          refine va_get (D := D) (ci := 5) (v := .int (nI (N 1))) (C := RX5) (T := TX5) (N := 22) hx hb hts hin5 hown hK hP 0 rfl rfl 9 (by decide) (hts (.fieldLink RX5 79 "NeckShipModel" "threads" "I") (by decide +kernel)) (fun _ h9 => h9) rfl dX5_thread_78 ?_
          refine lv_iload_n hx hb dX5_thread_81 rfl (lv_at hl 2 rfl) ?_
          refine va_iastN (i := N 1) hx hb hK hP hD hS 8 0 rfl rfl (by decide) (by omega) dX5_thread_82 (fun H locs hP hD hS => ?_)
          have hP : va_P D vwCl (wM cI cZ q N V (va_up (va_up A 7 (upd (A 7) (N 1) h0)) 8 (upd ((va_up A 7 (upd (A 7) (N 1) h0)) 8) (N 1) (nI s0.toNatClampNeg)))) H := hP
          have hD : va_D Ar (wM cI cZ q N V (va_up (va_up A 7 (upd (A 7) (N 1) h0)) 8 (upd ((va_up A 7 (upd (A 7) (N 1) h0)) 8) (N 1) (nI s0.toNatClampNeg)))) := hD
          refine lv_aload_n hx hb dX5_thread_83 rfl (lv_at hl 0 rfl) ?_
          refine va_get (D := D) (ci := 5) (v := .ref (q 9)) (C := RX5) (T := TX5) (N := 22) hx hb hts hin5 hown hK hP 0 rfl rfl 12 (by decide) (hts (.fieldLink RX5 34 "NeckShipModel" "places" "[I") (by decide +kernel)) (fun _ h9 => h9) rfl dX5_thread_84 ?_
          refine lv_aload_n hx hb dX5_thread_87 rfl (lv_at hl 0 rfl) ?_
          refine va_get (D := D) (ci := 5) (v := .int (nI (N 1))) (C := RX5) (T := TX5) (N := 22) hx hb hts hin5 hown hK hP 0 rfl rfl 9 (by decide) (hts (.fieldLink RX5 79 "NeckShipModel" "threads" "I") (by decide +kernel)) (fun _ h9 => h9) rfl dX5_thread_88 ?_
          refine lv_iload_n hx hb dX5_thread_91 rfl (lv_at hl 3 rfl) ?_
          refine va_iastN (i := N 1) hx hb hK hP hD hS 9 0 rfl rfl (by decide) (by omega) dX5_thread_92 (fun H locs hP hD hS => ?_)
          have hP : va_P D vwCl (wM cI cZ q N V (va_up (va_up (va_up A 7 (upd (A 7) (N 1) h0)) 8 (upd ((va_up A 7 (upd (A 7) (N 1) h0)) 8) (N 1) (nI s0.toNatClampNeg))) 9 (upd ((va_up (va_up A 7 (upd (A 7) (N 1) h0)) 8 (upd ((va_up A 7 (upd (A 7) (N 1) h0)) 8) (N 1) (nI s0.toNatClampNeg))) 9) (N 1) p0))) H := hP
          have hD : va_D Ar (wM cI cZ q N V (va_up (va_up (va_up A 7 (upd (A 7) (N 1) h0)) 8 (upd ((va_up A 7 (upd (A 7) (N 1) h0)) 8) (N 1) (nI s0.toNatClampNeg))) 9 (upd ((va_up (va_up A 7 (upd (A 7) (N 1) h0)) 8 (upd ((va_up A 7 (upd (A 7) (N 1) h0)) 8) (N 1) (nI s0.toNatClampNeg))) 9) (N 1) p0))) := hD
          refine lv_aload_n hx hb dX5_thread_93 rfl (lv_at hl 0 rfl) ?_
          refine va_get (D := D) (ci := 5) (v := .ref (q 10)) (C := RX5) (T := TX5) (N := 22) hx hb hts hin5 hown hK hP 0 rfl rfl 13 (by decide) (hts (.fieldLink RX5 37 "NeckShipModel" "isCut" "[Z") (by decide +kernel)) (fun _ h9 => h9) rfl dX5_thread_94 ?_
          refine lv_aload_n hx hb dX5_thread_97 rfl (lv_at hl 0 rfl) ?_
          refine va_get (D := D) (ci := 5) (v := .int (nI (N 1))) (C := RX5) (T := TX5) (N := 22) hx hb hts hin5 hown hK hP 0 rfl rfl 9 (by decide) (hts (.fieldLink RX5 79 "NeckShipModel" "threads" "I") (by decide +kernel)) (fun _ h9 => h9) rfl dX5_thread_98 ?_
          refine lv_iconst (v := (0)) hx hb dX5_thread_101 (by decide) ?_
          refine va_zastN (x := false) (i := N 1) hx hb hK hP hD hS 10 1 rfl rfl (by decide) (by omega) dX5_thread_102 (fun H locs hP hD hS => ?_)
          have hP : va_P D vwCl (wM cI cZ q N V (va_up (va_up (va_up (va_up A 7 (upd (A 7) (N 1) h0)) 8 (upd ((va_up A 7 (upd (A 7) (N 1) h0)) 8) (N 1) (nI s0.toNatClampNeg))) 9 (upd ((va_up (va_up A 7 (upd (A 7) (N 1) h0)) 8 (upd ((va_up A 7 (upd (A 7) (N 1) h0)) 8) (N 1) (nI s0.toNatClampNeg))) 9) (N 1) p0)) 10 (upd ((va_up (va_up (va_up A 7 (upd (A 7) (N 1) h0)) 8 (upd ((va_up A 7 (upd (A 7) (N 1) h0)) 8) (N 1) (nI s0.toNatClampNeg))) 9 (upd ((va_up (va_up A 7 (upd (A 7) (N 1) h0)) 8 (upd ((va_up A 7 (upd (A 7) (N 1) h0)) 8) (N 1) (nI s0.toNatClampNeg))) 9) (N 1) p0)) 10) (N 1) (b2i false)))) H := hP
          have hD : va_D Ar (wM cI cZ q N V (va_up (va_up (va_up (va_up A 7 (upd (A 7) (N 1) h0)) 8 (upd ((va_up A 7 (upd (A 7) (N 1) h0)) 8) (N 1) (nI s0.toNatClampNeg))) 9 (upd ((va_up (va_up A 7 (upd (A 7) (N 1) h0)) 8 (upd ((va_up A 7 (upd (A 7) (N 1) h0)) 8) (N 1) (nI s0.toNatClampNeg))) 9) (N 1) p0)) 10 (upd ((va_up (va_up (va_up A 7 (upd (A 7) (N 1) h0)) 8 (upd ((va_up A 7 (upd (A 7) (N 1) h0)) 8) (N 1) (nI s0.toNatClampNeg))) 9 (upd ((va_up (va_up A 7 (upd (A 7) (N 1) h0)) 8 (upd ((va_up A 7 (upd (A 7) (N 1) h0)) 8) (N 1) (nI s0.toNatClampNeg))) 9) (N 1) p0)) 10) (N 1) (b2i false)))) := hD
          refine lv_aload_n hx hb dX5_thread_103 rfl (lv_at hl 0 rfl) ?_
          refine lv_dup hx hb dX5_thread_104 rfl ?_
          refine va_get (D := D) (ci := 5) (v := .int (nI (N 1))) (C := RX5) (T := TX5) (N := 22) hx hb hts hin5 hown hK hP 0 rfl rfl 9 (by decide) (hts (.fieldLink RX5 79 "NeckShipModel" "threads" "I") (by decide +kernel)) (fun _ h9 => h9) rfl dX5_thread_105 ?_
          refine lv_iconst (v := (1)) hx hb dX5_thread_108 (by decide) ?_
          refine lv_iadd hx hb dX5_thread_109 ?_
          rw [nI_1 (N 1)]
          refine va_put (D := D) (ci := 5) (v := .int (nI ((N 1) + 1))) (ty := .int) (C := RX5) (T := TX5) (N := 22) hx hb hts hin5 tyX5 tyX5_ok nmX5 hown hK hP hD hS 0 rfl rfl 9 (by decide) (hts (.fieldLink RX5 79 "NeckShipModel" "threads" "I") (by decide +kernel)) (fun _ h9 => h9) rfl (by decide +kernel) rfl rfl (Nat.le_of_ble_eq_true rfl) dX5_thread_110 (fun H locs hP hD hS => ?_)
          have hP : va_P D vwCl (wM cI cZ q (va_up N 1 ((N 1) + 1)) V (va_up (va_up (va_up (va_up A 7 (upd (A 7) (N 1) h0)) 8 (upd ((va_up A 7 (upd (A 7) (N 1) h0)) 8) (N 1) (nI s0.toNatClampNeg))) 9 (upd ((va_up (va_up A 7 (upd (A 7) (N 1) h0)) 8 (upd ((va_up A 7 (upd (A 7) (N 1) h0)) 8) (N 1) (nI s0.toNatClampNeg))) 9) (N 1) p0)) 10 (upd ((va_up (va_up (va_up A 7 (upd (A 7) (N 1) h0)) 8 (upd ((va_up A 7 (upd (A 7) (N 1) h0)) 8) (N 1) (nI s0.toNatClampNeg))) 9 (upd ((va_up (va_up A 7 (upd (A 7) (N 1) h0)) 8 (upd ((va_up A 7 (upd (A 7) (N 1) h0)) 8) (N 1) (nI s0.toNatClampNeg))) 9) (N 1) p0)) 10) (N 1) (b2i false)))) H := hP
          have hD : va_D Ar (wM cI cZ q (va_up N 1 ((N 1) + 1)) V (va_up (va_up (va_up (va_up A 7 (upd (A 7) (N 1) h0)) 8 (upd ((va_up A 7 (upd (A 7) (N 1) h0)) 8) (N 1) (nI s0.toNatClampNeg))) 9 (upd ((va_up (va_up A 7 (upd (A 7) (N 1) h0)) 8 (upd ((va_up A 7 (upd (A 7) (N 1) h0)) 8) (N 1) (nI s0.toNatClampNeg))) 9) (N 1) p0)) 10 (upd ((va_up (va_up (va_up A 7 (upd (A 7) (N 1) h0)) 8 (upd ((va_up A 7 (upd (A 7) (N 1) h0)) 8) (N 1) (nI s0.toNatClampNeg))) 9 (upd ((va_up (va_up A 7 (upd (A 7) (N 1) h0)) 8 (upd ((va_up A 7 (upd (A 7) (N 1) h0)) 8) (N 1) (nI s0.toNatClampNeg))) 9) (N 1) p0)) 10) (N 1) (b2i false)))) := hD
          refine lv_aload_n hx hb dX5_thread_113 rfl (lv_at hl 0 rfl) ?_
          refine va_get (D := D) (ci := 5) (v := .int (nI ((N 1) + 1))) (C := RX5) (T := TX5) (N := 22) hx hb hts hin5 hown hK hP 0 rfl rfl 9 (by decide) (hts (.fieldLink RX5 79 "NeckShipModel" "threads" "I") (by decide +kernel)) (fun _ h9 => h9) rfl dX5_thread_114 ?_
          refine lv_iconst (v := (1)) hx hb dX5_thread_117 (by decide) ?_
          refine lv_isub hx hb dX5_thread_118 ?_
          have hEE : s_X5_thread N V A h0 s0 p0 = ((nI ((N 1) + 1) - (1 : Int32)), (va_up N 1 ((N 1) + 1)), V, (va_up (va_up (va_up (va_up A 7 (upd (A 7) (N 1) h0)) 8 (upd ((va_up A 7 (upd (A 7) (N 1) h0)) 8) (N 1) (nI s0.toNatClampNeg))) 9 (upd ((va_up (va_up A 7 (upd (A 7) (N 1) h0)) 8 (upd ((va_up A 7 (upd (A 7) (N 1) h0)) 8) (N 1) (nI s0.toNatClampNeg))) 9) (N 1) p0)) 10 (upd ((va_up (va_up (va_up A 7 (upd (A 7) (N 1) h0)) 8 (upd ((va_up A 7 (upd (A 7) (N 1) h0)) 8) (N 1) (nI s0.toNatClampNeg))) 9 (upd ((va_up (va_up A 7 (upd (A 7) (N 1) h0)) 8 (upd ((va_up A 7 (upd (A 7) (N 1) h0)) 8) (N 1) (nI s0.toNatClampNeg))) 9) (N 1) p0)) 10) (N 1) (b2i false)))) := (by rw [s_X5_thread, if_neg (nb c_2), if_pos c_4, if_pos c_6, if_neg c_7])
          rw [hEE]
          exact W.iret (v := (nI ((N 1) + 1) - (1 : Int32))) hx hb hr (fun t ht hW => ⟨⟨_, (), rfl, rfl, ⟨by rw [ht]; exact hP, va_K.moved hW.alike hK⟩, hD⟩, hS.F ht⟩) hS.2.2 dX5_thread_119
        · refine lv_bipush (v := (-4)) hx hb dX5_thread_60 (by decide) ?_
          have hEE : s_X5_thread N V A h0 s0 p0 = ((-4 : Int32), N, V, A) := (by rw [s_X5_thread, if_neg (nb c_2), if_pos c_4, if_pos c_6, if_pos c_7])
          rw [hEE]
          exact W.iret (v := (-4 : Int32)) hx hb hr (fun t ht hW => ⟨⟨_, (), rfl, rfl, ⟨by rw [ht]; exact hP, va_K.moved hW.alike hK⟩, hD⟩, hS.F ht⟩) hS.2.2 dX5_thread_62
      · refine lv_bipush (v := (-2)) hx hb dX5_thread_48 (by decide) ?_
        have hEE : s_X5_thread N V A h0 s0 p0 = ((-2 : Int32), N, V, A) := (by rw [s_X5_thread, if_neg (nb c_2), if_pos c_4, if_neg (nb c_6)])
        rw [hEE]
        exact W.iret (v := (-2 : Int32)) hx hb hr (fun t ht hW => ⟨⟨_, (), rfl, rfl, ⟨by rw [ht]; exact hP, va_K.moved hW.alike hK⟩, hD⟩, hS.F ht⟩) hS.2.2 dX5_thread_50
  · refine lv_iconst (v := (-1)) hx hb dX5_thread_8 (by decide) ?_
    have hEE : s_X5_thread N V A h0 s0 p0 = ((-1 : Int32), N, V, A) := (by rw [s_X5_thread, if_pos c_2])
    rw [hEE]
    exact W.iret (v := (-1 : Int32)) hx hb hr (fun t ht hW => ⟨⟨_, (), rfl, rfl, ⟨by rw [ht]; exact hP, va_K.moved hW.alike hK⟩, hD⟩, hS.F ht⟩) hS.2.2 dX5_thread_9
def s_X5_cut (N : Nat → Nat) (V : Nat → Int32) (A : Nat → Nat → Int32)  (t0 : Int32) : Int32 × St :=
  if (s_X5_noThread N V A t0) = true then
    ((-1 : Int32), N, V, A)
  else
    if (bz (A 10 t0.toNatClampNeg)) = true then
      ((0 : Int32), N, V, (va_up A 10 (upd (A 10) t0.toNatClampNeg (b2i true))))
    else
      ((1 : Int32), N, V, (va_up A 10 (upd (A 10) t0.toNatClampNeg (b2i true))))
set_option maxHeartbeats 4000000 in
set_option maxRecDepth 100000 in
theorem c_X5_cut (l : Launch) (D : va_G) (cI cZ cS : ClassId) (q : Nat → Nat) (N : Nat → Nat) (V : Nat → Int32) (A : Nat → Nat → Int32) (sz : Nat) (t0 : Int32) (h_1 : okM N A) : Met l yX5_cut wsX5_cut ({ frames := 2, cells := 0, slots := 0, locals := 46 }) (va_Pc [.ref (q 0), .int t0] (fun U => U.heap.size = sz ∧ PM D cI cZ cS q N V A U ∧ va_D (fun _ => True) (wM cI cZ q N V A))) (va_Qi (fun r (_ : Unit) => r = (s_X5_cut N V A t0).1) (fun _ t => PM D cI cZ cS q (s_X5_cut N V A t0).2.1 (s_X5_cut N V A t0).2.2.1 (s_X5_cut N V A t0).2.2.2 t ∧ va_D (va_A (wM cI cZ q N V A) sz) (wM cI cZ q (s_X5_cut N V A t0).2.1 (s_X5_cut N V A t0).2.2.1 (s_X5_cut N V A t0).2.2.2)) (va_A (wM cI cZ q N V A) sz)) 0 0 (va_A (wM cI cZ q N V A) sz) := by
  refine Met.ofW (cc := cX5_cut) (maxL := 3) (ret := (some .int)) (by decide) rfl ?_
  intro p e s m args below meth c s₁ B hml hv
  obtain ⟨rfl, hsz, ⟨hP, hK⟩, hD0⟩ := hv
  have hx := B.exec
  have hb := B.bytes
  have hr := B.returns
  have hts := atoms_spec (ws := wsX5_cut) B.pre
  have hown : s.vm.findClass RX5 = some m.cls := findClass_of_methodNamed B.named
  have hlocks := B.notSynchronized
  have hin5 : ∀ w ∈ u_ws RX5 TX5 22, w ∈ wsX5_cut := by decide +kernel
  subst hsz
  have hD := hD0.self (sz := s.heap.size)
  generalize hAe : va_A (wM cI cZ q N V A) s.heap.size = Ar at hD ⊢
  have hA : ∀ q : Nat, s.heap.size ≤ q → Ar q := fun q h => by rw [← hAe]; exact Or.inr h
  have hS : va_S Ar s.heap s.heap [] := va_S.rf
  obtain ⟨o1, o2, o3, o4, o5, o6, o7⟩ := id h_1
  have hl := lv_entry ([.ref (q 0), .int t0]) (n := 3) (Nat.le_of_ble_eq_true rfl)
  rw [lg_entry_eq]
  generalize (lg_sl ([.ref (q 0), .int t0]) ++ List.replicate (3 - (lg_sl ([.ref (q 0), .int t0])).length) Slot.unset).toArray = ls at hl ⊢
  have hl : lv_has ls 3 [(0, .ref (q 0)), (1, .int t0)] := hl
  refine lv_aload_n hx hb dX5_cut_0 rfl (lv_at hl 0 rfl) ?_
  refine lv_iload_n hx hb dX5_cut_1 rfl (lv_at hl 1 rfl) ?_
  refine vp_callSi (W.runV (As := [.int t0]) (rest := []) ⟨hx, hb, hml, hown, hts⟩ (c_X5_noThread l D cI cZ cS q N V A t0) (cwV 1 hts gX5_cut_X5_noThread rfl rfl rfl (by decide +kernel) ⟨Nat.le_of_ble_eq_true rfl, Nat.le_of_ble_eq_true rfl⟩) (preM hK hP) rfl rfl hl.1 rfl (lv_room (Nat.le_of_ble_eq_true rfl)) dX5_cut_2 ⟨Nat.zero_le _, Nat.zero_le _⟩) (fun r_1 er_1 => ?_)
  subst er_1
  refine lz_if_eq (tgt := 10) hx hb dX5_cut_5 (by decide) (fun c_2 => ?_) (fun c_2 => ?_)
  · obtain ⟨hlt_t0, heq_t0⟩ := noThread_f o2 c_2
    have hl : lv_has ls 3 [(0, .ref (q 0)), (1, .int (nI t0.toNatClampNeg))] := by rw [heq_t0]; exact hl
    refine lv_aload_n hx hb dX5_cut_10 rfl (lv_at hl 0 rfl) ?_
    refine va_get (D := D) (ci := 5) (v := .ref (q 10)) (C := RX5) (T := TX5) (N := 22) hx hb hts hin5 hown hK hP 0 rfl rfl 13 (by decide) (hts (.fieldLink RX5 37 "NeckShipModel" "isCut" "[Z") (by decide +kernel)) (fun _ h9 => h9) rfl dX5_cut_11 ?_
    refine lv_iload_n hx hb dX5_cut_14 rfl (lv_at hl 1 rfl) ?_
    refine va_zaldB (i := t0.toNatClampNeg) (x := bz (A 10 t0.toNatClampNeg)) hx hb hK hP 10 1 rfl rfl (o5 _) (by decide) (by omega) dX5_cut_15 ?_
    refine lz_if_eq (tgt := 23) hx hb dX5_cut_16 (by decide) (fun c_3 => ?_) (fun c_3 => ?_)
    · refine lv_iconst (v := (1)) hx hb dX5_cut_23 (by decide) ?_
      refine lv_istore_n (lv' := [(2, .int (1)), (0, .ref (q 0)), (1, .int (nI t0.toNatClampNeg))]) hx hb dX5_cut_24 rfl hl (by decide) rfl (fun ls hl => ?_)
      refine lv_aload_n hx hb dX5_cut_25 rfl (lv_at hl 1 rfl) ?_
      refine va_get (D := D) (ci := 5) (v := .ref (q 10)) (C := RX5) (T := TX5) (N := 22) hx hb hts hin5 hown hK hP 0 rfl rfl 13 (by decide) (hts (.fieldLink RX5 37 "NeckShipModel" "isCut" "[Z") (by decide +kernel)) (fun _ h9 => h9) rfl dX5_cut_26 ?_
      refine lv_iload_n hx hb dX5_cut_29 rfl (lv_at hl 2 rfl) ?_
      refine lv_iconst (v := (1)) hx hb dX5_cut_30 (by decide) ?_
      refine va_zastN (x := true) (i := t0.toNatClampNeg) hx hb hK hP hD hS 10 1 rfl rfl (by decide) (by omega) dX5_cut_31 (fun H locs hP hD hS => ?_)
      have hP : va_P D vwCl (wM cI cZ q N V (va_up A 10 (upd (A 10) t0.toNatClampNeg (b2i true)))) H := hP
      have hD : va_D Ar (wM cI cZ q N V (va_up A 10 (upd (A 10) t0.toNatClampNeg (b2i true)))) := hD
      refine lv_iload_n hx hb dX5_cut_32 rfl (lv_at hl 0 rfl) ?_
      have hEE : s_X5_cut N V A t0 = ((1 : Int32), N, V, (va_up A 10 (upd (A 10) t0.toNatClampNeg (b2i true)))) := (by rw [s_X5_cut, if_neg (nb c_2), if_neg (nb c_3)])
      rw [hEE]
      exact W.iret (v := (1 : Int32)) hx hb hr (fun t ht hW => ⟨⟨_, (), rfl, rfl, ⟨by rw [ht]; exact hP, va_K.moved hW.alike hK⟩, hD⟩, hS.F ht⟩) hS.2.2 dX5_cut_33
    · refine lv_iconst (v := (0)) hx hb dX5_cut_19 (by decide) ?_
      refine lv_goto (tgt := 24) hx hb dX5_cut_20 (by decide) ?_
      refine lv_istore_n (lv' := [(2, .int (0)), (0, .ref (q 0)), (1, .int (nI t0.toNatClampNeg))]) hx hb dX5_cut_24 rfl hl (by decide) rfl (fun ls hl => ?_)
      refine lv_aload_n hx hb dX5_cut_25 rfl (lv_at hl 1 rfl) ?_
      refine va_get (D := D) (ci := 5) (v := .ref (q 10)) (C := RX5) (T := TX5) (N := 22) hx hb hts hin5 hown hK hP 0 rfl rfl 13 (by decide) (hts (.fieldLink RX5 37 "NeckShipModel" "isCut" "[Z") (by decide +kernel)) (fun _ h9 => h9) rfl dX5_cut_26 ?_
      refine lv_iload_n hx hb dX5_cut_29 rfl (lv_at hl 2 rfl) ?_
      refine lv_iconst (v := (1)) hx hb dX5_cut_30 (by decide) ?_
      refine va_zastN (x := true) (i := t0.toNatClampNeg) hx hb hK hP hD hS 10 1 rfl rfl (by decide) (by omega) dX5_cut_31 (fun H locs hP hD hS => ?_)
      have hP : va_P D vwCl (wM cI cZ q N V (va_up A 10 (upd (A 10) t0.toNatClampNeg (b2i true)))) H := hP
      have hD : va_D Ar (wM cI cZ q N V (va_up A 10 (upd (A 10) t0.toNatClampNeg (b2i true)))) := hD
      refine lv_iload_n hx hb dX5_cut_32 rfl (lv_at hl 0 rfl) ?_
      have hEE : s_X5_cut N V A t0 = ((0 : Int32), N, V, (va_up A 10 (upd (A 10) t0.toNatClampNeg (b2i true)))) := (by rw [s_X5_cut, if_neg (nb c_2), if_pos c_3])
      rw [hEE]
      exact W.iret (v := (0 : Int32)) hx hb hr (fun t ht hW => ⟨⟨_, (), rfl, rfl, ⟨by rw [ht]; exact hP, va_K.moved hW.alike hK⟩, hD⟩, hS.F ht⟩) hS.2.2 dX5_cut_33
  · refine lv_iconst (v := (-1)) hx hb dX5_cut_8 (by decide) ?_
    have hEE : s_X5_cut N V A t0 = ((-1 : Int32), N, V, A) := (by rw [s_X5_cut, if_pos c_2])
    rw [hEE]
    exact W.iret (v := (-1 : Int32)) hx hb hr (fun t ht hW => ⟨⟨_, (), rfl, rfl, ⟨by rw [ht]; exact hP, va_K.moved hW.alike hK⟩, hD⟩, hS.F ht⟩) hS.2.2 dX5_cut_9
def s_X5_raise (N : Nat → Nat) (V : Nat → Int32) (A : Nat → Nat → Int32)  (s0 : Int32) : Int32 × St :=
  if (s_X5_noSpar N V A s0) = true then
    ((-1 : Int32), N, V, A)
  else
    if (s_X5_mayRise N V A (nI (N 2)) s0.toNatClampNeg) = true then
      ((s_X5_count (nI ((N 2) ||| (2 ^ s0.toNatClampNeg)))), (va_up N 2 ((N 2) ||| (2 ^ s0.toNatClampNeg))), V, A)
    else
      ((-3 : Int32), N, V, A)
set_option maxHeartbeats 4000000 in
set_option maxRecDepth 100000 in
theorem c_X5_raise (l : Launch) (D : va_G) (cI cZ cS : ClassId) (q : Nat → Nat) (N : Nat → Nat) (V : Nat → Int32) (A : Nat → Nat → Int32) (sz : Nat) (s0 : Int32) (h_1 : okM N A) : Met l yX5_raise wsX5_raise ({ frames := 4, cells := 0, slots := 0, locals := 89 }) (va_Pc [.ref (q 0), .int s0] (fun U => U.heap.size = sz ∧ PM D cI cZ cS q N V A U ∧ va_D (fun _ => True) (wM cI cZ q N V A))) (va_Qi (fun r (_ : Unit) => r = (s_X5_raise N V A s0).1) (fun _ t => PM D cI cZ cS q (s_X5_raise N V A s0).2.1 (s_X5_raise N V A s0).2.2.1 (s_X5_raise N V A s0).2.2.2 t ∧ va_D (va_A (wM cI cZ q N V A) sz) (wM cI cZ q (s_X5_raise N V A s0).2.1 (s_X5_raise N V A s0).2.2.1 (s_X5_raise N V A s0).2.2.2)) (va_A (wM cI cZ q N V A) sz)) 0 0 (va_A (wM cI cZ q N V A) sz) := by
  refine Met.ofW (cc := cX5_raise) (maxL := 2) (ret := (some .int)) (by decide) rfl ?_
  intro p e s m args below meth c s₁ B hml hv
  obtain ⟨rfl, hsz, ⟨hP, hK⟩, hD0⟩ := hv
  have hx := B.exec
  have hb := B.bytes
  have hr := B.returns
  have hts := atoms_spec (ws := wsX5_raise) B.pre
  have hown : s.vm.findClass RX5 = some m.cls := findClass_of_methodNamed B.named
  have hlocks := B.notSynchronized
  have hin5 : ∀ w ∈ u_ws RX5 TX5 22, w ∈ wsX5_raise := by decide +kernel
  subst hsz
  have hD := hD0.self (sz := s.heap.size)
  generalize hAe : va_A (wM cI cZ q N V A) s.heap.size = Ar at hD ⊢
  have hA : ∀ q : Nat, s.heap.size ≤ q → Ar q := fun q h => by rw [← hAe]; exact Or.inr h
  have hS : va_S Ar s.heap s.heap [] := va_S.rf
  obtain ⟨o1, o2, o3, o4, o5, o6, o7⟩ := id h_1
  have hl := lv_entry ([.ref (q 0), .int s0]) (n := 2) (Nat.le_of_ble_eq_true rfl)
  rw [lg_entry_eq]
  generalize (lg_sl ([.ref (q 0), .int s0]) ++ List.replicate (2 - (lg_sl ([.ref (q 0), .int s0])).length) Slot.unset).toArray = ls at hl ⊢
  have hl : lv_has ls 2 [(0, .ref (q 0)), (1, .int s0)] := hl
  refine lv_aload_n hx hb dX5_raise_0 rfl (lv_at hl 0 rfl) ?_
  refine lv_iload_n hx hb dX5_raise_1 rfl (lv_at hl 1 rfl) ?_
  refine vp_callSi (W.runV (As := [.int s0]) (rest := []) ⟨hx, hb, hml, hown, hts⟩ (c_X5_noSpar l D cI cZ cS q N V A s0) (cwV 1 hts gX5_raise_X5_noSpar rfl rfl rfl (by decide +kernel) ⟨Nat.le_of_ble_eq_true rfl, Nat.le_of_ble_eq_true rfl⟩) (preM hK hP) rfl rfl hl.1 rfl (lv_room (Nat.le_of_ble_eq_true rfl)) dX5_raise_2 ⟨Nat.zero_le _, Nat.zero_le _⟩) (fun r_1 er_1 => ?_)
  subst er_1
  refine lz_if_eq (tgt := 10) hx hb dX5_raise_5 (by decide) (fun c_2 => ?_) (fun c_2 => ?_)
  · obtain ⟨hlt_s0, heq_s0⟩ := noSpar_f o1 c_2
    have hl : lv_has ls 2 [(0, .ref (q 0)), (1, .int (nI s0.toNatClampNeg))] := by rw [heq_s0]; exact hl
    refine lv_aload_n hx hb dX5_raise_10 rfl (lv_at hl 0 rfl) ?_
    refine lv_aload_n hx hb dX5_raise_11 rfl (lv_at hl 0 rfl) ?_
    refine va_get (D := D) (ci := 5) (v := .int (nI (N 2))) (C := RX5) (T := TX5) (N := 22) hx hb hts hin5 hown hK hP 0 rfl rfl 8 (by decide) (hts (.fieldLink RX5 125 "NeckShipModel" "up" "I") (by decide +kernel)) (fun _ h9 => h9) rfl dX5_raise_12 ?_
    refine lv_iload_n hx hb dX5_raise_15 rfl (lv_at hl 1 rfl) ?_
    refine vp_callSi (W.runV (As := [.int (nI (N 2)), .int (nI s0.toNatClampNeg)]) (rest := []) ⟨hx, hb, hml, hown, hts⟩ (c_X5_mayRise l D cI cZ cS q N V A (nI (N 2)) s0.toNatClampNeg h_1 (by omega)) (cwV 2 hts gX5_raise_X5_mayRise rfl rfl rfl (by decide +kernel) ⟨Nat.le_of_ble_eq_true rfl, Nat.le_of_ble_eq_true rfl⟩) (preM hK hP) rfl rfl hl.1 rfl (lv_room (Nat.le_of_ble_eq_true rfl)) dX5_raise_16 ⟨Nat.zero_le _, Nat.zero_le _⟩) (fun r_3 er_3 => ?_)
    subst er_3
    refine lz_if_ne (tgt := 25) hx hb dX5_raise_19 (by decide) (fun c_4 => ?_) (fun c_4 => ?_)
    · refine lv_aload_n hx hb dX5_raise_25 rfl (lv_at hl 0 rfl) ?_
      refine lv_dup hx hb dX5_raise_26 rfl ?_
      refine va_get (D := D) (ci := 5) (v := .int (nI (N 2))) (C := RX5) (T := TX5) (N := 22) hx hb hts hin5 hown hK hP 0 rfl rfl 8 (by decide) (hts (.fieldLink RX5 125 "NeckShipModel" "up" "I") (by decide +kernel)) (fun _ h9 => h9) rfl dX5_raise_27 ?_
      refine lv_iconst (v := (1)) hx hb dX5_raise_30 (by decide) ?_
      refine lv_iload_n hx hb dX5_raise_31 rfl (lv_at hl 1 rfl) ?_
      refine lv_ishl hx hb dX5_raise_32 ?_
      rw [sh1 (k := s0.toNatClampNeg) (by omega)]
      refine lv_ior hx hb dX5_raise_33 ?_
      rw [fa_or (N 2) (2 ^ s0.toNatClampNeg)]
      refine va_put (D := D) (ci := 5) (v := .int (nI ((N 2) ||| (2 ^ s0.toNatClampNeg)))) (ty := .int) (C := RX5) (T := TX5) (N := 22) hx hb hts hin5 tyX5 tyX5_ok nmX5 hown hK hP hD hS 0 rfl rfl 8 (by decide) (hts (.fieldLink RX5 125 "NeckShipModel" "up" "I") (by decide +kernel)) (fun _ h9 => h9) rfl (by decide +kernel) rfl rfl (Nat.le_of_ble_eq_true rfl) dX5_raise_34 (fun H locs hP hD hS => ?_)
      have hP : va_P D vwCl (wM cI cZ q (va_up N 2 ((N 2) ||| (2 ^ s0.toNatClampNeg))) V A) H := hP
      have hD : va_D Ar (wM cI cZ q (va_up N 2 ((N 2) ||| (2 ^ s0.toNatClampNeg))) V A) := hD
      refine lv_aload_n hx hb dX5_raise_37 rfl (lv_at hl 0 rfl) ?_
      refine va_get (D := D) (ci := 5) (v := .int (nI ((N 2) ||| (2 ^ s0.toNatClampNeg)))) (C := RX5) (T := TX5) (N := 22) hx hb hts hin5 hown hK hP 0 rfl rfl 8 (by decide) (hts (.fieldLink RX5 125 "NeckShipModel" "up" "I") (by decide +kernel)) (fun _ h9 => h9) rfl dX5_raise_38 ?_
      refine vp_callSi (W.runS (As := [.int (nI ((N 2) ||| (2 ^ s0.toNatClampNeg)))]) (rest := []) ⟨hx, hb, hml, hown, hts⟩ (c_X5_count l (nI ((N 2) ||| (2 ^ s0.toNatClampNeg)))) (cwS 1 hts gX5_raise_X5_count rfl rfl rfl (by decide +kernel) ⟨Nat.le_of_ble_eq_true rfl, Nat.le_of_ble_eq_true rfl⟩) (preEq) rfl rfl hl.1 rfl (lv_room (Nat.le_of_ble_eq_true rfl)) dX5_raise_41 ⟨Nat.zero_le _, Nat.zero_le _⟩) (fun r_5 er_5 => ?_)
      subst er_5
      have hEE : s_X5_raise N V A s0 = ((s_X5_count (nI ((N 2) ||| (2 ^ s0.toNatClampNeg)))), (va_up N 2 ((N 2) ||| (2 ^ s0.toNatClampNeg))), V, A) := (by rw [s_X5_raise, if_neg (nb c_2), if_pos c_4])
      rw [hEE]
      exact W.iret (v := (s_X5_count (nI ((N 2) ||| (2 ^ s0.toNatClampNeg))))) hx hb hr (fun t ht hW => ⟨⟨_, (), rfl, rfl, ⟨by rw [ht]; exact hP, va_K.moved hW.alike hK⟩, hD⟩, hS.F ht⟩) hS.2.2 dX5_raise_44
    · refine lv_bipush (v := (-3)) hx hb dX5_raise_22 (by decide) ?_
      have hEE : s_X5_raise N V A s0 = ((-3 : Int32), N, V, A) := (by rw [s_X5_raise, if_neg (nb c_2), if_neg (nb c_4)])
      rw [hEE]
      exact W.iret (v := (-3 : Int32)) hx hb hr (fun t ht hW => ⟨⟨_, (), rfl, rfl, ⟨by rw [ht]; exact hP, va_K.moved hW.alike hK⟩, hD⟩, hS.F ht⟩) hS.2.2 dX5_raise_24
  · refine lv_iconst (v := (-1)) hx hb dX5_raise_8 (by decide) ?_
    have hEE : s_X5_raise N V A s0 = ((-1 : Int32), N, V, A) := (by rw [s_X5_raise, if_pos c_2])
    rw [hEE]
    exact W.iret (v := (-1 : Int32)) hx hb hr (fun t ht hW => ⟨⟨_, (), rfl, rfl, ⟨by rw [ht]; exact hP, va_K.moved hW.alike hK⟩, hD⟩, hS.F ht⟩) hS.2.2 dX5_raise_9
def s_X5_lay (N : Nat → Nat) (V : Nat → Int32) (A : Nat → Nat → Int32)  (s0 : Int32) : Int32 × St :=
  if (s_X5_noSpar N V A s0) = true then
    ((-1 : Int32), N, V, A)
  else
    if (s_X5_isUp N V A (nI (N 2)) (nI s0.toNatClampNeg)) = true then
      if (s_X5_isBarred N V A (nI (N 2)) s0.toNatClampNeg) = true then
        ((-3 : Int32), N, V, A)
      else
        if (s_X5_overThatLie N V A (nI (N 2)) s0.toNatClampNeg) ≤ 0 then
          ((nI ((va_up N 2 (nclr (N 2) (2 ^ s0.toNatClampNeg))) 0) - (s_X5_count (nI (nclr (N 2) (2 ^ s0.toNatClampNeg))))), (va_up N 2 (nclr (N 2) (2 ^ s0.toNatClampNeg))), V, A)
        else
          ((-3 : Int32), N, V, A)
    else
      ((-3 : Int32), N, V, A)
set_option maxHeartbeats 4000000 in
set_option maxRecDepth 100000 in
theorem c_X5_lay (l : Launch) (D : va_G) (cI cZ cS : ClassId) (q : Nat → Nat) (N : Nat → Nat) (V : Nat → Int32) (A : Nat → Nat → Int32) (sz : Nat) (s0 : Int32) (h_1 : okM N A) : Met l yX5_lay wsX5_lay ({ frames := 3, cells := 0, slots := 0, locals := 67 }) (va_Pc [.ref (q 0), .int s0] (fun U => U.heap.size = sz ∧ PM D cI cZ cS q N V A U ∧ va_D (fun _ => True) (wM cI cZ q N V A))) (va_Qi (fun r (_ : Unit) => r = (s_X5_lay N V A s0).1) (fun _ t => PM D cI cZ cS q (s_X5_lay N V A s0).2.1 (s_X5_lay N V A s0).2.2.1 (s_X5_lay N V A s0).2.2.2 t ∧ va_D (va_A (wM cI cZ q N V A) sz) (wM cI cZ q (s_X5_lay N V A s0).2.1 (s_X5_lay N V A s0).2.2.1 (s_X5_lay N V A s0).2.2.2)) (va_A (wM cI cZ q N V A) sz)) 0 0 (va_A (wM cI cZ q N V A) sz) := by
  refine Met.ofW (cc := cX5_lay) (maxL := 2) (ret := (some .int)) (by decide) rfl ?_
  intro p e s m args below meth c s₁ B hml hv
  obtain ⟨rfl, hsz, ⟨hP, hK⟩, hD0⟩ := hv
  have hx := B.exec
  have hb := B.bytes
  have hr := B.returns
  have hts := atoms_spec (ws := wsX5_lay) B.pre
  have hown : s.vm.findClass RX5 = some m.cls := findClass_of_methodNamed B.named
  have hlocks := B.notSynchronized
  have hin5 : ∀ w ∈ u_ws RX5 TX5 22, w ∈ wsX5_lay := by decide +kernel
  subst hsz
  have hD := hD0.self (sz := s.heap.size)
  generalize hAe : va_A (wM cI cZ q N V A) s.heap.size = Ar at hD ⊢
  have hA : ∀ q : Nat, s.heap.size ≤ q → Ar q := fun q h => by rw [← hAe]; exact Or.inr h
  have hS : va_S Ar s.heap s.heap [] := va_S.rf
  obtain ⟨o1, o2, o3, o4, o5, o6, o7⟩ := id h_1
  have hl := lv_entry ([.ref (q 0), .int s0]) (n := 2) (Nat.le_of_ble_eq_true rfl)
  rw [lg_entry_eq]
  generalize (lg_sl ([.ref (q 0), .int s0]) ++ List.replicate (2 - (lg_sl ([.ref (q 0), .int s0])).length) Slot.unset).toArray = ls at hl ⊢
  have hl : lv_has ls 2 [(0, .ref (q 0)), (1, .int s0)] := hl
  refine lv_aload_n hx hb dX5_lay_0 rfl (lv_at hl 0 rfl) ?_
  refine lv_iload_n hx hb dX5_lay_1 rfl (lv_at hl 1 rfl) ?_
  refine vp_callSi (W.runV (As := [.int s0]) (rest := []) ⟨hx, hb, hml, hown, hts⟩ (c_X5_noSpar l D cI cZ cS q N V A s0) (cwV 1 hts gX5_lay_X5_noSpar rfl rfl rfl (by decide +kernel) ⟨Nat.le_of_ble_eq_true rfl, Nat.le_of_ble_eq_true rfl⟩) (preM hK hP) rfl rfl hl.1 rfl (lv_room (Nat.le_of_ble_eq_true rfl)) dX5_lay_2 ⟨Nat.zero_le _, Nat.zero_le _⟩) (fun r_1 er_1 => ?_)
  subst er_1
  refine lz_if_eq (tgt := 10) hx hb dX5_lay_5 (by decide) (fun c_2 => ?_) (fun c_2 => ?_)
  · obtain ⟨hlt_s0, heq_s0⟩ := noSpar_f o1 c_2
    have hl : lv_has ls 2 [(0, .ref (q 0)), (1, .int (nI s0.toNatClampNeg))] := by rw [heq_s0]; exact hl
    refine lv_aload_n hx hb dX5_lay_10 rfl (lv_at hl 0 rfl) ?_
    refine lv_aload_n hx hb dX5_lay_11 rfl (lv_at hl 0 rfl) ?_
    refine va_get (D := D) (ci := 5) (v := .int (nI (N 2))) (C := RX5) (T := TX5) (N := 22) hx hb hts hin5 hown hK hP 0 rfl rfl 8 (by decide) (hts (.fieldLink RX5 125 "NeckShipModel" "up" "I") (by decide +kernel)) (fun _ h9 => h9) rfl dX5_lay_12 ?_
    refine lv_iload_n hx hb dX5_lay_15 rfl (lv_at hl 1 rfl) ?_
    refine vp_callSi (W.runV (As := [.int (nI (N 2)), .int (nI s0.toNatClampNeg)]) (rest := []) ⟨hx, hb, hml, hown, hts⟩ (c_X5_isUp l D cI cZ cS q N V A (nI (N 2)) (nI s0.toNatClampNeg)) (cwV 2 hts gX5_lay_X5_isUp rfl rfl rfl (by decide +kernel) ⟨Nat.le_of_ble_eq_true rfl, Nat.le_of_ble_eq_true rfl⟩) (preM hK hP) rfl rfl hl.1 rfl (lv_room (Nat.le_of_ble_eq_true rfl)) dX5_lay_16 ⟨Nat.zero_le _, Nat.zero_le _⟩) (fun r_3 er_3 => ?_)
    subst er_3
    refine lz_if_eq (tgt := 46) hx hb dX5_lay_19 (by decide) (fun c_4 => ?_) (fun c_4 => ?_)
    · refine lv_bipush (v := (-3)) hx hb dX5_lay_46 (by decide) ?_
      have hEE : s_X5_lay N V A s0 = ((-3 : Int32), N, V, A) := (by rw [s_X5_lay, if_neg (nb c_2), if_neg (nb c_4)])
      rw [hEE]
      exact W.iret (v := (-3 : Int32)) hx hb hr (fun t ht hW => ⟨⟨_, (), rfl, rfl, ⟨by rw [ht]; exact hP, va_K.moved hW.alike hK⟩, hD⟩, hS.F ht⟩) hS.2.2 dX5_lay_48
    · refine lv_aload_n hx hb dX5_lay_22 rfl (lv_at hl 0 rfl) ?_
      refine lv_aload_n hx hb dX5_lay_23 rfl (lv_at hl 0 rfl) ?_
      refine va_get (D := D) (ci := 5) (v := .int (nI (N 2))) (C := RX5) (T := TX5) (N := 22) hx hb hts hin5 hown hK hP 0 rfl rfl 8 (by decide) (hts (.fieldLink RX5 125 "NeckShipModel" "up" "I") (by decide +kernel)) (fun _ h9 => h9) rfl dX5_lay_24 ?_
      refine lv_iload_n hx hb dX5_lay_27 rfl (lv_at hl 1 rfl) ?_
      refine vp_callSi (W.runV (As := [.int (nI (N 2)), .int (nI s0.toNatClampNeg)]) (rest := []) ⟨hx, hb, hml, hown, hts⟩ (c_X5_isBarred l D cI cZ cS q N V A (nI (N 2)) s0.toNatClampNeg h_1 (by omega)) (cwV 2 hts gX5_lay_X5_isBarred rfl rfl rfl (by decide +kernel) ⟨Nat.le_of_ble_eq_true rfl, Nat.le_of_ble_eq_true rfl⟩) (preM hK hP) rfl rfl hl.1 rfl (lv_room (Nat.le_of_ble_eq_true rfl)) dX5_lay_28 ⟨Nat.zero_le _, Nat.zero_le _⟩) (fun r_5 er_5 => ?_)
      subst er_5
      refine lz_if_ne (tgt := 46) hx hb dX5_lay_31 (by decide) (fun c_6 => ?_) (fun c_6 => ?_)
      · refine lv_bipush (v := (-3)) hx hb dX5_lay_46 (by decide) ?_
        have hEE : s_X5_lay N V A s0 = ((-3 : Int32), N, V, A) := (by rw [s_X5_lay, if_neg (nb c_2), if_pos c_4, if_pos c_6])
        rw [hEE]
        exact W.iret (v := (-3 : Int32)) hx hb hr (fun t ht hW => ⟨⟨_, (), rfl, rfl, ⟨by rw [ht]; exact hP, va_K.moved hW.alike hK⟩, hD⟩, hS.F ht⟩) hS.2.2 dX5_lay_48
      · refine lv_aload_n hx hb dX5_lay_34 rfl (lv_at hl 0 rfl) ?_
        refine lv_aload_n hx hb dX5_lay_35 rfl (lv_at hl 0 rfl) ?_
        refine va_get (D := D) (ci := 5) (v := .int (nI (N 2))) (C := RX5) (T := TX5) (N := 22) hx hb hts hin5 hown hK hP 0 rfl rfl 8 (by decide) (hts (.fieldLink RX5 125 "NeckShipModel" "up" "I") (by decide +kernel)) (fun _ h9 => h9) rfl dX5_lay_36 ?_
        refine lv_iload_n hx hb dX5_lay_39 rfl (lv_at hl 1 rfl) ?_
        refine vp_callSi (W.runV (As := [.int (nI (N 2)), .int (nI s0.toNatClampNeg)]) (rest := []) ⟨hx, hb, hml, hown, hts⟩ (c_X5_overThatLie l D cI cZ cS q N V A (nI (N 2)) s0.toNatClampNeg h_1 (by omega)) (cwV 2 hts gX5_lay_X5_overThatLie rfl rfl rfl (by decide +kernel) ⟨Nat.le_of_ble_eq_true rfl, Nat.le_of_ble_eq_true rfl⟩) (preM hK hP) rfl rfl hl.1 rfl (lv_room (Nat.le_of_ble_eq_true rfl)) dX5_lay_40 ⟨Nat.zero_le _, Nat.zero_le _⟩) (fun r_7 er_7 => ?_)
        subst er_7
        refine lv_if_le (tgt := 49) hx hb dX5_lay_43 (by decide) (fun c_8 => ?_) (fun c_8 => ?_)
        · refine lv_aload_n hx hb dX5_lay_49 rfl (lv_at hl 0 rfl) ?_
          refine lv_dup hx hb dX5_lay_50 rfl ?_
          refine va_get (D := D) (ci := 5) (v := .int (nI (N 2))) (C := RX5) (T := TX5) (N := 22) hx hb hts hin5 hown hK hP 0 rfl rfl 8 (by decide) (hts (.fieldLink RX5 125 "NeckShipModel" "up" "I") (by decide +kernel)) (fun _ h9 => h9) rfl dX5_lay_51 ?_
          refine lv_iconst (v := (1)) hx hb dX5_lay_54 (by decide) ?_
          refine lv_iload_n hx hb dX5_lay_55 rfl (lv_at hl 1 rfl) ?_
          refine lv_ishl hx hb dX5_lay_56 ?_
          rw [sh1 (k := s0.toNatClampNeg) (by omega)]
          refine lv_iconst (v := (-1)) hx hb dX5_lay_57 (by decide) ?_
          refine lv_ixor hx hb dX5_lay_58 ?_
          refine lv_iand hx hb dX5_lay_59 ?_
          rw [nclr_eq (N 2) (2 ^ s0.toNatClampNeg)]
          refine va_put (D := D) (ci := 5) (v := .int (nI (nclr (N 2) (2 ^ s0.toNatClampNeg)))) (ty := .int) (C := RX5) (T := TX5) (N := 22) hx hb hts hin5 tyX5 tyX5_ok nmX5 hown hK hP hD hS 0 rfl rfl 8 (by decide) (hts (.fieldLink RX5 125 "NeckShipModel" "up" "I") (by decide +kernel)) (fun _ h9 => h9) rfl (by decide +kernel) rfl rfl (Nat.le_of_ble_eq_true rfl) dX5_lay_60 (fun H locs hP hD hS => ?_)
          have hP : va_P D vwCl (wM cI cZ q (va_up N 2 (nclr (N 2) (2 ^ s0.toNatClampNeg))) V A) H := hP
          have hD : va_D Ar (wM cI cZ q (va_up N 2 (nclr (N 2) (2 ^ s0.toNatClampNeg))) V A) := hD
          refine lv_aload_n hx hb dX5_lay_63 rfl (lv_at hl 0 rfl) ?_
          refine va_get (D := D) (ci := 5) (v := .int (nI ((va_up N 2 (nclr (N 2) (2 ^ s0.toNatClampNeg))) 0))) (C := RX5) (T := TX5) (N := 22) hx hb hts hin5 hown hK hP 0 rfl rfl 2 (by decide) (hts (.fieldLink RX5 72 "NeckShipModel" "spars" "I") (by decide +kernel)) (fun _ h9 => h9) rfl dX5_lay_64 ?_
          refine lv_aload_n hx hb dX5_lay_67 rfl (lv_at hl 0 rfl) ?_
          refine va_get (D := D) (ci := 5) (v := .int (nI (nclr (N 2) (2 ^ s0.toNatClampNeg)))) (C := RX5) (T := TX5) (N := 22) hx hb hts hin5 hown hK hP 0 rfl rfl 8 (by decide) (hts (.fieldLink RX5 125 "NeckShipModel" "up" "I") (by decide +kernel)) (fun _ h9 => h9) rfl dX5_lay_68 ?_
          refine vp_callSi (W.runS (As := [.int (nI (nclr (N 2) (2 ^ s0.toNatClampNeg)))]) (rest := [.int (nI ((va_up N 2 (nclr (N 2) (2 ^ s0.toNatClampNeg))) 0))]) ⟨hx, hb, hml, hown, hts⟩ (c_X5_count l (nI (nclr (N 2) (2 ^ s0.toNatClampNeg)))) (cwS 1 hts gX5_lay_X5_count rfl rfl rfl (by decide +kernel) ⟨Nat.le_of_ble_eq_true rfl, Nat.le_of_ble_eq_true rfl⟩) (preEq) rfl rfl hl.1 rfl (lv_room (Nat.le_of_ble_eq_true rfl)) dX5_lay_71 ⟨Nat.zero_le _, Nat.zero_le _⟩) (fun r_9 er_9 => ?_)
          subst er_9
          refine lv_isub hx hb dX5_lay_74 ?_
          have hEE : s_X5_lay N V A s0 = ((nI ((va_up N 2 (nclr (N 2) (2 ^ s0.toNatClampNeg))) 0) - (s_X5_count (nI (nclr (N 2) (2 ^ s0.toNatClampNeg))))), (va_up N 2 (nclr (N 2) (2 ^ s0.toNatClampNeg))), V, A) := (by rw [s_X5_lay, if_neg (nb c_2), if_pos c_4, if_neg (nb c_6), if_pos c_8])
          rw [hEE]
          exact W.iret (v := (nI ((va_up N 2 (nclr (N 2) (2 ^ s0.toNatClampNeg))) 0) - (s_X5_count (nI (nclr (N 2) (2 ^ s0.toNatClampNeg)))))) hx hb hr (fun t ht hW => ⟨⟨_, (), rfl, rfl, ⟨by rw [ht]; exact hP, va_K.moved hW.alike hK⟩, hD⟩, hS.F ht⟩) hS.2.2 dX5_lay_75
        · refine lv_bipush (v := (-3)) hx hb dX5_lay_46 (by decide) ?_
          have hEE : s_X5_lay N V A s0 = ((-3 : Int32), N, V, A) := (by rw [s_X5_lay, if_neg (nb c_2), if_pos c_4, if_neg (nb c_6), if_neg c_8])
          rw [hEE]
          exact W.iret (v := (-3 : Int32)) hx hb hr (fun t ht hW => ⟨⟨_, (), rfl, rfl, ⟨by rw [ht]; exact hP, va_K.moved hW.alike hK⟩, hD⟩, hS.F ht⟩) hS.2.2 dX5_lay_48
  · refine lv_iconst (v := (-1)) hx hb dX5_lay_8 (by decide) ?_
    have hEE : s_X5_lay N V A s0 = ((-1 : Int32), N, V, A) := (by rw [s_X5_lay, if_pos c_2])
    rw [hEE]
    exact W.iret (v := (-1 : Int32)) hx hb hr (fun t ht hW => ⟨⟨_, (), rfl, rfl, ⟨by rw [ht]; exact hP, va_K.moved hW.alike hK⟩, hD⟩, hS.F ht⟩) hS.2.2 dX5_lay_9
def s_X5_settle_L1 (N : Nat → Nat) (V : Nat → Int32) (A : Nat → Nat → Int32) : Nat → Nat → Nat → Nat
  | 0, k, a =>
    a
  | n + 1, k, a =>
    if (s_X5_isUp N V A (nI (N 2)) (nI k)) = true then
      if (s_X5_raisers N V A k) = 0 then
        s_X5_settle_L1 N V A n (k + 1) (a ||| (2 ^ k))
      else
        s_X5_settle_L1 N V A n (k + 1) a
    else
      s_X5_settle_L1 N V A n (k + 1) a
def s_X5_settle (N : Nat → Nat) (V : Nat → Int32) (A : Nat → Nat → Int32)  : Int32 × St :=
  ((s_X5_count (nI (s_X5_settle_L1 N V A (N 0) 0 0))), (va_up N 2 (nclr (N 2) (s_X5_settle_L1 N V A (N 0) 0 0))), V, A)
set_option maxHeartbeats 4000000 in
set_option maxRecDepth 100000 in
theorem c_X5_settle (l : Launch) (D : va_G) (cI cZ cS : ClassId) (q : Nat → Nat) (N : Nat → Nat) (V : Nat → Int32) (A : Nat → Nat → Int32) (sz : Nat) (h_1 : okM N A) : Met l yX5_settle wsX5_settle ({ frames := 2, cells := 0, slots := 0, locals := 45 }) (va_Pc [.ref (q 0)] (fun U => U.heap.size = sz ∧ PM D cI cZ cS q N V A U ∧ va_D (fun _ => True) (wM cI cZ q N V A))) (va_Qi (fun r (_ : Unit) => r = (s_X5_settle N V A).1) (fun _ t => PM D cI cZ cS q (s_X5_settle N V A).2.1 (s_X5_settle N V A).2.2.1 (s_X5_settle N V A).2.2.2 t ∧ va_D (va_A (wM cI cZ q N V A) sz) (wM cI cZ q (s_X5_settle N V A).2.1 (s_X5_settle N V A).2.2.1 (s_X5_settle N V A).2.2.2)) (va_A (wM cI cZ q N V A) sz)) 0 0 (va_A (wM cI cZ q N V A) sz) := by
  refine Met.ofW (cc := cX5_settle) (maxL := 3) (ret := (some .int)) (by decide) rfl ?_
  intro p e s m args below meth c s₁ B hml hv
  obtain ⟨rfl, hsz, ⟨hP, hK⟩, hD0⟩ := hv
  have hx := B.exec
  have hb := B.bytes
  have hr := B.returns
  have hts := atoms_spec (ws := wsX5_settle) B.pre
  have hown : s.vm.findClass RX5 = some m.cls := findClass_of_methodNamed B.named
  have hlocks := B.notSynchronized
  have hin5 : ∀ w ∈ u_ws RX5 TX5 22, w ∈ wsX5_settle := by decide +kernel
  subst hsz
  have hD := hD0.self (sz := s.heap.size)
  generalize hAe : va_A (wM cI cZ q N V A) s.heap.size = Ar at hD ⊢
  have hA : ∀ q : Nat, s.heap.size ≤ q → Ar q := fun q h => by rw [← hAe]; exact Or.inr h
  have hS : va_S Ar s.heap s.heap [] := va_S.rf
  obtain ⟨o1, o2, o3, o4, o5, o6, o7⟩ := id h_1
  have hl := lv_entry ([.ref (q 0)]) (n := 3) (Nat.le_of_ble_eq_true rfl)
  rw [lg_entry_eq]
  generalize (lg_sl ([.ref (q 0)]) ++ List.replicate (3 - (lg_sl ([.ref (q 0)])).length) Slot.unset).toArray = ls at hl ⊢
  have hl : lv_has ls 3 [(0, .ref (q 0))] := hl
  refine lv_iconst (v := (0)) hx hb dX5_settle_0 (by decide) ?_
  refine lv_istore_n (lv' := [(1, .int (0)), (0, .ref (q 0))]) hx hb dX5_settle_1 rfl hl (by decide) rfl (fun ls hl => ?_)
  refine lv_iconst (v := (0)) hx hb dX5_settle_2 (by decide) ?_
  refine lv_istore_n (lv' := [(2, .int (0)), (1, .int (0)), (0, .ref (q 0))]) hx hb dX5_settle_3 rfl hl (by decide) rfl (fun ls hl => ?_)
  have KL1 : ∀ (H : Heap) (locs : List Loc), va_P D vwCl (wM cI cZ q N V A) H → va_D Ar (wM cI cZ q N V A) → va_S Ar s.heap H locs → ∀ (ls : Array Slot), lv_has ls 3 [(1, .int (nI (s_X5_settle_L1 N V A (N 0) 0 0))), (0, .ref (q 0))] → W p l e (headSpec wsX5_settle ({ frames := 2, cells := 0, slots := 0, locals := 45 })).room s m ([.ref (q 0)] : List Value).toArray below meth c H locs 0 0 (MQ below (va_Qi (fun r (_ : Unit) => r = (s_X5_settle N V A).1) (fun _ t => PM D cI cZ cS q (s_X5_settle N V A).2.1 (s_X5_settle N V A).2.2.1 (s_X5_settle N V A).2.2.2 t ∧ va_D Ar (wM cI cZ q (s_X5_settle N V A).2.1 (s_X5_settle N V A).2.2.1 (s_X5_settle N V A).2.2.2)) Ar) ([.ref (q 0)] : List Value).toArray s 0 0 Ar) (F0 m 48 ls []) := by
    intro H locs hP hD hS ls hl
    refine lv_aload_n hx hb dX5_settle_48 rfl (lv_at hl 1 rfl) ?_
    refine lv_dup hx hb dX5_settle_49 rfl ?_
    refine va_get (D := D) (ci := 5) (v := .int (nI (N 2))) (C := RX5) (T := TX5) (N := 22) hx hb hts hin5 hown hK hP 0 rfl rfl 8 (by decide) (hts (.fieldLink RX5 125 "NeckShipModel" "up" "I") (by decide +kernel)) (fun _ h9 => h9) rfl dX5_settle_50 ?_
    refine lv_iload_n hx hb dX5_settle_53 rfl (lv_at hl 0 rfl) ?_
    refine lv_iconst (v := (-1)) hx hb dX5_settle_54 (by decide) ?_
    refine lv_ixor hx hb dX5_settle_55 ?_
    refine lv_iand hx hb dX5_settle_56 ?_
    rw [nclr_eq (N 2) (s_X5_settle_L1 N V A (N 0) 0 0)]
    refine va_put (D := D) (ci := 5) (v := .int (nI (nclr (N 2) (s_X5_settle_L1 N V A (N 0) 0 0)))) (ty := .int) (C := RX5) (T := TX5) (N := 22) hx hb hts hin5 tyX5 tyX5_ok nmX5 hown hK hP hD hS 0 rfl rfl 8 (by decide) (hts (.fieldLink RX5 125 "NeckShipModel" "up" "I") (by decide +kernel)) (fun _ h9 => h9) rfl (by decide +kernel) rfl rfl (Nat.le_of_ble_eq_true rfl) dX5_settle_57 (fun H locs hP hD hS => ?_)
    have hP : va_P D vwCl (wM cI cZ q (va_up N 2 (nclr (N 2) (s_X5_settle_L1 N V A (N 0) 0 0))) V A) H := hP
    have hD : va_D Ar (wM cI cZ q (va_up N 2 (nclr (N 2) (s_X5_settle_L1 N V A (N 0) 0 0))) V A) := hD
    refine lv_iload_n hx hb dX5_settle_60 rfl (lv_at hl 0 rfl) ?_
    refine vp_callSi (W.runS (As := [.int (nI (s_X5_settle_L1 N V A (N 0) 0 0))]) (rest := []) ⟨hx, hb, hml, hown, hts⟩ (c_X5_count l (nI (s_X5_settle_L1 N V A (N 0) 0 0))) (cwS 1 hts gX5_settle_X5_count rfl rfl rfl (by decide +kernel) ⟨Nat.le_of_ble_eq_true rfl, Nat.le_of_ble_eq_true rfl⟩) (preEq) rfl rfl hl.1 rfl (lv_room (Nat.le_of_ble_eq_true rfl)) dX5_settle_61 ⟨Nat.zero_le _, Nat.zero_le _⟩) (fun r_1 er_1 => ?_)
    subst er_1
    have hEE : s_X5_settle N V A = ((s_X5_count (nI (s_X5_settle_L1 N V A (N 0) 0 0))), (va_up N 2 (nclr (N 2) (s_X5_settle_L1 N V A (N 0) 0 0))), V, A) := (by rw [s_X5_settle])
    rw [hEE]
    exact W.iret (v := (s_X5_count (nI (s_X5_settle_L1 N V A (N 0) 0 0)))) hx hb hr (fun t ht hW => ⟨⟨_, (), rfl, rfl, ⟨by rw [ht]; exact hP, va_K.moved hW.alike hK⟩, hD⟩, hS.F ht⟩) hS.2.2 dX5_settle_64
  have LL1 : ∀ (n k : Nat) (a : Nat) (H : Heap) (locs : List Loc), va_P D vwCl (wM cI cZ q N V A) H → va_D Ar (wM cI cZ q N V A) → va_S Ar s.heap H locs → ∀ (ls : Array Slot), k + n = N 0 → s_X5_settle_L1 N V A (N 0) 0 0 = s_X5_settle_L1 N V A n k a → lv_has ls 3 [(2, .int (nI k)), (1, .int (nI a)), (0, .ref (q 0))] → W p l e (headSpec wsX5_settle ({ frames := 2, cells := 0, slots := 0, locals := 45 })).room s m ([.ref (q 0)] : List Value).toArray below meth c H locs 0 0 (MQ below (va_Qi (fun r (_ : Unit) => r = (s_X5_settle N V A).1) (fun _ t => PM D cI cZ cS q (s_X5_settle N V A).2.1 (s_X5_settle N V A).2.2.1 (s_X5_settle N V A).2.2.2 t ∧ va_D Ar (wM cI cZ q (s_X5_settle N V A).2.1 (s_X5_settle N V A).2.2.1 (s_X5_settle N V A).2.2.2)) Ar) ([.ref (q 0)] : List Value).toArray s 0 0 Ar) (F0 m 4 ls []) := by
    intro n
    induction n with
    | zero =>
      intro k a H locs hP hD hS ls hk hF hl
      refine lv_iload_n hx hb dX5_settle_4 rfl (lv_at hl 0 rfl) ?_
      refine lv_aload_n hx hb dX5_settle_5 rfl (lv_at hl 2 rfl) ?_
      refine va_get (D := D) (ci := 5) (v := .int (nI (N 0))) (C := RX5) (T := TX5) (N := 22) hx hb hts hin5 hown hK hP 0 rfl rfl 2 (by decide) (hts (.fieldLink RX5 72 "NeckShipModel" "spars" "I") (by decide +kernel)) (fun _ h9 => h9) rfl dX5_settle_6 ?_
      refine lv_icmp_ge (tgt := 48) hx hb dX5_settle_9 (by decide) (fun _ => ?_) (fun c_2 => absurd (nI_le (by omega) (by omega)) c_2)
      have hF : s_X5_settle_L1 N V A (N 0) 0 0 = a := hF.trans (by rw [s_X5_settle_L1])
      exact KL1 _ _ (by (try rw [hF]); exact hP) (by (try rw [hF]); exact hD) hS _ (by (try rw [hF]); exact lv_sub hl [1, 2] rfl)
    | succ n ih =>
      intro k a H locs hP hD hS ls hk hF hl
      refine lv_iload_n hx hb dX5_settle_4 rfl (lv_at hl 0 rfl) ?_
      refine lv_aload_n hx hb dX5_settle_5 rfl (lv_at hl 2 rfl) ?_
      refine va_get (D := D) (ci := 5) (v := .int (nI (N 0))) (C := RX5) (T := TX5) (N := 22) hx hb hts hin5 hown hK hP 0 rfl rfl 2 (by decide) (hts (.fieldLink RX5 72 "NeckShipModel" "spars" "I") (by decide +kernel)) (fun _ h9 => h9) rfl dX5_settle_6 ?_
      refine lv_icmp_ge (tgt := 48) hx hb dX5_settle_9 (by decide) (fun c_3 => absurd c_3 (nI_ge (by omega) (by omega))) (fun _ => ?_)
      refine lv_iload_n hx hb dX5_settle_12 rfl (lv_at hl 1 rfl) ?_
      refine lv_aload_n hx hb dX5_settle_13 rfl (lv_at hl 2 rfl) ?_
      refine lv_aload_n hx hb dX5_settle_14 rfl (lv_at hl 2 rfl) ?_
      refine va_get (D := D) (ci := 5) (v := .int (nI (N 2))) (C := RX5) (T := TX5) (N := 22) hx hb hts hin5 hown hK hP 0 rfl rfl 8 (by decide) (hts (.fieldLink RX5 125 "NeckShipModel" "up" "I") (by decide +kernel)) (fun _ h9 => h9) rfl dX5_settle_15 ?_
      refine lv_iload_n hx hb dX5_settle_18 rfl (lv_at hl 0 rfl) ?_
      refine vp_callSi (W.runV (As := [.int (nI (N 2)), .int (nI k)]) (rest := [.int (nI a)]) ⟨hx, hb, hml, hown, hts⟩ (c_X5_isUp l D cI cZ cS q N V A (nI (N 2)) (nI k)) (cwV 2 hts gX5_settle_X5_isUp rfl rfl rfl (by decide +kernel) ⟨Nat.le_of_ble_eq_true rfl, Nat.le_of_ble_eq_true rfl⟩) (preM hK hP) rfl rfl hl.1 rfl (lv_room (Nat.le_of_ble_eq_true rfl)) dX5_settle_19 ⟨Nat.zero_le _, Nat.zero_le _⟩) (fun r_4 er_4 => ?_)
      subst er_4
      refine lz_if_eq (tgt := 39) hx hb dX5_settle_22 (by decide) (fun c_5 => ?_) (fun c_5 => ?_)
      · refine lv_iconst (v := (0)) hx hb dX5_settle_39 (by decide) ?_
        refine lv_ior hx hb dX5_settle_40 ?_
        rw [or0 a]
        refine lv_istore_n (lv' := [(1, .int (nI a)), (2, .int (nI k)), (0, .ref (q 0))]) hx hb dX5_settle_41 rfl hl (by decide) rfl (fun ls hl => ?_)
        refine lv_iinc (v := nI (k + 1)) (lv' := [(2, .int (nI (k + 1))), (1, .int (nI a)), (0, .ref (q 0))]) hx hb dX5_settle_42 hl (k := 1) rfl (nI_1 k) (by decide) rfl (fun ls hl => ?_)
        refine lv_goto (tgt := 4) hx hb dX5_settle_45 (by decide) ?_
        exact ih (k + 1) a _ _ hP hD hS _ (by omega) (hF.trans (by rw [s_X5_settle_L1, if_neg (nb c_5)])) (lv_sub hl [0, 1, 2] rfl)
      · refine lv_aload_n hx hb dX5_settle_25 rfl (lv_at hl 2 rfl) ?_
        refine lv_iload_n hx hb dX5_settle_26 rfl (lv_at hl 0 rfl) ?_
        refine vp_callSi (W.runV (As := [.int (nI k)]) (rest := [.int (nI a)]) ⟨hx, hb, hml, hown, hts⟩ (c_X5_raisers l D cI cZ cS q N V A k h_1) (cwV 1 hts gX5_settle_X5_raisers rfl rfl rfl (by decide +kernel) ⟨Nat.le_of_ble_eq_true rfl, Nat.le_of_ble_eq_true rfl⟩) (preM hK hP) rfl rfl hl.1 rfl (lv_room (Nat.le_of_ble_eq_true rfl)) dX5_settle_27 ⟨Nat.zero_le _, Nat.zero_le _⟩) (fun r_6 er_6 => ?_)
        subst er_6
        refine lv_if_ne (tgt := 39) hx hb dX5_settle_30 (by decide) (fun c_7 => ?_) (fun c_7 => ?_)
        · refine lv_iconst (v := (0)) hx hb dX5_settle_39 (by decide) ?_
          refine lv_ior hx hb dX5_settle_40 ?_
          rw [or0 a]
          refine lv_istore_n (lv' := [(1, .int (nI a)), (2, .int (nI k)), (0, .ref (q 0))]) hx hb dX5_settle_41 rfl hl (by decide) rfl (fun ls hl => ?_)
          refine lv_iinc (v := nI (k + 1)) (lv' := [(2, .int (nI (k + 1))), (1, .int (nI a)), (0, .ref (q 0))]) hx hb dX5_settle_42 hl (k := 1) rfl (nI_1 k) (by decide) rfl (fun ls hl => ?_)
          refine lv_goto (tgt := 4) hx hb dX5_settle_45 (by decide) ?_
          exact ih (k + 1) a _ _ hP hD hS _ (by omega) (hF.trans (by rw [s_X5_settle_L1, if_pos c_5, if_neg c_7])) (lv_sub hl [0, 1, 2] rfl)
        · refine lv_iconst (v := (1)) hx hb dX5_settle_33 (by decide) ?_
          refine lv_iload_n hx hb dX5_settle_34 rfl (lv_at hl 0 rfl) ?_
          refine lv_ishl hx hb dX5_settle_35 ?_
          rw [sh1 (k := k) (by omega)]
          refine lv_goto (tgt := 40) hx hb dX5_settle_36 (by decide) ?_
          refine lv_ior hx hb dX5_settle_40 ?_
          rw [fa_or a (2 ^ k)]
          refine lv_istore_n (lv' := [(1, .int (nI (a ||| (2 ^ k)))), (2, .int (nI k)), (0, .ref (q 0))]) hx hb dX5_settle_41 rfl hl (by decide) rfl (fun ls hl => ?_)
          refine lv_iinc (v := nI (k + 1)) (lv' := [(2, .int (nI (k + 1))), (1, .int (nI (a ||| (2 ^ k)))), (0, .ref (q 0))]) hx hb dX5_settle_42 hl (k := 1) rfl (nI_1 k) (by decide) rfl (fun ls hl => ?_)
          refine lv_goto (tgt := 4) hx hb dX5_settle_45 (by decide) ?_
          exact ih (k + 1) (a ||| (2 ^ k)) _ _ hP hD hS _ (by omega) (hF.trans (by rw [s_X5_settle_L1, if_pos c_5, if_pos c_7])) (lv_sub hl [0, 1, 2] rfl)
  exact LL1 (N 0) 0 0 _ _ hP hD hS _ (by omega) rfl (lv_sub hl [0, 1, 2] rfl)
