def s_X3_sideOf (N : Nat → Nat) (V : Nat → Int32) (A : Nat → Nat → Int32)  (t0 : Nat) (x0 : Int32) (y0 : Int32) : Int32 :=
  (((A 14 t0 - A 11 t0) * y0) - (A 13 t0 * (x0 - A 11 t0)))
set_option maxHeartbeats 4000000 in
set_option maxRecDepth 100000 in
theorem c_X3_sideOf (l : Launch) (D : va_G) (cI cZ cS : ClassId) (q : Nat → Nat) (N : Nat → Nat) (V : Nat → Int32) (A : Nat → Nat → Int32) (t0 : Nat) (x0 : Int32) (y0 : Int32) (h_1 : t0 < 16) : Met l yX3_sideOf wsX3_sideOf ({ frames := 0, cells := 0, slots := 0, locals := 0 }) (va_Pc [.ref (q 10), .int (nI t0), .int x0, .int y0] (PC D cI cZ cS q N V A)) (vp_Si (fun r => r = (s_X3_sideOf N V A t0 x0 y0))) 0 0 (fun _ => False) := by
  refine Met.ofW (cc := cX3_sideOf) (maxL := 4) (ret := (some .int)) (by decide) rfl ?_
  intro p e s m args below meth c s₁ B hml hv
  obtain ⟨rfl, hP, hK, hN⟩ := hv
  have hx := B.exec
  have hb := B.bytes
  have hr := B.returns
  have hts := atoms_spec (ws := wsX3_sideOf) B.pre
  have hown : s.vm.findClass RX3 = some m.cls := findClass_of_methodNamed B.named
  have hlocks := B.notSynchronized
  have hin3 : ∀ w ∈ u_ws RX3 TX3 8, w ∈ wsX3_sideOf := by decide +kernel
  have hl := lv_entry ([.ref (q 10), .int (nI t0), .int x0, .int y0]) (n := 4) (Nat.le_of_ble_eq_true rfl)
  rw [lg_entry_eq]
  generalize (lg_sl ([.ref (q 10), .int (nI t0), .int x0, .int y0]) ++ List.replicate (4 - (lg_sl ([.ref (q 10), .int (nI t0), .int x0, .int y0])).length) Slot.unset).toArray = ls at hl ⊢
  have hl : lv_has ls 4 [(0, .ref (q 10)), (1, .int (nI t0)), (2, .int x0), (3, .int y0)] := hl
  refine lv_aload_n hx hb dX3_sideOf_0 rfl (lv_at hl 0 rfl) ?_
  refine va_get (D := D) (ci := 3) (v := .ref (q 14)) (C := RX3) (T := TX3) (N := 8) hx hb hts hin3 hown hK hP 10 rfl rfl 3 (by decide) (hts (.fieldLink RX3 21 "NeckShip$Threads" "foot" "[I") (by decide +kernel)) (fun _ h9 => h9) rfl dX3_sideOf_1 ?_
  refine lv_iload_n hx hb dX3_sideOf_4 rfl (lv_at hl 1 rfl) ?_
  refine va_ialdN (i := t0) hx hb hK hP 14 0 rfl rfl (by decide) (by omega) dX3_sideOf_5 ?_
  refine lv_aload_n hx hb dX3_sideOf_6 rfl (lv_at hl 0 rfl) ?_
  refine va_get (D := D) (ci := 3) (v := .ref (q 11)) (C := RX3) (T := TX3) (N := 8) hx hb hts hin3 hown hK hP 10 rfl rfl 0 (by decide) (hts (.fieldLink RX3 11 "NeckShip$Threads" "hole" "[I") (by decide +kernel)) (fun _ h9 => h9) rfl dX3_sideOf_7 ?_
  refine lv_iload_n hx hb dX3_sideOf_10 rfl (lv_at hl 1 rfl) ?_
  refine va_ialdN (i := t0) hx hb hK hP 11 0 rfl rfl (by decide) (by omega) dX3_sideOf_11 ?_
  refine lv_isub hx hb dX3_sideOf_12 ?_
  refine lv_iload_n hx hb dX3_sideOf_13 rfl (lv_at hl 3 rfl) ?_
  refine lv_imul hx hb dX3_sideOf_14 ?_
  refine lv_aload_n hx hb dX3_sideOf_15 rfl (lv_at hl 0 rfl) ?_
  refine va_get (D := D) (ci := 3) (v := .ref (q 13)) (C := RX3) (T := TX3) (N := 8) hx hb hts hin3 hown hK hP 10 rfl rfl 2 (by decide) (hts (.fieldLink RX3 18 "NeckShip$Threads" "place" "[I") (by decide +kernel)) (fun _ h9 => h9) rfl dX3_sideOf_16 ?_
  refine lv_iload_n hx hb dX3_sideOf_19 rfl (lv_at hl 1 rfl) ?_
  refine va_ialdN (i := t0) hx hb hK hP 13 0 rfl rfl (by decide) (by omega) dX3_sideOf_20 ?_
  refine lv_iload_n hx hb dX3_sideOf_21 rfl (lv_at hl 2 rfl) ?_
  refine lv_aload_n hx hb dX3_sideOf_22 rfl (lv_at hl 0 rfl) ?_
  refine va_get (D := D) (ci := 3) (v := .ref (q 11)) (C := RX3) (T := TX3) (N := 8) hx hb hts hin3 hown hK hP 10 rfl rfl 0 (by decide) (hts (.fieldLink RX3 11 "NeckShip$Threads" "hole" "[I") (by decide +kernel)) (fun _ h9 => h9) rfl dX3_sideOf_23 ?_
  refine lv_iload_n hx hb dX3_sideOf_26 rfl (lv_at hl 1 rfl) ?_
  refine va_ialdN (i := t0) hx hb hK hP 11 0 rfl rfl (by decide) (by omega) dX3_sideOf_27 ?_
  refine lv_isub hx hb dX3_sideOf_28 ?_
  refine lv_imul hx hb dX3_sideOf_29 ?_
  refine lv_isub hx hb dX3_sideOf_30 ?_
  exact W.iret (v := (((A 14 t0 - A 11 t0) * y0) - (A 13 t0 * (x0 - A 11 t0)))) hx hb hr (fun t ht hW => ⟨_, rfl, (by rw [s_X3_sideOf]), ht⟩) (fun _ h => by cases h) dX3_sideOf_31
def s_X3_areApart   (a0 : Int32) (b0 : Int32) : Bool :=
  if 0 ≤ a0 then
    if a0 ≤ 0 then
      false
    else
      if 0 ≤ b0 then
        false
      else
        true
  else
    if 0 < b0 then
      true
    else
      if a0 ≤ 0 then
        false
      else
        if 0 ≤ b0 then
          false
        else
          true
set_option maxHeartbeats 4000000 in
set_option maxRecDepth 100000 in
theorem c_X3_areApart (l : Launch) (a0 : Int32) (b0 : Int32) : Met l yX3_areApart wsX3_areApart ({ frames := 0, cells := 0, slots := 0, locals := 0 }) (fun w _ => w = ([.int a0, .int b0] : List Value).toArray) (vp_Si (fun r => r = b2i (s_X3_areApart a0 b0))) 0 0 (fun _ => False) := by
  refine Met.ofW (cc := cX3_areApart) (maxL := 2) (ret := (some .boolean)) (by decide) rfl ?_
  intro p e s m args below meth c s₁ B hml hv
  obtain rfl := hv
  have hx := B.exec
  have hb := B.bytes
  have hr := B.returns
  have hts := atoms_spec (ws := wsX3_areApart) B.pre
  have hown : s.vm.findClass RX3 = some m.cls := findClass_of_methodNamed B.named
  have hlocks := B.notSynchronized
  have hl := lv_entry ([.int a0, .int b0]) (n := 2) (Nat.le_of_ble_eq_true rfl)
  rw [lg_entry_eq]
  generalize (lg_sl ([.int a0, .int b0]) ++ List.replicate (2 - (lg_sl ([.int a0, .int b0])).length) Slot.unset).toArray = ls at hl ⊢
  have hl : lv_has ls 2 [(0, .int a0), (1, .int b0)] := hl
  refine lv_iload_n hx hb dX3_areApart_0 rfl (lv_at hl 0 rfl) ?_
  refine lv_if_ge (tgt := 8) hx hb dX3_areApart_1 (by decide) (fun c_1 => ?_) (fun c_1 => ?_)
  · refine lv_iload_n hx hb dX3_areApart_8 rfl (lv_at hl 0 rfl) ?_
    refine lv_if_le (tgt := 20) hx hb dX3_areApart_9 (by decide) (fun c_2 => ?_) (fun c_2 => ?_)
    · refine lv_iconst (v := (0)) hx hb dX3_areApart_20 (by decide) ?_
      exact W.zret (v := b2i false) hx hb hr (b2i_nar _) (fun t ht hW => ⟨_, rfl, (by rw [s_X3_areApart, if_pos c_1, if_pos c_2]), ht⟩) (fun _ h => by cases h) dX3_areApart_21
    · refine lv_iload_n hx hb dX3_areApart_12 rfl (lv_at hl 1 rfl) ?_
      refine lv_if_ge (tgt := 20) hx hb dX3_areApart_13 (by decide) (fun c_3 => ?_) (fun c_3 => ?_)
      · refine lv_iconst (v := (0)) hx hb dX3_areApart_20 (by decide) ?_
        exact W.zret (v := b2i false) hx hb hr (b2i_nar _) (fun t ht hW => ⟨_, rfl, (by rw [s_X3_areApart, if_pos c_1, if_neg c_2, if_pos c_3]), ht⟩) (fun _ h => by cases h) dX3_areApart_21
      · refine lv_iconst (v := (1)) hx hb dX3_areApart_16 (by decide) ?_
        refine lv_goto (tgt := 21) hx hb dX3_areApart_17 (by decide) ?_
        exact W.zret (v := b2i true) hx hb hr (b2i_nar _) (fun t ht hW => ⟨_, rfl, (by rw [s_X3_areApart, if_pos c_1, if_neg c_2, if_neg c_3]), ht⟩) (fun _ h => by cases h) dX3_areApart_21
  · refine lv_iload_n hx hb dX3_areApart_4 rfl (lv_at hl 1 rfl) ?_
    refine lv_if_gt (tgt := 16) hx hb dX3_areApart_5 (by decide) (fun c_4 => ?_) (fun c_4 => ?_)
    · refine lv_iconst (v := (1)) hx hb dX3_areApart_16 (by decide) ?_
      refine lv_goto (tgt := 21) hx hb dX3_areApart_17 (by decide) ?_
      exact W.zret (v := b2i true) hx hb hr (b2i_nar _) (fun t ht hW => ⟨_, rfl, (by rw [s_X3_areApart, if_neg c_1, if_pos c_4]), ht⟩) (fun _ h => by cases h) dX3_areApart_21
    · refine lv_iload_n hx hb dX3_areApart_8 rfl (lv_at hl 0 rfl) ?_
      refine lv_if_le (tgt := 20) hx hb dX3_areApart_9 (by decide) (fun c_5 => ?_) (fun c_5 => ?_)
      · refine lv_iconst (v := (0)) hx hb dX3_areApart_20 (by decide) ?_
        exact W.zret (v := b2i false) hx hb hr (b2i_nar _) (fun t ht hW => ⟨_, rfl, (by rw [s_X3_areApart, if_neg c_1, if_neg c_4, if_pos c_5]), ht⟩) (fun _ h => by cases h) dX3_areApart_21
      · refine lv_iload_n hx hb dX3_areApart_12 rfl (lv_at hl 1 rfl) ?_
        refine lv_if_ge (tgt := 20) hx hb dX3_areApart_13 (by decide) (fun c_6 => ?_) (fun c_6 => ?_)
        · refine lv_iconst (v := (0)) hx hb dX3_areApart_20 (by decide) ?_
          exact W.zret (v := b2i false) hx hb hr (b2i_nar _) (fun t ht hW => ⟨_, rfl, (by rw [s_X3_areApart, if_neg c_1, if_neg c_4, if_neg c_5, if_pos c_6]), ht⟩) (fun _ h => by cases h) dX3_areApart_21
        · refine lv_iconst (v := (1)) hx hb dX3_areApart_16 (by decide) ?_
          refine lv_goto (tgt := 21) hx hb dX3_areApart_17 (by decide) ?_
          exact W.zret (v := b2i true) hx hb hr (b2i_nar _) (fun t ht hW => ⟨_, rfl, (by rw [s_X3_areApart, if_neg c_1, if_neg c_4, if_neg c_5, if_neg c_6]), ht⟩) (fun _ h => by cases h) dX3_areApart_21
def s_X3_haveInnerPointInCommon (N : Nat → Nat) (V : Nat → Int32) (A : Nat → Nat → Int32)  (t0 : Nat) (u0 : Nat) : Bool :=
  if (s_X3_sideOf N V A t0 (A 11 u0) (0 : Int32)) = 0 then
    if (s_X3_sideOf N V A t0 (A 14 u0) (A 13 u0)) = 0 then
      true
    else
      if (s_X3_areApart (s_X3_sideOf N V A t0 (A 11 u0) (0 : Int32)) (s_X3_sideOf N V A t0 (A 14 u0) (A 13 u0))) = true then
        if (s_X3_areApart (s_X3_sideOf N V A u0 (A 11 t0) (0 : Int32)) (s_X3_sideOf N V A u0 (A 14 t0) (A 13 t0))) = true then
          true
        else
          false
      else
        false
  else
    if (s_X3_areApart (s_X3_sideOf N V A t0 (A 11 u0) (0 : Int32)) (s_X3_sideOf N V A t0 (A 14 u0) (A 13 u0))) = true then
      if (s_X3_areApart (s_X3_sideOf N V A u0 (A 11 t0) (0 : Int32)) (s_X3_sideOf N V A u0 (A 14 t0) (A 13 t0))) = true then
        true
      else
        false
    else
      false
set_option maxHeartbeats 4000000 in
set_option maxRecDepth 100000 in
theorem c_X3_haveInnerPointInCommon (l : Launch) (D : va_G) (cI cZ cS : ClassId) (q : Nat → Nat) (N : Nat → Nat) (V : Nat → Int32) (A : Nat → Nat → Int32) (t0 : Nat) (u0 : Nat) (h_1 : t0 < 16) (h_2 : u0 < 16) : Met l yX3_haveInnerPointInCommon wsX3_haveInnerPointInCommon ({ frames := 1, cells := 0, slots := 0, locals := 23 }) (va_Pc [.ref (q 10), .int (nI t0), .int (nI u0)] (PC D cI cZ cS q N V A)) (vp_Si (fun r => r = b2i (s_X3_haveInnerPointInCommon N V A t0 u0))) 0 0 (fun _ => False) := by
  refine Met.ofW (cc := cX3_haveInnerPointInCommon) (maxL := 5) (ret := (some .boolean)) (by decide) rfl ?_
  intro p e s m args below meth c s₁ B hml hv
  obtain ⟨rfl, hP, hK, hN⟩ := hv
  have hx := B.exec
  have hb := B.bytes
  have hr := B.returns
  have hts := atoms_spec (ws := wsX3_haveInnerPointInCommon) B.pre
  have hown : s.vm.findClass RX3 = some m.cls := findClass_of_methodNamed B.named
  have hlocks := B.notSynchronized
  have hin3 : ∀ w ∈ u_ws RX3 TX3 8, w ∈ wsX3_haveInnerPointInCommon := by decide +kernel
  have hl := lv_entry ([.ref (q 10), .int (nI t0), .int (nI u0)]) (n := 5) (Nat.le_of_ble_eq_true rfl)
  rw [lg_entry_eq]
  generalize (lg_sl ([.ref (q 10), .int (nI t0), .int (nI u0)]) ++ List.replicate (5 - (lg_sl ([.ref (q 10), .int (nI t0), .int (nI u0)])).length) Slot.unset).toArray = ls at hl ⊢
  have hl : lv_has ls 5 [(0, .ref (q 10)), (1, .int (nI t0)), (2, .int (nI u0))] := hl
  refine lv_aload_n hx hb dX3_haveInnerPointInCommon_0 rfl (lv_at hl 0 rfl) ?_
  refine lv_iload_n hx hb dX3_haveInnerPointInCommon_1 rfl (lv_at hl 1 rfl) ?_
  refine lv_aload_n hx hb dX3_haveInnerPointInCommon_2 rfl (lv_at hl 0 rfl) ?_
  refine va_get (D := D) (ci := 3) (v := .ref (q 11)) (C := RX3) (T := TX3) (N := 8) hx hb hts hin3 hown hK hP 10 rfl rfl 0 (by decide) (hts (.fieldLink RX3 11 "NeckShip$Threads" "hole" "[I") (by decide +kernel)) (fun _ h9 => h9) rfl dX3_haveInnerPointInCommon_3 ?_
  refine lv_iload_n hx hb dX3_haveInnerPointInCommon_6 rfl (lv_at hl 2 rfl) ?_
  refine va_ialdN (i := u0) hx hb hK hP 11 0 rfl rfl (by decide) (by omega) dX3_haveInnerPointInCommon_7 ?_
  refine lv_iconst (v := (0)) hx hb dX3_haveInnerPointInCommon_8 (by decide) ?_
  refine vp_callSi (W.runV (As := [.int (nI t0), .int (A 11 u0), .int (0 : Int32)]) (rest := []) ⟨hx, hb, hml, hown, hts⟩ (c_X3_sideOf l D cI cZ cS q N V A t0 (A 11 u0) (0 : Int32) (by omega)) (cwV 3 hts gX3_haveInnerPointInCommon_X3_sideOf rfl rfl rfl (by decide +kernel) ⟨Nat.le_of_ble_eq_true rfl, Nat.le_of_ble_eq_true rfl⟩) (preC3 hK hN hP) rfl rfl hl.1 rfl (lv_room (Nat.le_of_ble_eq_true rfl)) dX3_haveInnerPointInCommon_9 ⟨Nat.zero_le _, Nat.zero_le _⟩) (fun r_1 er_1 => ?_)
  subst er_1
  refine lv_istore_n (lv' := [(3, .int (s_X3_sideOf N V A t0 (A 11 u0) (0 : Int32))), (0, .ref (q 10)), (1, .int (nI t0)), (2, .int (nI u0))]) hx hb dX3_haveInnerPointInCommon_12 rfl hl (by decide) rfl (fun ls hl => ?_)
  refine lv_aload_n hx hb dX3_haveInnerPointInCommon_13 rfl (lv_at hl 1 rfl) ?_
  refine lv_iload_n hx hb dX3_haveInnerPointInCommon_14 rfl (lv_at hl 2 rfl) ?_
  refine lv_aload_n hx hb dX3_haveInnerPointInCommon_15 rfl (lv_at hl 1 rfl) ?_
  refine va_get (D := D) (ci := 3) (v := .ref (q 14)) (C := RX3) (T := TX3) (N := 8) hx hb hts hin3 hown hK hP 10 rfl rfl 3 (by decide) (hts (.fieldLink RX3 21 "NeckShip$Threads" "foot" "[I") (by decide +kernel)) (fun _ h9 => h9) rfl dX3_haveInnerPointInCommon_16 ?_
  refine lv_iload_n hx hb dX3_haveInnerPointInCommon_19 rfl (lv_at hl 3 rfl) ?_
  refine va_ialdN (i := u0) hx hb hK hP 14 0 rfl rfl (by decide) (by omega) dX3_haveInnerPointInCommon_20 ?_
  refine lv_aload_n hx hb dX3_haveInnerPointInCommon_21 rfl (lv_at hl 1 rfl) ?_
  refine va_get (D := D) (ci := 3) (v := .ref (q 13)) (C := RX3) (T := TX3) (N := 8) hx hb hts hin3 hown hK hP 10 rfl rfl 2 (by decide) (hts (.fieldLink RX3 18 "NeckShip$Threads" "place" "[I") (by decide +kernel)) (fun _ h9 => h9) rfl dX3_haveInnerPointInCommon_22 ?_
  refine lv_iload_n hx hb dX3_haveInnerPointInCommon_25 rfl (lv_at hl 3 rfl) ?_
  refine va_ialdN (i := u0) hx hb hK hP 13 0 rfl rfl (by decide) (by omega) dX3_haveInnerPointInCommon_26 ?_
  refine vp_callSi (W.runV (As := [.int (nI t0), .int (A 14 u0), .int (A 13 u0)]) (rest := []) ⟨hx, hb, hml, hown, hts⟩ (c_X3_sideOf l D cI cZ cS q N V A t0 (A 14 u0) (A 13 u0) (by omega)) (cwV 3 hts gX3_haveInnerPointInCommon_X3_sideOf rfl rfl rfl (by decide +kernel) ⟨Nat.le_of_ble_eq_true rfl, Nat.le_of_ble_eq_true rfl⟩) (preC3 hK hN hP) rfl rfl hl.1 rfl (lv_room (Nat.le_of_ble_eq_true rfl)) dX3_haveInnerPointInCommon_27 ⟨Nat.zero_le _, Nat.zero_le _⟩) (fun r_2 er_2 => ?_)
  subst er_2
  refine lv_istore (lv' := [(4, .int (s_X3_sideOf N V A t0 (A 14 u0) (A 13 u0))), (3, .int (s_X3_sideOf N V A t0 (A 11 u0) (0 : Int32))), (0, .ref (q 10)), (1, .int (nI t0)), (2, .int (nI u0))]) hx hb dX3_haveInnerPointInCommon_30 hl (by decide) rfl (fun ls hl => ?_)
  refine lv_iload_n hx hb dX3_haveInnerPointInCommon_32 rfl (lv_at hl 1 rfl) ?_
  refine lv_if_ne (tgt := 43) hx hb dX3_haveInnerPointInCommon_33 (by decide) (fun c_3 => ?_) (fun c_3 => ?_)
  · refine lv_iload_n hx hb dX3_haveInnerPointInCommon_43 rfl (lv_at hl 1 rfl) ?_
    refine lv_iload hx hb dX3_haveInnerPointInCommon_44 (lv_at hl 0 rfl) ?_
    refine vp_callSi (W.runS (As := [.int (s_X3_sideOf N V A t0 (A 11 u0) (0 : Int32)), .int (s_X3_sideOf N V A t0 (A 14 u0) (A 13 u0))]) (rest := []) ⟨hx, hb, hml, hown, hts⟩ (c_X3_areApart l (s_X3_sideOf N V A t0 (A 11 u0) (0 : Int32)) (s_X3_sideOf N V A t0 (A 14 u0) (A 13 u0))) (cwS 2 hts gX3_haveInnerPointInCommon_X3_areApart rfl rfl rfl (by decide +kernel) ⟨Nat.le_of_ble_eq_true rfl, Nat.le_of_ble_eq_true rfl⟩) (preEq) rfl rfl hl.1 rfl (lv_room (Nat.le_of_ble_eq_true rfl)) dX3_haveInnerPointInCommon_46 ⟨Nat.zero_le _, Nat.zero_le _⟩) (fun r_4 er_4 => ?_)
    subst er_4
    refine lz_if_eq (tgt := 91) hx hb dX3_haveInnerPointInCommon_49 (by decide) (fun c_5 => ?_) (fun c_5 => ?_)
    · refine lv_iconst (v := (0)) hx hb dX3_haveInnerPointInCommon_91 (by decide) ?_
      exact W.zret (v := b2i false) hx hb hr (b2i_nar _) (fun t ht hW => ⟨_, rfl, (by rw [s_X3_haveInnerPointInCommon, if_neg c_3, if_neg (nb c_5)]), ht⟩) (fun _ h => by cases h) dX3_haveInnerPointInCommon_92
    · refine lv_aload_n hx hb dX3_haveInnerPointInCommon_52 rfl (lv_at hl 2 rfl) ?_
      refine lv_iload_n hx hb dX3_haveInnerPointInCommon_53 rfl (lv_at hl 4 rfl) ?_
      refine lv_aload_n hx hb dX3_haveInnerPointInCommon_54 rfl (lv_at hl 2 rfl) ?_
      refine va_get (D := D) (ci := 3) (v := .ref (q 11)) (C := RX3) (T := TX3) (N := 8) hx hb hts hin3 hown hK hP 10 rfl rfl 0 (by decide) (hts (.fieldLink RX3 11 "NeckShip$Threads" "hole" "[I") (by decide +kernel)) (fun _ h9 => h9) rfl dX3_haveInnerPointInCommon_55 ?_
      refine lv_iload_n hx hb dX3_haveInnerPointInCommon_58 rfl (lv_at hl 3 rfl) ?_
      refine va_ialdN (i := t0) hx hb hK hP 11 0 rfl rfl (by decide) (by omega) dX3_haveInnerPointInCommon_59 ?_
      refine lv_iconst (v := (0)) hx hb dX3_haveInnerPointInCommon_60 (by decide) ?_
      refine vp_callSi (W.runV (As := [.int (nI u0), .int (A 11 t0), .int (0 : Int32)]) (rest := []) ⟨hx, hb, hml, hown, hts⟩ (c_X3_sideOf l D cI cZ cS q N V A u0 (A 11 t0) (0 : Int32) (by omega)) (cwV 3 hts gX3_haveInnerPointInCommon_X3_sideOf rfl rfl rfl (by decide +kernel) ⟨Nat.le_of_ble_eq_true rfl, Nat.le_of_ble_eq_true rfl⟩) (preC3 hK hN hP) rfl rfl hl.1 rfl (lv_room (Nat.le_of_ble_eq_true rfl)) dX3_haveInnerPointInCommon_61 ⟨Nat.zero_le _, Nat.zero_le _⟩) (fun r_6 er_6 => ?_)
      subst er_6
      refine lv_aload_n hx hb dX3_haveInnerPointInCommon_64 rfl (lv_at hl 2 rfl) ?_
      refine lv_iload_n hx hb dX3_haveInnerPointInCommon_65 rfl (lv_at hl 4 rfl) ?_
      refine lv_aload_n hx hb dX3_haveInnerPointInCommon_66 rfl (lv_at hl 2 rfl) ?_
      refine va_get (D := D) (ci := 3) (v := .ref (q 14)) (C := RX3) (T := TX3) (N := 8) hx hb hts hin3 hown hK hP 10 rfl rfl 3 (by decide) (hts (.fieldLink RX3 21 "NeckShip$Threads" "foot" "[I") (by decide +kernel)) (fun _ h9 => h9) rfl dX3_haveInnerPointInCommon_67 ?_
      refine lv_iload_n hx hb dX3_haveInnerPointInCommon_70 rfl (lv_at hl 3 rfl) ?_
      refine va_ialdN (i := t0) hx hb hK hP 14 0 rfl rfl (by decide) (by omega) dX3_haveInnerPointInCommon_71 ?_
      refine lv_aload_n hx hb dX3_haveInnerPointInCommon_72 rfl (lv_at hl 2 rfl) ?_
      refine va_get (D := D) (ci := 3) (v := .ref (q 13)) (C := RX3) (T := TX3) (N := 8) hx hb hts hin3 hown hK hP 10 rfl rfl 2 (by decide) (hts (.fieldLink RX3 18 "NeckShip$Threads" "place" "[I") (by decide +kernel)) (fun _ h9 => h9) rfl dX3_haveInnerPointInCommon_73 ?_
      refine lv_iload_n hx hb dX3_haveInnerPointInCommon_76 rfl (lv_at hl 3 rfl) ?_
      refine va_ialdN (i := t0) hx hb hK hP 13 0 rfl rfl (by decide) (by omega) dX3_haveInnerPointInCommon_77 ?_
      refine vp_callSi (W.runV (As := [.int (nI u0), .int (A 14 t0), .int (A 13 t0)]) (rest := [.int (s_X3_sideOf N V A u0 (A 11 t0) (0 : Int32))]) ⟨hx, hb, hml, hown, hts⟩ (c_X3_sideOf l D cI cZ cS q N V A u0 (A 14 t0) (A 13 t0) (by omega)) (cwV 3 hts gX3_haveInnerPointInCommon_X3_sideOf rfl rfl rfl (by decide +kernel) ⟨Nat.le_of_ble_eq_true rfl, Nat.le_of_ble_eq_true rfl⟩) (preC3 hK hN hP) rfl rfl hl.1 rfl (lv_room (Nat.le_of_ble_eq_true rfl)) dX3_haveInnerPointInCommon_78 ⟨Nat.zero_le _, Nat.zero_le _⟩) (fun r_7 er_7 => ?_)
      subst er_7
      refine vp_callSi (W.runS (As := [.int (s_X3_sideOf N V A u0 (A 11 t0) (0 : Int32)), .int (s_X3_sideOf N V A u0 (A 14 t0) (A 13 t0))]) (rest := []) ⟨hx, hb, hml, hown, hts⟩ (c_X3_areApart l (s_X3_sideOf N V A u0 (A 11 t0) (0 : Int32)) (s_X3_sideOf N V A u0 (A 14 t0) (A 13 t0))) (cwS 2 hts gX3_haveInnerPointInCommon_X3_areApart rfl rfl rfl (by decide +kernel) ⟨Nat.le_of_ble_eq_true rfl, Nat.le_of_ble_eq_true rfl⟩) (preEq) rfl rfl hl.1 rfl (lv_room (Nat.le_of_ble_eq_true rfl)) dX3_haveInnerPointInCommon_81 ⟨Nat.zero_le _, Nat.zero_le _⟩) (fun r_8 er_8 => ?_)
      subst er_8
      refine lz_if_eq (tgt := 91) hx hb dX3_haveInnerPointInCommon_84 (by decide) (fun c_9 => ?_) (fun c_9 => ?_)
      · refine lv_iconst (v := (0)) hx hb dX3_haveInnerPointInCommon_91 (by decide) ?_
        exact W.zret (v := b2i false) hx hb hr (b2i_nar _) (fun t ht hW => ⟨_, rfl, (by rw [s_X3_haveInnerPointInCommon, if_neg c_3, if_pos c_5, if_neg (nb c_9)]), ht⟩) (fun _ h => by cases h) dX3_haveInnerPointInCommon_92
      · refine lv_iconst (v := (1)) hx hb dX3_haveInnerPointInCommon_87 (by decide) ?_
        refine lv_goto (tgt := 92) hx hb dX3_haveInnerPointInCommon_88 (by decide) ?_
        exact W.zret (v := b2i true) hx hb hr (b2i_nar _) (fun t ht hW => ⟨_, rfl, (by rw [s_X3_haveInnerPointInCommon, if_neg c_3, if_pos c_5, if_pos c_9]), ht⟩) (fun _ h => by cases h) dX3_haveInnerPointInCommon_92
  · refine lv_iload hx hb dX3_haveInnerPointInCommon_36 (lv_at hl 0 rfl) ?_
    refine lv_if_ne (tgt := 43) hx hb dX3_haveInnerPointInCommon_38 (by decide) (fun c_10 => ?_) (fun c_10 => ?_)
    · refine lv_iload_n hx hb dX3_haveInnerPointInCommon_43 rfl (lv_at hl 1 rfl) ?_
      refine lv_iload hx hb dX3_haveInnerPointInCommon_44 (lv_at hl 0 rfl) ?_
      refine vp_callSi (W.runS (As := [.int (s_X3_sideOf N V A t0 (A 11 u0) (0 : Int32)), .int (s_X3_sideOf N V A t0 (A 14 u0) (A 13 u0))]) (rest := []) ⟨hx, hb, hml, hown, hts⟩ (c_X3_areApart l (s_X3_sideOf N V A t0 (A 11 u0) (0 : Int32)) (s_X3_sideOf N V A t0 (A 14 u0) (A 13 u0))) (cwS 2 hts gX3_haveInnerPointInCommon_X3_areApart rfl rfl rfl (by decide +kernel) ⟨Nat.le_of_ble_eq_true rfl, Nat.le_of_ble_eq_true rfl⟩) (preEq) rfl rfl hl.1 rfl (lv_room (Nat.le_of_ble_eq_true rfl)) dX3_haveInnerPointInCommon_46 ⟨Nat.zero_le _, Nat.zero_le _⟩) (fun r_11 er_11 => ?_)
      subst er_11
      refine lz_if_eq (tgt := 91) hx hb dX3_haveInnerPointInCommon_49 (by decide) (fun c_12 => ?_) (fun c_12 => ?_)
      · refine lv_iconst (v := (0)) hx hb dX3_haveInnerPointInCommon_91 (by decide) ?_
        exact W.zret (v := b2i false) hx hb hr (b2i_nar _) (fun t ht hW => ⟨_, rfl, (by rw [s_X3_haveInnerPointInCommon, if_pos c_3, if_neg c_10, if_neg (nb c_12)]), ht⟩) (fun _ h => by cases h) dX3_haveInnerPointInCommon_92
      · refine lv_aload_n hx hb dX3_haveInnerPointInCommon_52 rfl (lv_at hl 2 rfl) ?_
        refine lv_iload_n hx hb dX3_haveInnerPointInCommon_53 rfl (lv_at hl 4 rfl) ?_
        refine lv_aload_n hx hb dX3_haveInnerPointInCommon_54 rfl (lv_at hl 2 rfl) ?_
        refine va_get (D := D) (ci := 3) (v := .ref (q 11)) (C := RX3) (T := TX3) (N := 8) hx hb hts hin3 hown hK hP 10 rfl rfl 0 (by decide) (hts (.fieldLink RX3 11 "NeckShip$Threads" "hole" "[I") (by decide +kernel)) (fun _ h9 => h9) rfl dX3_haveInnerPointInCommon_55 ?_
        refine lv_iload_n hx hb dX3_haveInnerPointInCommon_58 rfl (lv_at hl 3 rfl) ?_
        refine va_ialdN (i := t0) hx hb hK hP 11 0 rfl rfl (by decide) (by omega) dX3_haveInnerPointInCommon_59 ?_
        refine lv_iconst (v := (0)) hx hb dX3_haveInnerPointInCommon_60 (by decide) ?_
        refine vp_callSi (W.runV (As := [.int (nI u0), .int (A 11 t0), .int (0 : Int32)]) (rest := []) ⟨hx, hb, hml, hown, hts⟩ (c_X3_sideOf l D cI cZ cS q N V A u0 (A 11 t0) (0 : Int32) (by omega)) (cwV 3 hts gX3_haveInnerPointInCommon_X3_sideOf rfl rfl rfl (by decide +kernel) ⟨Nat.le_of_ble_eq_true rfl, Nat.le_of_ble_eq_true rfl⟩) (preC3 hK hN hP) rfl rfl hl.1 rfl (lv_room (Nat.le_of_ble_eq_true rfl)) dX3_haveInnerPointInCommon_61 ⟨Nat.zero_le _, Nat.zero_le _⟩) (fun r_13 er_13 => ?_)
        subst er_13
        refine lv_aload_n hx hb dX3_haveInnerPointInCommon_64 rfl (lv_at hl 2 rfl) ?_
        refine lv_iload_n hx hb dX3_haveInnerPointInCommon_65 rfl (lv_at hl 4 rfl) ?_
        refine lv_aload_n hx hb dX3_haveInnerPointInCommon_66 rfl (lv_at hl 2 rfl) ?_
        refine va_get (D := D) (ci := 3) (v := .ref (q 14)) (C := RX3) (T := TX3) (N := 8) hx hb hts hin3 hown hK hP 10 rfl rfl 3 (by decide) (hts (.fieldLink RX3 21 "NeckShip$Threads" "foot" "[I") (by decide +kernel)) (fun _ h9 => h9) rfl dX3_haveInnerPointInCommon_67 ?_
        refine lv_iload_n hx hb dX3_haveInnerPointInCommon_70 rfl (lv_at hl 3 rfl) ?_
        refine va_ialdN (i := t0) hx hb hK hP 14 0 rfl rfl (by decide) (by omega) dX3_haveInnerPointInCommon_71 ?_
        refine lv_aload_n hx hb dX3_haveInnerPointInCommon_72 rfl (lv_at hl 2 rfl) ?_
        refine va_get (D := D) (ci := 3) (v := .ref (q 13)) (C := RX3) (T := TX3) (N := 8) hx hb hts hin3 hown hK hP 10 rfl rfl 2 (by decide) (hts (.fieldLink RX3 18 "NeckShip$Threads" "place" "[I") (by decide +kernel)) (fun _ h9 => h9) rfl dX3_haveInnerPointInCommon_73 ?_
        refine lv_iload_n hx hb dX3_haveInnerPointInCommon_76 rfl (lv_at hl 3 rfl) ?_
        refine va_ialdN (i := t0) hx hb hK hP 13 0 rfl rfl (by decide) (by omega) dX3_haveInnerPointInCommon_77 ?_
        refine vp_callSi (W.runV (As := [.int (nI u0), .int (A 14 t0), .int (A 13 t0)]) (rest := [.int (s_X3_sideOf N V A u0 (A 11 t0) (0 : Int32))]) ⟨hx, hb, hml, hown, hts⟩ (c_X3_sideOf l D cI cZ cS q N V A u0 (A 14 t0) (A 13 t0) (by omega)) (cwV 3 hts gX3_haveInnerPointInCommon_X3_sideOf rfl rfl rfl (by decide +kernel) ⟨Nat.le_of_ble_eq_true rfl, Nat.le_of_ble_eq_true rfl⟩) (preC3 hK hN hP) rfl rfl hl.1 rfl (lv_room (Nat.le_of_ble_eq_true rfl)) dX3_haveInnerPointInCommon_78 ⟨Nat.zero_le _, Nat.zero_le _⟩) (fun r_14 er_14 => ?_)
        subst er_14
        refine vp_callSi (W.runS (As := [.int (s_X3_sideOf N V A u0 (A 11 t0) (0 : Int32)), .int (s_X3_sideOf N V A u0 (A 14 t0) (A 13 t0))]) (rest := []) ⟨hx, hb, hml, hown, hts⟩ (c_X3_areApart l (s_X3_sideOf N V A u0 (A 11 t0) (0 : Int32)) (s_X3_sideOf N V A u0 (A 14 t0) (A 13 t0))) (cwS 2 hts gX3_haveInnerPointInCommon_X3_areApart rfl rfl rfl (by decide +kernel) ⟨Nat.le_of_ble_eq_true rfl, Nat.le_of_ble_eq_true rfl⟩) (preEq) rfl rfl hl.1 rfl (lv_room (Nat.le_of_ble_eq_true rfl)) dX3_haveInnerPointInCommon_81 ⟨Nat.zero_le _, Nat.zero_le _⟩) (fun r_15 er_15 => ?_)
        subst er_15
        refine lz_if_eq (tgt := 91) hx hb dX3_haveInnerPointInCommon_84 (by decide) (fun c_16 => ?_) (fun c_16 => ?_)
        · refine lv_iconst (v := (0)) hx hb dX3_haveInnerPointInCommon_91 (by decide) ?_
          exact W.zret (v := b2i false) hx hb hr (b2i_nar _) (fun t ht hW => ⟨_, rfl, (by rw [s_X3_haveInnerPointInCommon, if_pos c_3, if_neg c_10, if_pos c_12, if_neg (nb c_16)]), ht⟩) (fun _ h => by cases h) dX3_haveInnerPointInCommon_92
        · refine lv_iconst (v := (1)) hx hb dX3_haveInnerPointInCommon_87 (by decide) ?_
          refine lv_goto (tgt := 92) hx hb dX3_haveInnerPointInCommon_88 (by decide) ?_
          exact W.zret (v := b2i true) hx hb hr (b2i_nar _) (fun t ht hW => ⟨_, rfl, (by rw [s_X3_haveInnerPointInCommon, if_pos c_3, if_neg c_10, if_pos c_12, if_pos c_16]), ht⟩) (fun _ h => by cases h) dX3_haveInnerPointInCommon_92
    · refine lv_iconst (v := (1)) hx hb dX3_haveInnerPointInCommon_41 (by decide) ?_
      exact W.zret (v := b2i true) hx hb hr (b2i_nar _) (fun t ht hW => ⟨_, rfl, (by rw [s_X3_haveInnerPointInCommon, if_pos c_3, if_pos c_10]), ht⟩) (fun _ h => by cases h) dX3_haveInnerPointInCommon_42
def s_X3_raising (N : Nat → Nat) (V : Nat → Int32) (A : Nat → Nat → Int32)  : Nat :=
  ((N 4) &&& (N 3))
set_option maxHeartbeats 4000000 in
set_option maxRecDepth 100000 in
theorem c_X3_raising (l : Launch) (D : va_G) (cI cZ cS : ClassId) (q : Nat → Nat) (N : Nat → Nat) (V : Nat → Int32) (A : Nat → Nat → Int32) : Met l yX3_raising wsX3_raising ({ frames := 0, cells := 0, slots := 0, locals := 0 }) (va_Pc [.ref (q 10)] (PC D cI cZ cS q N V A)) (vp_Si (fun r => r = nI (s_X3_raising N V A))) 0 0 (fun _ => False) := by
  refine Met.ofW (cc := cX3_raising) (maxL := 1) (ret := (some .int)) (by decide) rfl ?_
  intro p e s m args below meth c s₁ B hml hv
  obtain ⟨rfl, hP, hK, hN⟩ := hv
  have hx := B.exec
  have hb := B.bytes
  have hr := B.returns
  have hts := atoms_spec (ws := wsX3_raising) B.pre
  have hown : s.vm.findClass RX3 = some m.cls := findClass_of_methodNamed B.named
  have hlocks := B.notSynchronized
  have hin3 : ∀ w ∈ u_ws RX3 TX3 8, w ∈ wsX3_raising := by decide +kernel
  have hl := lv_entry ([.ref (q 10)]) (n := 1) (Nat.le_of_ble_eq_true rfl)
  rw [lg_entry_eq]
  generalize (lg_sl ([.ref (q 10)]) ++ List.replicate (1 - (lg_sl ([.ref (q 10)])).length) Slot.unset).toArray = ls at hl ⊢
  have hl : lv_has ls 1 [(0, .ref (q 10))] := hl
  refine lv_aload_n hx hb dX3_raising_0 rfl (lv_at hl 0 rfl) ?_
  refine va_get (D := D) (ci := 3) (v := .int (nI (N 4))) (C := RX3) (T := TX3) (N := 8) hx hb hts hin3 hown hK hP 10 rfl rfl 6 (by decide) (hts (.fieldLink RX3 31 "NeckShip$Threads" "whole" "I") (by decide +kernel)) (fun _ h9 => h9) rfl dX3_raising_1 ?_
  refine lv_aload_n hx hb dX3_raising_4 rfl (lv_at hl 0 rfl) ?_
  refine va_get (D := D) (ci := 3) (v := .int (nI (N 3))) (C := RX3) (T := TX3) (N := 8) hx hb hts hin3 hown hK hP 10 rfl rfl 5 (by decide) (hts (.fieldLink RX3 27 "NeckShip$Threads" "behind" "I") (by decide +kernel)) (fun _ h9 => h9) rfl dX3_raising_5 ?_
  refine lv_iand hx hb dX3_raising_8 ?_
  rw [fa_and (N 4) (N 3)]
  exact W.iret (v := nI ((N 4) &&& (N 3))) hx hb hr (fun t ht hW => ⟨_, rfl, (by rw [s_X3_raising]), ht⟩) (fun _ h => by cases h) dX3_raising_9
def s_X3_raisersOf_L1 (N : Nat → Nat) (V : Nat → Int32) (A : Nat → Nat → Int32) (s0 : Int32) : Nat → Nat → Nat → Nat
  | 0, k, a =>
    a
  | n + 1, k, a =>
    if A 12 k = s0 then
      s_X3_raisersOf_L1 N V A s0 n (k + 1) (a ||| (2 ^ k))
    else
      s_X3_raisersOf_L1 N V A s0 n (k + 1) a
def s_X3_raisersOf (N : Nat → Nat) (V : Nat → Int32) (A : Nat → Nat → Int32)  (s0 : Int32) : Nat :=
  ((s_X3_raisersOf_L1 N V A s0 (N 1) 0 0) &&& (s_X3_raising N V A))
set_option maxHeartbeats 4000000 in
set_option maxRecDepth 100000 in
theorem c_X3_raisersOf (l : Launch) (D : va_G) (cI cZ cS : ClassId) (q : Nat → Nat) (N : Nat → Nat) (V : Nat → Int32) (A : Nat → Nat → Int32) (s0 : Int32) (h_1 : okC N A) : Met l yX3_raisersOf wsX3_raisersOf ({ frames := 1, cells := 0, slots := 0, locals := 20 }) (va_Pc [.ref (q 10), .int s0] (PC D cI cZ cS q N V A)) (vp_Si (fun r => r = nI (s_X3_raisersOf N V A s0))) 0 0 (fun _ => False) := by
  refine Met.ofW (cc := cX3_raisersOf) (maxL := 4) (ret := (some .int)) (by decide) rfl ?_
  intro p e s m args below meth c s₁ B hml hv
  obtain ⟨rfl, hP, hK, hN⟩ := hv
  have hx := B.exec
  have hb := B.bytes
  have hr := B.returns
  have hts := atoms_spec (ws := wsX3_raisersOf) B.pre
  have hown : s.vm.findClass RX3 = some m.cls := findClass_of_methodNamed B.named
  have hlocks := B.notSynchronized
  have hin3 : ∀ w ∈ u_ws RX3 TX3 8, w ∈ wsX3_raisersOf := by decide +kernel
  obtain ⟨o1, o2, o3, o4, o5, o6, o7, o8, o9⟩ := id h_1
  have hl := lv_entry ([.ref (q 10), .int s0]) (n := 4) (Nat.le_of_ble_eq_true rfl)
  rw [lg_entry_eq]
  generalize (lg_sl ([.ref (q 10), .int s0]) ++ List.replicate (4 - (lg_sl ([.ref (q 10), .int s0])).length) Slot.unset).toArray = ls at hl ⊢
  have hl : lv_has ls 4 [(0, .ref (q 10)), (1, .int s0)] := hl
  refine lv_iconst (v := (0)) hx hb dX3_raisersOf_0 (by decide) ?_
  refine lv_istore_n (lv' := [(2, .int (0)), (0, .ref (q 10)), (1, .int s0)]) hx hb dX3_raisersOf_1 rfl hl (by decide) rfl (fun ls hl => ?_)
  refine lv_iconst (v := (0)) hx hb dX3_raisersOf_2 (by decide) ?_
  refine lv_istore_n (lv' := [(3, .int (0)), (2, .int (0)), (0, .ref (q 10)), (1, .int s0)]) hx hb dX3_raisersOf_3 rfl hl (by decide) rfl (fun ls hl => ?_)
  have KL1 : ∀ (ls : Array Slot), lv_has ls 4 [(2, .int (nI (s_X3_raisersOf_L1 N V A s0 (N 1) 0 0))), (0, .ref (q 10)), (1, .int s0)] → W p l e (headSpec wsX3_raisersOf ({ frames := 1, cells := 0, slots := 0, locals := 20 })).room s m ([.ref (q 10), .int s0] : List Value).toArray below meth c s.heap [] 0 0 (MQ below (vp_Si (fun r => r = nI (s_X3_raisersOf N V A s0))) ([.ref (q 10), .int s0] : List Value).toArray s 0 0 (fun _ => False)) (F0 m 34 ls []) := by
    intro ls hl
    refine lv_iload_n hx hb dX3_raisersOf_34 rfl (lv_at hl 0 rfl) ?_
    refine lv_aload_n hx hb dX3_raisersOf_35 rfl (lv_at hl 1 rfl) ?_
    refine vp_callSi (W.runV (As := []) (rest := [.int (nI (s_X3_raisersOf_L1 N V A s0 (N 1) 0 0))]) ⟨hx, hb, hml, hown, hts⟩ (c_X3_raising l D cI cZ cS q N V A) (cwV 0 hts gX3_raisersOf_X3_raising rfl rfl rfl (by decide +kernel) ⟨Nat.le_of_ble_eq_true rfl, Nat.le_of_ble_eq_true rfl⟩) (preC3 hK hN hP) rfl rfl hl.1 rfl (lv_room (Nat.le_of_ble_eq_true rfl)) dX3_raisersOf_36 ⟨Nat.zero_le _, Nat.zero_le _⟩) (fun r_1 er_1 => ?_)
    subst er_1
    refine lv_iand hx hb dX3_raisersOf_39 ?_
    rw [fa_and (s_X3_raisersOf_L1 N V A s0 (N 1) 0 0) (s_X3_raising N V A)]
    exact W.iret (v := nI ((s_X3_raisersOf_L1 N V A s0 (N 1) 0 0) &&& (s_X3_raising N V A))) hx hb hr (fun t ht hW => ⟨_, rfl, (by rw [s_X3_raisersOf]), ht⟩) (fun _ h => by cases h) dX3_raisersOf_40
  have LL1 : ∀ (n k : Nat) (a : Nat) (ls : Array Slot), k + n = N 1 → s_X3_raisersOf_L1 N V A s0 (N 1) 0 0 = s_X3_raisersOf_L1 N V A s0 n k a → lv_has ls 4 [(3, .int (nI k)), (2, .int (nI a)), (0, .ref (q 10)), (1, .int s0)] → W p l e (headSpec wsX3_raisersOf ({ frames := 1, cells := 0, slots := 0, locals := 20 })).room s m ([.ref (q 10), .int s0] : List Value).toArray below meth c s.heap [] 0 0 (MQ below (vp_Si (fun r => r = nI (s_X3_raisersOf N V A s0))) ([.ref (q 10), .int s0] : List Value).toArray s 0 0 (fun _ => False)) (F0 m 4 ls []) := by
    intro n
    induction n with
    | zero =>
      intro k a ls hk hF hl
      refine lv_iload_n hx hb dX3_raisersOf_4 rfl (lv_at hl 0 rfl) ?_
      refine lv_aload_n hx hb dX3_raisersOf_5 rfl (lv_at hl 2 rfl) ?_
      refine va_get (D := D) (ci := 3) (v := .int (nI (N 1))) (C := RX3) (T := TX3) (N := 8) hx hb hts hin3 hown hK hP 10 rfl rfl 7 (by decide) (hts (.fieldLink RX3 34 "NeckShip$Threads" "count" "I") (by decide +kernel)) (fun _ h9 => h9) rfl dX3_raisersOf_6 ?_
      refine lv_icmp_ge (tgt := 34) hx hb dX3_raisersOf_9 (by decide) (fun _ => ?_) (fun c_2 => absurd (nI_le (by omega) (by omega)) c_2)
      have hF : s_X3_raisersOf_L1 N V A s0 (N 1) 0 0 = a := hF.trans (by rw [s_X3_raisersOf_L1])
      exact KL1 _ (by (try rw [hF]); exact lv_sub hl [1, 2, 3] rfl)
    | succ n ih =>
      intro k a ls hk hF hl
      refine lv_iload_n hx hb dX3_raisersOf_4 rfl (lv_at hl 0 rfl) ?_
      refine lv_aload_n hx hb dX3_raisersOf_5 rfl (lv_at hl 2 rfl) ?_
      refine va_get (D := D) (ci := 3) (v := .int (nI (N 1))) (C := RX3) (T := TX3) (N := 8) hx hb hts hin3 hown hK hP 10 rfl rfl 7 (by decide) (hts (.fieldLink RX3 34 "NeckShip$Threads" "count" "I") (by decide +kernel)) (fun _ h9 => h9) rfl dX3_raisersOf_6 ?_
      refine lv_icmp_ge (tgt := 34) hx hb dX3_raisersOf_9 (by decide) (fun c_3 => absurd c_3 (nI_ge (by omega) (by omega))) (fun _ => ?_)
      refine lv_aload_n hx hb dX3_raisersOf_12 rfl (lv_at hl 2 rfl) ?_
      refine va_get (D := D) (ci := 3) (v := .ref (q 12)) (C := RX3) (T := TX3) (N := 8) hx hb hts hin3 hown hK hP 10 rfl rfl 1 (by decide) (hts (.fieldLink RX3 15 "NeckShip$Threads" "spar" "[I") (by decide +kernel)) (fun _ h9 => h9) rfl dX3_raisersOf_13 ?_
      refine lv_iload_n hx hb dX3_raisersOf_16 rfl (lv_at hl 0 rfl) ?_
      refine va_ialdN (i := k) hx hb hK hP 12 0 rfl rfl (by decide) (by omega) dX3_raisersOf_17 ?_
      refine lv_iload_n hx hb dX3_raisersOf_18 rfl (lv_at hl 3 rfl) ?_
      refine lv_icmp_ne (tgt := 28) hx hb dX3_raisersOf_19 (by decide) (fun c_4 => ?_) (fun c_4 => ?_)
      · refine lv_iinc (v := nI (k + 1)) (lv' := [(3, .int (nI (k + 1))), (2, .int (nI a)), (0, .ref (q 10)), (1, .int s0)]) hx hb dX3_raisersOf_28 hl (k := 0) rfl (nI_1 k) (by decide) rfl (fun ls hl => ?_)
        refine lv_goto (tgt := 4) hx hb dX3_raisersOf_31 (by decide) ?_
        exact ih (k + 1) a _ (by omega) (hF.trans (by rw [s_X3_raisersOf_L1, if_neg c_4])) (lv_sub hl [0, 1, 2, 3] rfl)
      · refine lv_iload_n hx hb dX3_raisersOf_22 rfl (lv_at hl 1 rfl) ?_
        refine lv_iconst (v := (1)) hx hb dX3_raisersOf_23 (by decide) ?_
        refine lv_iload_n hx hb dX3_raisersOf_24 rfl (lv_at hl 0 rfl) ?_
        refine lv_ishl hx hb dX3_raisersOf_25 ?_
        rw [sh1 (k := k) (by omega)]
        refine lv_ior hx hb dX3_raisersOf_26 ?_
        rw [fa_or a (2 ^ k)]
        refine lv_istore_n (lv' := [(2, .int (nI (a ||| (2 ^ k)))), (3, .int (nI k)), (0, .ref (q 10)), (1, .int s0)]) hx hb dX3_raisersOf_27 rfl hl (by decide) rfl (fun ls hl => ?_)
        refine lv_iinc (v := nI (k + 1)) (lv' := [(3, .int (nI (k + 1))), (2, .int (nI (a ||| (2 ^ k)))), (0, .ref (q 10)), (1, .int s0)]) hx hb dX3_raisersOf_28 hl (k := 1) rfl (nI_1 k) (by decide) rfl (fun ls hl => ?_)
        refine lv_goto (tgt := 4) hx hb dX3_raisersOf_31 (by decide) ?_
        exact ih (k + 1) (a ||| (2 ^ k)) _ (by omega) (hF.trans (by rw [s_X3_raisersOf_L1, if_pos c_4])) (lv_sub hl [0, 1, 2, 3] rfl)
  exact LL1 (N 1) 0 0 _ (by omega) rfl (lv_sub hl [0, 1, 2, 3] rfl)
def s_X3_raised_L1 (N : Nat → Nat) (V : Nat → Int32) (A : Nat → Nat → Int32) : Nat → Nat → Nat → Nat
  | 0, k, a =>
    a
  | n + 1, k, a =>
    if (s_X4_isIn (nI (s_X3_raising N V A)) (nI k)) = true then
      s_X3_raised_L1 N V A n (k + 1) (a ||| (2 ^ ((A 12 k).toNatClampNeg)))
    else
      s_X3_raised_L1 N V A n (k + 1) a
def s_X3_raised (N : Nat → Nat) (V : Nat → Int32) (A : Nat → Nat → Int32)  : Nat :=
  (s_X3_raised_L1 N V A (N 1) 0 0)
set_option maxHeartbeats 4000000 in
set_option maxRecDepth 100000 in
theorem c_X3_raised (l : Launch) (D : va_G) (cI cZ cS : ClassId) (q : Nat → Nat) (N : Nat → Nat) (V : Nat → Int32) (A : Nat → Nat → Int32) (h_1 : okC N A) : Met l yX3_raised wsX3_raised ({ frames := 1, cells := 0, slots := 0, locals := 21 }) (va_Pc [.ref (q 10)] (PC D cI cZ cS q N V A)) (vp_Si (fun r => r = nI (s_X3_raised N V A))) 0 0 (fun _ => False) := by
  refine Met.ofW (cc := cX3_raised) (maxL := 3) (ret := (some .int)) (by decide) rfl ?_
  intro p e s m args below meth c s₁ B hml hv
  obtain ⟨rfl, hP, hK, hN⟩ := hv
  have hx := B.exec
  have hb := B.bytes
  have hr := B.returns
  have hts := atoms_spec (ws := wsX3_raised) B.pre
  have hown : s.vm.findClass RX3 = some m.cls := findClass_of_methodNamed B.named
  have hlocks := B.notSynchronized
  have hin3 : ∀ w ∈ u_ws RX3 TX3 8, w ∈ wsX3_raised := by decide +kernel
  obtain ⟨o1, o2, o3, o4, o5, o6, o7, o8, o9⟩ := id h_1
  have hl := lv_entry ([.ref (q 10)]) (n := 3) (Nat.le_of_ble_eq_true rfl)
  rw [lg_entry_eq]
  generalize (lg_sl ([.ref (q 10)]) ++ List.replicate (3 - (lg_sl ([.ref (q 10)])).length) Slot.unset).toArray = ls at hl ⊢
  have hl : lv_has ls 3 [(0, .ref (q 10))] := hl
  refine lv_iconst (v := (0)) hx hb dX3_raised_0 (by decide) ?_
  refine lv_istore_n (lv' := [(1, .int (0)), (0, .ref (q 10))]) hx hb dX3_raised_1 rfl hl (by decide) rfl (fun ls hl => ?_)
  refine lv_iconst (v := (0)) hx hb dX3_raised_2 (by decide) ?_
  refine lv_istore_n (lv' := [(2, .int (0)), (1, .int (0)), (0, .ref (q 10))]) hx hb dX3_raised_3 rfl hl (by decide) rfl (fun ls hl => ?_)
  have KL1 : ∀ (ls : Array Slot), lv_has ls 3 [(1, .int (nI (s_X3_raised_L1 N V A (N 1) 0 0))), (0, .ref (q 10))] → W p l e (headSpec wsX3_raised ({ frames := 1, cells := 0, slots := 0, locals := 21 })).room s m ([.ref (q 10)] : List Value).toArray below meth c s.heap [] 0 0 (MQ below (vp_Si (fun r => r = nI (s_X3_raised N V A))) ([.ref (q 10)] : List Value).toArray s 0 0 (fun _ => False)) (F0 m 40 ls []) := by
    intro ls hl
    refine lv_iload_n hx hb dX3_raised_40 rfl (lv_at hl 0 rfl) ?_
    exact W.iret (v := nI (s_X3_raised_L1 N V A (N 1) 0 0)) hx hb hr (fun t ht hW => ⟨_, rfl, (by rw [s_X3_raised]), ht⟩) (fun _ h => by cases h) dX3_raised_41
  have LL1 : ∀ (n k : Nat) (a : Nat) (ls : Array Slot), k + n = N 1 → s_X3_raised_L1 N V A (N 1) 0 0 = s_X3_raised_L1 N V A n k a → lv_has ls 3 [(2, .int (nI k)), (1, .int (nI a)), (0, .ref (q 10))] → W p l e (headSpec wsX3_raised ({ frames := 1, cells := 0, slots := 0, locals := 21 })).room s m ([.ref (q 10)] : List Value).toArray below meth c s.heap [] 0 0 (MQ below (vp_Si (fun r => r = nI (s_X3_raised N V A))) ([.ref (q 10)] : List Value).toArray s 0 0 (fun _ => False)) (F0 m 4 ls []) := by
    intro n
    induction n with
    | zero =>
      intro k a ls hk hF hl
      refine lv_iload_n hx hb dX3_raised_4 rfl (lv_at hl 0 rfl) ?_
      refine lv_aload_n hx hb dX3_raised_5 rfl (lv_at hl 2 rfl) ?_
      refine va_get (D := D) (ci := 3) (v := .int (nI (N 1))) (C := RX3) (T := TX3) (N := 8) hx hb hts hin3 hown hK hP 10 rfl rfl 7 (by decide) (hts (.fieldLink RX3 34 "NeckShip$Threads" "count" "I") (by decide +kernel)) (fun _ h9 => h9) rfl dX3_raised_6 ?_
      refine lv_icmp_ge (tgt := 40) hx hb dX3_raised_9 (by decide) (fun _ => ?_) (fun c_1 => absurd (nI_le (by omega) (by omega)) c_1)
      have hF : s_X3_raised_L1 N V A (N 1) 0 0 = a := hF.trans (by rw [s_X3_raised_L1])
      exact KL1 _ (by (try rw [hF]); exact lv_sub hl [1, 2] rfl)
    | succ n ih =>
      intro k a ls hk hF hl
      refine lv_iload_n hx hb dX3_raised_4 rfl (lv_at hl 0 rfl) ?_
      refine lv_aload_n hx hb dX3_raised_5 rfl (lv_at hl 2 rfl) ?_
      refine va_get (D := D) (ci := 3) (v := .int (nI (N 1))) (C := RX3) (T := TX3) (N := 8) hx hb hts hin3 hown hK hP 10 rfl rfl 7 (by decide) (hts (.fieldLink RX3 34 "NeckShip$Threads" "count" "I") (by decide +kernel)) (fun _ h9 => h9) rfl dX3_raised_6 ?_
      refine lv_icmp_ge (tgt := 40) hx hb dX3_raised_9 (by decide) (fun c_2 => absurd c_2 (nI_ge (by omega) (by omega))) (fun _ => ?_)
      refine lv_aload_n hx hb dX3_raised_12 rfl (lv_at hl 2 rfl) ?_
      refine vp_callSi (W.runV (As := []) (rest := []) ⟨hx, hb, hml, hown, hts⟩ (c_X3_raising l D cI cZ cS q N V A) (cwV 0 hts gX3_raised_X3_raising rfl rfl rfl (by decide +kernel) ⟨Nat.le_of_ble_eq_true rfl, Nat.le_of_ble_eq_true rfl⟩) (preC3 hK hN hP) rfl rfl hl.1 rfl (lv_room (Nat.le_of_ble_eq_true rfl)) dX3_raised_13 ⟨Nat.zero_le _, Nat.zero_le _⟩) (fun r_3 er_3 => ?_)
      subst er_3
      refine lv_iload_n hx hb dX3_raised_16 rfl (lv_at hl 0 rfl) ?_
      refine vp_callSi (va_Run.run (va_runSN (As := [.int (nI (s_X3_raising N V A)), .int (nI k)]) (rest := []) ⟨hx, hb, hml, hown, hts⟩ (c_X4_isIn l (nI (s_X3_raising N V A)) (nI k)) ⟨va_cnB 2 hts ggX3_raised_X4_isIn rfl rfl rfl hN.2.2.1 (hts (.initialized RX4) (by decide +kernel)) (by decide +kernel) ⟨Nat.le_of_ble_eq_true rfl, Nat.le_of_ble_eq_true rfl⟩, (hts (.static yX4_isIn) (by decide +kernel)), trivial⟩ preEq rfl rfl hl.1 rfl (lv_room (Nat.le_of_ble_eq_true rfl)) dX3_raised_17 ⟨Nat.zero_le _, Nat.zero_le _⟩)) (fun r_4 er_4 => ?_)
      subst er_4
      refine lz_if_eq (tgt := 34) hx hb dX3_raised_20 (by decide) (fun c_5 => ?_) (fun c_5 => ?_)
      · refine lv_iinc (v := nI (k + 1)) (lv' := [(2, .int (nI (k + 1))), (1, .int (nI a)), (0, .ref (q 10))]) hx hb dX3_raised_34 hl (k := 0) rfl (nI_1 k) (by decide) rfl (fun ls hl => ?_)
        refine lv_goto (tgt := 4) hx hb dX3_raised_37 (by decide) ?_
        exact ih (k + 1) a _ (by omega) (hF.trans (by rw [s_X3_raised_L1, if_neg (nb c_5)])) (lv_sub hl [0, 1, 2] rfl)
      · refine lv_iload_n hx hb dX3_raised_23 rfl (lv_at hl 1 rfl) ?_
        refine lv_iconst (v := (1)) hx hb dX3_raised_24 (by decide) ?_
        refine lv_aload_n hx hb dX3_raised_25 rfl (lv_at hl 2 rfl) ?_
        refine va_get (D := D) (ci := 3) (v := .ref (q 12)) (C := RX3) (T := TX3) (N := 8) hx hb hts hin3 hown hK hP 10 rfl rfl 1 (by decide) (hts (.fieldLink RX3 15 "NeckShip$Threads" "spar" "[I") (by decide +kernel)) (fun _ h9 => h9) rfl dX3_raised_26 ?_
        refine lv_iload_n hx hb dX3_raised_29 rfl (lv_at hl 0 rfl) ?_
        refine va_ialdV (i := k) (x := (A 12 k).toNatClampNeg) hx hb hK hP 12 0 rfl rfl (o9 _).1 (by decide) (by omega) dX3_raised_30 ?_
        refine lv_ishl hx hb dX3_raised_31 ?_
        rw [sh1 (k := (A 12 k).toNatClampNeg) (by have := (o9 k).2; omega)]
        refine lv_ior hx hb dX3_raised_32 ?_
        rw [fa_or a (2 ^ ((A 12 k).toNatClampNeg))]
        refine lv_istore_n (lv' := [(1, .int (nI (a ||| (2 ^ ((A 12 k).toNatClampNeg))))), (2, .int (nI k)), (0, .ref (q 10))]) hx hb dX3_raised_33 rfl hl (by decide) rfl (fun ls hl => ?_)
        refine lv_iinc (v := nI (k + 1)) (lv' := [(2, .int (nI (k + 1))), (1, .int (nI (a ||| (2 ^ ((A 12 k).toNatClampNeg))))), (0, .ref (q 10))]) hx hb dX3_raised_34 hl (k := 1) rfl (nI_1 k) (by decide) rfl (fun ls hl => ?_)
        refine lv_goto (tgt := 4) hx hb dX3_raised_37 (by decide) ?_
        exact ih (k + 1) (a ||| (2 ^ ((A 12 k).toNatClampNeg))) _ (by omega) (hF.trans (by rw [s_X3_raised_L1, if_pos c_5])) (lv_sub hl [0, 1, 2] rfl)
  exact LL1 (N 1) 0 0 _ (by omega) rfl (lv_sub hl [0, 1, 2] rfl)
def s_X3_greatestHole_L1 (N : Nat → Nat) (V : Nat → Int32) (A : Nat → Nat → Int32) : Nat → Nat → Int32 → Int32
  | 0, k, a =>
    a
  | n + 1, k, a =>
    s_X3_greatestHole_L1 N V A n (k + 1) (if a < A 11 k then A 11 k else a)
def s_X3_greatestHole (N : Nat → Nat) (V : Nat → Int32) (A : Nat → Nat → Int32)  : Int32 :=
  (s_X3_greatestHole_L1 N V A (N 1) 0 (-20 : Int32))
set_option maxHeartbeats 4000000 in
set_option maxRecDepth 100000 in
theorem c_X3_greatestHole (l : Launch) (D : va_G) (cI cZ cS : ClassId) (q : Nat → Nat) (N : Nat → Nat) (V : Nat → Int32) (A : Nat → Nat → Int32) (h_1 : okC N A) : Met l yX3_greatestHole wsX3_greatestHole ({ frames := 1, cells := 0, slots := 0, locals := 21 }) (va_Pc [.ref (q 10)] (PC D cI cZ cS q N V A)) (vp_Si (fun r => r = (s_X3_greatestHole N V A))) 0 0 (fun _ => False) := by
  refine Met.ofW (cc := cX3_greatestHole) (maxL := 3) (ret := (some .int)) (by decide) rfl ?_
  intro p e s m args below meth c s₁ B hml hv
  obtain ⟨rfl, hP, hK, hN⟩ := hv
  have hx := B.exec
  have hb := B.bytes
  have hr := B.returns
  have hts := atoms_spec (ws := wsX3_greatestHole) B.pre
  have hown : s.vm.findClass RX3 = some m.cls := findClass_of_methodNamed B.named
  have hlocks := B.notSynchronized
  have hin3 : ∀ w ∈ u_ws RX3 TX3 8, w ∈ wsX3_greatestHole := by decide +kernel
  obtain ⟨o1, o2, o3, o4, o5, o6, o7, o8, o9⟩ := id h_1
  have hl := lv_entry ([.ref (q 10)]) (n := 3) (Nat.le_of_ble_eq_true rfl)
  rw [lg_entry_eq]
  generalize (lg_sl ([.ref (q 10)]) ++ List.replicate (3 - (lg_sl ([.ref (q 10)])).length) Slot.unset).toArray = ls at hl ⊢
  have hl : lv_has ls 3 [(0, .ref (q 10))] := hl
  refine lv_bipush (v := (-20)) hx hb dX3_greatestHole_0 (by decide) ?_
  refine lv_istore_n (lv' := [(1, .int (-20)), (0, .ref (q 10))]) hx hb dX3_greatestHole_2 rfl hl (by decide) rfl (fun ls hl => ?_)
  refine lv_iconst (v := (0)) hx hb dX3_greatestHole_3 (by decide) ?_
  refine lv_istore_n (lv' := [(2, .int (0)), (1, .int (-20)), (0, .ref (q 10))]) hx hb dX3_greatestHole_4 rfl hl (by decide) rfl (fun ls hl => ?_)
  have KL1 : ∀ (ls : Array Slot), lv_has ls 3 [(1, .int (s_X3_greatestHole_L1 N V A (N 1) 0 (-20 : Int32))), (0, .ref (q 10))] → W p l e (headSpec wsX3_greatestHole ({ frames := 1, cells := 0, slots := 0, locals := 21 })).room s m ([.ref (q 10)] : List Value).toArray below meth c s.heap [] 0 0 (MQ below (vp_Si (fun r => r = (s_X3_greatestHole N V A))) ([.ref (q 10)] : List Value).toArray s 0 0 (fun _ => False)) (F0 m 30 ls []) := by
    intro ls hl
    refine lv_iload_n hx hb dX3_greatestHole_30 rfl (lv_at hl 0 rfl) ?_
    exact W.iret (v := (s_X3_greatestHole_L1 N V A (N 1) 0 (-20 : Int32))) hx hb hr (fun t ht hW => ⟨_, rfl, (by rw [s_X3_greatestHole]), ht⟩) (fun _ h => by cases h) dX3_greatestHole_31
  have LL1 : ∀ (n k : Nat) (a : Int32) (ls : Array Slot), k + n = N 1 → s_X3_greatestHole_L1 N V A (N 1) 0 (-20 : Int32) = s_X3_greatestHole_L1 N V A n k a → lv_has ls 3 [(2, .int (nI k)), (1, .int a), (0, .ref (q 10))] → W p l e (headSpec wsX3_greatestHole ({ frames := 1, cells := 0, slots := 0, locals := 21 })).room s m ([.ref (q 10)] : List Value).toArray below meth c s.heap [] 0 0 (MQ below (vp_Si (fun r => r = (s_X3_greatestHole N V A))) ([.ref (q 10)] : List Value).toArray s 0 0 (fun _ => False)) (F0 m 5 ls []) := by
    intro n
    induction n with
    | zero =>
      intro k a ls hk hF hl
      refine lv_iload_n hx hb dX3_greatestHole_5 rfl (lv_at hl 0 rfl) ?_
      refine lv_aload_n hx hb dX3_greatestHole_6 rfl (lv_at hl 2 rfl) ?_
      refine va_get (D := D) (ci := 3) (v := .int (nI (N 1))) (C := RX3) (T := TX3) (N := 8) hx hb hts hin3 hown hK hP 10 rfl rfl 7 (by decide) (hts (.fieldLink RX3 34 "NeckShip$Threads" "count" "I") (by decide +kernel)) (fun _ h9 => h9) rfl dX3_greatestHole_7 ?_
      refine lv_icmp_ge (tgt := 30) hx hb dX3_greatestHole_10 (by decide) (fun _ => ?_) (fun c_1 => absurd (nI_le (by omega) (by omega)) c_1)
      have hF : s_X3_greatestHole_L1 N V A (N 1) 0 (-20 : Int32) = a := hF.trans (by rw [s_X3_greatestHole_L1])
      exact KL1 _ (by (try rw [hF]); exact lv_sub hl [1, 2] rfl)
    | succ n ih =>
      intro k a ls hk hF hl
      refine lv_iload_n hx hb dX3_greatestHole_5 rfl (lv_at hl 0 rfl) ?_
      refine lv_aload_n hx hb dX3_greatestHole_6 rfl (lv_at hl 2 rfl) ?_
      refine va_get (D := D) (ci := 3) (v := .int (nI (N 1))) (C := RX3) (T := TX3) (N := 8) hx hb hts hin3 hown hK hP 10 rfl rfl 7 (by decide) (hts (.fieldLink RX3 34 "NeckShip$Threads" "count" "I") (by decide +kernel)) (fun _ h9 => h9) rfl dX3_greatestHole_7 ?_
      refine lv_icmp_ge (tgt := 30) hx hb dX3_greatestHole_10 (by decide) (fun c_2 => absurd c_2 (nI_ge (by omega) (by omega))) (fun _ => ?_)
      refine lv_iload_n hx hb dX3_greatestHole_13 rfl (lv_at hl 1 rfl) ?_
      refine lv_aload_n hx hb dX3_greatestHole_14 rfl (lv_at hl 2 rfl) ?_
      refine va_get (D := D) (ci := 3) (v := .ref (q 11)) (C := RX3) (T := TX3) (N := 8) hx hb hts hin3 hown hK hP 10 rfl rfl 0 (by decide) (hts (.fieldLink RX3 11 "NeckShip$Threads" "hole" "[I") (by decide +kernel)) (fun _ h9 => h9) rfl dX3_greatestHole_15 ?_
      refine lv_iload_n hx hb dX3_greatestHole_18 rfl (lv_at hl 0 rfl) ?_
      refine va_ialdN (i := k) hx hb hK hP 11 0 rfl rfl (by decide) (by omega) dX3_greatestHole_19 ?_
      refine va_mmax hx hb (by rw [hml]; exact hl.1.symm) hown (hts (.methodLink RX3 55 Lib.Math.max.name) (by decide +kernel)) (hts (.static Lib.Math.max.name) (by decide +kernel)) (hts (.initialized "java/lang/Math") (by decide +kernel)) (hts (.code Lib.Math.max.name Lib.Math.max.code 2 (some .int)) (by decide +kernel)) (Nat.le_of_ble_eq_true rfl) (Nat.le_of_ble_eq_true rfl) (Nat.zero_le _) (Nat.zero_le _) dX3_greatestHole_20 ?_
      refine lv_istore_n (lv' := [(1, .int (if a < A 11 k then A 11 k else a)), (2, .int (nI k)), (0, .ref (q 10))]) hx hb dX3_greatestHole_23 rfl hl (by decide) rfl (fun ls hl => ?_)
      refine lv_iinc (v := nI (k + 1)) (lv' := [(2, .int (nI (k + 1))), (1, .int (if a < A 11 k then A 11 k else a)), (0, .ref (q 10))]) hx hb dX3_greatestHole_24 hl (k := 1) rfl (nI_1 k) (by decide) rfl (fun ls hl => ?_)
      refine lv_goto (tgt := 5) hx hb dX3_greatestHole_27 (by decide) ?_
      exact ih (k + 1) (if a < A 11 k then A 11 k else a) _ (by omega) (hF.trans (by rw [s_X3_greatestHole_L1])) (lv_sub hl [0, 1, 2] rfl)
  exact LL1 (N 1) 0 (-20 : Int32) _ (by omega) rfl (lv_sub hl [0, 1, 2] rfl)
