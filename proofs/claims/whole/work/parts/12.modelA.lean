def s_X5_in   (v : Int64) (a : Int64) (b : Int64) : Bool :=
  if (lg_cmp v a) < 0 then
    false
  else
    if 0 < (lg_cmp v b) then
      false
    else
      true
set_option maxHeartbeats 4000000 in
set_option maxRecDepth 100000 in
theorem c_X5_in (l : Launch) (v : Int64) (a : Int64) (b : Int64) : Met l yX5_in wsX5_in ({ frames := 0, cells := 0, slots := 0, locals := 0 }) (fun w _ => w = ([.long v, .long a, .long b] : List Value).toArray) (vp_Si (fun r => r = b2i (s_X5_in v a b))) 0 0 (fun _ => False) := by
  refine Met.ofW (cc := cX5_in) (maxL := 6) (ret := (some .boolean)) (by decide) rfl ?_
  intro p e s m args below meth c s₁ B hml hv
  obtain rfl := hv
  have hx := B.exec
  have hb := B.bytes
  have hr := B.returns
  have hts := atoms_spec (ws := wsX5_in) B.pre
  have hown : s.vm.findClass RX5 = some m.cls := findClass_of_methodNamed B.named
  have hlocks := B.notSynchronized
  have hl := lv_entry ([.long v, .long a, .long b]) (n := 6) (Nat.le_of_ble_eq_true rfl)
  rw [lg_entry_eq]
  generalize (lg_sl ([.long v, .long a, .long b]) ++ List.replicate (6 - (lg_sl ([.long v, .long a, .long b])).length) Slot.unset).toArray = ls at hl ⊢
  have hl : lv_has ls 6 [(0, .long v), (2, .long a), (4, .long b)] := hl
  refine lv_lload_n hx hb dX5_in_0 rfl (lv_at hl 0 rfl) ?_
  refine lv_lload_n hx hb dX5_in_1 rfl (lv_at hl 1 rfl) ?_
  refine W.lcmp hx hb dX5_in_2 ?_
  refine lv_if_lt (tgt := 17) hx hb dX5_in_3 (by decide) (fun c_1 => ?_) (fun c_1 => ?_)
  · refine lv_iconst (v := (0)) hx hb dX5_in_17 (by decide) ?_
    exact W.zret (v := b2i false) hx hb hr (b2i_nar _) (fun t ht hW => ⟨_, rfl, (by rw [s_X5_in, if_pos c_1]), ht⟩) (fun _ h => by cases h) dX5_in_18
  · refine lv_lload_n hx hb dX5_in_6 rfl (lv_at hl 0 rfl) ?_
    refine lv_lload hx hb dX5_in_7 (lv_at hl 2 rfl) ?_
    refine W.lcmp hx hb dX5_in_9 ?_
    refine lv_if_gt (tgt := 17) hx hb dX5_in_10 (by decide) (fun c_2 => ?_) (fun c_2 => ?_)
    · refine lv_iconst (v := (0)) hx hb dX5_in_17 (by decide) ?_
      exact W.zret (v := b2i false) hx hb hr (b2i_nar _) (fun t ht hW => ⟨_, rfl, (by rw [s_X5_in, if_neg c_1, if_pos c_2]), ht⟩) (fun _ h => by cases h) dX5_in_18
    · refine lv_iconst (v := (1)) hx hb dX5_in_13 (by decide) ?_
      refine lv_goto (tgt := 18) hx hb dX5_in_14 (by decide) ?_
      exact W.zret (v := b2i true) hx hb hr (b2i_nar _) (fun t ht hW => ⟨_, rfl, (by rw [s_X5_in, if_neg c_1, if_neg c_2]), ht⟩) (fun _ h => by cases h) dX5_in_18
def s_X5_lost   : Int64 :=
  (-9223372036854775808 : Int64)
set_option maxHeartbeats 4000000 in
set_option maxRecDepth 100000 in
theorem c_X5_lost (l : Launch) : Met l yX5_lost wsX5_lost ({ frames := 0, cells := 0, slots := 0, locals := 0 }) (fun w _ => w = ([] : List Value).toArray) (vp_Sl (fun r => r = (s_X5_lost))) 0 0 (fun _ => False) := by
  refine Met.ofW (cc := cX5_lost) (maxL := 0) (ret := (some .long)) (by decide) rfl ?_
  intro p e s m args below meth c s₁ B hml hv
  obtain rfl := hv
  have hx := B.exec
  have hb := B.bytes
  have hr := B.returns
  have hts := atoms_spec (ws := wsX5_lost) B.pre
  have hown : s.vm.findClass RX5 = some m.cls := findClass_of_methodNamed B.named
  have hlocks := B.notSynchronized
  have hl := lv_entry ([]) (n := 0) (Nat.le_of_ble_eq_true rfl)
  rw [lg_entry_eq]
  generalize (lg_sl ([]) ++ List.replicate (0 - (lg_sl ([])).length) Slot.unset).toArray = ls at hl ⊢
  have hl : lv_has ls 0 [] := hl
  refine lv_ldc2 (v := (-9223372036854775808)) hx hb hown (hts (.constantLong RX5 62 (-9223372036854775808)) (by decide +kernel)) dX5_lost_0 ?_
  exact W.lret (v := (-9223372036854775808 : Int64)) hx hb hr (fun t ht hW => ⟨_, rfl, (by rw [s_X5_lost]), ht⟩) (fun _ h => by cases h) dX5_lost_3
def s_X5_lesser   (a : Int32) (b : Int32) : Int32 :=
  if b ≤ a then
    b
  else
    a
set_option maxHeartbeats 4000000 in
set_option maxRecDepth 100000 in
theorem c_X5_lesser (l : Launch) (a : Int32) (b : Int32) : Met l yX5_lesser wsX5_lesser ({ frames := 0, cells := 0, slots := 0, locals := 0 }) (fun w _ => w = ([.int a, .int b] : List Value).toArray) (vp_Si (fun r => r = (s_X5_lesser a b))) 0 0 (fun _ => False) := by
  refine Met.ofW (cc := cX5_lesser) (maxL := 2) (ret := (some .int)) (by decide) rfl ?_
  intro p e s m args below meth c s₁ B hml hv
  obtain rfl := hv
  have hx := B.exec
  have hb := B.bytes
  have hr := B.returns
  have hts := atoms_spec (ws := wsX5_lesser) B.pre
  have hown : s.vm.findClass RX5 = some m.cls := findClass_of_methodNamed B.named
  have hlocks := B.notSynchronized
  have hl := lv_entry ([.int a, .int b]) (n := 2) (Nat.le_of_ble_eq_true rfl)
  rw [lg_entry_eq]
  generalize (lg_sl ([.int a, .int b]) ++ List.replicate (2 - (lg_sl ([.int a, .int b])).length) Slot.unset).toArray = ls at hl ⊢
  have hl : lv_has ls 2 [(0, .int a), (1, .int b)] := hl
  refine lv_iload_n hx hb dX5_lesser_0 rfl (lv_at hl 0 rfl) ?_
  refine lv_iload_n hx hb dX5_lesser_1 rfl (lv_at hl 1 rfl) ?_
  refine lv_icmp_ge (tgt := 9) hx hb dX5_lesser_2 (by decide) (fun c_1 => ?_) (fun c_1 => ?_)
  · refine lv_iload_n hx hb dX5_lesser_9 rfl (lv_at hl 1 rfl) ?_
    exact W.iret (v := b) hx hb hr (fun t ht hW => ⟨_, rfl, (by rw [s_X5_lesser, if_pos c_1]), ht⟩) (fun _ h => by cases h) dX5_lesser_10
  · refine lv_iload_n hx hb dX5_lesser_5 rfl (lv_at hl 0 rfl) ?_
    refine lv_goto (tgt := 10) hx hb dX5_lesser_6 (by decide) ?_
    exact W.iret (v := a) hx hb hr (fun t ht hW => ⟨_, rfl, (by rw [s_X5_lesser, if_neg c_1]), ht⟩) (fun _ h => by cases h) dX5_lesser_10
def s_X5_greater   (a : Int32) (b : Int32) : Int32 :=
  if a ≤ b then
    b
  else
    a
set_option maxHeartbeats 4000000 in
set_option maxRecDepth 100000 in
theorem c_X5_greater (l : Launch) (a : Int32) (b : Int32) : Met l yX5_greater wsX5_greater ({ frames := 0, cells := 0, slots := 0, locals := 0 }) (fun w _ => w = ([.int a, .int b] : List Value).toArray) (vp_Si (fun r => r = (s_X5_greater a b))) 0 0 (fun _ => False) := by
  refine Met.ofW (cc := cX5_greater) (maxL := 2) (ret := (some .int)) (by decide) rfl ?_
  intro p e s m args below meth c s₁ B hml hv
  obtain rfl := hv
  have hx := B.exec
  have hb := B.bytes
  have hr := B.returns
  have hts := atoms_spec (ws := wsX5_greater) B.pre
  have hown : s.vm.findClass RX5 = some m.cls := findClass_of_methodNamed B.named
  have hlocks := B.notSynchronized
  have hl := lv_entry ([.int a, .int b]) (n := 2) (Nat.le_of_ble_eq_true rfl)
  rw [lg_entry_eq]
  generalize (lg_sl ([.int a, .int b]) ++ List.replicate (2 - (lg_sl ([.int a, .int b])).length) Slot.unset).toArray = ls at hl ⊢
  have hl : lv_has ls 2 [(0, .int a), (1, .int b)] := hl
  refine lv_iload_n hx hb dX5_greater_0 rfl (lv_at hl 0 rfl) ?_
  refine lv_iload_n hx hb dX5_greater_1 rfl (lv_at hl 1 rfl) ?_
  refine lv_icmp_le (tgt := 9) hx hb dX5_greater_2 (by decide) (fun c_1 => ?_) (fun c_1 => ?_)
  · refine lv_iload_n hx hb dX5_greater_9 rfl (lv_at hl 1 rfl) ?_
    exact W.iret (v := b) hx hb hr (fun t ht hW => ⟨_, rfl, (by rw [s_X5_greater, if_pos c_1]), ht⟩) (fun _ h => by cases h) dX5_greater_10
  · refine lv_iload_n hx hb dX5_greater_5 rfl (lv_at hl 0 rfl) ?_
    refine lv_goto (tgt := 10) hx hb dX5_greater_6 (by decide) ?_
    exact W.iret (v := a) hx hb hr (fun t ht hW => ⟨_, rfl, (by rw [s_X5_greater, if_neg c_1]), ht⟩) (fun _ h => by cases h) dX5_greater_10
def s_X5_noSpar (N : Nat → Nat) (V : Nat → Int32) (A : Nat → Nat → Int32)  (s0 : Int32) : Bool :=
  if (s_X5_in ((s0).toInt64) (0 : Int64) ((nI (N 0)).toInt64 - (1 : Int64))) = true then
    false
  else
    true
set_option maxHeartbeats 4000000 in
set_option maxRecDepth 100000 in
theorem c_X5_noSpar (l : Launch) (D : va_G) (cI cZ cS : ClassId) (q : Nat → Nat) (N : Nat → Nat) (V : Nat → Int32) (A : Nat → Nat → Int32) (s0 : Int32) : Met l yX5_noSpar wsX5_noSpar ({ frames := 1, cells := 0, slots := 0, locals := 25 }) (va_Pc [.ref (q 0), .int s0] (PM D cI cZ cS q N V A)) (vp_Si (fun r => r = b2i (s_X5_noSpar N V A s0))) 0 0 (fun _ => False) := by
  refine Met.ofW (cc := cX5_noSpar) (maxL := 2) (ret := (some .boolean)) (by decide) rfl ?_
  intro p e s m args below meth c s₁ B hml hv
  obtain ⟨rfl, hP, hK⟩ := hv
  have hx := B.exec
  have hb := B.bytes
  have hr := B.returns
  have hts := atoms_spec (ws := wsX5_noSpar) B.pre
  have hown : s.vm.findClass RX5 = some m.cls := findClass_of_methodNamed B.named
  have hlocks := B.notSynchronized
  have hin5 : ∀ w ∈ u_ws RX5 TX5 22, w ∈ wsX5_noSpar := by decide +kernel
  have hl := lv_entry ([.ref (q 0), .int s0]) (n := 2) (Nat.le_of_ble_eq_true rfl)
  rw [lg_entry_eq]
  generalize (lg_sl ([.ref (q 0), .int s0]) ++ List.replicate (2 - (lg_sl ([.ref (q 0), .int s0])).length) Slot.unset).toArray = ls at hl ⊢
  have hl : lv_has ls 2 [(0, .ref (q 0)), (1, .int s0)] := hl
  refine lv_iload_n hx hb dX5_noSpar_0 rfl (lv_at hl 1 rfl) ?_
  refine lv_i2l (v := (s0).toInt64) hx hb dX5_noSpar_1 rfl ?_
  refine lv_lconst (v := (0)) hx hb dX5_noSpar_2 (by decide) ?_
  refine lv_aload_n hx hb dX5_noSpar_3 rfl (lv_at hl 0 rfl) ?_
  refine va_get (D := D) (ci := 5) (v := .int (nI (N 0))) (C := RX5) (T := TX5) (N := 22) hx hb hts hin5 hown hK hP 0 rfl rfl 2 (by decide) (hts (.fieldLink RX5 72 "NeckShipModel" "spars" "I") (by decide +kernel)) (fun _ h9 => h9) rfl dX5_noSpar_4 ?_
  refine lv_i2l (v := (nI (N 0)).toInt64) hx hb dX5_noSpar_7 rfl ?_
  refine lv_lconst (v := (1)) hx hb dX5_noSpar_8 (by decide) ?_
  refine lv_lsub hx hb dX5_noSpar_9 ?_
  refine vp_callSi (W.runS (As := [.long ((s0).toInt64), .long (0 : Int64), .long ((nI (N 0)).toInt64 - (1 : Int64))]) (rest := []) ⟨hx, hb, hml, hown, hts⟩ (c_X5_in l ((s0).toInt64) (0 : Int64) ((nI (N 0)).toInt64 - (1 : Int64))) (cwS 3 hts gX5_noSpar_X5_in rfl rfl rfl (by decide +kernel) ⟨Nat.le_of_ble_eq_true rfl, Nat.le_of_ble_eq_true rfl⟩) (preEq) rfl rfl hl.1 rfl (lv_room (Nat.le_of_ble_eq_true rfl)) dX5_noSpar_10 ⟨Nat.zero_le _, Nat.zero_le _⟩) (fun r_1 er_1 => ?_)
  subst er_1
  refine lz_if_ne (tgt := 20) hx hb dX5_noSpar_13 (by decide) (fun c_2 => ?_) (fun c_2 => ?_)
  · refine lv_iconst (v := (0)) hx hb dX5_noSpar_20 (by decide) ?_
    exact W.zret (v := b2i false) hx hb hr (b2i_nar _) (fun t ht hW => ⟨_, rfl, (by rw [s_X5_noSpar, if_pos c_2]), ht⟩) (fun _ h => by cases h) dX5_noSpar_21
  · refine lv_iconst (v := (1)) hx hb dX5_noSpar_16 (by decide) ?_
    refine lv_goto (tgt := 21) hx hb dX5_noSpar_17 (by decide) ?_
    exact W.zret (v := b2i true) hx hb hr (b2i_nar _) (fun t ht hW => ⟨_, rfl, (by rw [s_X5_noSpar, if_neg (nb c_2)]), ht⟩) (fun _ h => by cases h) dX5_noSpar_21
def s_X5_noThread (N : Nat → Nat) (V : Nat → Int32) (A : Nat → Nat → Int32)  (t0 : Int32) : Bool :=
  if (s_X5_in ((t0).toInt64) (0 : Int64) ((nI (N 1)).toInt64 - (1 : Int64))) = true then
    false
  else
    true
set_option maxHeartbeats 4000000 in
set_option maxRecDepth 100000 in
theorem c_X5_noThread (l : Launch) (D : va_G) (cI cZ cS : ClassId) (q : Nat → Nat) (N : Nat → Nat) (V : Nat → Int32) (A : Nat → Nat → Int32) (t0 : Int32) : Met l yX5_noThread wsX5_noThread ({ frames := 1, cells := 0, slots := 0, locals := 25 }) (va_Pc [.ref (q 0), .int t0] (PM D cI cZ cS q N V A)) (vp_Si (fun r => r = b2i (s_X5_noThread N V A t0))) 0 0 (fun _ => False) := by
  refine Met.ofW (cc := cX5_noThread) (maxL := 2) (ret := (some .boolean)) (by decide) rfl ?_
  intro p e s m args below meth c s₁ B hml hv
  obtain ⟨rfl, hP, hK⟩ := hv
  have hx := B.exec
  have hb := B.bytes
  have hr := B.returns
  have hts := atoms_spec (ws := wsX5_noThread) B.pre
  have hown : s.vm.findClass RX5 = some m.cls := findClass_of_methodNamed B.named
  have hlocks := B.notSynchronized
  have hin5 : ∀ w ∈ u_ws RX5 TX5 22, w ∈ wsX5_noThread := by decide +kernel
  have hl := lv_entry ([.ref (q 0), .int t0]) (n := 2) (Nat.le_of_ble_eq_true rfl)
  rw [lg_entry_eq]
  generalize (lg_sl ([.ref (q 0), .int t0]) ++ List.replicate (2 - (lg_sl ([.ref (q 0), .int t0])).length) Slot.unset).toArray = ls at hl ⊢
  have hl : lv_has ls 2 [(0, .ref (q 0)), (1, .int t0)] := hl
  refine lv_iload_n hx hb dX5_noThread_0 rfl (lv_at hl 1 rfl) ?_
  refine lv_i2l (v := (t0).toInt64) hx hb dX5_noThread_1 rfl ?_
  refine lv_lconst (v := (0)) hx hb dX5_noThread_2 (by decide) ?_
  refine lv_aload_n hx hb dX5_noThread_3 rfl (lv_at hl 0 rfl) ?_
  refine va_get (D := D) (ci := 5) (v := .int (nI (N 1))) (C := RX5) (T := TX5) (N := 22) hx hb hts hin5 hown hK hP 0 rfl rfl 9 (by decide) (hts (.fieldLink RX5 79 "NeckShipModel" "threads" "I") (by decide +kernel)) (fun _ h9 => h9) rfl dX5_noThread_4 ?_
  refine lv_i2l (v := (nI (N 1)).toInt64) hx hb dX5_noThread_7 rfl ?_
  refine lv_lconst (v := (1)) hx hb dX5_noThread_8 (by decide) ?_
  refine lv_lsub hx hb dX5_noThread_9 ?_
  refine vp_callSi (W.runS (As := [.long ((t0).toInt64), .long (0 : Int64), .long ((nI (N 1)).toInt64 - (1 : Int64))]) (rest := []) ⟨hx, hb, hml, hown, hts⟩ (c_X5_in l ((t0).toInt64) (0 : Int64) ((nI (N 1)).toInt64 - (1 : Int64))) (cwS 3 hts gX5_noThread_X5_in rfl rfl rfl (by decide +kernel) ⟨Nat.le_of_ble_eq_true rfl, Nat.le_of_ble_eq_true rfl⟩) (preEq) rfl rfl hl.1 rfl (lv_room (Nat.le_of_ble_eq_true rfl)) dX5_noThread_10 ⟨Nat.zero_le _, Nat.zero_le _⟩) (fun r_1 er_1 => ?_)
  subst er_1
  refine lz_if_ne (tgt := 20) hx hb dX5_noThread_13 (by decide) (fun c_2 => ?_) (fun c_2 => ?_)
  · refine lv_iconst (v := (0)) hx hb dX5_noThread_20 (by decide) ?_
    exact W.zret (v := b2i false) hx hb hr (b2i_nar _) (fun t ht hW => ⟨_, rfl, (by rw [s_X5_noThread, if_pos c_2]), ht⟩) (fun _ h => by cases h) dX5_noThread_21
  · refine lv_iconst (v := (1)) hx hb dX5_noThread_16 (by decide) ?_
    refine lv_goto (tgt := 21) hx hb dX5_noThread_17 (by decide) ?_
    exact W.zret (v := b2i true) hx hb hr (b2i_nar _) (fun t ht hW => ⟨_, rfl, (by rw [s_X5_noThread, if_neg (nb c_2)]), ht⟩) (fun _ h => by cases h) dX5_noThread_21
def s_X5_noSheet   (k0 : Int32) : Bool :=
  if (s_X5_in ((k0).toInt64) (0 : Int64) (3 : Int64)) = true then
    false
  else
    true
set_option maxHeartbeats 4000000 in
set_option maxRecDepth 100000 in
theorem c_X5_noSheet (l : Launch) (k0 : Int32) : Met l yX5_noSheet wsX5_noSheet ({ frames := 1, cells := 0, slots := 0, locals := 25 }) (fun w _ => w = ([.int k0] : List Value).toArray) (vp_Si (fun r => r = b2i (s_X5_noSheet k0))) 0 0 (fun _ => False) := by
  refine Met.ofW (cc := cX5_noSheet) (maxL := 1) (ret := (some .boolean)) (by decide) rfl ?_
  intro p e s m args below meth c s₁ B hml hv
  obtain rfl := hv
  have hx := B.exec
  have hb := B.bytes
  have hr := B.returns
  have hts := atoms_spec (ws := wsX5_noSheet) B.pre
  have hown : s.vm.findClass RX5 = some m.cls := findClass_of_methodNamed B.named
  have hlocks := B.notSynchronized
  have hl := lv_entry ([.int k0]) (n := 1) (Nat.le_of_ble_eq_true rfl)
  rw [lg_entry_eq]
  generalize (lg_sl ([.int k0]) ++ List.replicate (1 - (lg_sl ([.int k0])).length) Slot.unset).toArray = ls at hl ⊢
  have hl : lv_has ls 1 [(0, .int k0)] := hl
  refine lv_iload_n hx hb dX5_noSheet_0 rfl (lv_at hl 0 rfl) ?_
  refine lv_i2l (v := (k0).toInt64) hx hb dX5_noSheet_1 rfl ?_
  refine lv_lconst (v := (0)) hx hb dX5_noSheet_2 (by decide) ?_
  refine lv_ldc2 (v := (3)) hx hb hown (hts (.constantLong RX5 175 (3)) (by decide +kernel)) dX5_noSheet_3 ?_
  refine vp_callSi (W.runS (As := [.long ((k0).toInt64), .long (0 : Int64), .long (3 : Int64)]) (rest := []) ⟨hx, hb, hml, hown, hts⟩ (c_X5_in l ((k0).toInt64) (0 : Int64) (3 : Int64)) (cwS 3 hts gX5_noSheet_X5_in rfl rfl rfl (by decide +kernel) ⟨Nat.le_of_ble_eq_true rfl, Nat.le_of_ble_eq_true rfl⟩) (preEq) rfl rfl hl.1 rfl (lv_room (Nat.le_of_ble_eq_true rfl)) dX5_noSheet_6 ⟨Nat.zero_le _, Nat.zero_le _⟩) (fun r_1 er_1 => ?_)
  subst er_1
  refine lz_if_ne (tgt := 16) hx hb dX5_noSheet_9 (by decide) (fun c_2 => ?_) (fun c_2 => ?_)
  · refine lv_iconst (v := (0)) hx hb dX5_noSheet_16 (by decide) ?_
    exact W.zret (v := b2i false) hx hb hr (b2i_nar _) (fun t ht hW => ⟨_, rfl, (by rw [s_X5_noSheet, if_pos c_2]), ht⟩) (fun _ h => by cases h) dX5_noSheet_17
  · refine lv_iconst (v := (1)) hx hb dX5_noSheet_12 (by decide) ?_
    refine lv_goto (tgt := 17) hx hb dX5_noSheet_13 (by decide) ?_
    exact W.zret (v := b2i true) hx hb hr (b2i_nar _) (fun t ht hW => ⟨_, rfl, (by rw [s_X5_noSheet, if_neg (nb c_2)]), ht⟩) (fun _ h => by cases h) dX5_noSheet_17
def s_X5_isUp (N : Nat → Nat) (V : Nat → Int32) (A : Nat → Nat → Int32)  (set0 : Int32) (s0 : Int32) : Bool :=
  if ((set0 >>> (s0 &&& 31)) &&& (1 : Int32)) = (1 : Int32) then
    true
  else
    false
set_option maxHeartbeats 4000000 in
set_option maxRecDepth 100000 in
theorem c_X5_isUp (l : Launch) (D : va_G) (cI cZ cS : ClassId) (q : Nat → Nat) (N : Nat → Nat) (V : Nat → Int32) (A : Nat → Nat → Int32) (set0 : Int32) (s0 : Int32) : Met l yX5_isUp wsX5_isUp ({ frames := 0, cells := 0, slots := 0, locals := 0 }) (va_Pc [.ref (q 0), .int set0, .int s0] (PM D cI cZ cS q N V A)) (vp_Si (fun r => r = b2i (s_X5_isUp N V A set0 s0))) 0 0 (fun _ => False) := by
  refine Met.ofW (cc := cX5_isUp) (maxL := 3) (ret := (some .boolean)) (by decide) rfl ?_
  intro p e s m args below meth c s₁ B hml hv
  obtain ⟨rfl, hP, hK⟩ := hv
  have hx := B.exec
  have hb := B.bytes
  have hr := B.returns
  have hts := atoms_spec (ws := wsX5_isUp) B.pre
  have hown : s.vm.findClass RX5 = some m.cls := findClass_of_methodNamed B.named
  have hlocks := B.notSynchronized
  have hl := lv_entry ([.ref (q 0), .int set0, .int s0]) (n := 3) (Nat.le_of_ble_eq_true rfl)
  rw [lg_entry_eq]
  generalize (lg_sl ([.ref (q 0), .int set0, .int s0]) ++ List.replicate (3 - (lg_sl ([.ref (q 0), .int set0, .int s0])).length) Slot.unset).toArray = ls at hl ⊢
  have hl : lv_has ls 3 [(0, .ref (q 0)), (1, .int set0), (2, .int s0)] := hl
  refine lv_iload_n hx hb dX5_isUp_0 rfl (lv_at hl 1 rfl) ?_
  refine lv_iload_n hx hb dX5_isUp_1 rfl (lv_at hl 2 rfl) ?_
  refine lv_ishr hx hb dX5_isUp_2 ?_
  refine lv_iconst (v := (1)) hx hb dX5_isUp_3 (by decide) ?_
  refine lv_iand hx hb dX5_isUp_4 ?_
  refine lv_iconst (v := (1)) hx hb dX5_isUp_5 (by decide) ?_
  refine lv_icmp_ne (tgt := 13) hx hb dX5_isUp_6 (by decide) (fun c_1 => ?_) (fun c_1 => ?_)
  · refine lv_iconst (v := (0)) hx hb dX5_isUp_13 (by decide) ?_
    exact W.zret (v := b2i false) hx hb hr (b2i_nar _) (fun t ht hW => ⟨_, rfl, (by rw [s_X5_isUp, if_neg c_1]), ht⟩) (fun _ h => by cases h) dX5_isUp_14
  · refine lv_iconst (v := (1)) hx hb dX5_isUp_9 (by decide) ?_
    refine lv_goto (tgt := 14) hx hb dX5_isUp_10 (by decide) ?_
    exact W.zret (v := b2i true) hx hb hr (b2i_nar _) (fun t ht hW => ⟨_, rfl, (by rw [s_X5_isUp, if_pos c_1]), ht⟩) (fun _ h => by cases h) dX5_isUp_14
def s_X5_count_L1 (set0 : Int32) : Nat → Nat → Int32 → Int32
  | 0, k, a =>
    a
  | n + 1, k, a =>
    s_X5_count_L1 set0 n (k + 1) (a + ((set0 >>> (nI k &&& 31)) &&& (1 : Int32)))
def s_X5_count   (set0 : Int32) : Int32 :=
  (s_X5_count_L1 set0 16 0 (0 : Int32))
set_option maxHeartbeats 4000000 in
set_option maxRecDepth 100000 in
theorem c_X5_count (l : Launch) (set0 : Int32) : Met l yX5_count wsX5_count ({ frames := 0, cells := 0, slots := 0, locals := 0 }) (fun w _ => w = ([.int set0] : List Value).toArray) (vp_Si (fun r => r = (s_X5_count set0))) 0 0 (fun _ => False) := by
  refine Met.ofW (cc := cX5_count) (maxL := 3) (ret := (some .int)) (by decide) rfl ?_
  intro p e s m args below meth c s₁ B hml hv
  obtain rfl := hv
  have hx := B.exec
  have hb := B.bytes
  have hr := B.returns
  have hts := atoms_spec (ws := wsX5_count) B.pre
  have hown : s.vm.findClass RX5 = some m.cls := findClass_of_methodNamed B.named
  have hlocks := B.notSynchronized
  have hl := lv_entry ([.int set0]) (n := 3) (Nat.le_of_ble_eq_true rfl)
  rw [lg_entry_eq]
  generalize (lg_sl ([.int set0]) ++ List.replicate (3 - (lg_sl ([.int set0])).length) Slot.unset).toArray = ls at hl ⊢
  have hl : lv_has ls 3 [(0, .int set0)] := hl
  refine lv_iconst (v := (0)) hx hb dX5_count_0 (by decide) ?_
  refine lv_istore_n (lv' := [(1, .int (0)), (0, .int set0)]) hx hb dX5_count_1 rfl hl (by decide) rfl (fun ls hl => ?_)
  refine lv_iconst (v := (0)) hx hb dX5_count_2 (by decide) ?_
  refine lv_istore_n (lv' := [(2, .int (0)), (1, .int (0)), (0, .int set0)]) hx hb dX5_count_3 rfl hl (by decide) rfl (fun ls hl => ?_)
  have KL1 : ∀ (ls : Array Slot), lv_has ls 3 [(1, .int (s_X5_count_L1 set0 16 0 (0 : Int32))), (0, .int set0)] → W p l e (headSpec wsX5_count ({ frames := 0, cells := 0, slots := 0, locals := 0 })).room s m ([.int set0] : List Value).toArray below meth c s.heap [] 0 0 (MQ below (vp_Si (fun r => r = (s_X5_count set0))) ([.int set0] : List Value).toArray s 0 0 (fun _ => False)) (F0 m 24 ls []) := by
    intro ls hl
    refine lv_iload_n hx hb dX5_count_24 rfl (lv_at hl 0 rfl) ?_
    exact W.iret (v := (s_X5_count_L1 set0 16 0 (0 : Int32))) hx hb hr (fun t ht hW => ⟨_, rfl, (by rw [s_X5_count]), ht⟩) (fun _ h => by cases h) dX5_count_25
  have LL1 : ∀ (n k : Nat) (a : Int32) (ls : Array Slot), k + n = 16 → s_X5_count_L1 set0 16 0 (0 : Int32) = s_X5_count_L1 set0 n k a → lv_has ls 3 [(2, .int (nI k)), (1, .int a), (0, .int set0)] → W p l e (headSpec wsX5_count ({ frames := 0, cells := 0, slots := 0, locals := 0 })).room s m ([.int set0] : List Value).toArray below meth c s.heap [] 0 0 (MQ below (vp_Si (fun r => r = (s_X5_count set0))) ([.int set0] : List Value).toArray s 0 0 (fun _ => False)) (F0 m 4 ls []) := by
    intro n
    induction n with
    | zero =>
      intro k a ls hk hF hl
      refine lv_iload_n hx hb dX5_count_4 rfl (lv_at hl 0 rfl) ?_
      refine lv_bipush (v := (16)) hx hb dX5_count_5 (by decide) ?_
      refine lv_icmp_ge (tgt := 24) hx hb dX5_count_7 (by decide) (fun _ => ?_) (fun c_1 => absurd (nI_le (a := 16) (by omega) (by omega)) c_1)
      have hF : s_X5_count_L1 set0 16 0 (0 : Int32) = a := hF.trans (by rw [s_X5_count_L1])
      exact KL1 _ (by (try rw [hF]); exact lv_sub hl [1, 2] rfl)
    | succ n ih =>
      intro k a ls hk hF hl
      refine lv_iload_n hx hb dX5_count_4 rfl (lv_at hl 0 rfl) ?_
      refine lv_bipush (v := (16)) hx hb dX5_count_5 (by decide) ?_
      refine lv_icmp_ge (tgt := 24) hx hb dX5_count_7 (by decide) (fun c_2 => absurd c_2 (nI_ge (b := 16) (by omega) (by omega))) (fun _ => ?_)
      refine lv_iload_n hx hb dX5_count_10 rfl (lv_at hl 1 rfl) ?_
      refine lv_iload_n hx hb dX5_count_11 rfl (lv_at hl 2 rfl) ?_
      refine lv_iload_n hx hb dX5_count_12 rfl (lv_at hl 0 rfl) ?_
      refine lv_ishr hx hb dX5_count_13 ?_
      refine lv_iconst (v := (1)) hx hb dX5_count_14 (by decide) ?_
      refine lv_iand hx hb dX5_count_15 ?_
      refine lv_iadd hx hb dX5_count_16 ?_
      refine lv_istore_n (lv' := [(1, .int (a + ((set0 >>> (nI k &&& 31)) &&& (1 : Int32)))), (2, .int (nI k)), (0, .int set0)]) hx hb dX5_count_17 rfl hl (by decide) rfl (fun ls hl => ?_)
      refine lv_iinc (v := nI (k + 1)) (lv' := [(2, .int (nI (k + 1))), (1, .int (a + ((set0 >>> (nI k &&& 31)) &&& (1 : Int32)))), (0, .int set0)]) hx hb dX5_count_18 hl (k := 1) rfl (nI_1 k) (by decide) rfl (fun ls hl => ?_)
      refine lv_goto (tgt := 4) hx hb dX5_count_21 (by decide) ?_
      exact ih (k + 1) (a + ((set0 >>> (nI k &&& 31)) &&& (1 : Int32))) _ (by omega) (hF.trans (by rw [s_X5_count_L1])) (lv_sub hl [0, 1, 2] rfl)
  exact LL1 16 0 (0 : Int32) _ (by omega) rfl (lv_sub hl [0, 1, 2] rfl)
def s_X5_from (N : Nat → Nat) (V : Nat → Int32) (A : Nat → Nat → Int32)  (s0 : Nat) : Int32 :=
  if A 6 s0 ≤ 0 then
    (A 3 s0 - A 4 s0)
  else
    A 3 s0
set_option maxHeartbeats 4000000 in
set_option maxRecDepth 100000 in
theorem c_X5_from (l : Launch) (D : va_G) (cI cZ cS : ClassId) (q : Nat → Nat) (N : Nat → Nat) (V : Nat → Int32) (A : Nat → Nat → Int32) (s0 : Nat) (h_1 : s0 < 10) : Met l yX5_from wsX5_from ({ frames := 0, cells := 0, slots := 0, locals := 0 }) (va_Pc [.ref (q 0), .int (nI s0)] (PM D cI cZ cS q N V A)) (vp_Si (fun r => r = (s_X5_from N V A s0))) 0 0 (fun _ => False) := by
  refine Met.ofW (cc := cX5_from) (maxL := 2) (ret := (some .int)) (by decide) rfl ?_
  intro p e s m args below meth c s₁ B hml hv
  obtain ⟨rfl, hP, hK⟩ := hv
  have hx := B.exec
  have hb := B.bytes
  have hr := B.returns
  have hts := atoms_spec (ws := wsX5_from) B.pre
  have hown : s.vm.findClass RX5 = some m.cls := findClass_of_methodNamed B.named
  have hlocks := B.notSynchronized
  have hin5 : ∀ w ∈ u_ws RX5 TX5 22, w ∈ wsX5_from := by decide +kernel
  have hl := lv_entry ([.ref (q 0), .int (nI s0)]) (n := 2) (Nat.le_of_ble_eq_true rfl)
  rw [lg_entry_eq]
  generalize (lg_sl ([.ref (q 0), .int (nI s0)]) ++ List.replicate (2 - (lg_sl ([.ref (q 0), .int (nI s0)])).length) Slot.unset).toArray = ls at hl ⊢
  have hl : lv_has ls 2 [(0, .ref (q 0)), (1, .int (nI s0))] := hl
  refine lv_aload_n hx hb dX5_from_0 rfl (lv_at hl 0 rfl) ?_
  refine va_get (D := D) (ci := 5) (v := .ref (q 6)) (C := RX5) (T := TX5) (N := 22) hx hb hts hin5 hown hK hP 0 rfl rfl 7 (by decide) (hts (.fieldLink RX5 25 "NeckShipModel" "way" "[I") (by decide +kernel)) (fun _ h9 => h9) rfl dX5_from_1 ?_
  refine lv_iload_n hx hb dX5_from_4 rfl (lv_at hl 1 rfl) ?_
  refine va_ialdN (i := s0) hx hb hK hP 6 0 rfl rfl (by decide) (by omega) dX5_from_5 ?_
  refine lv_if_le (tgt := 18) hx hb dX5_from_6 (by decide) (fun c_1 => ?_) (fun c_1 => ?_)
  · refine lv_aload_n hx hb dX5_from_18 rfl (lv_at hl 0 rfl) ?_
    refine va_get (D := D) (ci := 5) (v := .ref (q 3)) (C := RX5) (T := TX5) (N := 22) hx hb hts hin5 hown hK hP 0 rfl rfl 4 (by decide) (hts (.fieldLink RX5 16 "NeckShipModel" "foot" "[I") (by decide +kernel)) (fun _ h9 => h9) rfl dX5_from_19 ?_
    refine lv_iload_n hx hb dX5_from_22 rfl (lv_at hl 1 rfl) ?_
    refine va_ialdN (i := s0) hx hb hK hP 3 0 rfl rfl (by decide) (by omega) dX5_from_23 ?_
    refine lv_aload_n hx hb dX5_from_24 rfl (lv_at hl 0 rfl) ?_
    refine va_get (D := D) (ci := 5) (v := .ref (q 4)) (C := RX5) (T := TX5) (N := 22) hx hb hts hin5 hown hK hP 0 rfl rfl 5 (by decide) (hts (.fieldLink RX5 19 "NeckShipModel" "size" "[I") (by decide +kernel)) (fun _ h9 => h9) rfl dX5_from_25 ?_
    refine lv_iload_n hx hb dX5_from_28 rfl (lv_at hl 1 rfl) ?_
    refine va_ialdN (i := s0) hx hb hK hP 4 0 rfl rfl (by decide) (by omega) dX5_from_29 ?_
    refine lv_isub hx hb dX5_from_30 ?_
    exact W.iret (v := (A 3 s0 - A 4 s0)) hx hb hr (fun t ht hW => ⟨_, rfl, (by rw [s_X5_from, if_pos c_1]), ht⟩) (fun _ h => by cases h) dX5_from_31
  · refine lv_aload_n hx hb dX5_from_9 rfl (lv_at hl 0 rfl) ?_
    refine va_get (D := D) (ci := 5) (v := .ref (q 3)) (C := RX5) (T := TX5) (N := 22) hx hb hts hin5 hown hK hP 0 rfl rfl 4 (by decide) (hts (.fieldLink RX5 16 "NeckShipModel" "foot" "[I") (by decide +kernel)) (fun _ h9 => h9) rfl dX5_from_10 ?_
    refine lv_iload_n hx hb dX5_from_13 rfl (lv_at hl 1 rfl) ?_
    refine va_ialdN (i := s0) hx hb hK hP 3 0 rfl rfl (by decide) (by omega) dX5_from_14 ?_
    refine lv_goto (tgt := 31) hx hb dX5_from_15 (by decide) ?_
    exact W.iret (v := A 3 s0) hx hb hr (fun t ht hW => ⟨_, rfl, (by rw [s_X5_from, if_neg c_1]), ht⟩) (fun _ h => by cases h) dX5_from_31
def s_X5_to (N : Nat → Nat) (V : Nat → Int32) (A : Nat → Nat → Int32)  (s0 : Nat) : Int32 :=
  if A 6 s0 ≤ 0 then
    A 3 s0
  else
    (A 3 s0 + A 4 s0)
set_option maxHeartbeats 4000000 in
set_option maxRecDepth 100000 in
theorem c_X5_to (l : Launch) (D : va_G) (cI cZ cS : ClassId) (q : Nat → Nat) (N : Nat → Nat) (V : Nat → Int32) (A : Nat → Nat → Int32) (s0 : Nat) (h_1 : s0 < 10) : Met l yX5_to wsX5_to ({ frames := 0, cells := 0, slots := 0, locals := 0 }) (va_Pc [.ref (q 0), .int (nI s0)] (PM D cI cZ cS q N V A)) (vp_Si (fun r => r = (s_X5_to N V A s0))) 0 0 (fun _ => False) := by
  refine Met.ofW (cc := cX5_to) (maxL := 2) (ret := (some .int)) (by decide) rfl ?_
  intro p e s m args below meth c s₁ B hml hv
  obtain ⟨rfl, hP, hK⟩ := hv
  have hx := B.exec
  have hb := B.bytes
  have hr := B.returns
  have hts := atoms_spec (ws := wsX5_to) B.pre
  have hown : s.vm.findClass RX5 = some m.cls := findClass_of_methodNamed B.named
  have hlocks := B.notSynchronized
  have hin5 : ∀ w ∈ u_ws RX5 TX5 22, w ∈ wsX5_to := by decide +kernel
  have hl := lv_entry ([.ref (q 0), .int (nI s0)]) (n := 2) (Nat.le_of_ble_eq_true rfl)
  rw [lg_entry_eq]
  generalize (lg_sl ([.ref (q 0), .int (nI s0)]) ++ List.replicate (2 - (lg_sl ([.ref (q 0), .int (nI s0)])).length) Slot.unset).toArray = ls at hl ⊢
  have hl : lv_has ls 2 [(0, .ref (q 0)), (1, .int (nI s0))] := hl
  refine lv_aload_n hx hb dX5_to_0 rfl (lv_at hl 0 rfl) ?_
  refine va_get (D := D) (ci := 5) (v := .ref (q 6)) (C := RX5) (T := TX5) (N := 22) hx hb hts hin5 hown hK hP 0 rfl rfl 7 (by decide) (hts (.fieldLink RX5 25 "NeckShipModel" "way" "[I") (by decide +kernel)) (fun _ h9 => h9) rfl dX5_to_1 ?_
  refine lv_iload_n hx hb dX5_to_4 rfl (lv_at hl 1 rfl) ?_
  refine va_ialdN (i := s0) hx hb hK hP 6 0 rfl rfl (by decide) (by omega) dX5_to_5 ?_
  refine lv_if_le (tgt := 25) hx hb dX5_to_6 (by decide) (fun c_1 => ?_) (fun c_1 => ?_)
  · refine lv_aload_n hx hb dX5_to_25 rfl (lv_at hl 0 rfl) ?_
    refine va_get (D := D) (ci := 5) (v := .ref (q 3)) (C := RX5) (T := TX5) (N := 22) hx hb hts hin5 hown hK hP 0 rfl rfl 4 (by decide) (hts (.fieldLink RX5 16 "NeckShipModel" "foot" "[I") (by decide +kernel)) (fun _ h9 => h9) rfl dX5_to_26 ?_
    refine lv_iload_n hx hb dX5_to_29 rfl (lv_at hl 1 rfl) ?_
    refine va_ialdN (i := s0) hx hb hK hP 3 0 rfl rfl (by decide) (by omega) dX5_to_30 ?_
    exact W.iret (v := A 3 s0) hx hb hr (fun t ht hW => ⟨_, rfl, (by rw [s_X5_to, if_pos c_1]), ht⟩) (fun _ h => by cases h) dX5_to_31
  · refine lv_aload_n hx hb dX5_to_9 rfl (lv_at hl 0 rfl) ?_
    refine va_get (D := D) (ci := 5) (v := .ref (q 3)) (C := RX5) (T := TX5) (N := 22) hx hb hts hin5 hown hK hP 0 rfl rfl 4 (by decide) (hts (.fieldLink RX5 16 "NeckShipModel" "foot" "[I") (by decide +kernel)) (fun _ h9 => h9) rfl dX5_to_10 ?_
    refine lv_iload_n hx hb dX5_to_13 rfl (lv_at hl 1 rfl) ?_
    refine va_ialdN (i := s0) hx hb hK hP 3 0 rfl rfl (by decide) (by omega) dX5_to_14 ?_
    refine lv_aload_n hx hb dX5_to_15 rfl (lv_at hl 0 rfl) ?_
    refine va_get (D := D) (ci := 5) (v := .ref (q 4)) (C := RX5) (T := TX5) (N := 22) hx hb hts hin5 hown hK hP 0 rfl rfl 5 (by decide) (hts (.fieldLink RX5 19 "NeckShipModel" "size" "[I") (by decide +kernel)) (fun _ h9 => h9) rfl dX5_to_16 ?_
    refine lv_iload_n hx hb dX5_to_19 rfl (lv_at hl 1 rfl) ?_
    refine va_ialdN (i := s0) hx hb hK hP 4 0 rfl rfl (by decide) (by omega) dX5_to_20 ?_
    refine lv_iadd hx hb dX5_to_21 ?_
    refine lv_goto (tgt := 31) hx hb dX5_to_22 (by decide) ?_
    exact W.iret (v := (A 3 s0 + A 4 s0)) hx hb hr (fun t ht hW => ⟨_, rfl, (by rw [s_X5_to, if_neg c_1]), ht⟩) (fun _ h => by cases h) dX5_to_31
def s_X5_isOver (N : Nat → Nat) (V : Nat → Int32) (A : Nat → Nat → Int32)  (a0 : Nat) (b0 : Nat) : Bool :=
  if nI b0 ≤ nI a0 then
    false
  else
    if (s_X5_lesser (s_X5_to N V A a0) (s_X5_to N V A b0)) ≤ (s_X5_greater (s_X5_from N V A a0) (s_X5_from N V A b0)) then
      false
    else
      true
set_option maxHeartbeats 4000000 in
set_option maxRecDepth 100000 in
theorem c_X5_isOver (l : Launch) (D : va_G) (cI cZ cS : ClassId) (q : Nat → Nat) (N : Nat → Nat) (V : Nat → Int32) (A : Nat → Nat → Int32) (a0 : Nat) (b0 : Nat) (h_1 : a0 < 10) (h_2 : b0 < 10) : Met l yX5_isOver wsX5_isOver ({ frames := 1, cells := 0, slots := 0, locals := 21 }) (va_Pc [.ref (q 0), .int (nI a0), .int (nI b0)] (PM D cI cZ cS q N V A)) (vp_Si (fun r => r = b2i (s_X5_isOver N V A a0 b0))) 0 0 (fun _ => False) := by
  refine Met.ofW (cc := cX5_isOver) (maxL := 3) (ret := (some .boolean)) (by decide) rfl ?_
  intro p e s m args below meth c s₁ B hml hv
  obtain ⟨rfl, hP, hK⟩ := hv
  have hx := B.exec
  have hb := B.bytes
  have hr := B.returns
  have hts := atoms_spec (ws := wsX5_isOver) B.pre
  have hown : s.vm.findClass RX5 = some m.cls := findClass_of_methodNamed B.named
  have hlocks := B.notSynchronized
  have hl := lv_entry ([.ref (q 0), .int (nI a0), .int (nI b0)]) (n := 3) (Nat.le_of_ble_eq_true rfl)
  rw [lg_entry_eq]
  generalize (lg_sl ([.ref (q 0), .int (nI a0), .int (nI b0)]) ++ List.replicate (3 - (lg_sl ([.ref (q 0), .int (nI a0), .int (nI b0)])).length) Slot.unset).toArray = ls at hl ⊢
  have hl : lv_has ls 3 [(0, .ref (q 0)), (1, .int (nI a0)), (2, .int (nI b0))] := hl
  refine lv_iload_n hx hb dX5_isOver_0 rfl (lv_at hl 2 rfl) ?_
  refine lv_iload_n hx hb dX5_isOver_1 rfl (lv_at hl 1 rfl) ?_
  refine lv_icmp_le (tgt := 38) hx hb dX5_isOver_2 (by decide) (fun c_1 => ?_) (fun c_1 => ?_)
  · refine lv_iconst (v := (0)) hx hb dX5_isOver_38 (by decide) ?_
    exact W.zret (v := b2i false) hx hb hr (b2i_nar _) (fun t ht hW => ⟨_, rfl, (by rw [s_X5_isOver, if_pos c_1]), ht⟩) (fun _ h => by cases h) dX5_isOver_39
  · refine lv_aload_n hx hb dX5_isOver_5 rfl (lv_at hl 0 rfl) ?_
    refine lv_iload_n hx hb dX5_isOver_6 rfl (lv_at hl 1 rfl) ?_
    refine vp_callSi (W.runV (As := [.int (nI a0)]) (rest := []) ⟨hx, hb, hml, hown, hts⟩ (c_X5_to l D cI cZ cS q N V A a0 (by omega)) (cwV 1 hts gX5_isOver_X5_to rfl rfl rfl (by decide +kernel) ⟨Nat.le_of_ble_eq_true rfl, Nat.le_of_ble_eq_true rfl⟩) (preM hK hP) rfl rfl hl.1 rfl (lv_room (Nat.le_of_ble_eq_true rfl)) dX5_isOver_7 ⟨Nat.zero_le _, Nat.zero_le _⟩) (fun r_2 er_2 => ?_)
    subst er_2
    refine lv_aload_n hx hb dX5_isOver_10 rfl (lv_at hl 0 rfl) ?_
    refine lv_iload_n hx hb dX5_isOver_11 rfl (lv_at hl 2 rfl) ?_
    refine vp_callSi (W.runV (As := [.int (nI b0)]) (rest := [.int (s_X5_to N V A a0)]) ⟨hx, hb, hml, hown, hts⟩ (c_X5_to l D cI cZ cS q N V A b0 (by omega)) (cwV 1 hts gX5_isOver_X5_to rfl rfl rfl (by decide +kernel) ⟨Nat.le_of_ble_eq_true rfl, Nat.le_of_ble_eq_true rfl⟩) (preM hK hP) rfl rfl hl.1 rfl (lv_room (Nat.le_of_ble_eq_true rfl)) dX5_isOver_12 ⟨Nat.zero_le _, Nat.zero_le _⟩) (fun r_3 er_3 => ?_)
    subst er_3
    refine vp_callSi (W.runS (As := [.int (s_X5_to N V A a0), .int (s_X5_to N V A b0)]) (rest := []) ⟨hx, hb, hml, hown, hts⟩ (c_X5_lesser l (s_X5_to N V A a0) (s_X5_to N V A b0)) (cwS 2 hts gX5_isOver_X5_lesser rfl rfl rfl (by decide +kernel) ⟨Nat.le_of_ble_eq_true rfl, Nat.le_of_ble_eq_true rfl⟩) (preEq) rfl rfl hl.1 rfl (lv_room (Nat.le_of_ble_eq_true rfl)) dX5_isOver_15 ⟨Nat.zero_le _, Nat.zero_le _⟩) (fun r_4 er_4 => ?_)
    subst er_4
    refine lv_aload_n hx hb dX5_isOver_18 rfl (lv_at hl 0 rfl) ?_
    refine lv_iload_n hx hb dX5_isOver_19 rfl (lv_at hl 1 rfl) ?_
    refine vp_callSi (W.runV (As := [.int (nI a0)]) (rest := [.int (s_X5_lesser (s_X5_to N V A a0) (s_X5_to N V A b0))]) ⟨hx, hb, hml, hown, hts⟩ (c_X5_from l D cI cZ cS q N V A a0 (by omega)) (cwV 1 hts gX5_isOver_X5_from rfl rfl rfl (by decide +kernel) ⟨Nat.le_of_ble_eq_true rfl, Nat.le_of_ble_eq_true rfl⟩) (preM hK hP) rfl rfl hl.1 rfl (lv_room (Nat.le_of_ble_eq_true rfl)) dX5_isOver_20 ⟨Nat.zero_le _, Nat.zero_le _⟩) (fun r_5 er_5 => ?_)
    subst er_5
    refine lv_aload_n hx hb dX5_isOver_23 rfl (lv_at hl 0 rfl) ?_
    refine lv_iload_n hx hb dX5_isOver_24 rfl (lv_at hl 2 rfl) ?_
    refine vp_callSi (W.runV (As := [.int (nI b0)]) (rest := [.int (s_X5_from N V A a0), .int (s_X5_lesser (s_X5_to N V A a0) (s_X5_to N V A b0))]) ⟨hx, hb, hml, hown, hts⟩ (c_X5_from l D cI cZ cS q N V A b0 (by omega)) (cwV 1 hts gX5_isOver_X5_from rfl rfl rfl (by decide +kernel) ⟨Nat.le_of_ble_eq_true rfl, Nat.le_of_ble_eq_true rfl⟩) (preM hK hP) rfl rfl hl.1 rfl (lv_room (Nat.le_of_ble_eq_true rfl)) dX5_isOver_25 ⟨Nat.zero_le _, Nat.zero_le _⟩) (fun r_6 er_6 => ?_)
    subst er_6
    refine vp_callSi (W.runS (As := [.int (s_X5_from N V A a0), .int (s_X5_from N V A b0)]) (rest := [.int (s_X5_lesser (s_X5_to N V A a0) (s_X5_to N V A b0))]) ⟨hx, hb, hml, hown, hts⟩ (c_X5_greater l (s_X5_from N V A a0) (s_X5_from N V A b0)) (cwS 2 hts gX5_isOver_X5_greater rfl rfl rfl (by decide +kernel) ⟨Nat.le_of_ble_eq_true rfl, Nat.le_of_ble_eq_true rfl⟩) (preEq) rfl rfl hl.1 rfl (lv_room (Nat.le_of_ble_eq_true rfl)) dX5_isOver_28 ⟨Nat.zero_le _, Nat.zero_le _⟩) (fun r_7 er_7 => ?_)
    subst er_7
    refine lv_icmp_le (tgt := 38) hx hb dX5_isOver_31 (by decide) (fun c_8 => ?_) (fun c_8 => ?_)
    · refine lv_iconst (v := (0)) hx hb dX5_isOver_38 (by decide) ?_
      exact W.zret (v := b2i false) hx hb hr (b2i_nar _) (fun t ht hW => ⟨_, rfl, (by rw [s_X5_isOver, if_neg c_1, if_pos c_8]), ht⟩) (fun _ h => by cases h) dX5_isOver_39
    · refine lv_iconst (v := (1)) hx hb dX5_isOver_34 (by decide) ?_
      refine lv_goto (tgt := 39) hx hb dX5_isOver_35 (by decide) ?_
      exact W.zret (v := b2i true) hx hb hr (b2i_nar _) (fun t ht hW => ⟨_, rfl, (by rw [s_X5_isOver, if_neg c_1, if_neg c_8]), ht⟩) (fun _ h => by cases h) dX5_isOver_39
def s_X5_isBeyond   (i0 : Int32) (n0 : Int64) (all0 : Int32) : Bool :=
  if i0 < 0 then
    true
  else
    if (lg_cmp n0 (0 : Int64)) < 0 then
      true
    else
      if (lg_cmp ((i0).toInt64 + n0) ((all0).toInt64)) ≤ 0 then
        false
      else
        true
set_option maxHeartbeats 4000000 in
set_option maxRecDepth 100000 in
theorem c_X5_isBeyond (l : Launch) (i0 : Int32) (n0 : Int64) (all0 : Int32) : Met l yX5_isBeyond wsX5_isBeyond ({ frames := 0, cells := 0, slots := 0, locals := 0 }) (fun w _ => w = ([.int i0, .long n0, .int all0] : List Value).toArray) (vp_Si (fun r => r = b2i (s_X5_isBeyond i0 n0 all0))) 0 0 (fun _ => False) := by
  refine Met.ofW (cc := cX5_isBeyond) (maxL := 4) (ret := (some .boolean)) (by decide) rfl ?_
  intro p e s m args below meth c s₁ B hml hv
  obtain rfl := hv
  have hx := B.exec
  have hb := B.bytes
  have hr := B.returns
  have hts := atoms_spec (ws := wsX5_isBeyond) B.pre
  have hown : s.vm.findClass RX5 = some m.cls := findClass_of_methodNamed B.named
  have hlocks := B.notSynchronized
  have hl := lv_entry ([.int i0, .long n0, .int all0]) (n := 4) (Nat.le_of_ble_eq_true rfl)
  rw [lg_entry_eq]
  generalize (lg_sl ([.int i0, .long n0, .int all0]) ++ List.replicate (4 - (lg_sl ([.int i0, .long n0, .int all0])).length) Slot.unset).toArray = ls at hl ⊢
  have hl : lv_has ls 4 [(0, .int i0), (1, .long n0), (3, .int all0)] := hl
  refine lv_iload_n hx hb dX5_isBeyond_0 rfl (lv_at hl 0 rfl) ?_
  refine lv_if_lt (tgt := 20) hx hb dX5_isBeyond_1 (by decide) (fun c_1 => ?_) (fun c_1 => ?_)
  · refine lv_iconst (v := (1)) hx hb dX5_isBeyond_20 (by decide) ?_
    refine lv_goto (tgt := 25) hx hb dX5_isBeyond_21 (by decide) ?_
    exact W.zret (v := b2i true) hx hb hr (b2i_nar _) (fun t ht hW => ⟨_, rfl, (by rw [s_X5_isBeyond, if_pos c_1]), ht⟩) (fun _ h => by cases h) dX5_isBeyond_25
  · refine lv_lload_n hx hb dX5_isBeyond_4 rfl (lv_at hl 1 rfl) ?_
    refine lv_lconst (v := (0)) hx hb dX5_isBeyond_5 (by decide) ?_
    refine W.lcmp hx hb dX5_isBeyond_6 ?_
    refine lv_if_lt (tgt := 20) hx hb dX5_isBeyond_7 (by decide) (fun c_2 => ?_) (fun c_2 => ?_)
    · refine lv_iconst (v := (1)) hx hb dX5_isBeyond_20 (by decide) ?_
      refine lv_goto (tgt := 25) hx hb dX5_isBeyond_21 (by decide) ?_
      exact W.zret (v := b2i true) hx hb hr (b2i_nar _) (fun t ht hW => ⟨_, rfl, (by rw [s_X5_isBeyond, if_neg c_1, if_pos c_2]), ht⟩) (fun _ h => by cases h) dX5_isBeyond_25
    · refine lv_iload_n hx hb dX5_isBeyond_10 rfl (lv_at hl 0 rfl) ?_
      refine lv_i2l (v := (i0).toInt64) hx hb dX5_isBeyond_11 rfl ?_
      refine lv_lload_n hx hb dX5_isBeyond_12 rfl (lv_at hl 1 rfl) ?_
      refine lv_ladd hx hb dX5_isBeyond_13 ?_
      refine lv_iload_n hx hb dX5_isBeyond_14 rfl (lv_at hl 2 rfl) ?_
      refine lv_i2l (v := (all0).toInt64) hx hb dX5_isBeyond_15 rfl ?_
      refine W.lcmp hx hb dX5_isBeyond_16 ?_
      refine lv_if_le (tgt := 24) hx hb dX5_isBeyond_17 (by decide) (fun c_3 => ?_) (fun c_3 => ?_)
      · refine lv_iconst (v := (0)) hx hb dX5_isBeyond_24 (by decide) ?_
        exact W.zret (v := b2i false) hx hb hr (b2i_nar _) (fun t ht hW => ⟨_, rfl, (by rw [s_X5_isBeyond, if_neg c_1, if_neg c_2, if_pos c_3]), ht⟩) (fun _ h => by cases h) dX5_isBeyond_25
      · refine lv_iconst (v := (1)) hx hb dX5_isBeyond_20 (by decide) ?_
        refine lv_goto (tgt := 25) hx hb dX5_isBeyond_21 (by decide) ?_
        exact W.zret (v := b2i true) hx hb hr (b2i_nar _) (fun t ht hW => ⟨_, rfl, (by rw [s_X5_isBeyond, if_neg c_1, if_neg c_2, if_neg c_3]), ht⟩) (fun _ h => by cases h) dX5_isBeyond_25
def s_X5_isTooShort_L1 (N : Nat → Nat) (V : Nat → Int32) (A : Nat → Nat → Int32) (v0 : Int32) : Nat → Nat → Bool → Bool
  | 0, k, a =>
    a
  | n + 1, k, a =>
    if a = true then
      s_X5_isTooShort_L1 N V A v0 n (k + 1) true
    else
      if A 3 k ≤ v0 then
        s_X5_isTooShort_L1 N V A v0 n (k + 1) false
      else
        s_X5_isTooShort_L1 N V A v0 n (k + 1) true
def s_X5_isTooShort_L2 (N : Nat → Nat) (V : Nat → Int32) (A : Nat → Nat → Int32) (v0 : Int32) : Nat → Nat → Bool → Bool
  | 0, k, a =>
    a
  | n + 1, k, a =>
    if a = true then
      s_X5_isTooShort_L2 N V A v0 n (k + 1) true
    else
      if A 7 k ≤ (v0 + (20 : Int32)) then
        s_X5_isTooShort_L2 N V A v0 n (k + 1) false
      else
        s_X5_isTooShort_L2 N V A v0 n (k + 1) true
def s_X5_isTooShort (N : Nat → Nat) (V : Nat → Int32) (A : Nat → Nat → Int32)  (v0 : Int32) : Bool :=
  (s_X5_isTooShort_L2 N V A v0 (N 1) 0 (s_X5_isTooShort_L1 N V A v0 (N 0) 0 false))
set_option maxHeartbeats 4000000 in
set_option maxRecDepth 100000 in
theorem c_X5_isTooShort (l : Launch) (D : va_G) (cI cZ cS : ClassId) (q : Nat → Nat) (N : Nat → Nat) (V : Nat → Int32) (A : Nat → Nat → Int32) (v0 : Int32) (h_1 : okM N A) : Met l yX5_isTooShort wsX5_isTooShort ({ frames := 0, cells := 0, slots := 0, locals := 0 }) (va_Pc [.ref (q 0), .int v0] (PM D cI cZ cS q N V A)) (vp_Si (fun r => r = b2i (s_X5_isTooShort N V A v0))) 0 0 (fun _ => False) := by
  refine Met.ofW (cc := cX5_isTooShort) (maxL := 4) (ret := (some .boolean)) (by decide) rfl ?_
  intro p e s m args below meth c s₁ B hml hv
  obtain ⟨rfl, hP, hK⟩ := hv
  have hx := B.exec
  have hb := B.bytes
  have hr := B.returns
  have hts := atoms_spec (ws := wsX5_isTooShort) B.pre
  have hown : s.vm.findClass RX5 = some m.cls := findClass_of_methodNamed B.named
  have hlocks := B.notSynchronized
  have hin5 : ∀ w ∈ u_ws RX5 TX5 22, w ∈ wsX5_isTooShort := by decide +kernel
  obtain ⟨o1, o2, o3, o4, o5, o6, o7⟩ := id h_1
  have hl := lv_entry ([.ref (q 0), .int v0]) (n := 4) (Nat.le_of_ble_eq_true rfl)
  rw [lg_entry_eq]
  generalize (lg_sl ([.ref (q 0), .int v0]) ++ List.replicate (4 - (lg_sl ([.ref (q 0), .int v0])).length) Slot.unset).toArray = ls at hl ⊢
  have hl : lv_has ls 4 [(0, .ref (q 0)), (1, .int v0)] := hl
  refine lv_iconst (v := (0)) hx hb dX5_isTooShort_0 (by decide) ?_
  refine lv_istore_n (lv' := [(2, .int (0)), (0, .ref (q 0)), (1, .int v0)]) hx hb dX5_isTooShort_1 rfl hl (by decide) rfl (fun ls hl => ?_)
  refine lv_iconst (v := (0)) hx hb dX5_isTooShort_2 (by decide) ?_
  refine lv_istore_n (lv' := [(3, .int (0)), (2, .int (0)), (0, .ref (q 0)), (1, .int v0)]) hx hb dX5_isTooShort_3 rfl hl (by decide) rfl (fun ls hl => ?_)
  have KL1 : ∀ (ls : Array Slot), lv_has ls 4 [(2, .int (b2i (s_X5_isTooShort_L1 N V A v0 (N 0) 0 false))), (0, .ref (q 0)), (1, .int v0)] → W p l e (headSpec wsX5_isTooShort ({ frames := 0, cells := 0, slots := 0, locals := 0 })).room s m ([.ref (q 0), .int v0] : List Value).toArray below meth c s.heap [] 0 0 (MQ below (vp_Si (fun r => r = b2i (s_X5_isTooShort N V A v0))) ([.ref (q 0), .int v0] : List Value).toArray s 0 0 (fun _ => False)) (F0 m 38 ls []) := by
    intro ls hl
    refine lv_iconst (v := (0)) hx hb dX5_isTooShort_38 (by decide) ?_
    refine lv_istore_n (lv' := [(3, .int (0)), (2, .int (b2i (s_X5_isTooShort_L1 N V A v0 (N 0) 0 false))), (0, .ref (q 0)), (1, .int v0)]) hx hb dX5_isTooShort_39 rfl hl (by decide) rfl (fun ls hl => ?_)
    have KL2 : ∀ (ls : Array Slot), lv_has ls 4 [(2, .int (b2i (s_X5_isTooShort_L2 N V A v0 (N 1) 0 (s_X5_isTooShort_L1 N V A v0 (N 0) 0 false)))), (0, .ref (q 0)), (1, .int v0)] → W p l e (headSpec wsX5_isTooShort ({ frames := 0, cells := 0, slots := 0, locals := 0 })).room s m ([.ref (q 0), .int v0] : List Value).toArray below meth c s.heap [] 0 0 (MQ below (vp_Si (fun r => r = b2i (s_X5_isTooShort N V A v0))) ([.ref (q 0), .int v0] : List Value).toArray s 0 0 (fun _ => False)) (F0 m 77 ls []) := by
      intro ls hl
      refine lv_iload_n hx hb dX5_isTooShort_77 rfl (lv_at hl 0 rfl) ?_
      exact W.zret (v := b2i (s_X5_isTooShort_L2 N V A v0 (N 1) 0 (s_X5_isTooShort_L1 N V A v0 (N 0) 0 false))) hx hb hr (b2i_nar _) (fun t ht hW => ⟨_, rfl, (by rw [s_X5_isTooShort]), ht⟩) (fun _ h => by cases h) dX5_isTooShort_78
    have LL2 : ∀ (n k : Nat) (a : Bool) (ls : Array Slot), k + n = N 1 → s_X5_isTooShort_L2 N V A v0 (N 1) 0 (s_X5_isTooShort_L1 N V A v0 (N 0) 0 false) = s_X5_isTooShort_L2 N V A v0 n k a → lv_has ls 4 [(3, .int (nI k)), (2, .int (b2i a)), (0, .ref (q 0)), (1, .int v0)] → W p l e (headSpec wsX5_isTooShort ({ frames := 0, cells := 0, slots := 0, locals := 0 })).room s m ([.ref (q 0), .int v0] : List Value).toArray below meth c s.heap [] 0 0 (MQ below (vp_Si (fun r => r = b2i (s_X5_isTooShort N V A v0))) ([.ref (q 0), .int v0] : List Value).toArray s 0 0 (fun _ => False)) (F0 m 40 ls []) := by
      intro n
      induction n with
      | zero =>
        intro k a ls hk hF hl
        refine lv_iload_n hx hb dX5_isTooShort_40 rfl (lv_at hl 0 rfl) ?_
        refine lv_aload_n hx hb dX5_isTooShort_41 rfl (lv_at hl 2 rfl) ?_
        refine va_get (D := D) (ci := 5) (v := .int (nI (N 1))) (C := RX5) (T := TX5) (N := 22) hx hb hts hin5 hown hK hP 0 rfl rfl 9 (by decide) (hts (.fieldLink RX5 79 "NeckShipModel" "threads" "I") (by decide +kernel)) (fun _ h9 => h9) rfl dX5_isTooShort_42 ?_
        refine lv_icmp_ge (tgt := 77) hx hb dX5_isTooShort_45 (by decide) (fun _ => ?_) (fun c_1 => absurd (nI_le (by omega) (by omega)) c_1)
        have hF : s_X5_isTooShort_L2 N V A v0 (N 1) 0 (s_X5_isTooShort_L1 N V A v0 (N 0) 0 false) = a := hF.trans (by rw [s_X5_isTooShort_L2])
        exact KL2 _ (by (try rw [hF]); exact lv_sub hl [1, 2, 3] rfl)
      | succ n ih =>
        intro k a ls hk hF hl
        refine lv_iload_n hx hb dX5_isTooShort_40 rfl (lv_at hl 0 rfl) ?_
        refine lv_aload_n hx hb dX5_isTooShort_41 rfl (lv_at hl 2 rfl) ?_
        refine va_get (D := D) (ci := 5) (v := .int (nI (N 1))) (C := RX5) (T := TX5) (N := 22) hx hb hts hin5 hown hK hP 0 rfl rfl 9 (by decide) (hts (.fieldLink RX5 79 "NeckShipModel" "threads" "I") (by decide +kernel)) (fun _ h9 => h9) rfl dX5_isTooShort_42 ?_
        refine lv_icmp_ge (tgt := 77) hx hb dX5_isTooShort_45 (by decide) (fun c_2 => absurd c_2 (nI_ge (by omega) (by omega))) (fun _ => ?_)
        refine lv_iload_n hx hb dX5_isTooShort_48 rfl (lv_at hl 1 rfl) ?_
        refine lz_if_ne (tgt := 65) hx hb dX5_isTooShort_49 (by decide) (fun c_3 => ?_) (fun c_3 => ?_)
        · refine lv_iconst (v := (1)) hx hb dX5_isTooShort_65 (by decide) ?_
          refine lv_goto (tgt := 70) hx hb dX5_isTooShort_66 (by decide) ?_
          refine lv_istore_n (lv' := [(2, .int (1)), (3, .int (nI k)), (0, .ref (q 0)), (1, .int v0)]) hx hb dX5_isTooShort_70 rfl hl (by decide) rfl (fun ls hl => ?_)
          refine lv_iinc (v := nI (k + 1)) (lv' := [(3, .int (nI (k + 1))), (2, .int (1)), (0, .ref (q 0)), (1, .int v0)]) hx hb dX5_isTooShort_71 hl (k := 1) rfl (nI_1 k) (by decide) rfl (fun ls hl => ?_)
          refine lv_goto (tgt := 40) hx hb dX5_isTooShort_74 (by decide) ?_
          exact ih (k + 1) true _ (by omega) (hF.trans (by rw [s_X5_isTooShort_L2, if_pos c_3])) (lv_sub hl [0, 1, 2, 3] rfl)
        · refine lv_aload_n hx hb dX5_isTooShort_52 rfl (lv_at hl 2 rfl) ?_
          refine va_get (D := D) (ci := 5) (v := .ref (q 7)) (C := RX5) (T := TX5) (N := 22) hx hb hts hin5 hown hK hP 0 rfl rfl 10 (by decide) (hts (.fieldLink RX5 28 "NeckShipModel" "holes" "[I") (by decide +kernel)) (fun _ h9 => h9) rfl dX5_isTooShort_53 ?_
          refine lv_iload_n hx hb dX5_isTooShort_56 rfl (lv_at hl 0 rfl) ?_
          refine va_ialdN (i := k) hx hb hK hP 7 0 rfl rfl (by decide) (by omega) dX5_isTooShort_57 ?_
          refine lv_iload_n hx hb dX5_isTooShort_58 rfl (lv_at hl 3 rfl) ?_
          refine lv_bipush (v := (20)) hx hb dX5_isTooShort_59 (by decide) ?_
          refine lv_iadd hx hb dX5_isTooShort_61 ?_
          refine lv_icmp_le (tgt := 69) hx hb dX5_isTooShort_62 (by decide) (fun c_4 => ?_) (fun c_4 => ?_)
          · refine lv_iconst (v := (0)) hx hb dX5_isTooShort_69 (by decide) ?_
            refine lv_istore_n (lv' := [(2, .int (0)), (3, .int (nI k)), (0, .ref (q 0)), (1, .int v0)]) hx hb dX5_isTooShort_70 rfl hl (by decide) rfl (fun ls hl => ?_)
            refine lv_iinc (v := nI (k + 1)) (lv' := [(3, .int (nI (k + 1))), (2, .int (0)), (0, .ref (q 0)), (1, .int v0)]) hx hb dX5_isTooShort_71 hl (k := 1) rfl (nI_1 k) (by decide) rfl (fun ls hl => ?_)
            refine lv_goto (tgt := 40) hx hb dX5_isTooShort_74 (by decide) ?_
            exact ih (k + 1) false _ (by omega) (hF.trans (by rw [s_X5_isTooShort_L2, if_neg (nb c_3), if_pos c_4])) (lv_sub hl [0, 1, 2, 3] rfl)
          · refine lv_iconst (v := (1)) hx hb dX5_isTooShort_65 (by decide) ?_
            refine lv_goto (tgt := 70) hx hb dX5_isTooShort_66 (by decide) ?_
            refine lv_istore_n (lv' := [(2, .int (1)), (3, .int (nI k)), (0, .ref (q 0)), (1, .int v0)]) hx hb dX5_isTooShort_70 rfl hl (by decide) rfl (fun ls hl => ?_)
            refine lv_iinc (v := nI (k + 1)) (lv' := [(3, .int (nI (k + 1))), (2, .int (1)), (0, .ref (q 0)), (1, .int v0)]) hx hb dX5_isTooShort_71 hl (k := 1) rfl (nI_1 k) (by decide) rfl (fun ls hl => ?_)
            refine lv_goto (tgt := 40) hx hb dX5_isTooShort_74 (by decide) ?_
            exact ih (k + 1) true _ (by omega) (hF.trans (by rw [s_X5_isTooShort_L2, if_neg (nb c_3), if_neg c_4])) (lv_sub hl [0, 1, 2, 3] rfl)
    exact LL2 (N 1) 0 (s_X5_isTooShort_L1 N V A v0 (N 0) 0 false) _ (by omega) rfl (lv_sub hl [0, 1, 2, 3] rfl)
  have LL1 : ∀ (n k : Nat) (a : Bool) (ls : Array Slot), k + n = N 0 → s_X5_isTooShort_L1 N V A v0 (N 0) 0 false = s_X5_isTooShort_L1 N V A v0 n k a → lv_has ls 4 [(3, .int (nI k)), (2, .int (b2i a)), (0, .ref (q 0)), (1, .int v0)] → W p l e (headSpec wsX5_isTooShort ({ frames := 0, cells := 0, slots := 0, locals := 0 })).room s m ([.ref (q 0), .int v0] : List Value).toArray below meth c s.heap [] 0 0 (MQ below (vp_Si (fun r => r = b2i (s_X5_isTooShort N V A v0))) ([.ref (q 0), .int v0] : List Value).toArray s 0 0 (fun _ => False)) (F0 m 4 ls []) := by
    intro n
    induction n with
    | zero =>
      intro k a ls hk hF hl
      refine lv_iload_n hx hb dX5_isTooShort_4 rfl (lv_at hl 0 rfl) ?_
      refine lv_aload_n hx hb dX5_isTooShort_5 rfl (lv_at hl 2 rfl) ?_
      refine va_get (D := D) (ci := 5) (v := .int (nI (N 0))) (C := RX5) (T := TX5) (N := 22) hx hb hts hin5 hown hK hP 0 rfl rfl 2 (by decide) (hts (.fieldLink RX5 72 "NeckShipModel" "spars" "I") (by decide +kernel)) (fun _ h9 => h9) rfl dX5_isTooShort_6 ?_
      refine lv_icmp_ge (tgt := 38) hx hb dX5_isTooShort_9 (by decide) (fun _ => ?_) (fun c_5 => absurd (nI_le (by omega) (by omega)) c_5)
      have hF : s_X5_isTooShort_L1 N V A v0 (N 0) 0 false = a := hF.trans (by rw [s_X5_isTooShort_L1])
      exact KL1 _ (by (try rw [hF]); exact lv_sub hl [1, 2, 3] rfl)
    | succ n ih =>
      intro k a ls hk hF hl
      refine lv_iload_n hx hb dX5_isTooShort_4 rfl (lv_at hl 0 rfl) ?_
      refine lv_aload_n hx hb dX5_isTooShort_5 rfl (lv_at hl 2 rfl) ?_
      refine va_get (D := D) (ci := 5) (v := .int (nI (N 0))) (C := RX5) (T := TX5) (N := 22) hx hb hts hin5 hown hK hP 0 rfl rfl 2 (by decide) (hts (.fieldLink RX5 72 "NeckShipModel" "spars" "I") (by decide +kernel)) (fun _ h9 => h9) rfl dX5_isTooShort_6 ?_
      refine lv_icmp_ge (tgt := 38) hx hb dX5_isTooShort_9 (by decide) (fun c_6 => absurd c_6 (nI_ge (by omega) (by omega))) (fun _ => ?_)
      refine lv_iload_n hx hb dX5_isTooShort_12 rfl (lv_at hl 1 rfl) ?_
      refine lz_if_ne (tgt := 26) hx hb dX5_isTooShort_13 (by decide) (fun c_7 => ?_) (fun c_7 => ?_)
      · refine lv_iconst (v := (1)) hx hb dX5_isTooShort_26 (by decide) ?_
        refine lv_goto (tgt := 31) hx hb dX5_isTooShort_27 (by decide) ?_
        refine lv_istore_n (lv' := [(2, .int (1)), (3, .int (nI k)), (0, .ref (q 0)), (1, .int v0)]) hx hb dX5_isTooShort_31 rfl hl (by decide) rfl (fun ls hl => ?_)
        refine lv_iinc (v := nI (k + 1)) (lv' := [(3, .int (nI (k + 1))), (2, .int (1)), (0, .ref (q 0)), (1, .int v0)]) hx hb dX5_isTooShort_32 hl (k := 1) rfl (nI_1 k) (by decide) rfl (fun ls hl => ?_)
        refine lv_goto (tgt := 4) hx hb dX5_isTooShort_35 (by decide) ?_
        exact ih (k + 1) true _ (by omega) (hF.trans (by rw [s_X5_isTooShort_L1, if_pos c_7])) (lv_sub hl [0, 1, 2, 3] rfl)
      · refine lv_aload_n hx hb dX5_isTooShort_16 rfl (lv_at hl 2 rfl) ?_
        refine va_get (D := D) (ci := 5) (v := .ref (q 3)) (C := RX5) (T := TX5) (N := 22) hx hb hts hin5 hown hK hP 0 rfl rfl 4 (by decide) (hts (.fieldLink RX5 16 "NeckShipModel" "foot" "[I") (by decide +kernel)) (fun _ h9 => h9) rfl dX5_isTooShort_17 ?_
        refine lv_iload_n hx hb dX5_isTooShort_20 rfl (lv_at hl 0 rfl) ?_
        refine va_ialdN (i := k) hx hb hK hP 3 0 rfl rfl (by decide) (by omega) dX5_isTooShort_21 ?_
        refine lv_iload_n hx hb dX5_isTooShort_22 rfl (lv_at hl 3 rfl) ?_
        refine lv_icmp_le (tgt := 30) hx hb dX5_isTooShort_23 (by decide) (fun c_8 => ?_) (fun c_8 => ?_)
        · refine lv_iconst (v := (0)) hx hb dX5_isTooShort_30 (by decide) ?_
          refine lv_istore_n (lv' := [(2, .int (0)), (3, .int (nI k)), (0, .ref (q 0)), (1, .int v0)]) hx hb dX5_isTooShort_31 rfl hl (by decide) rfl (fun ls hl => ?_)
          refine lv_iinc (v := nI (k + 1)) (lv' := [(3, .int (nI (k + 1))), (2, .int (0)), (0, .ref (q 0)), (1, .int v0)]) hx hb dX5_isTooShort_32 hl (k := 1) rfl (nI_1 k) (by decide) rfl (fun ls hl => ?_)
          refine lv_goto (tgt := 4) hx hb dX5_isTooShort_35 (by decide) ?_
          exact ih (k + 1) false _ (by omega) (hF.trans (by rw [s_X5_isTooShort_L1, if_neg (nb c_7), if_pos c_8])) (lv_sub hl [0, 1, 2, 3] rfl)
        · refine lv_iconst (v := (1)) hx hb dX5_isTooShort_26 (by decide) ?_
          refine lv_goto (tgt := 31) hx hb dX5_isTooShort_27 (by decide) ?_
          refine lv_istore_n (lv' := [(2, .int (1)), (3, .int (nI k)), (0, .ref (q 0)), (1, .int v0)]) hx hb dX5_isTooShort_31 rfl hl (by decide) rfl (fun ls hl => ?_)
          refine lv_iinc (v := nI (k + 1)) (lv' := [(3, .int (nI (k + 1))), (2, .int (1)), (0, .ref (q 0)), (1, .int v0)]) hx hb dX5_isTooShort_32 hl (k := 1) rfl (nI_1 k) (by decide) rfl (fun ls hl => ?_)
          refine lv_goto (tgt := 4) hx hb dX5_isTooShort_35 (by decide) ?_
          exact ih (k + 1) true _ (by omega) (hF.trans (by rw [s_X5_isTooShort_L1, if_neg (nb c_7), if_neg c_8])) (lv_sub hl [0, 1, 2, 3] rfl)
  exact LL1 (N 0) 0 false _ (by omega) rfl (lv_sub hl [0, 1, 2, 3] rfl)
def s_X5_stackAt_L1 (N : Nat → Nat) (V : Nat → Int32) (A : Nat → Nat → Int32) (u0 : Int32) : Nat → Nat → Int32 → Int32
  | 0, k, a =>
    a
  | n + 1, k, a =>
    if (s_X5_isUp N V A (nI (N 2)) (nI k)) = true then
      s_X5_stackAt_L1 N V A u0 n (k + 1) (a + (0 : Int32))
    else
      if u0 < (s_X5_from N V A k) then
        s_X5_stackAt_L1 N V A u0 n (k + 1) (a + (0 : Int32))
      else
        if (s_X5_to N V A k) ≤ u0 then
          s_X5_stackAt_L1 N V A u0 n (k + 1) (a + (0 : Int32))
        else
          s_X5_stackAt_L1 N V A u0 n (k + 1) (a + A 5 k)
def s_X5_stackAt (N : Nat → Nat) (V : Nat → Int32) (A : Nat → Nat → Int32)  (u0 : Int32) : Int32 :=
  (s_X5_stackAt_L1 N V A u0 (N 0) 0 (A 1 2))
set_option maxHeartbeats 4000000 in
set_option maxRecDepth 100000 in
theorem c_X5_stackAt (l : Launch) (D : va_G) (cI cZ cS : ClassId) (q : Nat → Nat) (N : Nat → Nat) (V : Nat → Int32) (A : Nat → Nat → Int32) (u0 : Int32) (h_1 : okM N A) : Met l yX5_stackAt wsX5_stackAt ({ frames := 1, cells := 0, slots := 0, locals := 22 }) (va_Pc [.ref (q 0), .int u0] (PM D cI cZ cS q N V A)) (vp_Si (fun r => r = (s_X5_stackAt N V A u0))) 0 0 (fun _ => False) := by
  refine Met.ofW (cc := cX5_stackAt) (maxL := 4) (ret := (some .int)) (by decide) rfl ?_
  intro p e s m args below meth c s₁ B hml hv
  obtain ⟨rfl, hP, hK⟩ := hv
  have hx := B.exec
  have hb := B.bytes
  have hr := B.returns
  have hts := atoms_spec (ws := wsX5_stackAt) B.pre
  have hown : s.vm.findClass RX5 = some m.cls := findClass_of_methodNamed B.named
  have hlocks := B.notSynchronized
  have hin5 : ∀ w ∈ u_ws RX5 TX5 22, w ∈ wsX5_stackAt := by decide +kernel
  obtain ⟨o1, o2, o3, o4, o5, o6, o7⟩ := id h_1
  have hl := lv_entry ([.ref (q 0), .int u0]) (n := 4) (Nat.le_of_ble_eq_true rfl)
  rw [lg_entry_eq]
  generalize (lg_sl ([.ref (q 0), .int u0]) ++ List.replicate (4 - (lg_sl ([.ref (q 0), .int u0])).length) Slot.unset).toArray = ls at hl ⊢
  have hl : lv_has ls 4 [(0, .ref (q 0)), (1, .int u0)] := hl
  refine lv_aload_n hx hb dX5_stackAt_0 rfl (lv_at hl 0 rfl) ?_
  refine va_get (D := D) (ci := 5) (v := .ref (q 1)) (C := RX5) (T := TX5) (N := 22) hx hb hts hin5 hown hK hP 0 rfl rfl 1 (by decide) (hts (.fieldLink RX5 7 "NeckShipModel" "rules" "[I") (by decide +kernel)) (fun _ h9 => h9) rfl dX5_stackAt_1 ?_
  refine lv_iconst (v := (2)) hx hb dX5_stackAt_4 (by decide) ?_
  refine va_ialdN (i := 2) hx hb hK hP 1 0 rfl rfl (by decide) (by omega) dX5_stackAt_5 ?_
  refine lv_istore_n (lv' := [(2, .int (A 1 2)), (0, .ref (q 0)), (1, .int u0)]) hx hb dX5_stackAt_6 rfl hl (by decide) rfl (fun ls hl => ?_)
  refine lv_iconst (v := (0)) hx hb dX5_stackAt_7 (by decide) ?_
  refine lv_istore_n (lv' := [(3, .int (0)), (2, .int (A 1 2)), (0, .ref (q 0)), (1, .int u0)]) hx hb dX5_stackAt_8 rfl hl (by decide) rfl (fun ls hl => ?_)
  have KL1 : ∀ (ls : Array Slot), lv_has ls 4 [(2, .int (s_X5_stackAt_L1 N V A u0 (N 0) 0 (A 1 2))), (0, .ref (q 0)), (1, .int u0)] → W p l e (headSpec wsX5_stackAt ({ frames := 1, cells := 0, slots := 0, locals := 22 })).room s m ([.ref (q 0), .int u0] : List Value).toArray below meth c s.heap [] 0 0 (MQ below (vp_Si (fun r => r = (s_X5_stackAt N V A u0))) ([.ref (q 0), .int u0] : List Value).toArray s 0 0 (fun _ => False)) (F0 m 66 ls []) := by
    intro ls hl
    refine lv_iload_n hx hb dX5_stackAt_66 rfl (lv_at hl 0 rfl) ?_
    exact W.iret (v := (s_X5_stackAt_L1 N V A u0 (N 0) 0 (A 1 2))) hx hb hr (fun t ht hW => ⟨_, rfl, (by rw [s_X5_stackAt]), ht⟩) (fun _ h => by cases h) dX5_stackAt_67
  have LL1 : ∀ (n k : Nat) (a : Int32) (ls : Array Slot), k + n = N 0 → s_X5_stackAt_L1 N V A u0 (N 0) 0 (A 1 2) = s_X5_stackAt_L1 N V A u0 n k a → lv_has ls 4 [(3, .int (nI k)), (2, .int a), (0, .ref (q 0)), (1, .int u0)] → W p l e (headSpec wsX5_stackAt ({ frames := 1, cells := 0, slots := 0, locals := 22 })).room s m ([.ref (q 0), .int u0] : List Value).toArray below meth c s.heap [] 0 0 (MQ below (vp_Si (fun r => r = (s_X5_stackAt N V A u0))) ([.ref (q 0), .int u0] : List Value).toArray s 0 0 (fun _ => False)) (F0 m 9 ls []) := by
    intro n
    induction n with
    | zero =>
      intro k a ls hk hF hl
      refine lv_iload_n hx hb dX5_stackAt_9 rfl (lv_at hl 0 rfl) ?_
      refine lv_aload_n hx hb dX5_stackAt_10 rfl (lv_at hl 2 rfl) ?_
      refine va_get (D := D) (ci := 5) (v := .int (nI (N 0))) (C := RX5) (T := TX5) (N := 22) hx hb hts hin5 hown hK hP 0 rfl rfl 2 (by decide) (hts (.fieldLink RX5 72 "NeckShipModel" "spars" "I") (by decide +kernel)) (fun _ h9 => h9) rfl dX5_stackAt_11 ?_
      refine lv_icmp_ge (tgt := 66) hx hb dX5_stackAt_14 (by decide) (fun _ => ?_) (fun c_1 => absurd (nI_le (by omega) (by omega)) c_1)
      have hF : s_X5_stackAt_L1 N V A u0 (N 0) 0 (A 1 2) = a := hF.trans (by rw [s_X5_stackAt_L1])
      exact KL1 _ (by (try rw [hF]); exact lv_sub hl [1, 2, 3] rfl)
    | succ n ih =>
      intro k a ls hk hF hl
      refine lv_iload_n hx hb dX5_stackAt_9 rfl (lv_at hl 0 rfl) ?_
      refine lv_aload_n hx hb dX5_stackAt_10 rfl (lv_at hl 2 rfl) ?_
      refine va_get (D := D) (ci := 5) (v := .int (nI (N 0))) (C := RX5) (T := TX5) (N := 22) hx hb hts hin5 hown hK hP 0 rfl rfl 2 (by decide) (hts (.fieldLink RX5 72 "NeckShipModel" "spars" "I") (by decide +kernel)) (fun _ h9 => h9) rfl dX5_stackAt_11 ?_
      refine lv_icmp_ge (tgt := 66) hx hb dX5_stackAt_14 (by decide) (fun c_2 => absurd c_2 (nI_ge (by omega) (by omega))) (fun _ => ?_)
      refine lv_iload_n hx hb dX5_stackAt_17 rfl (lv_at hl 1 rfl) ?_
      refine lv_aload_n hx hb dX5_stackAt_18 rfl (lv_at hl 2 rfl) ?_
      refine lv_aload_n hx hb dX5_stackAt_19 rfl (lv_at hl 2 rfl) ?_
      refine va_get (D := D) (ci := 5) (v := .int (nI (N 2))) (C := RX5) (T := TX5) (N := 22) hx hb hts hin5 hown hK hP 0 rfl rfl 8 (by decide) (hts (.fieldLink RX5 125 "NeckShipModel" "up" "I") (by decide +kernel)) (fun _ h9 => h9) rfl dX5_stackAt_20 ?_
      refine lv_iload_n hx hb dX5_stackAt_23 rfl (lv_at hl 0 rfl) ?_
      refine vp_callSi (W.runV (As := [.int (nI (N 2)), .int (nI k)]) (rest := [.int a]) ⟨hx, hb, hml, hown, hts⟩ (c_X5_isUp l D cI cZ cS q N V A (nI (N 2)) (nI k)) (cwV 2 hts gX5_stackAt_X5_isUp rfl rfl rfl (by decide +kernel) ⟨Nat.le_of_ble_eq_true rfl, Nat.le_of_ble_eq_true rfl⟩) (preM hK hP) rfl rfl hl.1 rfl (lv_room (Nat.le_of_ble_eq_true rfl)) dX5_stackAt_24 ⟨Nat.zero_le _, Nat.zero_le _⟩) (fun r_3 er_3 => ?_)
      subst er_3
      refine lz_if_ne (tgt := 57) hx hb dX5_stackAt_27 (by decide) (fun c_4 => ?_) (fun c_4 => ?_)
      · refine lv_iconst (v := (0)) hx hb dX5_stackAt_57 (by decide) ?_
        refine lv_iadd hx hb dX5_stackAt_58 ?_
        refine lv_istore_n (lv' := [(2, .int (a + (0 : Int32))), (3, .int (nI k)), (0, .ref (q 0)), (1, .int u0)]) hx hb dX5_stackAt_59 rfl hl (by decide) rfl (fun ls hl => ?_)
        refine lv_iinc (v := nI (k + 1)) (lv' := [(3, .int (nI (k + 1))), (2, .int (a + (0 : Int32))), (0, .ref (q 0)), (1, .int u0)]) hx hb dX5_stackAt_60 hl (k := 1) rfl (nI_1 k) (by decide) rfl (fun ls hl => ?_)
        refine lv_goto (tgt := 9) hx hb dX5_stackAt_63 (by decide) ?_
        exact ih (k + 1) (a + (0 : Int32)) _ (by omega) (hF.trans (by rw [s_X5_stackAt_L1, if_pos c_4])) (lv_sub hl [0, 1, 2, 3] rfl)
      · refine lv_aload_n hx hb dX5_stackAt_30 rfl (lv_at hl 2 rfl) ?_
        refine lv_iload_n hx hb dX5_stackAt_31 rfl (lv_at hl 0 rfl) ?_
        refine vp_callSi (W.runV (As := [.int (nI k)]) (rest := [.int a]) ⟨hx, hb, hml, hown, hts⟩ (c_X5_from l D cI cZ cS q N V A k (by omega)) (cwV 1 hts gX5_stackAt_X5_from rfl rfl rfl (by decide +kernel) ⟨Nat.le_of_ble_eq_true rfl, Nat.le_of_ble_eq_true rfl⟩) (preM hK hP) rfl rfl hl.1 rfl (lv_room (Nat.le_of_ble_eq_true rfl)) dX5_stackAt_32 ⟨Nat.zero_le _, Nat.zero_le _⟩) (fun r_5 er_5 => ?_)
        subst er_5
        refine lv_iload_n hx hb dX5_stackAt_35 rfl (lv_at hl 3 rfl) ?_
        refine lv_icmp_gt (tgt := 57) hx hb dX5_stackAt_36 (by decide) (fun c_6 => ?_) (fun c_6 => ?_)
        · refine lv_iconst (v := (0)) hx hb dX5_stackAt_57 (by decide) ?_
          refine lv_iadd hx hb dX5_stackAt_58 ?_
          refine lv_istore_n (lv' := [(2, .int (a + (0 : Int32))), (3, .int (nI k)), (0, .ref (q 0)), (1, .int u0)]) hx hb dX5_stackAt_59 rfl hl (by decide) rfl (fun ls hl => ?_)
          refine lv_iinc (v := nI (k + 1)) (lv' := [(3, .int (nI (k + 1))), (2, .int (a + (0 : Int32))), (0, .ref (q 0)), (1, .int u0)]) hx hb dX5_stackAt_60 hl (k := 1) rfl (nI_1 k) (by decide) rfl (fun ls hl => ?_)
          refine lv_goto (tgt := 9) hx hb dX5_stackAt_63 (by decide) ?_
          exact ih (k + 1) (a + (0 : Int32)) _ (by omega) (hF.trans (by rw [s_X5_stackAt_L1, if_neg (nb c_4), if_pos c_6])) (lv_sub hl [0, 1, 2, 3] rfl)
        · refine lv_iload_n hx hb dX5_stackAt_39 rfl (lv_at hl 3 rfl) ?_
          refine lv_aload_n hx hb dX5_stackAt_40 rfl (lv_at hl 2 rfl) ?_
          refine lv_iload_n hx hb dX5_stackAt_41 rfl (lv_at hl 0 rfl) ?_
          refine vp_callSi (W.runV (As := [.int (nI k)]) (rest := [.int u0, .int a]) ⟨hx, hb, hml, hown, hts⟩ (c_X5_to l D cI cZ cS q N V A k (by omega)) (cwV 1 hts gX5_stackAt_X5_to rfl rfl rfl (by decide +kernel) ⟨Nat.le_of_ble_eq_true rfl, Nat.le_of_ble_eq_true rfl⟩) (preM hK hP) rfl rfl hl.1 rfl (lv_room (Nat.le_of_ble_eq_true rfl)) dX5_stackAt_42 ⟨Nat.zero_le _, Nat.zero_le _⟩) (fun r_7 er_7 => ?_)
          subst er_7
          refine lv_icmp_ge (tgt := 57) hx hb dX5_stackAt_45 (by decide) (fun c_8 => ?_) (fun c_8 => ?_)
          · refine lv_iconst (v := (0)) hx hb dX5_stackAt_57 (by decide) ?_
            refine lv_iadd hx hb dX5_stackAt_58 ?_
            refine lv_istore_n (lv' := [(2, .int (a + (0 : Int32))), (3, .int (nI k)), (0, .ref (q 0)), (1, .int u0)]) hx hb dX5_stackAt_59 rfl hl (by decide) rfl (fun ls hl => ?_)
            refine lv_iinc (v := nI (k + 1)) (lv' := [(3, .int (nI (k + 1))), (2, .int (a + (0 : Int32))), (0, .ref (q 0)), (1, .int u0)]) hx hb dX5_stackAt_60 hl (k := 1) rfl (nI_1 k) (by decide) rfl (fun ls hl => ?_)
            refine lv_goto (tgt := 9) hx hb dX5_stackAt_63 (by decide) ?_
            exact ih (k + 1) (a + (0 : Int32)) _ (by omega) (hF.trans (by rw [s_X5_stackAt_L1, if_neg (nb c_4), if_neg c_6, if_pos c_8])) (lv_sub hl [0, 1, 2, 3] rfl)
          · refine lv_aload_n hx hb dX5_stackAt_48 rfl (lv_at hl 2 rfl) ?_
            refine va_get (D := D) (ci := 5) (v := .ref (q 5)) (C := RX5) (T := TX5) (N := 22) hx hb hts hin5 hown hK hP 0 rfl rfl 6 (by decide) (hts (.fieldLink RX5 22 "NeckShipModel" "thick" "[I") (by decide +kernel)) (fun _ h9 => h9) rfl dX5_stackAt_49 ?_
            refine lv_iload_n hx hb dX5_stackAt_52 rfl (lv_at hl 0 rfl) ?_
            refine va_ialdN (i := k) hx hb hK hP 5 0 rfl rfl (by decide) (by omega) dX5_stackAt_53 ?_
            refine lv_goto (tgt := 58) hx hb dX5_stackAt_54 (by decide) ?_
            refine lv_iadd hx hb dX5_stackAt_58 ?_
            refine lv_istore_n (lv' := [(2, .int (a + A 5 k)), (3, .int (nI k)), (0, .ref (q 0)), (1, .int u0)]) hx hb dX5_stackAt_59 rfl hl (by decide) rfl (fun ls hl => ?_)
            refine lv_iinc (v := nI (k + 1)) (lv' := [(3, .int (nI (k + 1))), (2, .int (a + A 5 k)), (0, .ref (q 0)), (1, .int u0)]) hx hb dX5_stackAt_60 hl (k := 1) rfl (nI_1 k) (by decide) rfl (fun ls hl => ?_)
            refine lv_goto (tgt := 9) hx hb dX5_stackAt_63 (by decide) ?_
            exact ih (k + 1) (a + A 5 k) _ (by omega) (hF.trans (by rw [s_X5_stackAt_L1, if_neg (nb c_4), if_neg c_6, if_neg c_8])) (lv_sub hl [0, 1, 2, 3] rfl)
  exact LL1 (N 0) 0 (A 1 2) _ (by omega) rfl (lv_sub hl [0, 1, 2, 3] rfl)
def s_X5_raises (N : Nat → Nat) (V : Nat → Int32) (A : Nat → Nat → Int32)  (t0 : Nat) : Bool :=
  if (bz (A 10 t0)) = true then
    false
  else
    if 0 ≤ ((A 7 t0 - A 3 (A 8 t0).toNatClampNeg) * A 6 (A 8 t0).toNatClampNeg) then
      false
    else
      true
set_option maxHeartbeats 4000000 in
set_option maxRecDepth 100000 in
theorem c_X5_raises (l : Launch) (D : va_G) (cI cZ cS : ClassId) (q : Nat → Nat) (N : Nat → Nat) (V : Nat → Int32) (A : Nat → Nat → Int32) (t0 : Nat) (h_1 : okM N A) (h_2 : t0 < 16) : Met l yX5_raises wsX5_raises ({ frames := 0, cells := 0, slots := 0, locals := 0 }) (va_Pc [.ref (q 0), .int (nI t0)] (PM D cI cZ cS q N V A)) (vp_Si (fun r => r = b2i (s_X5_raises N V A t0))) 0 0 (fun _ => False) := by
  refine Met.ofW (cc := cX5_raises) (maxL := 3) (ret := (some .boolean)) (by decide) rfl ?_
  intro p e s m args below meth c s₁ B hml hv
  obtain ⟨rfl, hP, hK⟩ := hv
  have hx := B.exec
  have hb := B.bytes
  have hr := B.returns
  have hts := atoms_spec (ws := wsX5_raises) B.pre
  have hown : s.vm.findClass RX5 = some m.cls := findClass_of_methodNamed B.named
  have hlocks := B.notSynchronized
  have hin5 : ∀ w ∈ u_ws RX5 TX5 22, w ∈ wsX5_raises := by decide +kernel
  obtain ⟨o1, o2, o3, o4, o5, o6, o7⟩ := id h_1
  have hl := lv_entry ([.ref (q 0), .int (nI t0)]) (n := 3) (Nat.le_of_ble_eq_true rfl)
  rw [lg_entry_eq]
  generalize (lg_sl ([.ref (q 0), .int (nI t0)]) ++ List.replicate (3 - (lg_sl ([.ref (q 0), .int (nI t0)])).length) Slot.unset).toArray = ls at hl ⊢
  have hl : lv_has ls 3 [(0, .ref (q 0)), (1, .int (nI t0))] := hl
  refine lv_aload_n hx hb dX5_raises_0 rfl (lv_at hl 0 rfl) ?_
  refine va_get (D := D) (ci := 5) (v := .ref (q 8)) (C := RX5) (T := TX5) (N := 22) hx hb hts hin5 hown hK hP 0 rfl rfl 11 (by decide) (hts (.fieldLink RX5 31 "NeckShipModel" "sparOf" "[I") (by decide +kernel)) (fun _ h9 => h9) rfl dX5_raises_1 ?_
  refine lv_iload_n hx hb dX5_raises_4 rfl (lv_at hl 1 rfl) ?_
  refine va_ialdN (i := t0) hx hb hK hP 8 0 rfl rfl (by decide) (by omega) dX5_raises_5 ?_
  refine lv_istore_n (lv' := [(2, .int (A 8 t0)), (0, .ref (q 0)), (1, .int (nI t0))]) hx hb dX5_raises_6 rfl hl (by decide) rfl (fun ls hl => ?_)
  refine lv_aload_n hx hb dX5_raises_7 rfl (lv_at hl 1 rfl) ?_
  refine va_get (D := D) (ci := 5) (v := .ref (q 10)) (C := RX5) (T := TX5) (N := 22) hx hb hts hin5 hown hK hP 0 rfl rfl 13 (by decide) (hts (.fieldLink RX5 37 "NeckShipModel" "isCut" "[Z") (by decide +kernel)) (fun _ h9 => h9) rfl dX5_raises_8 ?_
  refine lv_iload_n hx hb dX5_raises_11 rfl (lv_at hl 2 rfl) ?_
  refine va_zaldB (i := t0) (x := bz (A 10 t0)) hx hb hK hP 10 1 rfl rfl (o5 _) (by decide) (by omega) dX5_raises_12 ?_
  refine lz_if_ne (tgt := 43) hx hb dX5_raises_13 (by decide) (fun c_1 => ?_) (fun c_1 => ?_)
  · refine lv_iconst (v := (0)) hx hb dX5_raises_43 (by decide) ?_
    exact W.zret (v := b2i false) hx hb hr (b2i_nar _) (fun t ht hW => ⟨_, rfl, (by rw [s_X5_raises, if_pos c_1]), ht⟩) (fun _ h => by cases h) dX5_raises_44
  · refine lv_aload_n hx hb dX5_raises_16 rfl (lv_at hl 1 rfl) ?_
    refine va_get (D := D) (ci := 5) (v := .ref (q 7)) (C := RX5) (T := TX5) (N := 22) hx hb hts hin5 hown hK hP 0 rfl rfl 10 (by decide) (hts (.fieldLink RX5 28 "NeckShipModel" "holes" "[I") (by decide +kernel)) (fun _ h9 => h9) rfl dX5_raises_17 ?_
    refine lv_iload_n hx hb dX5_raises_20 rfl (lv_at hl 2 rfl) ?_
    refine va_ialdN (i := t0) hx hb hK hP 7 0 rfl rfl (by decide) (by omega) dX5_raises_21 ?_
    refine lv_aload_n hx hb dX5_raises_22 rfl (lv_at hl 1 rfl) ?_
    refine va_get (D := D) (ci := 5) (v := .ref (q 3)) (C := RX5) (T := TX5) (N := 22) hx hb hts hin5 hown hK hP 0 rfl rfl 4 (by decide) (hts (.fieldLink RX5 16 "NeckShipModel" "foot" "[I") (by decide +kernel)) (fun _ h9 => h9) rfl dX5_raises_23 ?_
    refine lv_iload_n hx hb dX5_raises_26 rfl (lv_at hl 0 rfl) ?_
    refine va_iald hx hb hK hP 3 0 rfl rfl (o4 _) dX5_raises_27 ?_
    refine lv_isub hx hb dX5_raises_28 ?_
    refine lv_aload_n hx hb dX5_raises_29 rfl (lv_at hl 1 rfl) ?_
    refine va_get (D := D) (ci := 5) (v := .ref (q 6)) (C := RX5) (T := TX5) (N := 22) hx hb hts hin5 hown hK hP 0 rfl rfl 7 (by decide) (hts (.fieldLink RX5 25 "NeckShipModel" "way" "[I") (by decide +kernel)) (fun _ h9 => h9) rfl dX5_raises_30 ?_
    refine lv_iload_n hx hb dX5_raises_33 rfl (lv_at hl 0 rfl) ?_
    refine va_iald hx hb hK hP 6 0 rfl rfl (o4 _) dX5_raises_34 ?_
    refine lv_imul hx hb dX5_raises_35 ?_
    refine lv_if_ge (tgt := 43) hx hb dX5_raises_36 (by decide) (fun c_2 => ?_) (fun c_2 => ?_)
    · refine lv_iconst (v := (0)) hx hb dX5_raises_43 (by decide) ?_
      exact W.zret (v := b2i false) hx hb hr (b2i_nar _) (fun t ht hW => ⟨_, rfl, (by rw [s_X5_raises, if_neg (nb c_1), if_pos c_2]), ht⟩) (fun _ h => by cases h) dX5_raises_44
    · refine lv_iconst (v := (1)) hx hb dX5_raises_39 (by decide) ?_
      refine lv_goto (tgt := 44) hx hb dX5_raises_40 (by decide) ?_
      exact W.zret (v := b2i true) hx hb hr (b2i_nar _) (fun t ht hW => ⟨_, rfl, (by rw [s_X5_raises, if_neg (nb c_1), if_neg c_2]), ht⟩) (fun _ h => by cases h) dX5_raises_44
def s_X5_raisers_L1 (N : Nat → Nat) (V : Nat → Int32) (A : Nat → Nat → Int32) (s0 : Nat) : Nat → Nat → Int32 → Int32
  | 0, k, a =>
    a
  | n + 1, k, a =>
    if A 8 k = nI s0 then
      if (s_X5_raises N V A k) = true then
        s_X5_raisers_L1 N V A s0 n (k + 1) (a + (1 : Int32))
      else
        s_X5_raisers_L1 N V A s0 n (k + 1) (a + (0 : Int32))
    else
      s_X5_raisers_L1 N V A s0 n (k + 1) (a + (0 : Int32))
def s_X5_raisers (N : Nat → Nat) (V : Nat → Int32) (A : Nat → Nat → Int32)  (s0 : Nat) : Int32 :=
  (s_X5_raisers_L1 N V A s0 (N 1) 0 (0 : Int32))
set_option maxHeartbeats 4000000 in
set_option maxRecDepth 100000 in
theorem c_X5_raisers (l : Launch) (D : va_G) (cI cZ cS : ClassId) (q : Nat → Nat) (N : Nat → Nat) (V : Nat → Int32) (A : Nat → Nat → Int32) (s0 : Nat) (h_1 : okM N A) : Met l yX5_raisers wsX5_raisers ({ frames := 1, cells := 0, slots := 0, locals := 22 }) (va_Pc [.ref (q 0), .int (nI s0)] (PM D cI cZ cS q N V A)) (vp_Si (fun r => r = (s_X5_raisers N V A s0))) 0 0 (fun _ => False) := by
  refine Met.ofW (cc := cX5_raisers) (maxL := 4) (ret := (some .int)) (by decide) rfl ?_
  intro p e s m args below meth c s₁ B hml hv
  obtain ⟨rfl, hP, hK⟩ := hv
  have hx := B.exec
  have hb := B.bytes
  have hr := B.returns
  have hts := atoms_spec (ws := wsX5_raisers) B.pre
  have hown : s.vm.findClass RX5 = some m.cls := findClass_of_methodNamed B.named
  have hlocks := B.notSynchronized
  have hin5 : ∀ w ∈ u_ws RX5 TX5 22, w ∈ wsX5_raisers := by decide +kernel
  obtain ⟨o1, o2, o3, o4, o5, o6, o7⟩ := id h_1
  have hl := lv_entry ([.ref (q 0), .int (nI s0)]) (n := 4) (Nat.le_of_ble_eq_true rfl)
  rw [lg_entry_eq]
  generalize (lg_sl ([.ref (q 0), .int (nI s0)]) ++ List.replicate (4 - (lg_sl ([.ref (q 0), .int (nI s0)])).length) Slot.unset).toArray = ls at hl ⊢
  have hl : lv_has ls 4 [(0, .ref (q 0)), (1, .int (nI s0))] := hl
  refine lv_iconst (v := (0)) hx hb dX5_raisers_0 (by decide) ?_
  refine lv_istore_n (lv' := [(2, .int (0)), (0, .ref (q 0)), (1, .int (nI s0))]) hx hb dX5_raisers_1 rfl hl (by decide) rfl (fun ls hl => ?_)
  refine lv_iconst (v := (0)) hx hb dX5_raisers_2 (by decide) ?_
  refine lv_istore_n (lv' := [(3, .int (0)), (2, .int (0)), (0, .ref (q 0)), (1, .int (nI s0))]) hx hb dX5_raisers_3 rfl hl (by decide) rfl (fun ls hl => ?_)
  have KL1 : ∀ (ls : Array Slot), lv_has ls 4 [(2, .int (s_X5_raisers_L1 N V A s0 (N 1) 0 (0 : Int32))), (0, .ref (q 0)), (1, .int (nI s0))] → W p l e (headSpec wsX5_raisers ({ frames := 1, cells := 0, slots := 0, locals := 22 })).room s m ([.ref (q 0), .int (nI s0)] : List Value).toArray below meth c s.heap [] 0 0 (MQ below (vp_Si (fun r => r = (s_X5_raisers N V A s0))) ([.ref (q 0), .int (nI s0)] : List Value).toArray s 0 0 (fun _ => False)) (F0 m 44 ls []) := by
    intro ls hl
    refine lv_iload_n hx hb dX5_raisers_44 rfl (lv_at hl 0 rfl) ?_
    exact W.iret (v := (s_X5_raisers_L1 N V A s0 (N 1) 0 (0 : Int32))) hx hb hr (fun t ht hW => ⟨_, rfl, (by rw [s_X5_raisers]), ht⟩) (fun _ h => by cases h) dX5_raisers_45
  have LL1 : ∀ (n k : Nat) (a : Int32) (ls : Array Slot), k + n = N 1 → s_X5_raisers_L1 N V A s0 (N 1) 0 (0 : Int32) = s_X5_raisers_L1 N V A s0 n k a → lv_has ls 4 [(3, .int (nI k)), (2, .int a), (0, .ref (q 0)), (1, .int (nI s0))] → W p l e (headSpec wsX5_raisers ({ frames := 1, cells := 0, slots := 0, locals := 22 })).room s m ([.ref (q 0), .int (nI s0)] : List Value).toArray below meth c s.heap [] 0 0 (MQ below (vp_Si (fun r => r = (s_X5_raisers N V A s0))) ([.ref (q 0), .int (nI s0)] : List Value).toArray s 0 0 (fun _ => False)) (F0 m 4 ls []) := by
    intro n
    induction n with
    | zero =>
      intro k a ls hk hF hl
      refine lv_iload_n hx hb dX5_raisers_4 rfl (lv_at hl 0 rfl) ?_
      refine lv_aload_n hx hb dX5_raisers_5 rfl (lv_at hl 2 rfl) ?_
      refine va_get (D := D) (ci := 5) (v := .int (nI (N 1))) (C := RX5) (T := TX5) (N := 22) hx hb hts hin5 hown hK hP 0 rfl rfl 9 (by decide) (hts (.fieldLink RX5 79 "NeckShipModel" "threads" "I") (by decide +kernel)) (fun _ h9 => h9) rfl dX5_raisers_6 ?_
      refine lv_icmp_ge (tgt := 44) hx hb dX5_raisers_9 (by decide) (fun _ => ?_) (fun c_1 => absurd (nI_le (by omega) (by omega)) c_1)
      have hF : s_X5_raisers_L1 N V A s0 (N 1) 0 (0 : Int32) = a := hF.trans (by rw [s_X5_raisers_L1])
      exact KL1 _ (by (try rw [hF]); exact lv_sub hl [1, 2, 3] rfl)
    | succ n ih =>
      intro k a ls hk hF hl
      refine lv_iload_n hx hb dX5_raisers_4 rfl (lv_at hl 0 rfl) ?_
      refine lv_aload_n hx hb dX5_raisers_5 rfl (lv_at hl 2 rfl) ?_
      refine va_get (D := D) (ci := 5) (v := .int (nI (N 1))) (C := RX5) (T := TX5) (N := 22) hx hb hts hin5 hown hK hP 0 rfl rfl 9 (by decide) (hts (.fieldLink RX5 79 "NeckShipModel" "threads" "I") (by decide +kernel)) (fun _ h9 => h9) rfl dX5_raisers_6 ?_
      refine lv_icmp_ge (tgt := 44) hx hb dX5_raisers_9 (by decide) (fun c_2 => absurd c_2 (nI_ge (by omega) (by omega))) (fun _ => ?_)
      refine lv_iload_n hx hb dX5_raisers_12 rfl (lv_at hl 1 rfl) ?_
      refine lv_aload_n hx hb dX5_raisers_13 rfl (lv_at hl 2 rfl) ?_
      refine va_get (D := D) (ci := 5) (v := .ref (q 8)) (C := RX5) (T := TX5) (N := 22) hx hb hts hin5 hown hK hP 0 rfl rfl 11 (by decide) (hts (.fieldLink RX5 31 "NeckShipModel" "sparOf" "[I") (by decide +kernel)) (fun _ h9 => h9) rfl dX5_raisers_14 ?_
      refine lv_iload_n hx hb dX5_raisers_17 rfl (lv_at hl 0 rfl) ?_
      refine va_ialdN (i := k) hx hb hK hP 8 0 rfl rfl (by decide) (by omega) dX5_raisers_18 ?_
      refine lv_iload_n hx hb dX5_raisers_19 rfl (lv_at hl 3 rfl) ?_
      refine lv_icmp_ne (tgt := 35) hx hb dX5_raisers_20 (by decide) (fun c_3 => ?_) (fun c_3 => ?_)
      · refine lv_iconst (v := (0)) hx hb dX5_raisers_35 (by decide) ?_
        refine lv_iadd hx hb dX5_raisers_36 ?_
        refine lv_istore_n (lv' := [(2, .int (a + (0 : Int32))), (3, .int (nI k)), (0, .ref (q 0)), (1, .int (nI s0))]) hx hb dX5_raisers_37 rfl hl (by decide) rfl (fun ls hl => ?_)
        refine lv_iinc (v := nI (k + 1)) (lv' := [(3, .int (nI (k + 1))), (2, .int (a + (0 : Int32))), (0, .ref (q 0)), (1, .int (nI s0))]) hx hb dX5_raisers_38 hl (k := 1) rfl (nI_1 k) (by decide) rfl (fun ls hl => ?_)
        refine lv_goto (tgt := 4) hx hb dX5_raisers_41 (by decide) ?_
        exact ih (k + 1) (a + (0 : Int32)) _ (by omega) (hF.trans (by rw [s_X5_raisers_L1, if_neg c_3])) (lv_sub hl [0, 1, 2, 3] rfl)
      · refine lv_aload_n hx hb dX5_raisers_23 rfl (lv_at hl 2 rfl) ?_
        refine lv_iload_n hx hb dX5_raisers_24 rfl (lv_at hl 0 rfl) ?_
        refine vp_callSi (W.runV (As := [.int (nI k)]) (rest := [.int a]) ⟨hx, hb, hml, hown, hts⟩ (c_X5_raises l D cI cZ cS q N V A k h_1 (by omega)) (cwV 1 hts gX5_raisers_X5_raises rfl rfl rfl (by decide +kernel) ⟨Nat.le_of_ble_eq_true rfl, Nat.le_of_ble_eq_true rfl⟩) (preM hK hP) rfl rfl hl.1 rfl (lv_room (Nat.le_of_ble_eq_true rfl)) dX5_raisers_25 ⟨Nat.zero_le _, Nat.zero_le _⟩) (fun r_4 er_4 => ?_)
        subst er_4
        refine lz_if_eq (tgt := 35) hx hb dX5_raisers_28 (by decide) (fun c_5 => ?_) (fun c_5 => ?_)
        · refine lv_iconst (v := (0)) hx hb dX5_raisers_35 (by decide) ?_
          refine lv_iadd hx hb dX5_raisers_36 ?_
          refine lv_istore_n (lv' := [(2, .int (a + (0 : Int32))), (3, .int (nI k)), (0, .ref (q 0)), (1, .int (nI s0))]) hx hb dX5_raisers_37 rfl hl (by decide) rfl (fun ls hl => ?_)
          refine lv_iinc (v := nI (k + 1)) (lv' := [(3, .int (nI (k + 1))), (2, .int (a + (0 : Int32))), (0, .ref (q 0)), (1, .int (nI s0))]) hx hb dX5_raisers_38 hl (k := 1) rfl (nI_1 k) (by decide) rfl (fun ls hl => ?_)
          refine lv_goto (tgt := 4) hx hb dX5_raisers_41 (by decide) ?_
          exact ih (k + 1) (a + (0 : Int32)) _ (by omega) (hF.trans (by rw [s_X5_raisers_L1, if_pos c_3, if_neg (nb c_5)])) (lv_sub hl [0, 1, 2, 3] rfl)
        · refine lv_iconst (v := (1)) hx hb dX5_raisers_31 (by decide) ?_
          refine lv_goto (tgt := 36) hx hb dX5_raisers_32 (by decide) ?_
          refine lv_iadd hx hb dX5_raisers_36 ?_
          refine lv_istore_n (lv' := [(2, .int (a + (1 : Int32))), (3, .int (nI k)), (0, .ref (q 0)), (1, .int (nI s0))]) hx hb dX5_raisers_37 rfl hl (by decide) rfl (fun ls hl => ?_)
          refine lv_iinc (v := nI (k + 1)) (lv' := [(3, .int (nI (k + 1))), (2, .int (a + (1 : Int32))), (0, .ref (q 0)), (1, .int (nI s0))]) hx hb dX5_raisers_38 hl (k := 1) rfl (nI_1 k) (by decide) rfl (fun ls hl => ?_)
          refine lv_goto (tgt := 4) hx hb dX5_raisers_41 (by decide) ?_
          exact ih (k + 1) (a + (1 : Int32)) _ (by omega) (hF.trans (by rw [s_X5_raisers_L1, if_pos c_3, if_pos c_5])) (lv_sub hl [0, 1, 2, 3] rfl)
  exact LL1 (N 1) 0 (0 : Int32) _ (by omega) rfl (lv_sub hl [0, 1, 2, 3] rfl)
def s_X5_doCross (N : Nat → Nat) (V : Nat → Int32) (A : Nat → Nat → Int32)  (t0 : Nat) (u0 : Nat) : Bool :=
  if nI t0 = nI u0 then
    false
  else
    if (A 7 t0 - A 7 u0) = 0 then
      if (((((A 7 t0 - A 7 u0) * A 9 t0) * A 9 u0) + (((A 3 (A 8 t0).toNatClampNeg - A 7 t0) * (s_X5_lesser (A 9 t0) (A 9 u0))) * A 9 u0)) - (((A 3 (A 8 u0).toNatClampNeg - A 7 u0) * (s_X5_lesser (A 9 t0) (A 9 u0))) * A 9 t0)) = 0 then
        true
      else
        if 0 ≤ (A 7 t0 - A 7 u0) then
          if (A 7 t0 - A 7 u0) ≤ 0 then
            false
          else
            if 0 ≤ (((((A 7 t0 - A 7 u0) * A 9 t0) * A 9 u0) + (((A 3 (A 8 t0).toNatClampNeg - A 7 t0) * (s_X5_lesser (A 9 t0) (A 9 u0))) * A 9 u0)) - (((A 3 (A 8 u0).toNatClampNeg - A 7 u0) * (s_X5_lesser (A 9 t0) (A 9 u0))) * A 9 t0)) then
              false
            else
              true
        else
          if 0 < (((((A 7 t0 - A 7 u0) * A 9 t0) * A 9 u0) + (((A 3 (A 8 t0).toNatClampNeg - A 7 t0) * (s_X5_lesser (A 9 t0) (A 9 u0))) * A 9 u0)) - (((A 3 (A 8 u0).toNatClampNeg - A 7 u0) * (s_X5_lesser (A 9 t0) (A 9 u0))) * A 9 t0)) then
            true
          else
            if (A 7 t0 - A 7 u0) ≤ 0 then
              false
            else
              if 0 ≤ (((((A 7 t0 - A 7 u0) * A 9 t0) * A 9 u0) + (((A 3 (A 8 t0).toNatClampNeg - A 7 t0) * (s_X5_lesser (A 9 t0) (A 9 u0))) * A 9 u0)) - (((A 3 (A 8 u0).toNatClampNeg - A 7 u0) * (s_X5_lesser (A 9 t0) (A 9 u0))) * A 9 t0)) then
                false
              else
                true
    else
      if 0 ≤ (A 7 t0 - A 7 u0) then
        if (A 7 t0 - A 7 u0) ≤ 0 then
          false
        else
          if 0 ≤ (((((A 7 t0 - A 7 u0) * A 9 t0) * A 9 u0) + (((A 3 (A 8 t0).toNatClampNeg - A 7 t0) * (s_X5_lesser (A 9 t0) (A 9 u0))) * A 9 u0)) - (((A 3 (A 8 u0).toNatClampNeg - A 7 u0) * (s_X5_lesser (A 9 t0) (A 9 u0))) * A 9 t0)) then
            false
          else
            true
      else
        if 0 < (((((A 7 t0 - A 7 u0) * A 9 t0) * A 9 u0) + (((A 3 (A 8 t0).toNatClampNeg - A 7 t0) * (s_X5_lesser (A 9 t0) (A 9 u0))) * A 9 u0)) - (((A 3 (A 8 u0).toNatClampNeg - A 7 u0) * (s_X5_lesser (A 9 t0) (A 9 u0))) * A 9 t0)) then
          true
        else
          if (A 7 t0 - A 7 u0) ≤ 0 then
            false
          else
            if 0 ≤ (((((A 7 t0 - A 7 u0) * A 9 t0) * A 9 u0) + (((A 3 (A 8 t0).toNatClampNeg - A 7 t0) * (s_X5_lesser (A 9 t0) (A 9 u0))) * A 9 u0)) - (((A 3 (A 8 u0).toNatClampNeg - A 7 u0) * (s_X5_lesser (A 9 t0) (A 9 u0))) * A 9 t0)) then
              false
            else
              true
set_option maxHeartbeats 4000000 in
set_option maxRecDepth 100000 in
theorem c_X5_doCross (l : Launch) (D : va_G) (cI cZ cS : ClassId) (q : Nat → Nat) (N : Nat → Nat) (V : Nat → Int32) (A : Nat → Nat → Int32) (t0 : Nat) (u0 : Nat) (h_1 : okM N A) (h_2 : t0 < 16) (h_3 : u0 < 16) : Met l yX5_doCross wsX5_doCross ({ frames := 1, cells := 0, slots := 0, locals := 21 }) (va_Pc [.ref (q 0), .int (nI t0), .int (nI u0)] (PM D cI cZ cS q N V A)) (vp_Si (fun r => r = b2i (s_X5_doCross N V A t0 u0))) 0 0 (fun _ => False) := by
  refine Met.ofW (cc := cX5_doCross) (maxL := 10) (ret := (some .boolean)) (by decide) rfl ?_
  intro p e s m args below meth c s₁ B hml hv
  obtain ⟨rfl, hP, hK⟩ := hv
  have hx := B.exec
  have hb := B.bytes
  have hr := B.returns
  have hts := atoms_spec (ws := wsX5_doCross) B.pre
  have hown : s.vm.findClass RX5 = some m.cls := findClass_of_methodNamed B.named
  have hlocks := B.notSynchronized
  have hin5 : ∀ w ∈ u_ws RX5 TX5 22, w ∈ wsX5_doCross := by decide +kernel
  obtain ⟨o1, o2, o3, o4, o5, o6, o7⟩ := id h_1
  have hl := lv_entry ([.ref (q 0), .int (nI t0), .int (nI u0)]) (n := 10) (Nat.le_of_ble_eq_true rfl)
  rw [lg_entry_eq]
  generalize (lg_sl ([.ref (q 0), .int (nI t0), .int (nI u0)]) ++ List.replicate (10 - (lg_sl ([.ref (q 0), .int (nI t0), .int (nI u0)])).length) Slot.unset).toArray = ls at hl ⊢
  have hl : lv_has ls 10 [(0, .ref (q 0)), (1, .int (nI t0)), (2, .int (nI u0))] := hl
  refine lv_iload_n hx hb dX5_doCross_0 rfl (lv_at hl 1 rfl) ?_
  refine lv_iload_n hx hb dX5_doCross_1 rfl (lv_at hl 2 rfl) ?_
  refine lv_icmp_ne (tgt := 7) hx hb dX5_doCross_2 (by decide) (fun c_1 => ?_) (fun c_1 => ?_)
  · refine lv_aload_n hx hb dX5_doCross_7 rfl (lv_at hl 0 rfl) ?_
    refine va_get (D := D) (ci := 5) (v := .ref (q 3)) (C := RX5) (T := TX5) (N := 22) hx hb hts hin5 hown hK hP 0 rfl rfl 4 (by decide) (hts (.fieldLink RX5 16 "NeckShipModel" "foot" "[I") (by decide +kernel)) (fun _ h9 => h9) rfl dX5_doCross_8 ?_
    refine lv_aload_n hx hb dX5_doCross_11 rfl (lv_at hl 0 rfl) ?_
    refine va_get (D := D) (ci := 5) (v := .ref (q 8)) (C := RX5) (T := TX5) (N := 22) hx hb hts hin5 hown hK hP 0 rfl rfl 11 (by decide) (hts (.fieldLink RX5 31 "NeckShipModel" "sparOf" "[I") (by decide +kernel)) (fun _ h9 => h9) rfl dX5_doCross_12 ?_
    refine lv_iload_n hx hb dX5_doCross_15 rfl (lv_at hl 1 rfl) ?_
    refine va_ialdN (i := t0) hx hb hK hP 8 0 rfl rfl (by decide) (by omega) dX5_doCross_16 ?_
    refine va_iald hx hb hK hP 3 0 rfl rfl (o4 _) dX5_doCross_17 ?_
    refine lv_istore_n (lv' := [(3, .int (A 3 (A 8 t0).toNatClampNeg)), (0, .ref (q 0)), (1, .int (nI t0)), (2, .int (nI u0))]) hx hb dX5_doCross_18 rfl hl (by decide) rfl (fun ls hl => ?_)
    refine lv_aload_n hx hb dX5_doCross_19 rfl (lv_at hl 1 rfl) ?_
    refine va_get (D := D) (ci := 5) (v := .ref (q 3)) (C := RX5) (T := TX5) (N := 22) hx hb hts hin5 hown hK hP 0 rfl rfl 4 (by decide) (hts (.fieldLink RX5 16 "NeckShipModel" "foot" "[I") (by decide +kernel)) (fun _ h9 => h9) rfl dX5_doCross_20 ?_
    refine lv_aload_n hx hb dX5_doCross_23 rfl (lv_at hl 1 rfl) ?_
    refine va_get (D := D) (ci := 5) (v := .ref (q 8)) (C := RX5) (T := TX5) (N := 22) hx hb hts hin5 hown hK hP 0 rfl rfl 11 (by decide) (hts (.fieldLink RX5 31 "NeckShipModel" "sparOf" "[I") (by decide +kernel)) (fun _ h9 => h9) rfl dX5_doCross_24 ?_
    refine lv_iload_n hx hb dX5_doCross_27 rfl (lv_at hl 3 rfl) ?_
    refine va_ialdN (i := u0) hx hb hK hP 8 0 rfl rfl (by decide) (by omega) dX5_doCross_28 ?_
    refine va_iald hx hb hK hP 3 0 rfl rfl (o4 _) dX5_doCross_29 ?_
    refine lv_istore (lv' := [(4, .int (A 3 (A 8 u0).toNatClampNeg)), (3, .int (A 3 (A 8 t0).toNatClampNeg)), (0, .ref (q 0)), (1, .int (nI t0)), (2, .int (nI u0))]) hx hb dX5_doCross_30 hl (by decide) rfl (fun ls hl => ?_)
    refine lv_aload_n hx hb dX5_doCross_32 rfl (lv_at hl 2 rfl) ?_
    refine va_get (D := D) (ci := 5) (v := .ref (q 9)) (C := RX5) (T := TX5) (N := 22) hx hb hts hin5 hown hK hP 0 rfl rfl 12 (by decide) (hts (.fieldLink RX5 34 "NeckShipModel" "places" "[I") (by decide +kernel)) (fun _ h9 => h9) rfl dX5_doCross_33 ?_
    refine lv_iload_n hx hb dX5_doCross_36 rfl (lv_at hl 3 rfl) ?_
    refine va_ialdN (i := t0) hx hb hK hP 9 0 rfl rfl (by decide) (by omega) dX5_doCross_37 ?_
    refine lv_istore (lv' := [(5, .int (A 9 t0)), (4, .int (A 3 (A 8 u0).toNatClampNeg)), (3, .int (A 3 (A 8 t0).toNatClampNeg)), (0, .ref (q 0)), (1, .int (nI t0)), (2, .int (nI u0))]) hx hb dX5_doCross_38 hl (by decide) rfl (fun ls hl => ?_)
    refine lv_aload_n hx hb dX5_doCross_40 rfl (lv_at hl 3 rfl) ?_
    refine va_get (D := D) (ci := 5) (v := .ref (q 9)) (C := RX5) (T := TX5) (N := 22) hx hb hts hin5 hown hK hP 0 rfl rfl 12 (by decide) (hts (.fieldLink RX5 34 "NeckShipModel" "places" "[I") (by decide +kernel)) (fun _ h9 => h9) rfl dX5_doCross_41 ?_
    refine lv_iload_n hx hb dX5_doCross_44 rfl (lv_at hl 5 rfl) ?_
    refine va_ialdN (i := u0) hx hb hK hP 9 0 rfl rfl (by decide) (by omega) dX5_doCross_45 ?_
    refine lv_istore (lv' := [(6, .int (A 9 u0)), (5, .int (A 9 t0)), (4, .int (A 3 (A 8 u0).toNatClampNeg)), (3, .int (A 3 (A 8 t0).toNatClampNeg)), (0, .ref (q 0)), (1, .int (nI t0)), (2, .int (nI u0))]) hx hb dX5_doCross_46 hl (by decide) rfl (fun ls hl => ?_)
    refine lv_iload hx hb dX5_doCross_48 (lv_at hl 1 rfl) ?_
    refine lv_iload hx hb dX5_doCross_50 (lv_at hl 0 rfl) ?_
    refine vp_callSi (W.runS (As := [.int (A 9 t0), .int (A 9 u0)]) (rest := []) ⟨hx, hb, hml, hown, hts⟩ (c_X5_lesser l (A 9 t0) (A 9 u0)) (cwS 2 hts gX5_doCross_X5_lesser rfl rfl rfl (by decide +kernel) ⟨Nat.le_of_ble_eq_true rfl, Nat.le_of_ble_eq_true rfl⟩) (preEq) rfl rfl hl.1 rfl (lv_room (Nat.le_of_ble_eq_true rfl)) dX5_doCross_52 ⟨Nat.zero_le _, Nat.zero_le _⟩) (fun r_2 er_2 => ?_)
    subst er_2
    refine lv_istore (lv' := [(7, .int (s_X5_lesser (A 9 t0) (A 9 u0))), (6, .int (A 9 u0)), (5, .int (A 9 t0)), (4, .int (A 3 (A 8 u0).toNatClampNeg)), (3, .int (A 3 (A 8 t0).toNatClampNeg)), (0, .ref (q 0)), (1, .int (nI t0)), (2, .int (nI u0))]) hx hb dX5_doCross_55 hl (by decide) rfl (fun ls hl => ?_)
    refine lv_aload_n hx hb dX5_doCross_57 rfl (lv_at hl 5 rfl) ?_
    refine va_get (D := D) (ci := 5) (v := .ref (q 7)) (C := RX5) (T := TX5) (N := 22) hx hb hts hin5 hown hK hP 0 rfl rfl 10 (by decide) (hts (.fieldLink RX5 28 "NeckShipModel" "holes" "[I") (by decide +kernel)) (fun _ h9 => h9) rfl dX5_doCross_58 ?_
    refine lv_iload_n hx hb dX5_doCross_61 rfl (lv_at hl 6 rfl) ?_
    refine va_ialdN (i := t0) hx hb hK hP 7 0 rfl rfl (by decide) (by omega) dX5_doCross_62 ?_
    refine lv_aload_n hx hb dX5_doCross_63 rfl (lv_at hl 5 rfl) ?_
    refine va_get (D := D) (ci := 5) (v := .ref (q 7)) (C := RX5) (T := TX5) (N := 22) hx hb hts hin5 hown hK hP 0 rfl rfl 10 (by decide) (hts (.fieldLink RX5 28 "NeckShipModel" "holes" "[I") (by decide +kernel)) (fun _ h9 => h9) rfl dX5_doCross_64 ?_
    refine lv_iload_n hx hb dX5_doCross_67 rfl (lv_at hl 7 rfl) ?_
    refine va_ialdN (i := u0) hx hb hK hP 7 0 rfl rfl (by decide) (by omega) dX5_doCross_68 ?_
    refine lv_isub hx hb dX5_doCross_69 ?_
    refine lv_istore (lv' := [(8, .int (A 7 t0 - A 7 u0)), (7, .int (s_X5_lesser (A 9 t0) (A 9 u0))), (6, .int (A 9 u0)), (5, .int (A 9 t0)), (4, .int (A 3 (A 8 u0).toNatClampNeg)), (3, .int (A 3 (A 8 t0).toNatClampNeg)), (0, .ref (q 0)), (1, .int (nI t0)), (2, .int (nI u0))]) hx hb dX5_doCross_70 hl (by decide) rfl (fun ls hl => ?_)
    refine lv_iload hx hb dX5_doCross_72 (lv_at hl 0 rfl) ?_
    refine lv_iload hx hb dX5_doCross_74 (lv_at hl 3 rfl) ?_
    refine lv_imul hx hb dX5_doCross_76 ?_
    refine lv_iload hx hb dX5_doCross_77 (lv_at hl 2 rfl) ?_
    refine lv_imul hx hb dX5_doCross_79 ?_
    refine lv_iload_n hx hb dX5_doCross_80 rfl (lv_at hl 5 rfl) ?_
    refine lv_aload_n hx hb dX5_doCross_81 rfl (lv_at hl 6 rfl) ?_
    refine va_get (D := D) (ci := 5) (v := .ref (q 7)) (C := RX5) (T := TX5) (N := 22) hx hb hts hin5 hown hK hP 0 rfl rfl 10 (by decide) (hts (.fieldLink RX5 28 "NeckShipModel" "holes" "[I") (by decide +kernel)) (fun _ h9 => h9) rfl dX5_doCross_82 ?_
    refine lv_iload_n hx hb dX5_doCross_85 rfl (lv_at hl 7 rfl) ?_
    refine va_ialdN (i := t0) hx hb hK hP 7 0 rfl rfl (by decide) (by omega) dX5_doCross_86 ?_
    refine lv_isub hx hb dX5_doCross_87 ?_
    refine lv_iload hx hb dX5_doCross_88 (lv_at hl 1 rfl) ?_
    refine lv_imul hx hb dX5_doCross_90 ?_
    refine lv_iload hx hb dX5_doCross_91 (lv_at hl 2 rfl) ?_
    refine lv_imul hx hb dX5_doCross_93 ?_
    refine lv_iadd hx hb dX5_doCross_94 ?_
    refine lv_iload hx hb dX5_doCross_95 (lv_at hl 4 rfl) ?_
    refine lv_aload_n hx hb dX5_doCross_97 rfl (lv_at hl 6 rfl) ?_
    refine va_get (D := D) (ci := 5) (v := .ref (q 7)) (C := RX5) (T := TX5) (N := 22) hx hb hts hin5 hown hK hP 0 rfl rfl 10 (by decide) (hts (.fieldLink RX5 28 "NeckShipModel" "holes" "[I") (by decide +kernel)) (fun _ h9 => h9) rfl dX5_doCross_98 ?_
    refine lv_iload_n hx hb dX5_doCross_101 rfl (lv_at hl 8 rfl) ?_
    refine va_ialdN (i := u0) hx hb hK hP 7 0 rfl rfl (by decide) (by omega) dX5_doCross_102 ?_
    refine lv_isub hx hb dX5_doCross_103 ?_
    refine lv_iload hx hb dX5_doCross_104 (lv_at hl 1 rfl) ?_
    refine lv_imul hx hb dX5_doCross_106 ?_
    refine lv_iload hx hb dX5_doCross_107 (lv_at hl 3 rfl) ?_
    refine lv_imul hx hb dX5_doCross_109 ?_
    refine lv_isub hx hb dX5_doCross_110 ?_
    refine lv_istore (lv' := [(9, .int (((((A 7 t0 - A 7 u0) * A 9 t0) * A 9 u0) + (((A 3 (A 8 t0).toNatClampNeg - A 7 t0) * (s_X5_lesser (A 9 t0) (A 9 u0))) * A 9 u0)) - (((A 3 (A 8 u0).toNatClampNeg - A 7 u0) * (s_X5_lesser (A 9 t0) (A 9 u0))) * A 9 t0))), (8, .int (A 7 t0 - A 7 u0)), (7, .int (s_X5_lesser (A 9 t0) (A 9 u0))), (6, .int (A 9 u0)), (5, .int (A 9 t0)), (4, .int (A 3 (A 8 u0).toNatClampNeg)), (3, .int (A 3 (A 8 t0).toNatClampNeg)), (0, .ref (q 0)), (1, .int (nI t0)), (2, .int (nI u0))]) hx hb dX5_doCross_111 hl (by decide) rfl (fun ls hl => ?_)
    refine lv_iload hx hb dX5_doCross_113 (lv_at hl 1 rfl) ?_
    refine lv_if_ne (tgt := 123) hx hb dX5_doCross_115 (by decide) (fun c_3 => ?_) (fun c_3 => ?_)
    · refine lv_iload hx hb dX5_doCross_123 (lv_at hl 1 rfl) ?_
      refine lv_if_ge (tgt := 133) hx hb dX5_doCross_125 (by decide) (fun c_4 => ?_) (fun c_4 => ?_)
      · refine lv_iload hx hb dX5_doCross_133 (lv_at hl 1 rfl) ?_
        refine lv_if_le (tgt := 147) hx hb dX5_doCross_135 (by decide) (fun c_5 => ?_) (fun c_5 => ?_)
        · refine lv_iconst (v := (0)) hx hb dX5_doCross_147 (by decide) ?_
          exact W.zret (v := b2i false) hx hb hr (b2i_nar _) (fun t ht hW => ⟨_, rfl, (by rw [s_X5_doCross, if_neg c_1, if_neg c_3, if_pos c_4, if_pos c_5]), ht⟩) (fun _ h => by cases h) dX5_doCross_148
        · refine lv_iload hx hb dX5_doCross_138 (lv_at hl 0 rfl) ?_
          refine lv_if_ge (tgt := 147) hx hb dX5_doCross_140 (by decide) (fun c_6 => ?_) (fun c_6 => ?_)
          · refine lv_iconst (v := (0)) hx hb dX5_doCross_147 (by decide) ?_
            exact W.zret (v := b2i false) hx hb hr (b2i_nar _) (fun t ht hW => ⟨_, rfl, (by rw [s_X5_doCross, if_neg c_1, if_neg c_3, if_pos c_4, if_neg c_5, if_pos c_6]), ht⟩) (fun _ h => by cases h) dX5_doCross_148
          · refine lv_iconst (v := (1)) hx hb dX5_doCross_143 (by decide) ?_
            refine lv_goto (tgt := 148) hx hb dX5_doCross_144 (by decide) ?_
            exact W.zret (v := b2i true) hx hb hr (b2i_nar _) (fun t ht hW => ⟨_, rfl, (by rw [s_X5_doCross, if_neg c_1, if_neg c_3, if_pos c_4, if_neg c_5, if_neg c_6]), ht⟩) (fun _ h => by cases h) dX5_doCross_148
      · refine lv_iload hx hb dX5_doCross_128 (lv_at hl 0 rfl) ?_
        refine lv_if_gt (tgt := 143) hx hb dX5_doCross_130 (by decide) (fun c_7 => ?_) (fun c_7 => ?_)
        · refine lv_iconst (v := (1)) hx hb dX5_doCross_143 (by decide) ?_
          refine lv_goto (tgt := 148) hx hb dX5_doCross_144 (by decide) ?_
          exact W.zret (v := b2i true) hx hb hr (b2i_nar _) (fun t ht hW => ⟨_, rfl, (by rw [s_X5_doCross, if_neg c_1, if_neg c_3, if_neg c_4, if_pos c_7]), ht⟩) (fun _ h => by cases h) dX5_doCross_148
        · refine lv_iload hx hb dX5_doCross_133 (lv_at hl 1 rfl) ?_
          refine lv_if_le (tgt := 147) hx hb dX5_doCross_135 (by decide) (fun c_8 => ?_) (fun c_8 => ?_)
          · refine lv_iconst (v := (0)) hx hb dX5_doCross_147 (by decide) ?_
            exact W.zret (v := b2i false) hx hb hr (b2i_nar _) (fun t ht hW => ⟨_, rfl, (by rw [s_X5_doCross, if_neg c_1, if_neg c_3, if_neg c_4, if_neg c_7, if_pos c_8]), ht⟩) (fun _ h => by cases h) dX5_doCross_148
          · refine lv_iload hx hb dX5_doCross_138 (lv_at hl 0 rfl) ?_
            refine lv_if_ge (tgt := 147) hx hb dX5_doCross_140 (by decide) (fun c_9 => ?_) (fun c_9 => ?_)
            · refine lv_iconst (v := (0)) hx hb dX5_doCross_147 (by decide) ?_
              exact W.zret (v := b2i false) hx hb hr (b2i_nar _) (fun t ht hW => ⟨_, rfl, (by rw [s_X5_doCross, if_neg c_1, if_neg c_3, if_neg c_4, if_neg c_7, if_neg c_8, if_pos c_9]), ht⟩) (fun _ h => by cases h) dX5_doCross_148
            · refine lv_iconst (v := (1)) hx hb dX5_doCross_143 (by decide) ?_
              refine lv_goto (tgt := 148) hx hb dX5_doCross_144 (by decide) ?_
              exact W.zret (v := b2i true) hx hb hr (b2i_nar _) (fun t ht hW => ⟨_, rfl, (by rw [s_X5_doCross, if_neg c_1, if_neg c_3, if_neg c_4, if_neg c_7, if_neg c_8, if_neg c_9]), ht⟩) (fun _ h => by cases h) dX5_doCross_148
    · refine lv_iload hx hb dX5_doCross_118 (lv_at hl 0 rfl) ?_
      refine lv_if_eq (tgt := 143) hx hb dX5_doCross_120 (by decide) (fun c_10 => ?_) (fun c_10 => ?_)
      · refine lv_iconst (v := (1)) hx hb dX5_doCross_143 (by decide) ?_
        refine lv_goto (tgt := 148) hx hb dX5_doCross_144 (by decide) ?_
        exact W.zret (v := b2i true) hx hb hr (b2i_nar _) (fun t ht hW => ⟨_, rfl, (by rw [s_X5_doCross, if_neg c_1, if_pos c_3, if_pos c_10]), ht⟩) (fun _ h => by cases h) dX5_doCross_148
      · refine lv_iload hx hb dX5_doCross_123 (lv_at hl 1 rfl) ?_
        refine lv_if_ge (tgt := 133) hx hb dX5_doCross_125 (by decide) (fun c_11 => ?_) (fun c_11 => ?_)
        · refine lv_iload hx hb dX5_doCross_133 (lv_at hl 1 rfl) ?_
          refine lv_if_le (tgt := 147) hx hb dX5_doCross_135 (by decide) (fun c_12 => ?_) (fun c_12 => ?_)
          · refine lv_iconst (v := (0)) hx hb dX5_doCross_147 (by decide) ?_
            exact W.zret (v := b2i false) hx hb hr (b2i_nar _) (fun t ht hW => ⟨_, rfl, (by rw [s_X5_doCross, if_neg c_1, if_pos c_3, if_neg c_10, if_pos c_11, if_pos c_12]), ht⟩) (fun _ h => by cases h) dX5_doCross_148
          · refine lv_iload hx hb dX5_doCross_138 (lv_at hl 0 rfl) ?_
            refine lv_if_ge (tgt := 147) hx hb dX5_doCross_140 (by decide) (fun c_13 => ?_) (fun c_13 => ?_)
            · refine lv_iconst (v := (0)) hx hb dX5_doCross_147 (by decide) ?_
              exact W.zret (v := b2i false) hx hb hr (b2i_nar _) (fun t ht hW => ⟨_, rfl, (by rw [s_X5_doCross, if_neg c_1, if_pos c_3, if_neg c_10, if_pos c_11, if_neg c_12, if_pos c_13]), ht⟩) (fun _ h => by cases h) dX5_doCross_148
            · refine lv_iconst (v := (1)) hx hb dX5_doCross_143 (by decide) ?_
              refine lv_goto (tgt := 148) hx hb dX5_doCross_144 (by decide) ?_
              exact W.zret (v := b2i true) hx hb hr (b2i_nar _) (fun t ht hW => ⟨_, rfl, (by rw [s_X5_doCross, if_neg c_1, if_pos c_3, if_neg c_10, if_pos c_11, if_neg c_12, if_neg c_13]), ht⟩) (fun _ h => by cases h) dX5_doCross_148
        · refine lv_iload hx hb dX5_doCross_128 (lv_at hl 0 rfl) ?_
          refine lv_if_gt (tgt := 143) hx hb dX5_doCross_130 (by decide) (fun c_14 => ?_) (fun c_14 => ?_)
          · refine lv_iconst (v := (1)) hx hb dX5_doCross_143 (by decide) ?_
            refine lv_goto (tgt := 148) hx hb dX5_doCross_144 (by decide) ?_
            exact W.zret (v := b2i true) hx hb hr (b2i_nar _) (fun t ht hW => ⟨_, rfl, (by rw [s_X5_doCross, if_neg c_1, if_pos c_3, if_neg c_10, if_neg c_11, if_pos c_14]), ht⟩) (fun _ h => by cases h) dX5_doCross_148
          · refine lv_iload hx hb dX5_doCross_133 (lv_at hl 1 rfl) ?_
            refine lv_if_le (tgt := 147) hx hb dX5_doCross_135 (by decide) (fun c_15 => ?_) (fun c_15 => ?_)
            · refine lv_iconst (v := (0)) hx hb dX5_doCross_147 (by decide) ?_
              exact W.zret (v := b2i false) hx hb hr (b2i_nar _) (fun t ht hW => ⟨_, rfl, (by rw [s_X5_doCross, if_neg c_1, if_pos c_3, if_neg c_10, if_neg c_11, if_neg c_14, if_pos c_15]), ht⟩) (fun _ h => by cases h) dX5_doCross_148
            · refine lv_iload hx hb dX5_doCross_138 (lv_at hl 0 rfl) ?_
              refine lv_if_ge (tgt := 147) hx hb dX5_doCross_140 (by decide) (fun c_16 => ?_) (fun c_16 => ?_)
              · refine lv_iconst (v := (0)) hx hb dX5_doCross_147 (by decide) ?_
                exact W.zret (v := b2i false) hx hb hr (b2i_nar _) (fun t ht hW => ⟨_, rfl, (by rw [s_X5_doCross, if_neg c_1, if_pos c_3, if_neg c_10, if_neg c_11, if_neg c_14, if_neg c_15, if_pos c_16]), ht⟩) (fun _ h => by cases h) dX5_doCross_148
              · refine lv_iconst (v := (1)) hx hb dX5_doCross_143 (by decide) ?_
                refine lv_goto (tgt := 148) hx hb dX5_doCross_144 (by decide) ?_
                exact W.zret (v := b2i true) hx hb hr (b2i_nar _) (fun t ht hW => ⟨_, rfl, (by rw [s_X5_doCross, if_neg c_1, if_pos c_3, if_neg c_10, if_neg c_11, if_neg c_14, if_neg c_15, if_neg c_16]), ht⟩) (fun _ h => by cases h) dX5_doCross_148
  · refine lv_iconst (v := (0)) hx hb dX5_doCross_5 (by decide) ?_
    exact W.zret (v := b2i false) hx hb hr (b2i_nar _) (fun t ht hW => ⟨_, rfl, (by rw [s_X5_doCross, if_pos c_1]), ht⟩) (fun _ h => by cases h) dX5_doCross_6
def s_X5_crossers_L1 (N : Nat → Nat) (V : Nat → Int32) (A : Nat → Nat → Int32) (t0 : Nat) : Nat → Nat → Int32 → Int32
  | 0, k, a =>
    a
  | n + 1, k, a =>
    if (bz (A 10 k)) = true then
      s_X5_crossers_L1 N V A t0 n (k + 1) (a + (0 : Int32))
    else
      if (s_X5_doCross N V A t0 k) = true then
        s_X5_crossers_L1 N V A t0 n (k + 1) (a + (1 : Int32))
      else
        s_X5_crossers_L1 N V A t0 n (k + 1) (a + (0 : Int32))
def s_X5_crossers (N : Nat → Nat) (V : Nat → Int32) (A : Nat → Nat → Int32)  (t0 : Nat) : Int32 :=
  (s_X5_crossers_L1 N V A t0 (N 1) 0 (0 : Int32))
set_option maxHeartbeats 4000000 in
set_option maxRecDepth 100000 in
theorem c_X5_crossers (l : Launch) (D : va_G) (cI cZ cS : ClassId) (q : Nat → Nat) (N : Nat → Nat) (V : Nat → Int32) (A : Nat → Nat → Int32) (t0 : Nat) (h_1 : okM N A) (h_2 : t0 < 16) : Met l yX5_crossers wsX5_crossers ({ frames := 2, cells := 0, slots := 0, locals := 50 }) (va_Pc [.ref (q 0), .int (nI t0)] (PM D cI cZ cS q N V A)) (vp_Si (fun r => r = (s_X5_crossers N V A t0))) 0 0 (fun _ => False) := by
  refine Met.ofW (cc := cX5_crossers) (maxL := 4) (ret := (some .int)) (by decide) rfl ?_
  intro p e s m args below meth c s₁ B hml hv
  obtain ⟨rfl, hP, hK⟩ := hv
  have hx := B.exec
  have hb := B.bytes
  have hr := B.returns
  have hts := atoms_spec (ws := wsX5_crossers) B.pre
  have hown : s.vm.findClass RX5 = some m.cls := findClass_of_methodNamed B.named
  have hlocks := B.notSynchronized
  have hin5 : ∀ w ∈ u_ws RX5 TX5 22, w ∈ wsX5_crossers := by decide +kernel
  obtain ⟨o1, o2, o3, o4, o5, o6, o7⟩ := id h_1
  have hl := lv_entry ([.ref (q 0), .int (nI t0)]) (n := 4) (Nat.le_of_ble_eq_true rfl)
  rw [lg_entry_eq]
  generalize (lg_sl ([.ref (q 0), .int (nI t0)]) ++ List.replicate (4 - (lg_sl ([.ref (q 0), .int (nI t0)])).length) Slot.unset).toArray = ls at hl ⊢
  have hl : lv_has ls 4 [(0, .ref (q 0)), (1, .int (nI t0))] := hl
  refine lv_iconst (v := (0)) hx hb dX5_crossers_0 (by decide) ?_
  refine lv_istore_n (lv' := [(2, .int (0)), (0, .ref (q 0)), (1, .int (nI t0))]) hx hb dX5_crossers_1 rfl hl (by decide) rfl (fun ls hl => ?_)
  refine lv_iconst (v := (0)) hx hb dX5_crossers_2 (by decide) ?_
  refine lv_istore_n (lv' := [(3, .int (0)), (2, .int (0)), (0, .ref (q 0)), (1, .int (nI t0))]) hx hb dX5_crossers_3 rfl hl (by decide) rfl (fun ls hl => ?_)
  have KL1 : ∀ (ls : Array Slot), lv_has ls 4 [(2, .int (s_X5_crossers_L1 N V A t0 (N 1) 0 (0 : Int32))), (0, .ref (q 0)), (1, .int (nI t0))] → W p l e (headSpec wsX5_crossers ({ frames := 2, cells := 0, slots := 0, locals := 50 })).room s m ([.ref (q 0), .int (nI t0)] : List Value).toArray below meth c s.heap [] 0 0 (MQ below (vp_Si (fun r => r = (s_X5_crossers N V A t0))) ([.ref (q 0), .int (nI t0)] : List Value).toArray s 0 0 (fun _ => False)) (F0 m 44 ls []) := by
    intro ls hl
    refine lv_iload_n hx hb dX5_crossers_44 rfl (lv_at hl 0 rfl) ?_
    exact W.iret (v := (s_X5_crossers_L1 N V A t0 (N 1) 0 (0 : Int32))) hx hb hr (fun t ht hW => ⟨_, rfl, (by rw [s_X5_crossers]), ht⟩) (fun _ h => by cases h) dX5_crossers_45
  have LL1 : ∀ (n k : Nat) (a : Int32) (ls : Array Slot), k + n = N 1 → s_X5_crossers_L1 N V A t0 (N 1) 0 (0 : Int32) = s_X5_crossers_L1 N V A t0 n k a → lv_has ls 4 [(3, .int (nI k)), (2, .int a), (0, .ref (q 0)), (1, .int (nI t0))] → W p l e (headSpec wsX5_crossers ({ frames := 2, cells := 0, slots := 0, locals := 50 })).room s m ([.ref (q 0), .int (nI t0)] : List Value).toArray below meth c s.heap [] 0 0 (MQ below (vp_Si (fun r => r = (s_X5_crossers N V A t0))) ([.ref (q 0), .int (nI t0)] : List Value).toArray s 0 0 (fun _ => False)) (F0 m 4 ls []) := by
    intro n
    induction n with
    | zero =>
      intro k a ls hk hF hl
      refine lv_iload_n hx hb dX5_crossers_4 rfl (lv_at hl 0 rfl) ?_
      refine lv_aload_n hx hb dX5_crossers_5 rfl (lv_at hl 2 rfl) ?_
      refine va_get (D := D) (ci := 5) (v := .int (nI (N 1))) (C := RX5) (T := TX5) (N := 22) hx hb hts hin5 hown hK hP 0 rfl rfl 9 (by decide) (hts (.fieldLink RX5 79 "NeckShipModel" "threads" "I") (by decide +kernel)) (fun _ h9 => h9) rfl dX5_crossers_6 ?_
      refine lv_icmp_ge (tgt := 44) hx hb dX5_crossers_9 (by decide) (fun _ => ?_) (fun c_1 => absurd (nI_le (by omega) (by omega)) c_1)
      have hF : s_X5_crossers_L1 N V A t0 (N 1) 0 (0 : Int32) = a := hF.trans (by rw [s_X5_crossers_L1])
      exact KL1 _ (by (try rw [hF]); exact lv_sub hl [1, 2, 3] rfl)
    | succ n ih =>
      intro k a ls hk hF hl
      refine lv_iload_n hx hb dX5_crossers_4 rfl (lv_at hl 0 rfl) ?_
      refine lv_aload_n hx hb dX5_crossers_5 rfl (lv_at hl 2 rfl) ?_
      refine va_get (D := D) (ci := 5) (v := .int (nI (N 1))) (C := RX5) (T := TX5) (N := 22) hx hb hts hin5 hown hK hP 0 rfl rfl 9 (by decide) (hts (.fieldLink RX5 79 "NeckShipModel" "threads" "I") (by decide +kernel)) (fun _ h9 => h9) rfl dX5_crossers_6 ?_
      refine lv_icmp_ge (tgt := 44) hx hb dX5_crossers_9 (by decide) (fun c_2 => absurd c_2 (nI_ge (by omega) (by omega))) (fun _ => ?_)
      refine lv_iload_n hx hb dX5_crossers_12 rfl (lv_at hl 1 rfl) ?_
      refine lv_aload_n hx hb dX5_crossers_13 rfl (lv_at hl 2 rfl) ?_
      refine va_get (D := D) (ci := 5) (v := .ref (q 10)) (C := RX5) (T := TX5) (N := 22) hx hb hts hin5 hown hK hP 0 rfl rfl 13 (by decide) (hts (.fieldLink RX5 37 "NeckShipModel" "isCut" "[Z") (by decide +kernel)) (fun _ h9 => h9) rfl dX5_crossers_14 ?_
      refine lv_iload_n hx hb dX5_crossers_17 rfl (lv_at hl 0 rfl) ?_
      refine va_zaldB (i := k) (x := bz (A 10 k)) hx hb hK hP 10 1 rfl rfl (o5 _) (by decide) (by omega) dX5_crossers_18 ?_
      refine lz_if_ne (tgt := 35) hx hb dX5_crossers_19 (by decide) (fun c_3 => ?_) (fun c_3 => ?_)
      · refine lv_iconst (v := (0)) hx hb dX5_crossers_35 (by decide) ?_
        refine lv_iadd hx hb dX5_crossers_36 ?_
        refine lv_istore_n (lv' := [(2, .int (a + (0 : Int32))), (3, .int (nI k)), (0, .ref (q 0)), (1, .int (nI t0))]) hx hb dX5_crossers_37 rfl hl (by decide) rfl (fun ls hl => ?_)
        refine lv_iinc (v := nI (k + 1)) (lv' := [(3, .int (nI (k + 1))), (2, .int (a + (0 : Int32))), (0, .ref (q 0)), (1, .int (nI t0))]) hx hb dX5_crossers_38 hl (k := 1) rfl (nI_1 k) (by decide) rfl (fun ls hl => ?_)
        refine lv_goto (tgt := 4) hx hb dX5_crossers_41 (by decide) ?_
        exact ih (k + 1) (a + (0 : Int32)) _ (by omega) (hF.trans (by rw [s_X5_crossers_L1, if_pos c_3])) (lv_sub hl [0, 1, 2, 3] rfl)
      · refine lv_aload_n hx hb dX5_crossers_22 rfl (lv_at hl 2 rfl) ?_
        refine lv_iload_n hx hb dX5_crossers_23 rfl (lv_at hl 3 rfl) ?_
        refine lv_iload_n hx hb dX5_crossers_24 rfl (lv_at hl 0 rfl) ?_
        refine vp_callSi (W.runV (As := [.int (nI t0), .int (nI k)]) (rest := [.int a]) ⟨hx, hb, hml, hown, hts⟩ (c_X5_doCross l D cI cZ cS q N V A t0 k h_1 (by omega) (by omega)) (cwV 2 hts gX5_crossers_X5_doCross rfl rfl rfl (by decide +kernel) ⟨Nat.le_of_ble_eq_true rfl, Nat.le_of_ble_eq_true rfl⟩) (preM hK hP) rfl rfl hl.1 rfl (lv_room (Nat.le_of_ble_eq_true rfl)) dX5_crossers_25 ⟨Nat.zero_le _, Nat.zero_le _⟩) (fun r_4 er_4 => ?_)
        subst er_4
        refine lz_if_eq (tgt := 35) hx hb dX5_crossers_28 (by decide) (fun c_5 => ?_) (fun c_5 => ?_)
        · refine lv_iconst (v := (0)) hx hb dX5_crossers_35 (by decide) ?_
          refine lv_iadd hx hb dX5_crossers_36 ?_
          refine lv_istore_n (lv' := [(2, .int (a + (0 : Int32))), (3, .int (nI k)), (0, .ref (q 0)), (1, .int (nI t0))]) hx hb dX5_crossers_37 rfl hl (by decide) rfl (fun ls hl => ?_)
          refine lv_iinc (v := nI (k + 1)) (lv' := [(3, .int (nI (k + 1))), (2, .int (a + (0 : Int32))), (0, .ref (q 0)), (1, .int (nI t0))]) hx hb dX5_crossers_38 hl (k := 1) rfl (nI_1 k) (by decide) rfl (fun ls hl => ?_)
          refine lv_goto (tgt := 4) hx hb dX5_crossers_41 (by decide) ?_
          exact ih (k + 1) (a + (0 : Int32)) _ (by omega) (hF.trans (by rw [s_X5_crossers_L1, if_neg (nb c_3), if_neg (nb c_5)])) (lv_sub hl [0, 1, 2, 3] rfl)
        · refine lv_iconst (v := (1)) hx hb dX5_crossers_31 (by decide) ?_
          refine lv_goto (tgt := 36) hx hb dX5_crossers_32 (by decide) ?_
          refine lv_iadd hx hb dX5_crossers_36 ?_
          refine lv_istore_n (lv' := [(2, .int (a + (1 : Int32))), (3, .int (nI k)), (0, .ref (q 0)), (1, .int (nI t0))]) hx hb dX5_crossers_37 rfl hl (by decide) rfl (fun ls hl => ?_)
          refine lv_iinc (v := nI (k + 1)) (lv' := [(3, .int (nI (k + 1))), (2, .int (a + (1 : Int32))), (0, .ref (q 0)), (1, .int (nI t0))]) hx hb dX5_crossers_38 hl (k := 1) rfl (nI_1 k) (by decide) rfl (fun ls hl => ?_)
          refine lv_goto (tgt := 4) hx hb dX5_crossers_41 (by decide) ?_
          exact ih (k + 1) (a + (1 : Int32)) _ (by omega) (hF.trans (by rw [s_X5_crossers_L1, if_neg (nb c_3), if_pos c_5])) (lv_sub hl [0, 1, 2, 3] rfl)
  exact LL1 (N 1) 0 (0 : Int32) _ (by omega) rfl (lv_sub hl [0, 1, 2, 3] rfl)
