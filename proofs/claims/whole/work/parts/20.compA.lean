/-- a row whose numbers are Nats below b -/
def isN (f : Nat → Int32) (b : Nat) : Prop := ∀ j, f j = nI (f j).toNatClampNeg ∧ (f j).toNatClampNeg < b
/-- what the rows of the ship need of its cells -/
def okC (N : Nat → Nat) (A : Nat → Nat → Int32) : Prop := N 0 ≤ 10 ∧ N 1 ≤ 16 ∧ N 2 < 1024 ∧ N 3 < 65536 ∧ N 4 < 65536 ∧ isN (A 8) 1024 ∧ isN (A 9) 1024 ∧ isN (A 15) 65536 ∧ isN (A 12) 10
section RW5
variable {p : Program} {l : Launch} {e : Env} {R : Room} {s : State} {m : MethodId} {args : Array Value} {below : List Frame} {meth : Method} {c : Code} {H : Heap} {locs : List Loc} {cells slots : Nat} {Qq : State → Prop}
variable {cc : ByteArray} {pc : Nat} {ls : Array Slot} {rest : List Value} {D : va_G} {cl : List vw_C} {Ar : Nat → Prop} {a : Nat} {tys : List (ClassId × FieldType)} {ws : va_W} {H0 : Heap}
theorem va_ialdV (hx : p.tables.exec = Jvm.exec) (hb : c.code = cc) (hK : va_K D cl tys s) (hP : va_P D cl ws H) (q0 t0 : Nat) {cA : ClassId} {n : Nat} {f : Nat → Int32} (ha : ws[q0]? = some (a, .inl (cA, n, .inl f))) (ht : tys[t0]? = some (cA, .int)) {i x : Nat} (hz : f i = nI x) (hn : n < 2 ^ 31) (hin : i < n) (hdg : decode cc pc = .ok (.iaload, 1))
    (kk : W p l e R s m args below meth c H locs cells slots Qq (F0 m (pc + 1) ls (.int (nI x) :: rest))) : W p l e R s m args below meth c H locs cells slots Qq (F0 m pc ls (.int (nI i) :: .ref a :: rest)) :=
  va_ialdN hx hb hK hP q0 t0 ha ht hn hin hdg (by rw [hz]; exact kk)
theorem va_shN {cI cZ cS : ClassId} {q : Nat → Nat} {N : Nat → Nat} {V : Nat → Int32} {A : Nat → Nat → Int32} {i : Nat} (hi : i < 4) (hx : p.tables.exec = Jvm.exec) (hb : c.code = cc) (hK : va_K D vwCl (tysA cI cZ cS) s) (hP : va_P D vwCl (wC cI cS q N V A) H) (hdg : decode cc pc = .ok (.aaload, 1))
    (kk : W p l e R s m args below meth c H locs cells slots Qq (F0 m (pc + 1) ls (.ref (q (17 + 2 * i)) :: rest))) : W p l e R s m args below meth c H locs cells slots Qq (F0 m pc ls (.int (nI i) :: .ref (q 16) :: rest)) :=
  va_aldq hx hb hK hP 16 2 (C := "NeckShip$Sheet") (cA := cS) (n := 4) (f := fun j => some (q (17 + 2 * j))) rfl rfl (vp_in_nI hi (by decide)) hdg (by rw [nI_clamp (by omega)]; exact kk)
end RW5
theorem wC_put_lane {cI cS : ClassId} {q : Nat → Nat} {N : Nat → Nat} {V : Nat → Int32} {A : Nat → Nat → Int32} {k : Nat} (hk : k < 4) {x : Int32} : (wC cI cS q N V A).set (17 + 2 * k) (q (17 + 2 * k), .inr (1, [.ref (q (18 + 2 * k)), .int (V (5 + k)), .int (V (9 + k))].set 1 (.int x))) = wC cI cS q N (va_up V (5 + k) x) A := by
  rcases (show k = 0 ∨ k = 1 ∨ k = 2 ∨ k = 3 by omega) with rfl | rfl | rfl | rfl <;> rfl
theorem wC_put_size {cI cS : ClassId} {q : Nat → Nat} {N : Nat → Nat} {V : Nat → Int32} {A : Nat → Nat → Int32} {k : Nat} (hk : k < 4) {x : Int32} : (wC cI cS q N V A).set (17 + 2 * k) (q (17 + 2 * k), .inr (1, [.ref (q (18 + 2 * k)), .int (V (5 + k)), .int (V (9 + k))].set 2 (.int x))) = wC cI cS q N (va_up V (9 + k) x) A := by
  rcases (show k = 0 ∨ k = 1 ∨ k = 2 ∨ k = 3 by omega) with rfl | rfl | rfl | rfl <;> rfl
theorem wC_put_cells {cI cS : ClassId} {q : Nat → Nat} {N : Nat → Nat} {V : Nat → Int32} {A : Nat → Nat → Int32} {k : Nat} (hk : k < 4) {f : Nat → Int32} : (wC cI cS q N V A).set (18 + 2 * k) (q (18 + 2 * k), .inl (cI, 50, .inl f)) = wC cI cS q N V (va_up A (18 + 2 * k) f) := by
  rcases (show k = 0 ∨ k = 1 ∨ k = 2 ∨ k = 3 by omega) with rfl | rfl | rfl | rfl <;> rfl
theorem has_tn {x : Int32} {n : Nat} (hn : n < 2 ^ 31) (h0 : ¬ x < 0) (h1 : ¬ nI n ≤ x) : x.toNatClampNeg < n ∧ nI x.toNatClampNeg = x := by
  rcases pk_ix x hn with h | h | ⟨j, hj, rfl⟩
  · exact absurd h h0
  · exact absurd h h1
  · rw [nI_clamp (by omega)]; exact ⟨hj, rfl⟩
def s_X4_isWithin   (v0 : Int32) (a0 : Int32) (b0 : Int32) : Bool :=
  if v0 < a0 then
    false
  else
    if b0 < v0 then
      false
    else
      true
set_option maxHeartbeats 4000000 in
set_option maxRecDepth 100000 in
theorem c_X4_isWithin (l : Launch) (v0 : Int32) (a0 : Int32) (b0 : Int32) : Met l yX4_isWithin wsX4_isWithin ({ frames := 0, cells := 0, slots := 0, locals := 0 }) (fun w _ => w = ([.int v0, .int a0, .int b0] : List Value).toArray) (vp_Si (fun r => r = b2i (s_X4_isWithin v0 a0 b0))) 0 0 (fun _ => False) := by
  refine Met.ofW (cc := cX4_isWithin) (maxL := 3) (ret := (some .boolean)) (by decide) rfl ?_
  intro p e s m args below meth c s₁ B hml hv
  obtain rfl := hv
  have hx := B.exec
  have hb := B.bytes
  have hr := B.returns
  have hts := atoms_spec (ws := wsX4_isWithin) B.pre
  have hown : s.vm.findClass RX4 = some m.cls := findClass_of_methodNamed B.named
  have hlocks := B.notSynchronized
  have hl := lv_entry ([.int v0, .int a0, .int b0]) (n := 3) (Nat.le_of_ble_eq_true rfl)
  rw [lg_entry_eq]
  generalize (lg_sl ([.int v0, .int a0, .int b0]) ++ List.replicate (3 - (lg_sl ([.int v0, .int a0, .int b0])).length) Slot.unset).toArray = ls at hl ⊢
  have hl : lv_has ls 3 [(0, .int v0), (1, .int a0), (2, .int b0)] := hl
  refine lv_iload_n hx hb dX4_isWithin_0 rfl (lv_at hl 0 rfl) ?_
  refine lv_iload_n hx hb dX4_isWithin_1 rfl (lv_at hl 1 rfl) ?_
  refine lv_icmp_lt (tgt := 14) hx hb dX4_isWithin_2 (by decide) (fun c_1 => ?_) (fun c_1 => ?_)
  · refine lv_iconst (v := (0)) hx hb dX4_isWithin_14 (by decide) ?_
    exact W.zret (v := b2i false) hx hb hr (b2i_nar _) (fun t ht hW => ⟨_, rfl, (by rw [s_X4_isWithin, if_pos c_1]), ht⟩) (fun _ h => by cases h) dX4_isWithin_15
  · refine lv_iload_n hx hb dX4_isWithin_5 rfl (lv_at hl 0 rfl) ?_
    refine lv_iload_n hx hb dX4_isWithin_6 rfl (lv_at hl 2 rfl) ?_
    refine lv_icmp_gt (tgt := 14) hx hb dX4_isWithin_7 (by decide) (fun c_2 => ?_) (fun c_2 => ?_)
    · refine lv_iconst (v := (0)) hx hb dX4_isWithin_14 (by decide) ?_
      exact W.zret (v := b2i false) hx hb hr (b2i_nar _) (fun t ht hW => ⟨_, rfl, (by rw [s_X4_isWithin, if_neg c_1, if_pos c_2]), ht⟩) (fun _ h => by cases h) dX4_isWithin_15
    · refine lv_iconst (v := (1)) hx hb dX4_isWithin_10 (by decide) ?_
      refine lv_goto (tgt := 15) hx hb dX4_isWithin_11 (by decide) ?_
      exact W.zret (v := b2i true) hx hb hr (b2i_nar _) (fun t ht hW => ⟨_, rfl, (by rw [s_X4_isWithin, if_neg c_1, if_neg c_2]), ht⟩) (fun _ h => by cases h) dX4_isWithin_15
def s_X4_isIn   (s0 : Int32) (n0 : Int32) : Bool :=
  if ((s0 >>> (n0 &&& 31)) &&& (1 : Int32)) = (1 : Int32) then
    true
  else
    false
set_option maxHeartbeats 4000000 in
set_option maxRecDepth 100000 in
theorem c_X4_isIn (l : Launch) (s0 : Int32) (n0 : Int32) : Met l yX4_isIn wsX4_isIn ({ frames := 0, cells := 0, slots := 0, locals := 0 }) (fun w _ => w = ([.int s0, .int n0] : List Value).toArray) (vp_Si (fun r => r = b2i (s_X4_isIn s0 n0))) 0 0 (fun _ => False) := by
  refine Met.ofW (cc := cX4_isIn) (maxL := 2) (ret := (some .boolean)) (by decide) rfl ?_
  intro p e s m args below meth c s₁ B hml hv
  obtain rfl := hv
  have hx := B.exec
  have hb := B.bytes
  have hr := B.returns
  have hts := atoms_spec (ws := wsX4_isIn) B.pre
  have hown : s.vm.findClass RX4 = some m.cls := findClass_of_methodNamed B.named
  have hlocks := B.notSynchronized
  have hl := lv_entry ([.int s0, .int n0]) (n := 2) (Nat.le_of_ble_eq_true rfl)
  rw [lg_entry_eq]
  generalize (lg_sl ([.int s0, .int n0]) ++ List.replicate (2 - (lg_sl ([.int s0, .int n0])).length) Slot.unset).toArray = ls at hl ⊢
  have hl : lv_has ls 2 [(0, .int s0), (1, .int n0)] := hl
  refine lv_iload_n hx hb dX4_isIn_0 rfl (lv_at hl 0 rfl) ?_
  refine lv_iload_n hx hb dX4_isIn_1 rfl (lv_at hl 1 rfl) ?_
  refine lv_ishr hx hb dX4_isIn_2 ?_
  refine lv_iconst (v := (1)) hx hb dX4_isIn_3 (by decide) ?_
  refine lv_iand hx hb dX4_isIn_4 ?_
  refine lv_iconst (v := (1)) hx hb dX4_isIn_5 (by decide) ?_
  refine lv_icmp_ne (tgt := 13) hx hb dX4_isIn_6 (by decide) (fun c_1 => ?_) (fun c_1 => ?_)
  · refine lv_iconst (v := (0)) hx hb dX4_isIn_13 (by decide) ?_
    exact W.zret (v := b2i false) hx hb hr (b2i_nar _) (fun t ht hW => ⟨_, rfl, (by rw [s_X4_isIn, if_neg c_1]), ht⟩) (fun _ h => by cases h) dX4_isIn_14
  · refine lv_iconst (v := (1)) hx hb dX4_isIn_9 (by decide) ?_
    refine lv_goto (tgt := 14) hx hb dX4_isIn_10 (by decide) ?_
    exact W.zret (v := b2i true) hx hb hr (b2i_nar _) (fun t ht hW => ⟨_, rfl, (by rw [s_X4_isIn, if_pos c_1]), ht⟩) (fun _ h => by cases h) dX4_isIn_14
def s_X4_oneIf   (b0 : Bool) : Int32 :=
  if b0 = true then
    (1 : Int32)
  else
    (0 : Int32)
set_option maxHeartbeats 4000000 in
set_option maxRecDepth 100000 in
theorem c_X4_oneIf (l : Launch) (b0 : Bool) : Met l yX4_oneIf wsX4_oneIf ({ frames := 0, cells := 0, slots := 0, locals := 0 }) (fun w _ => w = ([.int (b2i b0)] : List Value).toArray) (vp_Si (fun r => r = (s_X4_oneIf b0))) 0 0 (fun _ => False) := by
  refine Met.ofW (cc := cX4_oneIf) (maxL := 1) (ret := (some .int)) (by decide) rfl ?_
  intro p e s m args below meth c s₁ B hml hv
  obtain rfl := hv
  have hx := B.exec
  have hb := B.bytes
  have hr := B.returns
  have hts := atoms_spec (ws := wsX4_oneIf) B.pre
  have hown : s.vm.findClass RX4 = some m.cls := findClass_of_methodNamed B.named
  have hlocks := B.notSynchronized
  have hl := lv_entry ([.int (b2i b0)]) (n := 1) (Nat.le_of_ble_eq_true rfl)
  rw [lg_entry_eq]
  generalize (lg_sl ([.int (b2i b0)]) ++ List.replicate (1 - (lg_sl ([.int (b2i b0)])).length) Slot.unset).toArray = ls at hl ⊢
  have hl : lv_has ls 1 [(0, .int (b2i b0))] := hl
  refine lv_iload_n hx hb dX4_oneIf_0 rfl (lv_at hl 0 rfl) ?_
  refine lz_if_eq (tgt := 8) hx hb dX4_oneIf_1 (by decide) (fun c_1 => ?_) (fun c_1 => ?_)
  · refine lv_iconst (v := (0)) hx hb dX4_oneIf_8 (by decide) ?_
    exact W.iret (v := (0 : Int32)) hx hb hr (fun t ht hW => ⟨_, rfl, (by rw [s_X4_oneIf, if_neg (nb c_1)]), ht⟩) (fun _ h => by cases h) dX4_oneIf_9
  · refine lv_iconst (v := (1)) hx hb dX4_oneIf_4 (by decide) ?_
    refine lv_goto (tgt := 9) hx hb dX4_oneIf_5 (by decide) ?_
    exact W.iret (v := (1 : Int32)) hx hb hr (fun t ht hW => ⟨_, rfl, (by rw [s_X4_oneIf, if_pos c_1]), ht⟩) (fun _ h => by cases h) dX4_oneIf_9
def s_X2_has (N : Nat → Nat) (V : Nat → Int32) (A : Nat → Nat → Int32)  (s0 : Int32) : Bool :=
  if s0 < 0 then
    false
  else
    if nI (N 0) ≤ s0 then
      false
    else
      true
set_option maxHeartbeats 4000000 in
set_option maxRecDepth 100000 in
theorem c_X2_has (l : Launch) (D : va_G) (cI cZ cS : ClassId) (q : Nat → Nat) (N : Nat → Nat) (V : Nat → Int32) (A : Nat → Nat → Int32) (s0 : Int32) : Met l yX2_has wsX2_has ({ frames := 0, cells := 0, slots := 0, locals := 0 }) (va_Pc [.ref (q 2), .int s0] (PC D cI cZ cS q N V A)) (vp_Si (fun r => r = b2i (s_X2_has N V A s0))) 0 0 (fun _ => False) := by
  refine Met.ofW (cc := cX2_has) (maxL := 2) (ret := (some .boolean)) (by decide) rfl ?_
  intro p e s m args below meth c s₁ B hml hv
  obtain ⟨rfl, hP, hK, hN⟩ := hv
  have hx := B.exec
  have hb := B.bytes
  have hr := B.returns
  have hts := atoms_spec (ws := wsX2_has) B.pre
  have hown : s.vm.findClass RX2 = some m.cls := findClass_of_methodNamed B.named
  have hlocks := B.notSynchronized
  have hin2 : ∀ w ∈ u_ws RX2 TX2 9, w ∈ wsX2_has := by decide +kernel
  have hl := lv_entry ([.ref (q 2), .int s0]) (n := 2) (Nat.le_of_ble_eq_true rfl)
  rw [lg_entry_eq]
  generalize (lg_sl ([.ref (q 2), .int s0]) ++ List.replicate (2 - (lg_sl ([.ref (q 2), .int s0])).length) Slot.unset).toArray = ls at hl ⊢
  have hl : lv_has ls 2 [(0, .ref (q 2)), (1, .int s0)] := hl
  refine lv_iload_n hx hb dX2_has_0 rfl (lv_at hl 1 rfl) ?_
  refine lv_if_lt (tgt := 16) hx hb dX2_has_1 (by decide) (fun c_1 => ?_) (fun c_1 => ?_)
  · refine lv_iconst (v := (0)) hx hb dX2_has_16 (by decide) ?_
    exact W.zret (v := b2i false) hx hb hr (b2i_nar _) (fun t ht hW => ⟨_, rfl, (by rw [s_X2_has, if_pos c_1]), ht⟩) (fun _ h => by cases h) dX2_has_17
  · refine lv_iload_n hx hb dX2_has_4 rfl (lv_at hl 1 rfl) ?_
    refine lv_aload_n hx hb dX2_has_5 rfl (lv_at hl 0 rfl) ?_
    refine va_get (D := D) (ci := 2) (v := .int (nI (N 0))) (C := RX2) (T := TX2) (N := 9) hx hb hts hin2 hown hK hP 2 rfl rfl 7 (by decide) (hts (.fieldLink RX2 33 "NeckShip$Spars" "count" "I") (by decide +kernel)) (fun _ h9 => h9) rfl dX2_has_6 ?_
    refine lv_icmp_ge (tgt := 16) hx hb dX2_has_9 (by decide) (fun c_2 => ?_) (fun c_2 => ?_)
    · refine lv_iconst (v := (0)) hx hb dX2_has_16 (by decide) ?_
      exact W.zret (v := b2i false) hx hb hr (b2i_nar _) (fun t ht hW => ⟨_, rfl, (by rw [s_X2_has, if_neg c_1, if_pos c_2]), ht⟩) (fun _ h => by cases h) dX2_has_17
    · refine lv_iconst (v := (1)) hx hb dX2_has_12 (by decide) ?_
      refine lv_goto (tgt := 17) hx hb dX2_has_13 (by decide) ?_
      exact W.zret (v := b2i true) hx hb hr (b2i_nar _) (fun t ht hW => ⟨_, rfl, (by rw [s_X2_has, if_neg c_1, if_neg c_2]), ht⟩) (fun _ h => by cases h) dX2_has_17
def s_X3_has (N : Nat → Nat) (V : Nat → Int32) (A : Nat → Nat → Int32)  (t0 : Int32) : Bool :=
  if t0 < 0 then
    false
  else
    if nI (N 1) ≤ t0 then
      false
    else
      true
set_option maxHeartbeats 4000000 in
set_option maxRecDepth 100000 in
theorem c_X3_has (l : Launch) (D : va_G) (cI cZ cS : ClassId) (q : Nat → Nat) (N : Nat → Nat) (V : Nat → Int32) (A : Nat → Nat → Int32) (t0 : Int32) : Met l yX3_has wsX3_has ({ frames := 0, cells := 0, slots := 0, locals := 0 }) (va_Pc [.ref (q 10), .int t0] (PC D cI cZ cS q N V A)) (vp_Si (fun r => r = b2i (s_X3_has N V A t0))) 0 0 (fun _ => False) := by
  refine Met.ofW (cc := cX3_has) (maxL := 2) (ret := (some .boolean)) (by decide) rfl ?_
  intro p e s m args below meth c s₁ B hml hv
  obtain ⟨rfl, hP, hK, hN⟩ := hv
  have hx := B.exec
  have hb := B.bytes
  have hr := B.returns
  have hts := atoms_spec (ws := wsX3_has) B.pre
  have hown : s.vm.findClass RX3 = some m.cls := findClass_of_methodNamed B.named
  have hlocks := B.notSynchronized
  have hin3 : ∀ w ∈ u_ws RX3 TX3 8, w ∈ wsX3_has := by decide +kernel
  have hl := lv_entry ([.ref (q 10), .int t0]) (n := 2) (Nat.le_of_ble_eq_true rfl)
  rw [lg_entry_eq]
  generalize (lg_sl ([.ref (q 10), .int t0]) ++ List.replicate (2 - (lg_sl ([.ref (q 10), .int t0])).length) Slot.unset).toArray = ls at hl ⊢
  have hl : lv_has ls 2 [(0, .ref (q 10)), (1, .int t0)] := hl
  refine lv_iload_n hx hb dX3_has_0 rfl (lv_at hl 1 rfl) ?_
  refine lv_if_lt (tgt := 16) hx hb dX3_has_1 (by decide) (fun c_1 => ?_) (fun c_1 => ?_)
  · refine lv_iconst (v := (0)) hx hb dX3_has_16 (by decide) ?_
    exact W.zret (v := b2i false) hx hb hr (b2i_nar _) (fun t ht hW => ⟨_, rfl, (by rw [s_X3_has, if_pos c_1]), ht⟩) (fun _ h => by cases h) dX3_has_17
  · refine lv_iload_n hx hb dX3_has_4 rfl (lv_at hl 1 rfl) ?_
    refine lv_aload_n hx hb dX3_has_5 rfl (lv_at hl 0 rfl) ?_
    refine va_get (D := D) (ci := 3) (v := .int (nI (N 1))) (C := RX3) (T := TX3) (N := 8) hx hb hts hin3 hown hK hP 10 rfl rfl 7 (by decide) (hts (.fieldLink RX3 34 "NeckShip$Threads" "count" "I") (by decide +kernel)) (fun _ h9 => h9) rfl dX3_has_6 ?_
    refine lv_icmp_ge (tgt := 16) hx hb dX3_has_9 (by decide) (fun c_2 => ?_) (fun c_2 => ?_)
    · refine lv_iconst (v := (0)) hx hb dX3_has_16 (by decide) ?_
      exact W.zret (v := b2i false) hx hb hr (b2i_nar _) (fun t ht hW => ⟨_, rfl, (by rw [s_X3_has, if_neg c_1, if_pos c_2]), ht⟩) (fun _ h => by cases h) dX3_has_17
    · refine lv_iconst (v := (1)) hx hb dX3_has_12 (by decide) ?_
      refine lv_goto (tgt := 17) hx hb dX3_has_13 (by decide) ?_
      exact W.zret (v := b2i true) hx hb hr (b2i_nar _) (fun t ht hW => ⟨_, rfl, (by rw [s_X3_has, if_neg c_1, if_neg c_2]), ht⟩) (fun _ h => by cases h) dX3_has_17
def s_X2_low (N : Nat → Nat) (V : Nat → Int32) (A : Nat → Nat → Int32)  (s0 : Nat) : Int32 :=
  (if (A 4 s0 + (A 7 s0 * A 5 s0)) < A 4 s0 then (A 4 s0 + (A 7 s0 * A 5 s0)) else A 4 s0)
set_option maxHeartbeats 4000000 in
set_option maxRecDepth 100000 in
theorem c_X2_low (l : Launch) (D : va_G) (cI cZ cS : ClassId) (q : Nat → Nat) (N : Nat → Nat) (V : Nat → Int32) (A : Nat → Nat → Int32) (s0 : Nat) (h_1 : s0 < 10) : Met l yX2_low wsX2_low ({ frames := 1, cells := 0, slots := 0, locals := 21 }) (va_Pc [.ref (q 2), .int (nI s0)] (PC D cI cZ cS q N V A)) (vp_Si (fun r => r = (s_X2_low N V A s0))) 0 0 (fun _ => False) := by
  refine Met.ofW (cc := cX2_low) (maxL := 2) (ret := (some .int)) (by decide) rfl ?_
  intro p e s m args below meth c s₁ B hml hv
  obtain ⟨rfl, hP, hK, hN⟩ := hv
  have hx := B.exec
  have hb := B.bytes
  have hr := B.returns
  have hts := atoms_spec (ws := wsX2_low) B.pre
  have hown : s.vm.findClass RX2 = some m.cls := findClass_of_methodNamed B.named
  have hlocks := B.notSynchronized
  have hin2 : ∀ w ∈ u_ws RX2 TX2 9, w ∈ wsX2_low := by decide +kernel
  have hl := lv_entry ([.ref (q 2), .int (nI s0)]) (n := 2) (Nat.le_of_ble_eq_true rfl)
  rw [lg_entry_eq]
  generalize (lg_sl ([.ref (q 2), .int (nI s0)]) ++ List.replicate (2 - (lg_sl ([.ref (q 2), .int (nI s0)])).length) Slot.unset).toArray = ls at hl ⊢
  have hl : lv_has ls 2 [(0, .ref (q 2)), (1, .int (nI s0))] := hl
  refine lv_aload_n hx hb dX2_low_0 rfl (lv_at hl 0 rfl) ?_
  refine va_get (D := D) (ci := 2) (v := .ref (q 4)) (C := RX2) (T := TX2) (N := 9) hx hb hts hin2 hown hK hP 2 rfl rfl 1 (by decide) (hts (.fieldLink RX2 15 "NeckShip$Spars" "foot" "[I") (by decide +kernel)) (fun _ h9 => h9) rfl dX2_low_1 ?_
  refine lv_iload_n hx hb dX2_low_4 rfl (lv_at hl 1 rfl) ?_
  refine va_ialdN (i := s0) hx hb hK hP 4 0 rfl rfl (by decide) (by omega) dX2_low_5 ?_
  refine lv_aload_n hx hb dX2_low_6 rfl (lv_at hl 0 rfl) ?_
  refine va_get (D := D) (ci := 2) (v := .ref (q 4)) (C := RX2) (T := TX2) (N := 9) hx hb hts hin2 hown hK hP 2 rfl rfl 1 (by decide) (hts (.fieldLink RX2 15 "NeckShip$Spars" "foot" "[I") (by decide +kernel)) (fun _ h9 => h9) rfl dX2_low_7 ?_
  refine lv_iload_n hx hb dX2_low_10 rfl (lv_at hl 1 rfl) ?_
  refine va_ialdN (i := s0) hx hb hK hP 4 0 rfl rfl (by decide) (by omega) dX2_low_11 ?_
  refine lv_aload_n hx hb dX2_low_12 rfl (lv_at hl 0 rfl) ?_
  refine va_get (D := D) (ci := 2) (v := .ref (q 7)) (C := RX2) (T := TX2) (N := 9) hx hb hts hin2 hown hK hP 2 rfl rfl 4 (by decide) (hts (.fieldLink RX2 24 "NeckShip$Spars" "way" "[I") (by decide +kernel)) (fun _ h9 => h9) rfl dX2_low_13 ?_
  refine lv_iload_n hx hb dX2_low_16 rfl (lv_at hl 1 rfl) ?_
  refine va_ialdN (i := s0) hx hb hK hP 7 0 rfl rfl (by decide) (by omega) dX2_low_17 ?_
  refine lv_aload_n hx hb dX2_low_18 rfl (lv_at hl 0 rfl) ?_
  refine va_get (D := D) (ci := 2) (v := .ref (q 5)) (C := RX2) (T := TX2) (N := 9) hx hb hts hin2 hown hK hP 2 rfl rfl 2 (by decide) (hts (.fieldLink RX2 18 "NeckShip$Spars" "length" "[I") (by decide +kernel)) (fun _ h9 => h9) rfl dX2_low_19 ?_
  refine lv_iload_n hx hb dX2_low_22 rfl (lv_at hl 1 rfl) ?_
  refine va_ialdN (i := s0) hx hb hK hP 5 0 rfl rfl (by decide) (by omega) dX2_low_23 ?_
  refine lv_imul hx hb dX2_low_24 ?_
  refine lv_iadd hx hb dX2_low_25 ?_
  refine va_mmin hx hb (by rw [hml]; exact hl.1.symm) hown (hts (.methodLink RX2 61 Lib.Math.min.name) (by decide +kernel)) (hts (.static Lib.Math.min.name) (by decide +kernel)) (hts (.initialized "java/lang/Math") (by decide +kernel)) (hts (.code Lib.Math.min.name Lib.Math.min.code 2 (some .int)) (by decide +kernel)) (Nat.le_of_ble_eq_true rfl) (Nat.le_of_ble_eq_true rfl) (Nat.zero_le _) (Nat.zero_le _) dX2_low_26 ?_
  exact W.iret (v := (if (A 4 s0 + (A 7 s0 * A 5 s0)) < A 4 s0 then (A 4 s0 + (A 7 s0 * A 5 s0)) else A 4 s0)) hx hb hr (fun t ht hW => ⟨_, rfl, (by rw [s_X2_low]), ht⟩) (fun _ h => by cases h) dX2_low_29
def s_X2_high (N : Nat → Nat) (V : Nat → Int32) (A : Nat → Nat → Int32)  (s0 : Nat) : Int32 :=
  (if A 4 s0 < (A 4 s0 + (A 7 s0 * A 5 s0)) then (A 4 s0 + (A 7 s0 * A 5 s0)) else A 4 s0)
set_option maxHeartbeats 4000000 in
set_option maxRecDepth 100000 in
theorem c_X2_high (l : Launch) (D : va_G) (cI cZ cS : ClassId) (q : Nat → Nat) (N : Nat → Nat) (V : Nat → Int32) (A : Nat → Nat → Int32) (s0 : Nat) (h_1 : s0 < 10) : Met l yX2_high wsX2_high ({ frames := 1, cells := 0, slots := 0, locals := 21 }) (va_Pc [.ref (q 2), .int (nI s0)] (PC D cI cZ cS q N V A)) (vp_Si (fun r => r = (s_X2_high N V A s0))) 0 0 (fun _ => False) := by
  refine Met.ofW (cc := cX2_high) (maxL := 2) (ret := (some .int)) (by decide) rfl ?_
  intro p e s m args below meth c s₁ B hml hv
  obtain ⟨rfl, hP, hK, hN⟩ := hv
  have hx := B.exec
  have hb := B.bytes
  have hr := B.returns
  have hts := atoms_spec (ws := wsX2_high) B.pre
  have hown : s.vm.findClass RX2 = some m.cls := findClass_of_methodNamed B.named
  have hlocks := B.notSynchronized
  have hin2 : ∀ w ∈ u_ws RX2 TX2 9, w ∈ wsX2_high := by decide +kernel
  have hl := lv_entry ([.ref (q 2), .int (nI s0)]) (n := 2) (Nat.le_of_ble_eq_true rfl)
  rw [lg_entry_eq]
  generalize (lg_sl ([.ref (q 2), .int (nI s0)]) ++ List.replicate (2 - (lg_sl ([.ref (q 2), .int (nI s0)])).length) Slot.unset).toArray = ls at hl ⊢
  have hl : lv_has ls 2 [(0, .ref (q 2)), (1, .int (nI s0))] := hl
  refine lv_aload_n hx hb dX2_high_0 rfl (lv_at hl 0 rfl) ?_
  refine va_get (D := D) (ci := 2) (v := .ref (q 4)) (C := RX2) (T := TX2) (N := 9) hx hb hts hin2 hown hK hP 2 rfl rfl 1 (by decide) (hts (.fieldLink RX2 15 "NeckShip$Spars" "foot" "[I") (by decide +kernel)) (fun _ h9 => h9) rfl dX2_high_1 ?_
  refine lv_iload_n hx hb dX2_high_4 rfl (lv_at hl 1 rfl) ?_
  refine va_ialdN (i := s0) hx hb hK hP 4 0 rfl rfl (by decide) (by omega) dX2_high_5 ?_
  refine lv_aload_n hx hb dX2_high_6 rfl (lv_at hl 0 rfl) ?_
  refine va_get (D := D) (ci := 2) (v := .ref (q 4)) (C := RX2) (T := TX2) (N := 9) hx hb hts hin2 hown hK hP 2 rfl rfl 1 (by decide) (hts (.fieldLink RX2 15 "NeckShip$Spars" "foot" "[I") (by decide +kernel)) (fun _ h9 => h9) rfl dX2_high_7 ?_
  refine lv_iload_n hx hb dX2_high_10 rfl (lv_at hl 1 rfl) ?_
  refine va_ialdN (i := s0) hx hb hK hP 4 0 rfl rfl (by decide) (by omega) dX2_high_11 ?_
  refine lv_aload_n hx hb dX2_high_12 rfl (lv_at hl 0 rfl) ?_
  refine va_get (D := D) (ci := 2) (v := .ref (q 7)) (C := RX2) (T := TX2) (N := 9) hx hb hts hin2 hown hK hP 2 rfl rfl 4 (by decide) (hts (.fieldLink RX2 24 "NeckShip$Spars" "way" "[I") (by decide +kernel)) (fun _ h9 => h9) rfl dX2_high_13 ?_
  refine lv_iload_n hx hb dX2_high_16 rfl (lv_at hl 1 rfl) ?_
  refine va_ialdN (i := s0) hx hb hK hP 7 0 rfl rfl (by decide) (by omega) dX2_high_17 ?_
  refine lv_aload_n hx hb dX2_high_18 rfl (lv_at hl 0 rfl) ?_
  refine va_get (D := D) (ci := 2) (v := .ref (q 5)) (C := RX2) (T := TX2) (N := 9) hx hb hts hin2 hown hK hP 2 rfl rfl 2 (by decide) (hts (.fieldLink RX2 18 "NeckShip$Spars" "length" "[I") (by decide +kernel)) (fun _ h9 => h9) rfl dX2_high_19 ?_
  refine lv_iload_n hx hb dX2_high_22 rfl (lv_at hl 1 rfl) ?_
  refine va_ialdN (i := s0) hx hb hK hP 5 0 rfl rfl (by decide) (by omega) dX2_high_23 ?_
  refine lv_imul hx hb dX2_high_24 ?_
  refine lv_iadd hx hb dX2_high_25 ?_
  refine va_mmax hx hb (by rw [hml]; exact hl.1.symm) hown (hts (.methodLink RX2 55 Lib.Math.max.name) (by decide +kernel)) (hts (.static Lib.Math.max.name) (by decide +kernel)) (hts (.initialized "java/lang/Math") (by decide +kernel)) (hts (.code Lib.Math.max.name Lib.Math.max.code 2 (some .int)) (by decide +kernel)) (Nat.le_of_ble_eq_true rfl) (Nat.le_of_ble_eq_true rfl) (Nat.zero_le _) (Nat.zero_le _) dX2_high_26 ?_
  exact W.iret (v := (if A 4 s0 < (A 4 s0 + (A 7 s0 * A 5 s0)) then (A 4 s0 + (A 7 s0 * A 5 s0)) else A 4 s0)) hx hb hr (fun t ht hW => ⟨_, rfl, (by rw [s_X2_high]), ht⟩) (fun _ h => by cases h) dX2_high_29
def s_X2_coverSomeLengthTogether (N : Nat → Nat) (V : Nat → Int32) (A : Nat → Nat → Int32)  (a0 : Nat) (b0 : Nat) : Bool :=
  if (if (s_X2_high N V A b0) < (s_X2_high N V A a0) then (s_X2_high N V A b0) else (s_X2_high N V A a0)) ≤ (if (s_X2_low N V A a0) < (s_X2_low N V A b0) then (s_X2_low N V A b0) else (s_X2_low N V A a0)) then
    false
  else
    true
set_option maxHeartbeats 4000000 in
set_option maxRecDepth 100000 in
theorem c_X2_coverSomeLengthTogether (l : Launch) (D : va_G) (cI cZ cS : ClassId) (q : Nat → Nat) (N : Nat → Nat) (V : Nat → Int32) (A : Nat → Nat → Int32) (a0 : Nat) (b0 : Nat) (h_1 : a0 < 10) (h_2 : b0 < 10) : Met l yX2_coverSomeLengthTogether wsX2_coverSomeLengthTogether ({ frames := 2, cells := 0, slots := 0, locals := 42 }) (va_Pc [.ref (q 2), .int (nI a0), .int (nI b0)] (PC D cI cZ cS q N V A)) (vp_Si (fun r => r = b2i (s_X2_coverSomeLengthTogether N V A a0 b0))) 0 0 (fun _ => False) := by
  refine Met.ofW (cc := cX2_coverSomeLengthTogether) (maxL := 3) (ret := (some .boolean)) (by decide) rfl ?_
  intro p e s m args below meth c s₁ B hml hv
  obtain ⟨rfl, hP, hK, hN⟩ := hv
  have hx := B.exec
  have hb := B.bytes
  have hr := B.returns
  have hts := atoms_spec (ws := wsX2_coverSomeLengthTogether) B.pre
  have hown : s.vm.findClass RX2 = some m.cls := findClass_of_methodNamed B.named
  have hlocks := B.notSynchronized
  have hl := lv_entry ([.ref (q 2), .int (nI a0), .int (nI b0)]) (n := 3) (Nat.le_of_ble_eq_true rfl)
  rw [lg_entry_eq]
  generalize (lg_sl ([.ref (q 2), .int (nI a0), .int (nI b0)]) ++ List.replicate (3 - (lg_sl ([.ref (q 2), .int (nI a0), .int (nI b0)])).length) Slot.unset).toArray = ls at hl ⊢
  have hl : lv_has ls 3 [(0, .ref (q 2)), (1, .int (nI a0)), (2, .int (nI b0))] := hl
  refine lv_aload_n hx hb dX2_coverSomeLengthTogether_0 rfl (lv_at hl 0 rfl) ?_
  refine lv_iload_n hx hb dX2_coverSomeLengthTogether_1 rfl (lv_at hl 1 rfl) ?_
  refine vp_callSi (W.runV (As := [.int (nI a0)]) (rest := []) ⟨hx, hb, hml, hown, hts⟩ (c_X2_low l D cI cZ cS q N V A a0 (by omega)) (cwV 1 hts gX2_coverSomeLengthTogether_X2_low rfl rfl rfl (by decide +kernel) ⟨Nat.le_of_ble_eq_true rfl, Nat.le_of_ble_eq_true rfl⟩) (preC2 hK hN hP) rfl rfl hl.1 rfl (lv_room (Nat.le_of_ble_eq_true rfl)) dX2_coverSomeLengthTogether_2 ⟨Nat.zero_le _, Nat.zero_le _⟩) (fun r_1 er_1 => ?_)
  subst er_1
  refine lv_aload_n hx hb dX2_coverSomeLengthTogether_5 rfl (lv_at hl 0 rfl) ?_
  refine lv_iload_n hx hb dX2_coverSomeLengthTogether_6 rfl (lv_at hl 2 rfl) ?_
  refine vp_callSi (W.runV (As := [.int (nI b0)]) (rest := [.int (s_X2_low N V A a0)]) ⟨hx, hb, hml, hown, hts⟩ (c_X2_low l D cI cZ cS q N V A b0 (by omega)) (cwV 1 hts gX2_coverSomeLengthTogether_X2_low rfl rfl rfl (by decide +kernel) ⟨Nat.le_of_ble_eq_true rfl, Nat.le_of_ble_eq_true rfl⟩) (preC2 hK hN hP) rfl rfl hl.1 rfl (lv_room (Nat.le_of_ble_eq_true rfl)) dX2_coverSomeLengthTogether_7 ⟨Nat.zero_le _, Nat.zero_le _⟩) (fun r_2 er_2 => ?_)
  subst er_2
  refine va_mmax hx hb (by rw [hml]; exact hl.1.symm) hown (hts (.methodLink RX2 55 Lib.Math.max.name) (by decide +kernel)) (hts (.static Lib.Math.max.name) (by decide +kernel)) (hts (.initialized "java/lang/Math") (by decide +kernel)) (hts (.code Lib.Math.max.name Lib.Math.max.code 2 (some .int)) (by decide +kernel)) (Nat.le_of_ble_eq_true rfl) (Nat.le_of_ble_eq_true rfl) (Nat.zero_le _) (Nat.zero_le _) dX2_coverSomeLengthTogether_10 ?_
  refine lv_aload_n hx hb dX2_coverSomeLengthTogether_13 rfl (lv_at hl 0 rfl) ?_
  refine lv_iload_n hx hb dX2_coverSomeLengthTogether_14 rfl (lv_at hl 1 rfl) ?_
  refine vp_callSi (W.runV (As := [.int (nI a0)]) (rest := [.int (if (s_X2_low N V A a0) < (s_X2_low N V A b0) then (s_X2_low N V A b0) else (s_X2_low N V A a0))]) ⟨hx, hb, hml, hown, hts⟩ (c_X2_high l D cI cZ cS q N V A a0 (by omega)) (cwV 1 hts gX2_coverSomeLengthTogether_X2_high rfl rfl rfl (by decide +kernel) ⟨Nat.le_of_ble_eq_true rfl, Nat.le_of_ble_eq_true rfl⟩) (preC2 hK hN hP) rfl rfl hl.1 rfl (lv_room (Nat.le_of_ble_eq_true rfl)) dX2_coverSomeLengthTogether_15 ⟨Nat.zero_le _, Nat.zero_le _⟩) (fun r_3 er_3 => ?_)
  subst er_3
  refine lv_aload_n hx hb dX2_coverSomeLengthTogether_18 rfl (lv_at hl 0 rfl) ?_
  refine lv_iload_n hx hb dX2_coverSomeLengthTogether_19 rfl (lv_at hl 2 rfl) ?_
  refine vp_callSi (W.runV (As := [.int (nI b0)]) (rest := [.int (s_X2_high N V A a0), .int (if (s_X2_low N V A a0) < (s_X2_low N V A b0) then (s_X2_low N V A b0) else (s_X2_low N V A a0))]) ⟨hx, hb, hml, hown, hts⟩ (c_X2_high l D cI cZ cS q N V A b0 (by omega)) (cwV 1 hts gX2_coverSomeLengthTogether_X2_high rfl rfl rfl (by decide +kernel) ⟨Nat.le_of_ble_eq_true rfl, Nat.le_of_ble_eq_true rfl⟩) (preC2 hK hN hP) rfl rfl hl.1 rfl (lv_room (Nat.le_of_ble_eq_true rfl)) dX2_coverSomeLengthTogether_20 ⟨Nat.zero_le _, Nat.zero_le _⟩) (fun r_4 er_4 => ?_)
  subst er_4
  refine va_mmin hx hb (by rw [hml]; exact hl.1.symm) hown (hts (.methodLink RX2 61 Lib.Math.min.name) (by decide +kernel)) (hts (.static Lib.Math.min.name) (by decide +kernel)) (hts (.initialized "java/lang/Math") (by decide +kernel)) (hts (.code Lib.Math.min.name Lib.Math.min.code 2 (some .int)) (by decide +kernel)) (Nat.le_of_ble_eq_true rfl) (Nat.le_of_ble_eq_true rfl) (Nat.zero_le _) (Nat.zero_le _) dX2_coverSomeLengthTogether_23 ?_
  refine lv_icmp_ge (tgt := 33) hx hb dX2_coverSomeLengthTogether_26 (by decide) (fun c_5 => ?_) (fun c_5 => ?_)
  · refine lv_iconst (v := (0)) hx hb dX2_coverSomeLengthTogether_33 (by decide) ?_
    exact W.zret (v := b2i false) hx hb hr (b2i_nar _) (fun t ht hW => ⟨_, rfl, (by rw [s_X2_coverSomeLengthTogether, if_pos c_5]), ht⟩) (fun _ h => by cases h) dX2_coverSomeLengthTogether_34
  · refine lv_iconst (v := (1)) hx hb dX2_coverSomeLengthTogether_29 (by decide) ?_
    refine lv_goto (tgt := 34) hx hb dX2_coverSomeLengthTogether_30 (by decide) ?_
    exact W.zret (v := b2i true) hx hb hr (b2i_nar _) (fun t ht hW => ⟨_, rfl, (by rw [s_X2_coverSomeLengthTogether, if_neg c_5]), ht⟩) (fun _ h => by cases h) dX2_coverSomeLengthTogether_34
def s_X2_noteFootWithin (N : Nat → Nat) (V : Nat → Int32) (A : Nat → Nat → Int32)  (a0 : Nat) (b0 : Nat) : St :=
  if A 4 b0 ≤ (s_X2_low N V A a0) then
    (N, V, A)
  else
    if (s_X2_high N V A a0) ≤ A 4 b0 then
      (N, V, A)
    else
      (N, V, (va_up A 9 (upd (A 9) a0 (A 9 a0 ||| nI (2 ^ b0)))))
set_option maxHeartbeats 4000000 in
set_option maxRecDepth 100000 in
theorem c_X2_noteFootWithin (l : Launch) (D : va_G) (cI cZ cS : ClassId) (q : Nat → Nat) (N : Nat → Nat) (V : Nat → Int32) (A : Nat → Nat → Int32) (sz : Nat) (a0 : Nat) (b0 : Nat) (h_1 : a0 < 10) (h_2 : b0 < 10) : Met l yX2_noteFootWithin wsX2_noteFootWithin ({ frames := 2, cells := 0, slots := 0, locals := 42 }) (va_Pc [.ref (q 2), .int (nI a0), .int (nI b0)] (fun U => U.heap.size = sz ∧ PC D cI cZ cS q N V A U ∧ va_D (fun _ => True) (wC cI cS q N V A))) (va_Qv (fun (_ : Unit) => True) (fun _ t => PC D cI cZ cS q (s_X2_noteFootWithin N V A a0 b0).1 (s_X2_noteFootWithin N V A a0 b0).2.1 (s_X2_noteFootWithin N V A a0 b0).2.2 t ∧ va_D (va_A (wC cI cS q N V A) sz) (wC cI cS q (s_X2_noteFootWithin N V A a0 b0).1 (s_X2_noteFootWithin N V A a0 b0).2.1 (s_X2_noteFootWithin N V A a0 b0).2.2)) (va_A (wC cI cS q N V A) sz)) 0 0 (va_A (wC cI cS q N V A) sz) := by
  refine Met.ofW (cc := cX2_noteFootWithin) (maxL := 3) (ret := none) (by decide) rfl ?_
  intro p e s m args below meth c s₁ B hml hv
  obtain ⟨rfl, hsz, ⟨hP, hK, hN⟩, hD0⟩ := hv
  have hx := B.exec
  have hb := B.bytes
  have hr := B.returns
  have hts := atoms_spec (ws := wsX2_noteFootWithin) B.pre
  have hown : s.vm.findClass RX2 = some m.cls := findClass_of_methodNamed B.named
  have hlocks := B.notSynchronized
  have hin2 : ∀ w ∈ u_ws RX2 TX2 9, w ∈ wsX2_noteFootWithin := by decide +kernel
  subst hsz
  have hD := hD0.self (sz := s.heap.size)
  generalize hAe : va_A (wC cI cS q N V A) s.heap.size = Ar at hD ⊢
  have hA : ∀ q : Nat, s.heap.size ≤ q → Ar q := fun q h => by rw [← hAe]; exact Or.inr h
  have hS : va_S Ar s.heap s.heap [] := va_S.rf
  have hl := lv_entry ([.ref (q 2), .int (nI a0), .int (nI b0)]) (n := 3) (Nat.le_of_ble_eq_true rfl)
  rw [lg_entry_eq]
  generalize (lg_sl ([.ref (q 2), .int (nI a0), .int (nI b0)]) ++ List.replicate (3 - (lg_sl ([.ref (q 2), .int (nI a0), .int (nI b0)])).length) Slot.unset).toArray = ls at hl ⊢
  have hl : lv_has ls 3 [(0, .ref (q 2)), (1, .int (nI a0)), (2, .int (nI b0))] := hl
  refine lv_aload_n hx hb dX2_noteFootWithin_0 rfl (lv_at hl 0 rfl) ?_
  refine lv_iload_n hx hb dX2_noteFootWithin_1 rfl (lv_at hl 1 rfl) ?_
  refine vp_callSi (W.runV (As := [.int (nI a0)]) (rest := []) ⟨hx, hb, hml, hown, hts⟩ (c_X2_low l D cI cZ cS q N V A a0 (by omega)) (cwV 1 hts gX2_noteFootWithin_X2_low rfl rfl rfl (by decide +kernel) ⟨Nat.le_of_ble_eq_true rfl, Nat.le_of_ble_eq_true rfl⟩) (preC2 hK hN hP) rfl rfl hl.1 rfl (lv_room (Nat.le_of_ble_eq_true rfl)) dX2_noteFootWithin_2 ⟨Nat.zero_le _, Nat.zero_le _⟩) (fun r_1 er_1 => ?_)
  subst er_1
  refine lv_aload_n hx hb dX2_noteFootWithin_5 rfl (lv_at hl 0 rfl) ?_
  refine va_get (D := D) (ci := 2) (v := .ref (q 4)) (C := RX2) (T := TX2) (N := 9) hx hb hts hin2 hown hK hP 2 rfl rfl 1 (by decide) (hts (.fieldLink RX2 15 "NeckShip$Spars" "foot" "[I") (by decide +kernel)) (fun _ h9 => h9) rfl dX2_noteFootWithin_6 ?_
  refine lv_iload_n hx hb dX2_noteFootWithin_9 rfl (lv_at hl 2 rfl) ?_
  refine va_ialdN (i := b0) hx hb hK hP 4 0 rfl rfl (by decide) (by omega) dX2_noteFootWithin_10 ?_
  refine lv_icmp_ge (tgt := 40) hx hb dX2_noteFootWithin_11 (by decide) (fun c_2 => ?_) (fun c_2 => ?_)
  · have hEE : s_X2_noteFootWithin N V A a0 b0 = (N, V, A) := (by rw [s_X2_noteFootWithin, if_pos c_2])
    rw [hEE]
    exact W.vret hx hb hr (fun t ht hW => ⟨⟨(), rfl, trivial, ⟨by rw [ht]; exact hP, va_K.moved hW.alike hK, hN.warm hW⟩, hD⟩, hS.F ht⟩) hS.2.2 dX2_noteFootWithin_40
  · refine lv_aload_n hx hb dX2_noteFootWithin_14 rfl (lv_at hl 0 rfl) ?_
    refine va_get (D := D) (ci := 2) (v := .ref (q 4)) (C := RX2) (T := TX2) (N := 9) hx hb hts hin2 hown hK hP 2 rfl rfl 1 (by decide) (hts (.fieldLink RX2 15 "NeckShip$Spars" "foot" "[I") (by decide +kernel)) (fun _ h9 => h9) rfl dX2_noteFootWithin_15 ?_
    refine lv_iload_n hx hb dX2_noteFootWithin_18 rfl (lv_at hl 2 rfl) ?_
    refine va_ialdN (i := b0) hx hb hK hP 4 0 rfl rfl (by decide) (by omega) dX2_noteFootWithin_19 ?_
    refine lv_aload_n hx hb dX2_noteFootWithin_20 rfl (lv_at hl 0 rfl) ?_
    refine lv_iload_n hx hb dX2_noteFootWithin_21 rfl (lv_at hl 1 rfl) ?_
    refine vp_callSi (W.runV (As := [.int (nI a0)]) (rest := [.int (A 4 b0)]) ⟨hx, hb, hml, hown, hts⟩ (c_X2_high l D cI cZ cS q N V A a0 (by omega)) (cwV 1 hts gX2_noteFootWithin_X2_high rfl rfl rfl (by decide +kernel) ⟨Nat.le_of_ble_eq_true rfl, Nat.le_of_ble_eq_true rfl⟩) (preC2 hK hN hP) rfl rfl hl.1 rfl (lv_room (Nat.le_of_ble_eq_true rfl)) dX2_noteFootWithin_22 ⟨Nat.zero_le _, Nat.zero_le _⟩) (fun r_3 er_3 => ?_)
    subst er_3
    refine lv_icmp_ge (tgt := 40) hx hb dX2_noteFootWithin_25 (by decide) (fun c_4 => ?_) (fun c_4 => ?_)
    · have hEE : s_X2_noteFootWithin N V A a0 b0 = (N, V, A) := (by rw [s_X2_noteFootWithin, if_neg c_2, if_pos c_4])
      rw [hEE]
      exact W.vret hx hb hr (fun t ht hW => ⟨⟨(), rfl, trivial, ⟨by rw [ht]; exact hP, va_K.moved hW.alike hK, hN.warm hW⟩, hD⟩, hS.F ht⟩) hS.2.2 dX2_noteFootWithin_40
    · refine lv_aload_n hx hb dX2_noteFootWithin_28 rfl (lv_at hl 0 rfl) ?_
      refine va_get (D := D) (ci := 2) (v := .ref (q 9)) (C := RX2) (T := TX2) (N := 9) hx hb hts hin2 hown hK hP 2 rfl rfl 6 (by decide) (hts (.fieldLink RX2 30 "NeckShip$Spars" "feetWithin" "[I") (by decide +kernel)) (fun _ h9 => h9) rfl dX2_noteFootWithin_29 ?_
      refine lv_iload_n hx hb dX2_noteFootWithin_32 rfl (lv_at hl 1 rfl) ?_
      refine lv_dup2_11 hx hb dX2_noteFootWithin_33 rfl rfl ?_
      refine va_ialdN (i := a0) hx hb hK hP 9 0 rfl rfl (by decide) (by omega) dX2_noteFootWithin_34 ?_
      refine lv_iconst (v := (1)) hx hb dX2_noteFootWithin_35 (by decide) ?_
      refine lv_iload_n hx hb dX2_noteFootWithin_36 rfl (lv_at hl 2 rfl) ?_
      refine lv_ishl hx hb dX2_noteFootWithin_37 ?_
      rw [sh1 (k := b0) (by omega)]
      refine lv_ior hx hb dX2_noteFootWithin_38 ?_
      refine va_iastN (i := a0) hx hb hK hP hD hS 9 0 rfl rfl (by decide) (by omega) dX2_noteFootWithin_39 (fun H locs hP hD hS => ?_)
      have hP : va_P D vwCl (wC cI cS q N V (va_up A 9 (upd (A 9) a0 (A 9 a0 ||| nI (2 ^ b0))))) H := hP
      have hD : va_D Ar (wC cI cS q N V (va_up A 9 (upd (A 9) a0 (A 9 a0 ||| nI (2 ^ b0))))) := hD
      have hEE : s_X2_noteFootWithin N V A a0 b0 = (N, V, (va_up A 9 (upd (A 9) a0 (A 9 a0 ||| nI (2 ^ b0))))) := (by rw [s_X2_noteFootWithin, if_neg c_2, if_neg c_4])
      rw [hEE]
      exact W.vret hx hb hr (fun t ht hW => ⟨⟨(), rfl, trivial, ⟨by rw [ht]; exact hP, va_K.moved hW.alike hK, hN.warm hW⟩, hD⟩, hS.F ht⟩) hS.2.2 dX2_noteFootWithin_40
def s_X2_isUp (N : Nat → Nat) (V : Nat → Int32) (A : Nat → Nat → Int32)  (s0 : Int32) : Bool :=
  (s_X4_isIn (nI (N 2)) s0)
set_option maxHeartbeats 4000000 in
set_option maxRecDepth 100000 in
theorem c_X2_isUp (l : Launch) (D : va_G) (cI cZ cS : ClassId) (q : Nat → Nat) (N : Nat → Nat) (V : Nat → Int32) (A : Nat → Nat → Int32) (s0 : Int32) : Met l yX2_isUp wsX2_isUp ({ frames := 1, cells := 0, slots := 0, locals := 21 }) (va_Pc [.ref (q 2), .int s0] (PC D cI cZ cS q N V A)) (vp_Si (fun r => r = b2i (s_X2_isUp N V A s0))) 0 0 (fun _ => False) := by
  refine Met.ofW (cc := cX2_isUp) (maxL := 2) (ret := (some .boolean)) (by decide) rfl ?_
  intro p e s m args below meth c s₁ B hml hv
  obtain ⟨rfl, hP, hK, hN⟩ := hv
  have hx := B.exec
  have hb := B.bytes
  have hr := B.returns
  have hts := atoms_spec (ws := wsX2_isUp) B.pre
  have hown : s.vm.findClass RX2 = some m.cls := findClass_of_methodNamed B.named
  have hlocks := B.notSynchronized
  have hin2 : ∀ w ∈ u_ws RX2 TX2 9, w ∈ wsX2_isUp := by decide +kernel
  have hl := lv_entry ([.ref (q 2), .int s0]) (n := 2) (Nat.le_of_ble_eq_true rfl)
  rw [lg_entry_eq]
  generalize (lg_sl ([.ref (q 2), .int s0]) ++ List.replicate (2 - (lg_sl ([.ref (q 2), .int s0])).length) Slot.unset).toArray = ls at hl ⊢
  have hl : lv_has ls 2 [(0, .ref (q 2)), (1, .int s0)] := hl
  refine lv_aload_n hx hb dX2_isUp_0 rfl (lv_at hl 0 rfl) ?_
  refine va_get (D := D) (ci := 2) (v := .int (nI (N 2))) (C := RX2) (T := TX2) (N := 9) hx hb hts hin2 hown hK hP 2 rfl rfl 8 (by decide) (hts (.fieldLink RX2 37 "NeckShip$Spars" "up" "I") (by decide +kernel)) (fun _ h9 => h9) rfl dX2_isUp_1 ?_
  refine lv_iload_n hx hb dX2_isUp_4 rfl (lv_at hl 1 rfl) ?_
  refine vp_callSi (va_Run.run (va_runSN (As := [.int (nI (N 2)), .int s0]) (rest := []) ⟨hx, hb, hml, hown, hts⟩ (c_X4_isIn l (nI (N 2)) s0) ⟨va_cnB 2 hts ggX2_isUp_X4_isIn rfl rfl rfl hN.2.1 (hts (.initialized RX4) (by decide +kernel)) (by decide +kernel) ⟨Nat.le_of_ble_eq_true rfl, Nat.le_of_ble_eq_true rfl⟩, (hts (.static yX4_isIn) (by decide +kernel)), trivial⟩ preEq rfl rfl hl.1 rfl (lv_room (Nat.le_of_ble_eq_true rfl)) dX2_isUp_5 ⟨Nat.zero_le _, Nat.zero_le _⟩)) (fun r_1 er_1 => ?_)
  subst er_1
  exact W.zret (v := b2i (s_X4_isIn (nI (N 2)) s0)) hx hb hr (b2i_nar _) (fun t ht hW => ⟨_, rfl, (by rw [s_X2_isUp]), ht⟩) (fun _ h => by cases h) dX2_isUp_8
def s_X2_lying (N : Nat → Nat) (V : Nat → Int32) (A : Nat → Nat → Int32)  : Nat :=
  (nclr (2 ^ (N 0) - 1) (N 2))
set_option maxHeartbeats 4000000 in
set_option maxRecDepth 100000 in
theorem c_X2_lying (l : Launch) (D : va_G) (cI cZ cS : ClassId) (q : Nat → Nat) (N : Nat → Nat) (V : Nat → Int32) (A : Nat → Nat → Int32) (h_1 : N 0 ≤ 10) : Met l yX2_lying wsX2_lying ({ frames := 0, cells := 0, slots := 0, locals := 0 }) (va_Pc [.ref (q 2)] (PC D cI cZ cS q N V A)) (vp_Si (fun r => r = nI (s_X2_lying N V A))) 0 0 (fun _ => False) := by
  refine Met.ofW (cc := cX2_lying) (maxL := 1) (ret := (some .int)) (by decide) rfl ?_
  intro p e s m args below meth c s₁ B hml hv
  obtain ⟨rfl, hP, hK, hN⟩ := hv
  have hx := B.exec
  have hb := B.bytes
  have hr := B.returns
  have hts := atoms_spec (ws := wsX2_lying) B.pre
  have hown : s.vm.findClass RX2 = some m.cls := findClass_of_methodNamed B.named
  have hlocks := B.notSynchronized
  have hin2 : ∀ w ∈ u_ws RX2 TX2 9, w ∈ wsX2_lying := by decide +kernel
  have hl := lv_entry ([.ref (q 2)]) (n := 1) (Nat.le_of_ble_eq_true rfl)
  rw [lg_entry_eq]
  generalize (lg_sl ([.ref (q 2)]) ++ List.replicate (1 - (lg_sl ([.ref (q 2)])).length) Slot.unset).toArray = ls at hl ⊢
  have hl : lv_has ls 1 [(0, .ref (q 2))] := hl
  refine lv_iconst (v := (1)) hx hb dX2_lying_0 (by decide) ?_
  refine lv_aload_n hx hb dX2_lying_1 rfl (lv_at hl 0 rfl) ?_
  refine va_get (D := D) (ci := 2) (v := .int (nI (N 0))) (C := RX2) (T := TX2) (N := 9) hx hb hts hin2 hown hK hP 2 rfl rfl 7 (by decide) (hts (.fieldLink RX2 33 "NeckShip$Spars" "count" "I") (by decide +kernel)) (fun _ h9 => h9) rfl dX2_lying_2 ?_
  refine lv_ishl hx hb dX2_lying_5 ?_
  rw [sh1 (k := N 0) (by omega)]
  refine lv_iconst (v := (1)) hx hb dX2_lying_6 (by decide) ?_
  refine lv_isub hx hb dX2_lying_7 ?_
  rw [pw1 (N 0)]
  refine lv_aload_n hx hb dX2_lying_8 rfl (lv_at hl 0 rfl) ?_
  refine va_get (D := D) (ci := 2) (v := .int (nI (N 2))) (C := RX2) (T := TX2) (N := 9) hx hb hts hin2 hown hK hP 2 rfl rfl 8 (by decide) (hts (.fieldLink RX2 37 "NeckShip$Spars" "up" "I") (by decide +kernel)) (fun _ h9 => h9) rfl dX2_lying_9 ?_
  refine lv_iconst (v := (-1)) hx hb dX2_lying_12 (by decide) ?_
  refine lv_ixor hx hb dX2_lying_13 ?_
  refine lv_iand hx hb dX2_lying_14 ?_
  rw [nclr_eq (2 ^ (N 0) - 1) (N 2)]
  exact W.iret (v := nI (nclr (2 ^ (N 0) - 1) (N 2))) hx hb hr (fun t ht hW => ⟨_, rfl, (by rw [s_X2_lying]), ht⟩) (fun _ h => by cases h) dX2_lying_15
def s_X2_greatestFoot_L1 (N : Nat → Nat) (V : Nat → Int32) (A : Nat → Nat → Int32) : Nat → Nat → Int32 → Int32
  | 0, k, a =>
    a
  | n + 1, k, a =>
    s_X2_greatestFoot_L1 N V A n (k + 1) (if a < A 4 k then A 4 k else a)
def s_X2_greatestFoot (N : Nat → Nat) (V : Nat → Int32) (A : Nat → Nat → Int32)  : Int32 :=
  (s_X2_greatestFoot_L1 N V A (N 0) 0 (0 : Int32))
set_option maxHeartbeats 4000000 in
set_option maxRecDepth 100000 in
theorem c_X2_greatestFoot (l : Launch) (D : va_G) (cI cZ cS : ClassId) (q : Nat → Nat) (N : Nat → Nat) (V : Nat → Int32) (A : Nat → Nat → Int32) (h_1 : okC N A) : Met l yX2_greatestFoot wsX2_greatestFoot ({ frames := 1, cells := 0, slots := 0, locals := 21 }) (va_Pc [.ref (q 2)] (PC D cI cZ cS q N V A)) (vp_Si (fun r => r = (s_X2_greatestFoot N V A))) 0 0 (fun _ => False) := by
  refine Met.ofW (cc := cX2_greatestFoot) (maxL := 3) (ret := (some .int)) (by decide) rfl ?_
  intro p e s m args below meth c s₁ B hml hv
  obtain ⟨rfl, hP, hK, hN⟩ := hv
  have hx := B.exec
  have hb := B.bytes
  have hr := B.returns
  have hts := atoms_spec (ws := wsX2_greatestFoot) B.pre
  have hown : s.vm.findClass RX2 = some m.cls := findClass_of_methodNamed B.named
  have hlocks := B.notSynchronized
  have hin2 : ∀ w ∈ u_ws RX2 TX2 9, w ∈ wsX2_greatestFoot := by decide +kernel
  obtain ⟨o1, o2, o3, o4, o5, o6, o7, o8, o9⟩ := id h_1
  have hl := lv_entry ([.ref (q 2)]) (n := 3) (Nat.le_of_ble_eq_true rfl)
  rw [lg_entry_eq]
  generalize (lg_sl ([.ref (q 2)]) ++ List.replicate (3 - (lg_sl ([.ref (q 2)])).length) Slot.unset).toArray = ls at hl ⊢
  have hl : lv_has ls 3 [(0, .ref (q 2))] := hl
  refine lv_iconst (v := (0)) hx hb dX2_greatestFoot_0 (by decide) ?_
  refine lv_istore_n (lv' := [(1, .int (0)), (0, .ref (q 2))]) hx hb dX2_greatestFoot_1 rfl hl (by decide) rfl (fun ls hl => ?_)
  refine lv_iconst (v := (0)) hx hb dX2_greatestFoot_2 (by decide) ?_
  refine lv_istore_n (lv' := [(2, .int (0)), (1, .int (0)), (0, .ref (q 2))]) hx hb dX2_greatestFoot_3 rfl hl (by decide) rfl (fun ls hl => ?_)
  have KL1 : ∀ (ls : Array Slot), lv_has ls 3 [(1, .int (s_X2_greatestFoot_L1 N V A (N 0) 0 (0 : Int32))), (0, .ref (q 2))] → W p l e (headSpec wsX2_greatestFoot ({ frames := 1, cells := 0, slots := 0, locals := 21 })).room s m ([.ref (q 2)] : List Value).toArray below meth c s.heap [] 0 0 (MQ below (vp_Si (fun r => r = (s_X2_greatestFoot N V A))) ([.ref (q 2)] : List Value).toArray s 0 0 (fun _ => False)) (F0 m 29 ls []) := by
    intro ls hl
    refine lv_iload_n hx hb dX2_greatestFoot_29 rfl (lv_at hl 0 rfl) ?_
    exact W.iret (v := (s_X2_greatestFoot_L1 N V A (N 0) 0 (0 : Int32))) hx hb hr (fun t ht hW => ⟨_, rfl, (by rw [s_X2_greatestFoot]), ht⟩) (fun _ h => by cases h) dX2_greatestFoot_30
  have LL1 : ∀ (n k : Nat) (a : Int32) (ls : Array Slot), k + n = N 0 → s_X2_greatestFoot_L1 N V A (N 0) 0 (0 : Int32) = s_X2_greatestFoot_L1 N V A n k a → lv_has ls 3 [(2, .int (nI k)), (1, .int a), (0, .ref (q 2))] → W p l e (headSpec wsX2_greatestFoot ({ frames := 1, cells := 0, slots := 0, locals := 21 })).room s m ([.ref (q 2)] : List Value).toArray below meth c s.heap [] 0 0 (MQ below (vp_Si (fun r => r = (s_X2_greatestFoot N V A))) ([.ref (q 2)] : List Value).toArray s 0 0 (fun _ => False)) (F0 m 4 ls []) := by
    intro n
    induction n with
    | zero =>
      intro k a ls hk hF hl
      refine lv_iload_n hx hb dX2_greatestFoot_4 rfl (lv_at hl 0 rfl) ?_
      refine lv_aload_n hx hb dX2_greatestFoot_5 rfl (lv_at hl 2 rfl) ?_
      refine va_get (D := D) (ci := 2) (v := .int (nI (N 0))) (C := RX2) (T := TX2) (N := 9) hx hb hts hin2 hown hK hP 2 rfl rfl 7 (by decide) (hts (.fieldLink RX2 33 "NeckShip$Spars" "count" "I") (by decide +kernel)) (fun _ h9 => h9) rfl dX2_greatestFoot_6 ?_
      refine lv_icmp_ge (tgt := 29) hx hb dX2_greatestFoot_9 (by decide) (fun _ => ?_) (fun c_1 => absurd (nI_le (by omega) (by omega)) c_1)
      have hF : s_X2_greatestFoot_L1 N V A (N 0) 0 (0 : Int32) = a := hF.trans (by rw [s_X2_greatestFoot_L1])
      exact KL1 _ (by (try rw [hF]); exact lv_sub hl [1, 2] rfl)
    | succ n ih =>
      intro k a ls hk hF hl
      refine lv_iload_n hx hb dX2_greatestFoot_4 rfl (lv_at hl 0 rfl) ?_
      refine lv_aload_n hx hb dX2_greatestFoot_5 rfl (lv_at hl 2 rfl) ?_
      refine va_get (D := D) (ci := 2) (v := .int (nI (N 0))) (C := RX2) (T := TX2) (N := 9) hx hb hts hin2 hown hK hP 2 rfl rfl 7 (by decide) (hts (.fieldLink RX2 33 "NeckShip$Spars" "count" "I") (by decide +kernel)) (fun _ h9 => h9) rfl dX2_greatestFoot_6 ?_
      refine lv_icmp_ge (tgt := 29) hx hb dX2_greatestFoot_9 (by decide) (fun c_2 => absurd c_2 (nI_ge (by omega) (by omega))) (fun _ => ?_)
      refine lv_iload_n hx hb dX2_greatestFoot_12 rfl (lv_at hl 1 rfl) ?_
      refine lv_aload_n hx hb dX2_greatestFoot_13 rfl (lv_at hl 2 rfl) ?_
      refine va_get (D := D) (ci := 2) (v := .ref (q 4)) (C := RX2) (T := TX2) (N := 9) hx hb hts hin2 hown hK hP 2 rfl rfl 1 (by decide) (hts (.fieldLink RX2 15 "NeckShip$Spars" "foot" "[I") (by decide +kernel)) (fun _ h9 => h9) rfl dX2_greatestFoot_14 ?_
      refine lv_iload_n hx hb dX2_greatestFoot_17 rfl (lv_at hl 0 rfl) ?_
      refine va_ialdN (i := k) hx hb hK hP 4 0 rfl rfl (by decide) (by omega) dX2_greatestFoot_18 ?_
      refine va_mmax hx hb (by rw [hml]; exact hl.1.symm) hown (hts (.methodLink RX2 55 Lib.Math.max.name) (by decide +kernel)) (hts (.static Lib.Math.max.name) (by decide +kernel)) (hts (.initialized "java/lang/Math") (by decide +kernel)) (hts (.code Lib.Math.max.name Lib.Math.max.code 2 (some .int)) (by decide +kernel)) (Nat.le_of_ble_eq_true rfl) (Nat.le_of_ble_eq_true rfl) (Nat.zero_le _) (Nat.zero_le _) dX2_greatestFoot_19 ?_
      refine lv_istore_n (lv' := [(1, .int (if a < A 4 k then A 4 k else a)), (2, .int (nI k)), (0, .ref (q 2))]) hx hb dX2_greatestFoot_22 rfl hl (by decide) rfl (fun ls hl => ?_)
      refine lv_iinc (v := nI (k + 1)) (lv' := [(2, .int (nI (k + 1))), (1, .int (if a < A 4 k then A 4 k else a)), (0, .ref (q 2))]) hx hb dX2_greatestFoot_23 hl (k := 1) rfl (nI_1 k) (by decide) rfl (fun ls hl => ?_)
      refine lv_goto (tgt := 4) hx hb dX2_greatestFoot_26 (by decide) ?_
      exact ih (k + 1) (if a < A 4 k then A 4 k else a) _ (by omega) (hF.trans (by rw [s_X2_greatestFoot_L1])) (lv_sub hl [0, 1, 2] rfl)
  exact LL1 (N 0) 0 (0 : Int32) _ (by omega) rfl (lv_sub hl [0, 1, 2] rfl)
def s_X2_thickAt_L1 (N : Nat → Nat) (V : Nat → Int32) (A : Nat → Nat → Int32) (u0 : Int32) : Nat → Nat → Int32 → Int32
  | 0, k, a =>
    a
  | n + 1, k, a =>
    if (s_X2_isUp N V A (nI k)) = true then
      s_X2_thickAt_L1 N V A u0 n (k + 1) a
    else
      if u0 < (s_X2_low N V A k) then
        s_X2_thickAt_L1 N V A u0 n (k + 1) a
      else
        if (s_X2_high N V A k) ≤ u0 then
          s_X2_thickAt_L1 N V A u0 n (k + 1) a
        else
          s_X2_thickAt_L1 N V A u0 n (k + 1) (a + A 6 k)
def s_X2_thickAt (N : Nat → Nat) (V : Nat → Int32) (A : Nat → Nat → Int32)  (u0 : Int32) : Int32 :=
  (s_X2_thickAt_L1 N V A u0 (N 0) 0 (0 : Int32))
set_option maxHeartbeats 4000000 in
set_option maxRecDepth 100000 in
theorem c_X2_thickAt (l : Launch) (D : va_G) (cI cZ cS : ClassId) (q : Nat → Nat) (N : Nat → Nat) (V : Nat → Int32) (A : Nat → Nat → Int32) (u0 : Int32) (h_1 : okC N A) : Met l yX2_thickAt wsX2_thickAt ({ frames := 2, cells := 0, slots := 0, locals := 42 }) (va_Pc [.ref (q 2), .int u0] (PC D cI cZ cS q N V A)) (vp_Si (fun r => r = (s_X2_thickAt N V A u0))) 0 0 (fun _ => False) := by
  refine Met.ofW (cc := cX2_thickAt) (maxL := 4) (ret := (some .int)) (by decide) rfl ?_
  intro p e s m args below meth c s₁ B hml hv
  obtain ⟨rfl, hP, hK, hN⟩ := hv
  have hx := B.exec
  have hb := B.bytes
  have hr := B.returns
  have hts := atoms_spec (ws := wsX2_thickAt) B.pre
  have hown : s.vm.findClass RX2 = some m.cls := findClass_of_methodNamed B.named
  have hlocks := B.notSynchronized
  have hin2 : ∀ w ∈ u_ws RX2 TX2 9, w ∈ wsX2_thickAt := by decide +kernel
  obtain ⟨o1, o2, o3, o4, o5, o6, o7, o8, o9⟩ := id h_1
  have hl := lv_entry ([.ref (q 2), .int u0]) (n := 4) (Nat.le_of_ble_eq_true rfl)
  rw [lg_entry_eq]
  generalize (lg_sl ([.ref (q 2), .int u0]) ++ List.replicate (4 - (lg_sl ([.ref (q 2), .int u0])).length) Slot.unset).toArray = ls at hl ⊢
  have hl : lv_has ls 4 [(0, .ref (q 2)), (1, .int u0)] := hl
  refine lv_iconst (v := (0)) hx hb dX2_thickAt_0 (by decide) ?_
  refine lv_istore_n (lv' := [(2, .int (0)), (0, .ref (q 2)), (1, .int u0)]) hx hb dX2_thickAt_1 rfl hl (by decide) rfl (fun ls hl => ?_)
  refine lv_iconst (v := (0)) hx hb dX2_thickAt_2 (by decide) ?_
  refine lv_istore_n (lv' := [(3, .int (0)), (2, .int (0)), (0, .ref (q 2)), (1, .int u0)]) hx hb dX2_thickAt_3 rfl hl (by decide) rfl (fun ls hl => ?_)
  have KL1 : ∀ (ls : Array Slot), lv_has ls 4 [(2, .int (s_X2_thickAt_L1 N V A u0 (N 0) 0 (0 : Int32))), (0, .ref (q 2)), (1, .int u0)] → W p l e (headSpec wsX2_thickAt ({ frames := 2, cells := 0, slots := 0, locals := 42 })).room s m ([.ref (q 2), .int u0] : List Value).toArray below meth c s.heap [] 0 0 (MQ below (vp_Si (fun r => r = (s_X2_thickAt N V A u0))) ([.ref (q 2), .int u0] : List Value).toArray s 0 0 (fun _ => False)) (F0 m 53 ls []) := by
    intro ls hl
    refine lv_iload_n hx hb dX2_thickAt_53 rfl (lv_at hl 0 rfl) ?_
    exact W.iret (v := (s_X2_thickAt_L1 N V A u0 (N 0) 0 (0 : Int32))) hx hb hr (fun t ht hW => ⟨_, rfl, (by rw [s_X2_thickAt]), ht⟩) (fun _ h => by cases h) dX2_thickAt_54
  have LL1 : ∀ (n k : Nat) (a : Int32) (ls : Array Slot), k + n = N 0 → s_X2_thickAt_L1 N V A u0 (N 0) 0 (0 : Int32) = s_X2_thickAt_L1 N V A u0 n k a → lv_has ls 4 [(3, .int (nI k)), (2, .int a), (0, .ref (q 2)), (1, .int u0)] → W p l e (headSpec wsX2_thickAt ({ frames := 2, cells := 0, slots := 0, locals := 42 })).room s m ([.ref (q 2), .int u0] : List Value).toArray below meth c s.heap [] 0 0 (MQ below (vp_Si (fun r => r = (s_X2_thickAt N V A u0))) ([.ref (q 2), .int u0] : List Value).toArray s 0 0 (fun _ => False)) (F0 m 4 ls []) := by
    intro n
    induction n with
    | zero =>
      intro k a ls hk hF hl
      refine lv_iload_n hx hb dX2_thickAt_4 rfl (lv_at hl 0 rfl) ?_
      refine lv_aload_n hx hb dX2_thickAt_5 rfl (lv_at hl 2 rfl) ?_
      refine va_get (D := D) (ci := 2) (v := .int (nI (N 0))) (C := RX2) (T := TX2) (N := 9) hx hb hts hin2 hown hK hP 2 rfl rfl 7 (by decide) (hts (.fieldLink RX2 33 "NeckShip$Spars" "count" "I") (by decide +kernel)) (fun _ h9 => h9) rfl dX2_thickAt_6 ?_
      refine lv_icmp_ge (tgt := 53) hx hb dX2_thickAt_9 (by decide) (fun _ => ?_) (fun c_1 => absurd (nI_le (by omega) (by omega)) c_1)
      have hF : s_X2_thickAt_L1 N V A u0 (N 0) 0 (0 : Int32) = a := hF.trans (by rw [s_X2_thickAt_L1])
      exact KL1 _ (by (try rw [hF]); exact lv_sub hl [1, 2, 3] rfl)
    | succ n ih =>
      intro k a ls hk hF hl
      refine lv_iload_n hx hb dX2_thickAt_4 rfl (lv_at hl 0 rfl) ?_
      refine lv_aload_n hx hb dX2_thickAt_5 rfl (lv_at hl 2 rfl) ?_
      refine va_get (D := D) (ci := 2) (v := .int (nI (N 0))) (C := RX2) (T := TX2) (N := 9) hx hb hts hin2 hown hK hP 2 rfl rfl 7 (by decide) (hts (.fieldLink RX2 33 "NeckShip$Spars" "count" "I") (by decide +kernel)) (fun _ h9 => h9) rfl dX2_thickAt_6 ?_
      refine lv_icmp_ge (tgt := 53) hx hb dX2_thickAt_9 (by decide) (fun c_2 => absurd c_2 (nI_ge (by omega) (by omega))) (fun _ => ?_)
      refine lv_aload_n hx hb dX2_thickAt_12 rfl (lv_at hl 2 rfl) ?_
      refine lv_iload_n hx hb dX2_thickAt_13 rfl (lv_at hl 0 rfl) ?_
      refine vp_callSi (W.runV (As := [.int (nI k)]) (rest := []) ⟨hx, hb, hml, hown, hts⟩ (c_X2_isUp l D cI cZ cS q N V A (nI k)) (cwV 1 hts gX2_thickAt_X2_isUp rfl rfl rfl (by decide +kernel) ⟨Nat.le_of_ble_eq_true rfl, Nat.le_of_ble_eq_true rfl⟩) (preC2 hK hN hP) rfl rfl hl.1 rfl (lv_room (Nat.le_of_ble_eq_true rfl)) dX2_thickAt_14 ⟨Nat.zero_le _, Nat.zero_le _⟩) (fun r_3 er_3 => ?_)
      subst er_3
      refine lz_if_ne (tgt := 47) hx hb dX2_thickAt_17 (by decide) (fun c_4 => ?_) (fun c_4 => ?_)
      · refine lv_iinc (v := nI (k + 1)) (lv' := [(3, .int (nI (k + 1))), (2, .int a), (0, .ref (q 2)), (1, .int u0)]) hx hb dX2_thickAt_47 hl (k := 0) rfl (nI_1 k) (by decide) rfl (fun ls hl => ?_)
        refine lv_goto (tgt := 4) hx hb dX2_thickAt_50 (by decide) ?_
        exact ih (k + 1) a _ (by omega) (hF.trans (by rw [s_X2_thickAt_L1, if_pos c_4])) (lv_sub hl [0, 1, 2, 3] rfl)
      · refine lv_aload_n hx hb dX2_thickAt_20 rfl (lv_at hl 2 rfl) ?_
        refine lv_iload_n hx hb dX2_thickAt_21 rfl (lv_at hl 0 rfl) ?_
        refine vp_callSi (W.runV (As := [.int (nI k)]) (rest := []) ⟨hx, hb, hml, hown, hts⟩ (c_X2_low l D cI cZ cS q N V A k (by omega)) (cwV 1 hts gX2_thickAt_X2_low rfl rfl rfl (by decide +kernel) ⟨Nat.le_of_ble_eq_true rfl, Nat.le_of_ble_eq_true rfl⟩) (preC2 hK hN hP) rfl rfl hl.1 rfl (lv_room (Nat.le_of_ble_eq_true rfl)) dX2_thickAt_22 ⟨Nat.zero_le _, Nat.zero_le _⟩) (fun r_5 er_5 => ?_)
        subst er_5
        refine lv_iload_n hx hb dX2_thickAt_25 rfl (lv_at hl 3 rfl) ?_
        refine lv_icmp_gt (tgt := 47) hx hb dX2_thickAt_26 (by decide) (fun c_6 => ?_) (fun c_6 => ?_)
        · refine lv_iinc (v := nI (k + 1)) (lv' := [(3, .int (nI (k + 1))), (2, .int a), (0, .ref (q 2)), (1, .int u0)]) hx hb dX2_thickAt_47 hl (k := 0) rfl (nI_1 k) (by decide) rfl (fun ls hl => ?_)
          refine lv_goto (tgt := 4) hx hb dX2_thickAt_50 (by decide) ?_
          exact ih (k + 1) a _ (by omega) (hF.trans (by rw [s_X2_thickAt_L1, if_neg (nb c_4), if_pos c_6])) (lv_sub hl [0, 1, 2, 3] rfl)
        · refine lv_iload_n hx hb dX2_thickAt_29 rfl (lv_at hl 3 rfl) ?_
          refine lv_aload_n hx hb dX2_thickAt_30 rfl (lv_at hl 2 rfl) ?_
          refine lv_iload_n hx hb dX2_thickAt_31 rfl (lv_at hl 0 rfl) ?_
          refine vp_callSi (W.runV (As := [.int (nI k)]) (rest := [.int u0]) ⟨hx, hb, hml, hown, hts⟩ (c_X2_high l D cI cZ cS q N V A k (by omega)) (cwV 1 hts gX2_thickAt_X2_high rfl rfl rfl (by decide +kernel) ⟨Nat.le_of_ble_eq_true rfl, Nat.le_of_ble_eq_true rfl⟩) (preC2 hK hN hP) rfl rfl hl.1 rfl (lv_room (Nat.le_of_ble_eq_true rfl)) dX2_thickAt_32 ⟨Nat.zero_le _, Nat.zero_le _⟩) (fun r_7 er_7 => ?_)
          subst er_7
          refine lv_icmp_ge (tgt := 47) hx hb dX2_thickAt_35 (by decide) (fun c_8 => ?_) (fun c_8 => ?_)
          · refine lv_iinc (v := nI (k + 1)) (lv' := [(3, .int (nI (k + 1))), (2, .int a), (0, .ref (q 2)), (1, .int u0)]) hx hb dX2_thickAt_47 hl (k := 0) rfl (nI_1 k) (by decide) rfl (fun ls hl => ?_)
            refine lv_goto (tgt := 4) hx hb dX2_thickAt_50 (by decide) ?_
            exact ih (k + 1) a _ (by omega) (hF.trans (by rw [s_X2_thickAt_L1, if_neg (nb c_4), if_neg c_6, if_pos c_8])) (lv_sub hl [0, 1, 2, 3] rfl)
          · refine lv_iload_n hx hb dX2_thickAt_38 rfl (lv_at hl 1 rfl) ?_
            refine lv_aload_n hx hb dX2_thickAt_39 rfl (lv_at hl 2 rfl) ?_
            refine va_get (D := D) (ci := 2) (v := .ref (q 6)) (C := RX2) (T := TX2) (N := 9) hx hb hts hin2 hown hK hP 2 rfl rfl 3 (by decide) (hts (.fieldLink RX2 21 "NeckShip$Spars" "thick" "[I") (by decide +kernel)) (fun _ h9 => h9) rfl dX2_thickAt_40 ?_
            refine lv_iload_n hx hb dX2_thickAt_43 rfl (lv_at hl 0 rfl) ?_
            refine va_ialdN (i := k) hx hb hK hP 6 0 rfl rfl (by decide) (by omega) dX2_thickAt_44 ?_
            refine lv_iadd hx hb dX2_thickAt_45 ?_
            refine lv_istore_n (lv' := [(2, .int (a + A 6 k)), (3, .int (nI k)), (0, .ref (q 2)), (1, .int u0)]) hx hb dX2_thickAt_46 rfl hl (by decide) rfl (fun ls hl => ?_)
            refine lv_iinc (v := nI (k + 1)) (lv' := [(3, .int (nI (k + 1))), (2, .int (a + A 6 k)), (0, .ref (q 2)), (1, .int u0)]) hx hb dX2_thickAt_47 hl (k := 1) rfl (nI_1 k) (by decide) rfl (fun ls hl => ?_)
            refine lv_goto (tgt := 4) hx hb dX2_thickAt_50 (by decide) ?_
            exact ih (k + 1) (a + A 6 k) _ (by omega) (hF.trans (by rw [s_X2_thickAt_L1, if_neg (nb c_4), if_neg c_6, if_neg c_8])) (lv_sub hl [0, 1, 2, 3] rfl)
  exact LL1 (N 0) 0 (0 : Int32) _ (by omega) rfl (lv_sub hl [0, 1, 2, 3] rfl)
def s_X2_greatestThick_L1 (N : Nat → Nat) (V : Nat → Int32) (A : Nat → Nat → Int32) : Nat → Nat → Int32 → Int32
  | 0, k, a =>
    a
  | n + 1, k, a =>
    if (s_X2_isUp N V A (nI k)) = true then
      s_X2_greatestThick_L1 N V A n (k + 1) a
    else
      s_X2_greatestThick_L1 N V A n (k + 1) (if a < (s_X2_thickAt N V A (s_X2_low N V A k)) then (s_X2_thickAt N V A (s_X2_low N V A k)) else a)
def s_X2_greatestThick (N : Nat → Nat) (V : Nat → Int32) (A : Nat → Nat → Int32)  : Int32 :=
  (s_X2_greatestThick_L1 N V A (N 0) 0 (0 : Int32))
set_option maxHeartbeats 4000000 in
set_option maxRecDepth 100000 in
theorem c_X2_greatestThick (l : Launch) (D : va_G) (cI cZ cS : ClassId) (q : Nat → Nat) (N : Nat → Nat) (V : Nat → Int32) (A : Nat → Nat → Int32) (h_1 : okC N A) : Met l yX2_greatestThick wsX2_greatestThick ({ frames := 3, cells := 0, slots := 0, locals := 65 }) (va_Pc [.ref (q 2)] (PC D cI cZ cS q N V A)) (vp_Si (fun r => r = (s_X2_greatestThick N V A))) 0 0 (fun _ => False) := by
  refine Met.ofW (cc := cX2_greatestThick) (maxL := 3) (ret := (some .int)) (by decide) rfl ?_
  intro p e s m args below meth c s₁ B hml hv
  obtain ⟨rfl, hP, hK, hN⟩ := hv
  have hx := B.exec
  have hb := B.bytes
  have hr := B.returns
  have hts := atoms_spec (ws := wsX2_greatestThick) B.pre
  have hown : s.vm.findClass RX2 = some m.cls := findClass_of_methodNamed B.named
  have hlocks := B.notSynchronized
  have hin2 : ∀ w ∈ u_ws RX2 TX2 9, w ∈ wsX2_greatestThick := by decide +kernel
  obtain ⟨o1, o2, o3, o4, o5, o6, o7, o8, o9⟩ := id h_1
  have hl := lv_entry ([.ref (q 2)]) (n := 3) (Nat.le_of_ble_eq_true rfl)
  rw [lg_entry_eq]
  generalize (lg_sl ([.ref (q 2)]) ++ List.replicate (3 - (lg_sl ([.ref (q 2)])).length) Slot.unset).toArray = ls at hl ⊢
  have hl : lv_has ls 3 [(0, .ref (q 2))] := hl
  refine lv_iconst (v := (0)) hx hb dX2_greatestThick_0 (by decide) ?_
  refine lv_istore_n (lv' := [(1, .int (0)), (0, .ref (q 2))]) hx hb dX2_greatestThick_1 rfl hl (by decide) rfl (fun ls hl => ?_)
  refine lv_iconst (v := (0)) hx hb dX2_greatestThick_2 (by decide) ?_
  refine lv_istore_n (lv' := [(2, .int (0)), (1, .int (0)), (0, .ref (q 2))]) hx hb dX2_greatestThick_3 rfl hl (by decide) rfl (fun ls hl => ?_)
  have KL1 : ∀ (ls : Array Slot), lv_has ls 3 [(1, .int (s_X2_greatestThick_L1 N V A (N 0) 0 (0 : Int32))), (0, .ref (q 2))] → W p l e (headSpec wsX2_greatestThick ({ frames := 3, cells := 0, slots := 0, locals := 65 })).room s m ([.ref (q 2)] : List Value).toArray below meth c s.heap [] 0 0 (MQ below (vp_Si (fun r => r = (s_X2_greatestThick N V A))) ([.ref (q 2)] : List Value).toArray s 0 0 (fun _ => False)) (F0 m 40 ls []) := by
    intro ls hl
    refine lv_iload_n hx hb dX2_greatestThick_40 rfl (lv_at hl 0 rfl) ?_
    exact W.iret (v := (s_X2_greatestThick_L1 N V A (N 0) 0 (0 : Int32))) hx hb hr (fun t ht hW => ⟨_, rfl, (by rw [s_X2_greatestThick]), ht⟩) (fun _ h => by cases h) dX2_greatestThick_41
  have LL1 : ∀ (n k : Nat) (a : Int32) (ls : Array Slot), k + n = N 0 → s_X2_greatestThick_L1 N V A (N 0) 0 (0 : Int32) = s_X2_greatestThick_L1 N V A n k a → lv_has ls 3 [(2, .int (nI k)), (1, .int a), (0, .ref (q 2))] → W p l e (headSpec wsX2_greatestThick ({ frames := 3, cells := 0, slots := 0, locals := 65 })).room s m ([.ref (q 2)] : List Value).toArray below meth c s.heap [] 0 0 (MQ below (vp_Si (fun r => r = (s_X2_greatestThick N V A))) ([.ref (q 2)] : List Value).toArray s 0 0 (fun _ => False)) (F0 m 4 ls []) := by
    intro n
    induction n with
    | zero =>
      intro k a ls hk hF hl
      refine lv_iload_n hx hb dX2_greatestThick_4 rfl (lv_at hl 0 rfl) ?_
      refine lv_aload_n hx hb dX2_greatestThick_5 rfl (lv_at hl 2 rfl) ?_
      refine va_get (D := D) (ci := 2) (v := .int (nI (N 0))) (C := RX2) (T := TX2) (N := 9) hx hb hts hin2 hown hK hP 2 rfl rfl 7 (by decide) (hts (.fieldLink RX2 33 "NeckShip$Spars" "count" "I") (by decide +kernel)) (fun _ h9 => h9) rfl dX2_greatestThick_6 ?_
      refine lv_icmp_ge (tgt := 40) hx hb dX2_greatestThick_9 (by decide) (fun _ => ?_) (fun c_1 => absurd (nI_le (by omega) (by omega)) c_1)
      have hF : s_X2_greatestThick_L1 N V A (N 0) 0 (0 : Int32) = a := hF.trans (by rw [s_X2_greatestThick_L1])
      exact KL1 _ (by (try rw [hF]); exact lv_sub hl [1, 2] rfl)
    | succ n ih =>
      intro k a ls hk hF hl
      refine lv_iload_n hx hb dX2_greatestThick_4 rfl (lv_at hl 0 rfl) ?_
      refine lv_aload_n hx hb dX2_greatestThick_5 rfl (lv_at hl 2 rfl) ?_
      refine va_get (D := D) (ci := 2) (v := .int (nI (N 0))) (C := RX2) (T := TX2) (N := 9) hx hb hts hin2 hown hK hP 2 rfl rfl 7 (by decide) (hts (.fieldLink RX2 33 "NeckShip$Spars" "count" "I") (by decide +kernel)) (fun _ h9 => h9) rfl dX2_greatestThick_6 ?_
      refine lv_icmp_ge (tgt := 40) hx hb dX2_greatestThick_9 (by decide) (fun c_2 => absurd c_2 (nI_ge (by omega) (by omega))) (fun _ => ?_)
      refine lv_aload_n hx hb dX2_greatestThick_12 rfl (lv_at hl 2 rfl) ?_
      refine lv_iload_n hx hb dX2_greatestThick_13 rfl (lv_at hl 0 rfl) ?_
      refine vp_callSi (W.runV (As := [.int (nI k)]) (rest := []) ⟨hx, hb, hml, hown, hts⟩ (c_X2_isUp l D cI cZ cS q N V A (nI k)) (cwV 1 hts gX2_greatestThick_X2_isUp rfl rfl rfl (by decide +kernel) ⟨Nat.le_of_ble_eq_true rfl, Nat.le_of_ble_eq_true rfl⟩) (preC2 hK hN hP) rfl rfl hl.1 rfl (lv_room (Nat.le_of_ble_eq_true rfl)) dX2_greatestThick_14 ⟨Nat.zero_le _, Nat.zero_le _⟩) (fun r_3 er_3 => ?_)
      subst er_3
      refine lz_if_ne (tgt := 34) hx hb dX2_greatestThick_17 (by decide) (fun c_4 => ?_) (fun c_4 => ?_)
      · refine lv_iinc (v := nI (k + 1)) (lv' := [(2, .int (nI (k + 1))), (1, .int a), (0, .ref (q 2))]) hx hb dX2_greatestThick_34 hl (k := 0) rfl (nI_1 k) (by decide) rfl (fun ls hl => ?_)
        refine lv_goto (tgt := 4) hx hb dX2_greatestThick_37 (by decide) ?_
        exact ih (k + 1) a _ (by omega) (hF.trans (by rw [s_X2_greatestThick_L1, if_pos c_4])) (lv_sub hl [0, 1, 2] rfl)
      · refine lv_iload_n hx hb dX2_greatestThick_20 rfl (lv_at hl 1 rfl) ?_
        refine lv_aload_n hx hb dX2_greatestThick_21 rfl (lv_at hl 2 rfl) ?_
        refine lv_aload_n hx hb dX2_greatestThick_22 rfl (lv_at hl 2 rfl) ?_
        refine lv_iload_n hx hb dX2_greatestThick_23 rfl (lv_at hl 0 rfl) ?_
        refine vp_callSi (W.runV (As := [.int (nI k)]) (rest := [.ref (q 2), .int a]) ⟨hx, hb, hml, hown, hts⟩ (c_X2_low l D cI cZ cS q N V A k (by omega)) (cwV 1 hts gX2_greatestThick_X2_low rfl rfl rfl (by decide +kernel) ⟨Nat.le_of_ble_eq_true rfl, Nat.le_of_ble_eq_true rfl⟩) (preC2 hK hN hP) rfl rfl hl.1 rfl (lv_room (Nat.le_of_ble_eq_true rfl)) dX2_greatestThick_24 ⟨Nat.zero_le _, Nat.zero_le _⟩) (fun r_5 er_5 => ?_)
        subst er_5
        refine vp_callSi (W.runV (As := [.int (s_X2_low N V A k)]) (rest := [.int a]) ⟨hx, hb, hml, hown, hts⟩ (c_X2_thickAt l D cI cZ cS q N V A (s_X2_low N V A k) h_1) (cwV 1 hts gX2_greatestThick_X2_thickAt rfl rfl rfl (by decide +kernel) ⟨Nat.le_of_ble_eq_true rfl, Nat.le_of_ble_eq_true rfl⟩) (preC2 hK hN hP) rfl rfl hl.1 rfl (lv_room (Nat.le_of_ble_eq_true rfl)) dX2_greatestThick_27 ⟨Nat.zero_le _, Nat.zero_le _⟩) (fun r_6 er_6 => ?_)
        subst er_6
        refine va_mmax hx hb (by rw [hml]; exact hl.1.symm) hown (hts (.methodLink RX2 55 Lib.Math.max.name) (by decide +kernel)) (hts (.static Lib.Math.max.name) (by decide +kernel)) (hts (.initialized "java/lang/Math") (by decide +kernel)) (hts (.code Lib.Math.max.name Lib.Math.max.code 2 (some .int)) (by decide +kernel)) (Nat.le_of_ble_eq_true rfl) (Nat.le_of_ble_eq_true rfl) (Nat.zero_le _) (Nat.zero_le _) dX2_greatestThick_30 ?_
        refine lv_istore_n (lv' := [(1, .int (if a < (s_X2_thickAt N V A (s_X2_low N V A k)) then (s_X2_thickAt N V A (s_X2_low N V A k)) else a)), (2, .int (nI k)), (0, .ref (q 2))]) hx hb dX2_greatestThick_33 rfl hl (by decide) rfl (fun ls hl => ?_)
        refine lv_iinc (v := nI (k + 1)) (lv' := [(2, .int (nI (k + 1))), (1, .int (if a < (s_X2_thickAt N V A (s_X2_low N V A k)) then (s_X2_thickAt N V A (s_X2_low N V A k)) else a)), (0, .ref (q 2))]) hx hb dX2_greatestThick_34 hl (k := 1) rfl (nI_1 k) (by decide) rfl (fun ls hl => ?_)
        refine lv_goto (tgt := 4) hx hb dX2_greatestThick_37 (by decide) ?_
        exact ih (k + 1) (if a < (s_X2_thickAt N V A (s_X2_low N V A k)) then (s_X2_thickAt N V A (s_X2_low N V A k)) else a) _ (by omega) (hF.trans (by rw [s_X2_greatestThick_L1, if_neg (nb c_4)])) (lv_sub hl [0, 1, 2] rfl)
  exact LL1 (N 0) 0 (0 : Int32) _ (by omega) rfl (lv_sub hl [0, 1, 2] rfl)
def s_X2_mayRise (N : Nat → Nat) (V : Nat → Int32) (A : Nat → Nat → Int32)  (s0 : Nat) (u0 : Int32) (r0 : Int32) : Bool :=
  if (s_X4_isIn u0 (nI s0)) = true then
    false
  else
    if (s_X4_isIn r0 (nI s0)) = true then
      if (A 8 s0 &&& (u0 ^^^ (-1 : Int32))) = 0 then
        if (A 9 s0 &&& u0) = 0 then
          true
        else
          false
      else
        false
    else
      false
set_option maxHeartbeats 4000000 in
set_option maxRecDepth 100000 in
theorem c_X2_mayRise (l : Launch) (D : va_G) (cI cZ cS : ClassId) (q : Nat → Nat) (N : Nat → Nat) (V : Nat → Int32) (A : Nat → Nat → Int32) (s0 : Nat) (u0 : Int32) (r0 : Int32) (h_1 : s0 < 10) : Met l yX2_mayRise wsX2_mayRise ({ frames := 1, cells := 0, slots := 0, locals := 21 }) (va_Pc [.ref (q 2), .int (nI s0), .int u0, .int r0] (PC D cI cZ cS q N V A)) (vp_Si (fun r => r = b2i (s_X2_mayRise N V A s0 u0 r0))) 0 0 (fun _ => False) := by
  refine Met.ofW (cc := cX2_mayRise) (maxL := 4) (ret := (some .boolean)) (by decide) rfl ?_
  intro p e s m args below meth c s₁ B hml hv
  obtain ⟨rfl, hP, hK, hN⟩ := hv
  have hx := B.exec
  have hb := B.bytes
  have hr := B.returns
  have hts := atoms_spec (ws := wsX2_mayRise) B.pre
  have hown : s.vm.findClass RX2 = some m.cls := findClass_of_methodNamed B.named
  have hlocks := B.notSynchronized
  have hin2 : ∀ w ∈ u_ws RX2 TX2 9, w ∈ wsX2_mayRise := by decide +kernel
  have hl := lv_entry ([.ref (q 2), .int (nI s0), .int u0, .int r0]) (n := 4) (Nat.le_of_ble_eq_true rfl)
  rw [lg_entry_eq]
  generalize (lg_sl ([.ref (q 2), .int (nI s0), .int u0, .int r0]) ++ List.replicate (4 - (lg_sl ([.ref (q 2), .int (nI s0), .int u0, .int r0])).length) Slot.unset).toArray = ls at hl ⊢
  have hl : lv_has ls 4 [(0, .ref (q 2)), (1, .int (nI s0)), (2, .int u0), (3, .int r0)] := hl
  refine lv_iload_n hx hb dX2_mayRise_0 rfl (lv_at hl 2 rfl) ?_
  refine lv_iload_n hx hb dX2_mayRise_1 rfl (lv_at hl 1 rfl) ?_
  refine vp_callSi (va_Run.run (va_runSN (As := [.int u0, .int (nI s0)]) (rest := []) ⟨hx, hb, hml, hown, hts⟩ (c_X4_isIn l u0 (nI s0)) ⟨va_cnB 2 hts ggX2_mayRise_X4_isIn rfl rfl rfl hN.2.1 (hts (.initialized RX4) (by decide +kernel)) (by decide +kernel) ⟨Nat.le_of_ble_eq_true rfl, Nat.le_of_ble_eq_true rfl⟩, (hts (.static yX4_isIn) (by decide +kernel)), trivial⟩ preEq rfl rfl hl.1 rfl (lv_room (Nat.le_of_ble_eq_true rfl)) dX2_mayRise_2 ⟨Nat.zero_le _, Nat.zero_le _⟩)) (fun r_1 er_1 => ?_)
  subst er_1
  refine lz_if_ne (tgt := 44) hx hb dX2_mayRise_5 (by decide) (fun c_2 => ?_) (fun c_2 => ?_)
  · refine lv_iconst (v := (0)) hx hb dX2_mayRise_44 (by decide) ?_
    exact W.zret (v := b2i false) hx hb hr (b2i_nar _) (fun t ht hW => ⟨_, rfl, (by rw [s_X2_mayRise, if_pos c_2]), ht⟩) (fun _ h => by cases h) dX2_mayRise_45
  · refine lv_iload_n hx hb dX2_mayRise_8 rfl (lv_at hl 3 rfl) ?_
    refine lv_iload_n hx hb dX2_mayRise_9 rfl (lv_at hl 1 rfl) ?_
    refine vp_callSi (va_Run.run (va_runSN (As := [.int r0, .int (nI s0)]) (rest := []) ⟨hx, hb, hml, hown, hts⟩ (c_X4_isIn l r0 (nI s0)) ⟨va_cnB 2 hts ggX2_mayRise_X4_isIn rfl rfl rfl hN.2.1 (hts (.initialized RX4) (by decide +kernel)) (by decide +kernel) ⟨Nat.le_of_ble_eq_true rfl, Nat.le_of_ble_eq_true rfl⟩, (hts (.static yX4_isIn) (by decide +kernel)), trivial⟩ preEq rfl rfl hl.1 rfl (lv_room (Nat.le_of_ble_eq_true rfl)) dX2_mayRise_10 ⟨Nat.zero_le _, Nat.zero_le _⟩)) (fun r_3 er_3 => ?_)
    subst er_3
    refine lz_if_eq (tgt := 44) hx hb dX2_mayRise_13 (by decide) (fun c_4 => ?_) (fun c_4 => ?_)
    · refine lv_iconst (v := (0)) hx hb dX2_mayRise_44 (by decide) ?_
      exact W.zret (v := b2i false) hx hb hr (b2i_nar _) (fun t ht hW => ⟨_, rfl, (by rw [s_X2_mayRise, if_neg (nb c_2), if_neg (nb c_4)]), ht⟩) (fun _ h => by cases h) dX2_mayRise_45
    · refine lv_aload_n hx hb dX2_mayRise_16 rfl (lv_at hl 0 rfl) ?_
      refine va_get (D := D) (ci := 2) (v := .ref (q 8)) (C := RX2) (T := TX2) (N := 9) hx hb hts hin2 hown hK hP 2 rfl rfl 5 (by decide) (hts (.fieldLink RX2 27 "NeckShip$Spars" "over" "[I") (by decide +kernel)) (fun _ h9 => h9) rfl dX2_mayRise_17 ?_
      refine lv_iload_n hx hb dX2_mayRise_20 rfl (lv_at hl 1 rfl) ?_
      refine va_ialdN (i := s0) hx hb hK hP 8 0 rfl rfl (by decide) (by omega) dX2_mayRise_21 ?_
      refine lv_iload_n hx hb dX2_mayRise_22 rfl (lv_at hl 2 rfl) ?_
      refine lv_iconst (v := (-1)) hx hb dX2_mayRise_23 (by decide) ?_
      refine lv_ixor hx hb dX2_mayRise_24 ?_
      refine lv_iand hx hb dX2_mayRise_25 ?_
      refine lv_if_ne (tgt := 44) hx hb dX2_mayRise_26 (by decide) (fun c_5 => ?_) (fun c_5 => ?_)
      · refine lv_iconst (v := (0)) hx hb dX2_mayRise_44 (by decide) ?_
        exact W.zret (v := b2i false) hx hb hr (b2i_nar _) (fun t ht hW => ⟨_, rfl, (by rw [s_X2_mayRise, if_neg (nb c_2), if_pos c_4, if_neg c_5]), ht⟩) (fun _ h => by cases h) dX2_mayRise_45
      · refine lv_aload_n hx hb dX2_mayRise_29 rfl (lv_at hl 0 rfl) ?_
        refine va_get (D := D) (ci := 2) (v := .ref (q 9)) (C := RX2) (T := TX2) (N := 9) hx hb hts hin2 hown hK hP 2 rfl rfl 6 (by decide) (hts (.fieldLink RX2 30 "NeckShip$Spars" "feetWithin" "[I") (by decide +kernel)) (fun _ h9 => h9) rfl dX2_mayRise_30 ?_
        refine lv_iload_n hx hb dX2_mayRise_33 rfl (lv_at hl 1 rfl) ?_
        refine va_ialdN (i := s0) hx hb hK hP 9 0 rfl rfl (by decide) (by omega) dX2_mayRise_34 ?_
        refine lv_iload_n hx hb dX2_mayRise_35 rfl (lv_at hl 2 rfl) ?_
        refine lv_iand hx hb dX2_mayRise_36 ?_
        refine lv_if_ne (tgt := 44) hx hb dX2_mayRise_37 (by decide) (fun c_6 => ?_) (fun c_6 => ?_)
        · refine lv_iconst (v := (0)) hx hb dX2_mayRise_44 (by decide) ?_
          exact W.zret (v := b2i false) hx hb hr (b2i_nar _) (fun t ht hW => ⟨_, rfl, (by rw [s_X2_mayRise, if_neg (nb c_2), if_pos c_4, if_pos c_5, if_neg c_6]), ht⟩) (fun _ h => by cases h) dX2_mayRise_45
        · refine lv_iconst (v := (1)) hx hb dX2_mayRise_40 (by decide) ?_
          refine lv_goto (tgt := 45) hx hb dX2_mayRise_41 (by decide) ?_
          exact W.zret (v := b2i true) hx hb hr (b2i_nar _) (fun t ht hW => ⟨_, rfl, (by rw [s_X2_mayRise, if_neg (nb c_2), if_pos c_4, if_pos c_5, if_pos c_6]), ht⟩) (fun _ h => by cases h) dX2_mayRise_45
def s_X2_mayBeLaid (N : Nat → Nat) (V : Nat → Int32) (A : Nat → Nat → Int32)  (s0 : Nat) : Bool :=
  if (s_X2_isUp N V A (nI s0)) = true then
    if (A 9 s0 &&& nI (N 2)) = 0 then
      if (A 8 s0 &&& nI (s_X2_lying N V A)) = 0 then
        true
      else
        false
    else
      false
  else
    false
set_option maxHeartbeats 4000000 in
set_option maxRecDepth 100000 in
theorem c_X2_mayBeLaid (l : Launch) (D : va_G) (cI cZ cS : ClassId) (q : Nat → Nat) (N : Nat → Nat) (V : Nat → Int32) (A : Nat → Nat → Int32) (s0 : Nat) (h_1 : okC N A) (h_2 : s0 < 10) : Met l yX2_mayBeLaid wsX2_mayBeLaid ({ frames := 2, cells := 0, slots := 0, locals := 42 }) (va_Pc [.ref (q 2), .int (nI s0)] (PC D cI cZ cS q N V A)) (vp_Si (fun r => r = b2i (s_X2_mayBeLaid N V A s0))) 0 0 (fun _ => False) := by
  refine Met.ofW (cc := cX2_mayBeLaid) (maxL := 2) (ret := (some .boolean)) (by decide) rfl ?_
  intro p e s m args below meth c s₁ B hml hv
  obtain ⟨rfl, hP, hK, hN⟩ := hv
  have hx := B.exec
  have hb := B.bytes
  have hr := B.returns
  have hts := atoms_spec (ws := wsX2_mayBeLaid) B.pre
  have hown : s.vm.findClass RX2 = some m.cls := findClass_of_methodNamed B.named
  have hlocks := B.notSynchronized
  have hin2 : ∀ w ∈ u_ws RX2 TX2 9, w ∈ wsX2_mayBeLaid := by decide +kernel
  obtain ⟨o1, o2, o3, o4, o5, o6, o7, o8, o9⟩ := id h_1
  have hl := lv_entry ([.ref (q 2), .int (nI s0)]) (n := 2) (Nat.le_of_ble_eq_true rfl)
  rw [lg_entry_eq]
  generalize (lg_sl ([.ref (q 2), .int (nI s0)]) ++ List.replicate (2 - (lg_sl ([.ref (q 2), .int (nI s0)])).length) Slot.unset).toArray = ls at hl ⊢
  have hl : lv_has ls 2 [(0, .ref (q 2)), (1, .int (nI s0))] := hl
  refine lv_aload_n hx hb dX2_mayBeLaid_0 rfl (lv_at hl 0 rfl) ?_
  refine lv_iload_n hx hb dX2_mayBeLaid_1 rfl (lv_at hl 1 rfl) ?_
  refine vp_callSi (W.runV (As := [.int (nI s0)]) (rest := []) ⟨hx, hb, hml, hown, hts⟩ (c_X2_isUp l D cI cZ cS q N V A (nI s0)) (cwV 1 hts gX2_mayBeLaid_X2_isUp rfl rfl rfl (by decide +kernel) ⟨Nat.le_of_ble_eq_true rfl, Nat.le_of_ble_eq_true rfl⟩) (preC2 hK hN hP) rfl rfl hl.1 rfl (lv_room (Nat.le_of_ble_eq_true rfl)) dX2_mayBeLaid_2 ⟨Nat.zero_le _, Nat.zero_le _⟩) (fun r_1 er_1 => ?_)
  subst er_1
  refine lz_if_eq (tgt := 40) hx hb dX2_mayBeLaid_5 (by decide) (fun c_2 => ?_) (fun c_2 => ?_)
  · refine lv_iconst (v := (0)) hx hb dX2_mayBeLaid_40 (by decide) ?_
    exact W.zret (v := b2i false) hx hb hr (b2i_nar _) (fun t ht hW => ⟨_, rfl, (by rw [s_X2_mayBeLaid, if_neg (nb c_2)]), ht⟩) (fun _ h => by cases h) dX2_mayBeLaid_41
  · refine lv_aload_n hx hb dX2_mayBeLaid_8 rfl (lv_at hl 0 rfl) ?_
    refine va_get (D := D) (ci := 2) (v := .ref (q 9)) (C := RX2) (T := TX2) (N := 9) hx hb hts hin2 hown hK hP 2 rfl rfl 6 (by decide) (hts (.fieldLink RX2 30 "NeckShip$Spars" "feetWithin" "[I") (by decide +kernel)) (fun _ h9 => h9) rfl dX2_mayBeLaid_9 ?_
    refine lv_iload_n hx hb dX2_mayBeLaid_12 rfl (lv_at hl 1 rfl) ?_
    refine va_ialdN (i := s0) hx hb hK hP 9 0 rfl rfl (by decide) (by omega) dX2_mayBeLaid_13 ?_
    refine lv_aload_n hx hb dX2_mayBeLaid_14 rfl (lv_at hl 0 rfl) ?_
    refine va_get (D := D) (ci := 2) (v := .int (nI (N 2))) (C := RX2) (T := TX2) (N := 9) hx hb hts hin2 hown hK hP 2 rfl rfl 8 (by decide) (hts (.fieldLink RX2 37 "NeckShip$Spars" "up" "I") (by decide +kernel)) (fun _ h9 => h9) rfl dX2_mayBeLaid_15 ?_
    refine lv_iand hx hb dX2_mayBeLaid_18 ?_
    refine lv_if_ne (tgt := 40) hx hb dX2_mayBeLaid_19 (by decide) (fun c_3 => ?_) (fun c_3 => ?_)
    · refine lv_iconst (v := (0)) hx hb dX2_mayBeLaid_40 (by decide) ?_
      exact W.zret (v := b2i false) hx hb hr (b2i_nar _) (fun t ht hW => ⟨_, rfl, (by rw [s_X2_mayBeLaid, if_pos c_2, if_neg c_3]), ht⟩) (fun _ h => by cases h) dX2_mayBeLaid_41
    · refine lv_aload_n hx hb dX2_mayBeLaid_22 rfl (lv_at hl 0 rfl) ?_
      refine va_get (D := D) (ci := 2) (v := .ref (q 8)) (C := RX2) (T := TX2) (N := 9) hx hb hts hin2 hown hK hP 2 rfl rfl 5 (by decide) (hts (.fieldLink RX2 27 "NeckShip$Spars" "over" "[I") (by decide +kernel)) (fun _ h9 => h9) rfl dX2_mayBeLaid_23 ?_
      refine lv_iload_n hx hb dX2_mayBeLaid_26 rfl (lv_at hl 1 rfl) ?_
      refine va_ialdN (i := s0) hx hb hK hP 8 0 rfl rfl (by decide) (by omega) dX2_mayBeLaid_27 ?_
      refine lv_aload_n hx hb dX2_mayBeLaid_28 rfl (lv_at hl 0 rfl) ?_
      refine vp_callSi (W.runV (As := []) (rest := [.int (A 8 s0)]) ⟨hx, hb, hml, hown, hts⟩ (c_X2_lying l D cI cZ cS q N V A (by omega)) (cwV 0 hts gX2_mayBeLaid_X2_lying rfl rfl rfl (by decide +kernel) ⟨Nat.le_of_ble_eq_true rfl, Nat.le_of_ble_eq_true rfl⟩) (preC2 hK hN hP) rfl rfl hl.1 rfl (lv_room (Nat.le_of_ble_eq_true rfl)) dX2_mayBeLaid_29 ⟨Nat.zero_le _, Nat.zero_le _⟩) (fun r_4 er_4 => ?_)
      subst er_4
      refine lv_iand hx hb dX2_mayBeLaid_32 ?_
      refine lv_if_ne (tgt := 40) hx hb dX2_mayBeLaid_33 (by decide) (fun c_5 => ?_) (fun c_5 => ?_)
      · refine lv_iconst (v := (0)) hx hb dX2_mayBeLaid_40 (by decide) ?_
        exact W.zret (v := b2i false) hx hb hr (b2i_nar _) (fun t ht hW => ⟨_, rfl, (by rw [s_X2_mayBeLaid, if_pos c_2, if_pos c_3, if_neg c_5]), ht⟩) (fun _ h => by cases h) dX2_mayBeLaid_41
      · refine lv_iconst (v := (1)) hx hb dX2_mayBeLaid_36 (by decide) ?_
        refine lv_goto (tgt := 41) hx hb dX2_mayBeLaid_37 (by decide) ?_
        exact W.zret (v := b2i true) hx hb hr (b2i_nar _) (fun t ht hW => ⟨_, rfl, (by rw [s_X2_mayBeLaid, if_pos c_2, if_pos c_3, if_pos c_5]), ht⟩) (fun _ h => by cases h) dX2_mayBeLaid_41
def s_X2_nextOfOrder_L1 (N : Nat → Nat) (V : Nat → Int32) (A : Nat → Nat → Int32) (u0 : Int32) (r0 : Int32) : Nat → Nat → Int32
  | 0, k =>
    (-9 : Int32)
  | n + 1, k =>
    if (s_X2_mayRise N V A k u0 r0) = true then
      nI k
    else
      s_X2_nextOfOrder_L1 N V A u0 r0 n (k + 1)
def s_X2_nextOfOrder (N : Nat → Nat) (V : Nat → Int32) (A : Nat → Nat → Int32)  (u0 : Int32) (r0 : Int32) : Int32 :=
  s_X2_nextOfOrder_L1 N V A u0 r0 (N 0) 0
set_option maxHeartbeats 4000000 in
set_option maxRecDepth 100000 in
theorem c_X2_nextOfOrder (l : Launch) (D : va_G) (cI cZ cS : ClassId) (q : Nat → Nat) (N : Nat → Nat) (V : Nat → Int32) (A : Nat → Nat → Int32) (u0 : Int32) (r0 : Int32) (h_1 : okC N A) : Met l yX2_nextOfOrder wsX2_nextOfOrder ({ frames := 2, cells := 0, slots := 0, locals := 44 }) (va_Pc [.ref (q 2), .int u0, .int r0] (PC D cI cZ cS q N V A)) (vp_Si (fun r => r = (s_X2_nextOfOrder N V A u0 r0))) 0 0 (fun _ => False) := by
  refine Met.ofW (cc := cX2_nextOfOrder) (maxL := 4) (ret := (some .int)) (by decide) rfl ?_
  intro p e s m args below meth c s₁ B hml hv
  obtain ⟨rfl, hP, hK, hN⟩ := hv
  have hx := B.exec
  have hb := B.bytes
  have hr := B.returns
  have hts := atoms_spec (ws := wsX2_nextOfOrder) B.pre
  have hown : s.vm.findClass RX2 = some m.cls := findClass_of_methodNamed B.named
  have hlocks := B.notSynchronized
  have hin2 : ∀ w ∈ u_ws RX2 TX2 9, w ∈ wsX2_nextOfOrder := by decide +kernel
  obtain ⟨o1, o2, o3, o4, o5, o6, o7, o8, o9⟩ := id h_1
  have hl := lv_entry ([.ref (q 2), .int u0, .int r0]) (n := 4) (Nat.le_of_ble_eq_true rfl)
  rw [lg_entry_eq]
  generalize (lg_sl ([.ref (q 2), .int u0, .int r0]) ++ List.replicate (4 - (lg_sl ([.ref (q 2), .int u0, .int r0])).length) Slot.unset).toArray = ls at hl ⊢
  have hl : lv_has ls 4 [(0, .ref (q 2)), (1, .int u0), (2, .int r0)] := hl
  refine lv_iconst (v := (0)) hx hb dX2_nextOfOrder_0 (by decide) ?_
  refine lv_istore_n (lv' := [(3, .int (0)), (0, .ref (q 2)), (1, .int u0), (2, .int r0)]) hx hb dX2_nextOfOrder_1 rfl hl (by decide) rfl (fun ls hl => ?_)
  have LL1 : ∀ (n k : Nat)  (ls : Array Slot), k + n = N 0 → s_X2_nextOfOrder N V A u0 r0 = s_X2_nextOfOrder_L1 N V A u0 r0 n k → lv_has ls 4 [(3, .int (nI k)), (0, .ref (q 2)), (1, .int u0), (2, .int r0)] → W p l e (headSpec wsX2_nextOfOrder ({ frames := 2, cells := 0, slots := 0, locals := 44 })).room s m ([.ref (q 2), .int u0, .int r0] : List Value).toArray below meth c s.heap [] 0 0 (MQ below (vp_Si (fun r => r = (s_X2_nextOfOrder N V A u0 r0))) ([.ref (q 2), .int u0, .int r0] : List Value).toArray s 0 0 (fun _ => False)) (F0 m 2 ls []) := by
    intro n
    induction n with
    | zero =>
      intro k ls hk hF hl
      refine lv_iload_n hx hb dX2_nextOfOrder_2 rfl (lv_at hl 0 rfl) ?_
      refine lv_aload_n hx hb dX2_nextOfOrder_3 rfl (lv_at hl 1 rfl) ?_
      refine va_get (D := D) (ci := 2) (v := .int (nI (N 0))) (C := RX2) (T := TX2) (N := 9) hx hb hts hin2 hown hK hP 2 rfl rfl 7 (by decide) (hts (.fieldLink RX2 33 "NeckShip$Spars" "count" "I") (by decide +kernel)) (fun _ h9 => h9) rfl dX2_nextOfOrder_4 ?_
      refine lv_icmp_ge (tgt := 28) hx hb dX2_nextOfOrder_7 (by decide) (fun _ => ?_) (fun c_1 => absurd (nI_le (by omega) (by omega)) c_1)
      refine lv_bipush (v := (-9)) hx hb dX2_nextOfOrder_28 (by decide) ?_
      exact W.iret (v := (-9 : Int32)) hx hb hr (fun t ht hW => ⟨_, rfl, (by rw [hF, s_X2_nextOfOrder_L1]), ht⟩) (fun _ h => by cases h) dX2_nextOfOrder_30
    | succ n ih =>
      intro k ls hk hF hl
      refine lv_iload_n hx hb dX2_nextOfOrder_2 rfl (lv_at hl 0 rfl) ?_
      refine lv_aload_n hx hb dX2_nextOfOrder_3 rfl (lv_at hl 1 rfl) ?_
      refine va_get (D := D) (ci := 2) (v := .int (nI (N 0))) (C := RX2) (T := TX2) (N := 9) hx hb hts hin2 hown hK hP 2 rfl rfl 7 (by decide) (hts (.fieldLink RX2 33 "NeckShip$Spars" "count" "I") (by decide +kernel)) (fun _ h9 => h9) rfl dX2_nextOfOrder_4 ?_
      refine lv_icmp_ge (tgt := 28) hx hb dX2_nextOfOrder_7 (by decide) (fun c_2 => absurd c_2 (nI_ge (by omega) (by omega))) (fun _ => ?_)
      refine lv_aload_n hx hb dX2_nextOfOrder_10 rfl (lv_at hl 1 rfl) ?_
      refine lv_iload_n hx hb dX2_nextOfOrder_11 rfl (lv_at hl 0 rfl) ?_
      refine lv_iload_n hx hb dX2_nextOfOrder_12 rfl (lv_at hl 2 rfl) ?_
      refine lv_iload_n hx hb dX2_nextOfOrder_13 rfl (lv_at hl 3 rfl) ?_
      refine vp_callSi (W.runV (As := [.int (nI k), .int u0, .int r0]) (rest := []) ⟨hx, hb, hml, hown, hts⟩ (c_X2_mayRise l D cI cZ cS q N V A k u0 r0 (by omega)) (cwV 3 hts gX2_nextOfOrder_X2_mayRise rfl rfl rfl (by decide +kernel) ⟨Nat.le_of_ble_eq_true rfl, Nat.le_of_ble_eq_true rfl⟩) (preC2 hK hN hP) rfl rfl hl.1 rfl (lv_room (Nat.le_of_ble_eq_true rfl)) dX2_nextOfOrder_14 ⟨Nat.zero_le _, Nat.zero_le _⟩) (fun r_3 er_3 => ?_)
      subst er_3
      refine lz_if_eq (tgt := 22) hx hb dX2_nextOfOrder_17 (by decide) (fun c_4 => ?_) (fun c_4 => ?_)
      · refine lv_iinc (v := nI (k + 1)) (lv' := [(3, .int (nI (k + 1))), (0, .ref (q 2)), (1, .int u0), (2, .int r0)]) hx hb dX2_nextOfOrder_22 hl (k := 0) rfl (nI_1 k) (by decide) rfl (fun ls hl => ?_)
        refine lv_goto (tgt := 2) hx hb dX2_nextOfOrder_25 (by decide) ?_
        exact ih (k + 1) _ (by omega) (hF.trans (by rw [s_X2_nextOfOrder_L1, if_neg (nb c_4)])) (lv_sub hl [0, 1, 2, 3] rfl)
      · refine lv_iload_n hx hb dX2_nextOfOrder_20 rfl (lv_at hl 0 rfl) ?_
        exact W.iret (v := nI k) hx hb hr (fun t ht hW => ⟨_, rfl, (by rw [hF, s_X2_nextOfOrder_L1, if_pos c_4]), ht⟩) (fun _ h => by cases h) dX2_nextOfOrder_21
  exact LL1 (N 0) 0  _ (by omega) (by rw [s_X2_nextOfOrder]) (lv_sub hl [0, 1, 2, 3] rfl)
theorem noteFoot_N {N : Nat → Nat} {V : Nat → Int32} {A : Nat → Nat → Int32} {a b : Nat} : (s_X2_noteFootWithin N V A a b).1 = N := by
  unfold s_X2_noteFootWithin
  split
  · rfl
  · split <;> rfl
def s_X2_add_L1 (N : Nat → Nat) (V : Nat → Int32) (A : Nat → Nat → Int32) (k0 : Int32) (f0 : Int32) (l0 : Int32) (t0 : Int32) (w0 : Int32) : Nat → Nat → (Nat → Nat) → (Nat → Int32) → (Nat → Nat → Int32) → (Nat → Nat) × (Nat → Int32) × (Nat → Nat → Int32)
  | 0, k, N1, V1, A1 =>
    (N1, V1, A1)
  | n + 1, k, N1, V1, A1 =>
    if (s_X2_coverSomeLengthTogether N1 V1 A1 k (N 0)) = true then
      s_X2_add_L1 N V A k0 f0 l0 t0 w0 n (k + 1) ((s_X2_noteFootWithin ((s_X2_noteFootWithin N1 V1 (va_up A1 8 (upd (A1 8) k (A1 8 k ||| nI (2 ^ (N 0))))) k (N 0)).1) ((s_X2_noteFootWithin N1 V1 (va_up A1 8 (upd (A1 8) k (A1 8 k ||| nI (2 ^ (N 0))))) k (N 0)).2.1) ((s_X2_noteFootWithin N1 V1 (va_up A1 8 (upd (A1 8) k (A1 8 k ||| nI (2 ^ (N 0))))) k (N 0)).2.2) (N 0) k).1) ((s_X2_noteFootWithin ((s_X2_noteFootWithin N1 V1 (va_up A1 8 (upd (A1 8) k (A1 8 k ||| nI (2 ^ (N 0))))) k (N 0)).1) ((s_X2_noteFootWithin N1 V1 (va_up A1 8 (upd (A1 8) k (A1 8 k ||| nI (2 ^ (N 0))))) k (N 0)).2.1) ((s_X2_noteFootWithin N1 V1 (va_up A1 8 (upd (A1 8) k (A1 8 k ||| nI (2 ^ (N 0))))) k (N 0)).2.2) (N 0) k).2.1) ((s_X2_noteFootWithin ((s_X2_noteFootWithin N1 V1 (va_up A1 8 (upd (A1 8) k (A1 8 k ||| nI (2 ^ (N 0))))) k (N 0)).1) ((s_X2_noteFootWithin N1 V1 (va_up A1 8 (upd (A1 8) k (A1 8 k ||| nI (2 ^ (N 0))))) k (N 0)).2.1) ((s_X2_noteFootWithin N1 V1 (va_up A1 8 (upd (A1 8) k (A1 8 k ||| nI (2 ^ (N 0))))) k (N 0)).2.2) (N 0) k).2.2)
    else
      s_X2_add_L1 N V A k0 f0 l0 t0 w0 n (k + 1) ((s_X2_noteFootWithin ((s_X2_noteFootWithin N1 V1 A1 k (N 0)).1) ((s_X2_noteFootWithin N1 V1 A1 k (N 0)).2.1) ((s_X2_noteFootWithin N1 V1 A1 k (N 0)).2.2) (N 0) k).1) ((s_X2_noteFootWithin ((s_X2_noteFootWithin N1 V1 A1 k (N 0)).1) ((s_X2_noteFootWithin N1 V1 A1 k (N 0)).2.1) ((s_X2_noteFootWithin N1 V1 A1 k (N 0)).2.2) (N 0) k).2.1) ((s_X2_noteFootWithin ((s_X2_noteFootWithin N1 V1 A1 k (N 0)).1) ((s_X2_noteFootWithin N1 V1 A1 k (N 0)).2.1) ((s_X2_noteFootWithin N1 V1 A1 k (N 0)).2.2) (N 0) k).2.2)
def s_X2_add (N : Nat → Nat) (V : Nat → Int32) (A : Nat → Nat → Int32)  (k0 : Int32) (f0 : Int32) (l0 : Int32) (t0 : Int32) (w0 : Int32) : Int32 × St :=
  if nI (N 0) < (10 : Int32) then
    (nI (N 0), (va_up ((s_X2_add_L1 N V A k0 f0 l0 t0 w0 (N 0) 0 N V (va_up (va_up (va_up (va_up (va_up A 3 (upd (A 3) (N 0) k0)) 4 (upd ((va_up A 3 (upd (A 3) (N 0) k0)) 4) (N 0) f0)) 5 (upd ((va_up (va_up A 3 (upd (A 3) (N 0) k0)) 4 (upd ((va_up A 3 (upd (A 3) (N 0) k0)) 4) (N 0) f0)) 5) (N 0) l0)) 6 (upd ((va_up (va_up (va_up A 3 (upd (A 3) (N 0) k0)) 4 (upd ((va_up A 3 (upd (A 3) (N 0) k0)) 4) (N 0) f0)) 5 (upd ((va_up (va_up A 3 (upd (A 3) (N 0) k0)) 4 (upd ((va_up A 3 (upd (A 3) (N 0) k0)) 4) (N 0) f0)) 5) (N 0) l0)) 6) (N 0) t0)) 7 (upd ((va_up (va_up (va_up (va_up A 3 (upd (A 3) (N 0) k0)) 4 (upd ((va_up A 3 (upd (A 3) (N 0) k0)) 4) (N 0) f0)) 5 (upd ((va_up (va_up A 3 (upd (A 3) (N 0) k0)) 4 (upd ((va_up A 3 (upd (A 3) (N 0) k0)) 4) (N 0) f0)) 5) (N 0) l0)) 6 (upd ((va_up (va_up (va_up A 3 (upd (A 3) (N 0) k0)) 4 (upd ((va_up A 3 (upd (A 3) (N 0) k0)) 4) (N 0) f0)) 5 (upd ((va_up (va_up A 3 (upd (A 3) (N 0) k0)) 4 (upd ((va_up A 3 (upd (A 3) (N 0) k0)) 4) (N 0) f0)) 5) (N 0) l0)) 6) (N 0) t0)) 7) (N 0) w0))).1) 0 (((s_X2_add_L1 N V A k0 f0 l0 t0 w0 (N 0) 0 N V (va_up (va_up (va_up (va_up (va_up A 3 (upd (A 3) (N 0) k0)) 4 (upd ((va_up A 3 (upd (A 3) (N 0) k0)) 4) (N 0) f0)) 5 (upd ((va_up (va_up A 3 (upd (A 3) (N 0) k0)) 4 (upd ((va_up A 3 (upd (A 3) (N 0) k0)) 4) (N 0) f0)) 5) (N 0) l0)) 6 (upd ((va_up (va_up (va_up A 3 (upd (A 3) (N 0) k0)) 4 (upd ((va_up A 3 (upd (A 3) (N 0) k0)) 4) (N 0) f0)) 5 (upd ((va_up (va_up A 3 (upd (A 3) (N 0) k0)) 4 (upd ((va_up A 3 (upd (A 3) (N 0) k0)) 4) (N 0) f0)) 5) (N 0) l0)) 6) (N 0) t0)) 7 (upd ((va_up (va_up (va_up (va_up A 3 (upd (A 3) (N 0) k0)) 4 (upd ((va_up A 3 (upd (A 3) (N 0) k0)) 4) (N 0) f0)) 5 (upd ((va_up (va_up A 3 (upd (A 3) (N 0) k0)) 4 (upd ((va_up A 3 (upd (A 3) (N 0) k0)) 4) (N 0) f0)) 5) (N 0) l0)) 6 (upd ((va_up (va_up (va_up A 3 (upd (A 3) (N 0) k0)) 4 (upd ((va_up A 3 (upd (A 3) (N 0) k0)) 4) (N 0) f0)) 5 (upd ((va_up (va_up A 3 (upd (A 3) (N 0) k0)) 4 (upd ((va_up A 3 (upd (A 3) (N 0) k0)) 4) (N 0) f0)) 5) (N 0) l0)) 6) (N 0) t0)) 7) (N 0) w0))).1 0) + 1)), (s_X2_add_L1 N V A k0 f0 l0 t0 w0 (N 0) 0 N V (va_up (va_up (va_up (va_up (va_up A 3 (upd (A 3) (N 0) k0)) 4 (upd ((va_up A 3 (upd (A 3) (N 0) k0)) 4) (N 0) f0)) 5 (upd ((va_up (va_up A 3 (upd (A 3) (N 0) k0)) 4 (upd ((va_up A 3 (upd (A 3) (N 0) k0)) 4) (N 0) f0)) 5) (N 0) l0)) 6 (upd ((va_up (va_up (va_up A 3 (upd (A 3) (N 0) k0)) 4 (upd ((va_up A 3 (upd (A 3) (N 0) k0)) 4) (N 0) f0)) 5 (upd ((va_up (va_up A 3 (upd (A 3) (N 0) k0)) 4 (upd ((va_up A 3 (upd (A 3) (N 0) k0)) 4) (N 0) f0)) 5) (N 0) l0)) 6) (N 0) t0)) 7 (upd ((va_up (va_up (va_up (va_up A 3 (upd (A 3) (N 0) k0)) 4 (upd ((va_up A 3 (upd (A 3) (N 0) k0)) 4) (N 0) f0)) 5 (upd ((va_up (va_up A 3 (upd (A 3) (N 0) k0)) 4 (upd ((va_up A 3 (upd (A 3) (N 0) k0)) 4) (N 0) f0)) 5) (N 0) l0)) 6 (upd ((va_up (va_up (va_up A 3 (upd (A 3) (N 0) k0)) 4 (upd ((va_up A 3 (upd (A 3) (N 0) k0)) 4) (N 0) f0)) 5 (upd ((va_up (va_up A 3 (upd (A 3) (N 0) k0)) 4 (upd ((va_up A 3 (upd (A 3) (N 0) k0)) 4) (N 0) f0)) 5) (N 0) l0)) 6) (N 0) t0)) 7) (N 0) w0))).2.1, (s_X2_add_L1 N V A k0 f0 l0 t0 w0 (N 0) 0 N V (va_up (va_up (va_up (va_up (va_up A 3 (upd (A 3) (N 0) k0)) 4 (upd ((va_up A 3 (upd (A 3) (N 0) k0)) 4) (N 0) f0)) 5 (upd ((va_up (va_up A 3 (upd (A 3) (N 0) k0)) 4 (upd ((va_up A 3 (upd (A 3) (N 0) k0)) 4) (N 0) f0)) 5) (N 0) l0)) 6 (upd ((va_up (va_up (va_up A 3 (upd (A 3) (N 0) k0)) 4 (upd ((va_up A 3 (upd (A 3) (N 0) k0)) 4) (N 0) f0)) 5 (upd ((va_up (va_up A 3 (upd (A 3) (N 0) k0)) 4 (upd ((va_up A 3 (upd (A 3) (N 0) k0)) 4) (N 0) f0)) 5) (N 0) l0)) 6) (N 0) t0)) 7 (upd ((va_up (va_up (va_up (va_up A 3 (upd (A 3) (N 0) k0)) 4 (upd ((va_up A 3 (upd (A 3) (N 0) k0)) 4) (N 0) f0)) 5 (upd ((va_up (va_up A 3 (upd (A 3) (N 0) k0)) 4 (upd ((va_up A 3 (upd (A 3) (N 0) k0)) 4) (N 0) f0)) 5) (N 0) l0)) 6 (upd ((va_up (va_up (va_up A 3 (upd (A 3) (N 0) k0)) 4 (upd ((va_up A 3 (upd (A 3) (N 0) k0)) 4) (N 0) f0)) 5 (upd ((va_up (va_up A 3 (upd (A 3) (N 0) k0)) 4 (upd ((va_up A 3 (upd (A 3) (N 0) k0)) 4) (N 0) f0)) 5) (N 0) l0)) 6) (N 0) t0)) 7) (N 0) w0))).2.2)
  else
    ((-4 : Int32), N, V, A)
set_option maxHeartbeats 4000000 in
set_option maxRecDepth 100000 in
theorem c_X2_add (l : Launch) (D : va_G) (cI cZ cS : ClassId) (q : Nat → Nat) (N : Nat → Nat) (V : Nat → Int32) (A : Nat → Nat → Int32) (sz : Nat) (k0 : Int32) (f0 : Int32) (l0 : Int32) (t0 : Int32) (w0 : Int32) (h_1 : N 0 ≤ 10) : Met l yX2_add wsX2_add ({ frames := 3, cells := 0, slots := 0, locals := 64 }) (va_Pc [.ref (q 2), .int k0, .int f0, .int l0, .int t0, .int w0] (fun U => U.heap.size = sz ∧ PC D cI cZ cS q N V A U ∧ va_D (fun _ => True) (wC cI cS q N V A))) (va_Qi (fun r (_ : Unit) => r = (s_X2_add N V A k0 f0 l0 t0 w0).1) (fun _ t => PC D cI cZ cS q (s_X2_add N V A k0 f0 l0 t0 w0).2.1 (s_X2_add N V A k0 f0 l0 t0 w0).2.2.1 (s_X2_add N V A k0 f0 l0 t0 w0).2.2.2 t ∧ va_D (va_A (wC cI cS q N V A) sz) (wC cI cS q (s_X2_add N V A k0 f0 l0 t0 w0).2.1 (s_X2_add N V A k0 f0 l0 t0 w0).2.2.1 (s_X2_add N V A k0 f0 l0 t0 w0).2.2.2)) (va_A (wC cI cS q N V A) sz)) 0 0 (va_A (wC cI cS q N V A) sz) := by
  refine Met.ofW (cc := cX2_add) (maxL := 8) (ret := (some .int)) (by decide) rfl ?_
  intro p e s m args below meth c s₁ B hml hv
  obtain ⟨rfl, hsz, ⟨hP, hK, hN⟩, hD0⟩ := hv
  have hx := B.exec
  have hb := B.bytes
  have hr := B.returns
  have hts := atoms_spec (ws := wsX2_add) B.pre
  have hown : s.vm.findClass RX2 = some m.cls := findClass_of_methodNamed B.named
  have hlocks := B.notSynchronized
  have hin2 : ∀ w ∈ u_ws RX2 TX2 9, w ∈ wsX2_add := by decide +kernel
  subst hsz
  have hD := hD0.self (sz := s.heap.size)
  generalize hAe : va_A (wC cI cS q N V A) s.heap.size = Ar at hD ⊢
  have hA : ∀ q : Nat, s.heap.size ≤ q → Ar q := fun q h => by rw [← hAe]; exact Or.inr h
  have hS : va_S Ar s.heap s.heap [] := va_S.rf
  have hl := lv_entry ([.ref (q 2), .int k0, .int f0, .int l0, .int t0, .int w0]) (n := 8) (Nat.le_of_ble_eq_true rfl)
  rw [lg_entry_eq]
  generalize (lg_sl ([.ref (q 2), .int k0, .int f0, .int l0, .int t0, .int w0]) ++ List.replicate (8 - (lg_sl ([.ref (q 2), .int k0, .int f0, .int l0, .int t0, .int w0])).length) Slot.unset).toArray = ls at hl ⊢
  have hl : lv_has ls 8 [(0, .ref (q 2)), (1, .int k0), (2, .int f0), (3, .int l0), (4, .int t0), (5, .int w0)] := hl
  refine lv_aload_n hx hb dX2_add_0 rfl (lv_at hl 0 rfl) ?_
  refine va_get (D := D) (ci := 2) (v := .int (nI (N 0))) (C := RX2) (T := TX2) (N := 9) hx hb hts hin2 hown hK hP 2 rfl rfl 7 (by decide) (hts (.fieldLink RX2 33 "NeckShip$Spars" "count" "I") (by decide +kernel)) (fun _ h9 => h9) rfl dX2_add_1 ?_
  refine lv_bipush (v := (10)) hx hb dX2_add_4 (by decide) ?_
  refine lv_icmp_lt (tgt := 12) hx hb dX2_add_6 (by decide) (fun c_1 => ?_) (fun c_1 => ?_)
  · have hlt := lt10 c_1 (by omega)
    refine lv_aload_n hx hb dX2_add_12 rfl (lv_at hl 0 rfl) ?_
    refine va_get (D := D) (ci := 2) (v := .int (nI (N 0))) (C := RX2) (T := TX2) (N := 9) hx hb hts hin2 hown hK hP 2 rfl rfl 7 (by decide) (hts (.fieldLink RX2 33 "NeckShip$Spars" "count" "I") (by decide +kernel)) (fun _ h9 => h9) rfl dX2_add_13 ?_
    refine lv_istore (lv' := [(6, .int (nI (N 0))), (0, .ref (q 2)), (1, .int k0), (2, .int f0), (3, .int l0), (4, .int t0), (5, .int w0)]) hx hb dX2_add_16 hl (by decide) rfl (fun ls hl => ?_)
    refine lv_aload_n hx hb dX2_add_18 rfl (lv_at hl 1 rfl) ?_
    refine va_get (D := D) (ci := 2) (v := .ref (q 3)) (C := RX2) (T := TX2) (N := 9) hx hb hts hin2 hown hK hP 2 rfl rfl 0 (by decide) (hts (.fieldLink RX2 11 "NeckShip$Spars" "kind" "[I") (by decide +kernel)) (fun _ h9 => h9) rfl dX2_add_19 ?_
    refine lv_iload hx hb dX2_add_22 (lv_at hl 0 rfl) ?_
    refine lv_iload_n hx hb dX2_add_24 rfl (lv_at hl 2 rfl) ?_
    refine va_iastN (i := N 0) hx hb hK hP hD hS 3 0 rfl rfl (by decide) (by omega) dX2_add_25 (fun H locs hP hD hS => ?_)
    have hP : va_P D vwCl (wC cI cS q N V (va_up A 3 (upd (A 3) (N 0) k0))) H := hP
    have hD : va_D Ar (wC cI cS q N V (va_up A 3 (upd (A 3) (N 0) k0))) := hD
    refine lv_aload_n hx hb dX2_add_26 rfl (lv_at hl 1 rfl) ?_
    refine va_get (D := D) (ci := 2) (v := .ref (q 4)) (C := RX2) (T := TX2) (N := 9) hx hb hts hin2 hown hK hP 2 rfl rfl 1 (by decide) (hts (.fieldLink RX2 15 "NeckShip$Spars" "foot" "[I") (by decide +kernel)) (fun _ h9 => h9) rfl dX2_add_27 ?_
    refine lv_iload hx hb dX2_add_30 (lv_at hl 0 rfl) ?_
    refine lv_iload_n hx hb dX2_add_32 rfl (lv_at hl 3 rfl) ?_
    refine va_iastN (i := N 0) hx hb hK hP hD hS 4 0 rfl rfl (by decide) (by omega) dX2_add_33 (fun H locs hP hD hS => ?_)
    have hP : va_P D vwCl (wC cI cS q N V (va_up (va_up A 3 (upd (A 3) (N 0) k0)) 4 (upd ((va_up A 3 (upd (A 3) (N 0) k0)) 4) (N 0) f0))) H := hP
    have hD : va_D Ar (wC cI cS q N V (va_up (va_up A 3 (upd (A 3) (N 0) k0)) 4 (upd ((va_up A 3 (upd (A 3) (N 0) k0)) 4) (N 0) f0))) := hD
    refine lv_aload_n hx hb dX2_add_34 rfl (lv_at hl 1 rfl) ?_
    refine va_get (D := D) (ci := 2) (v := .ref (q 5)) (C := RX2) (T := TX2) (N := 9) hx hb hts hin2 hown hK hP 2 rfl rfl 2 (by decide) (hts (.fieldLink RX2 18 "NeckShip$Spars" "length" "[I") (by decide +kernel)) (fun _ h9 => h9) rfl dX2_add_35 ?_
    refine lv_iload hx hb dX2_add_38 (lv_at hl 0 rfl) ?_
    refine lv_iload_n hx hb dX2_add_40 rfl (lv_at hl 4 rfl) ?_
    refine va_iastN (i := N 0) hx hb hK hP hD hS 5 0 rfl rfl (by decide) (by omega) dX2_add_41 (fun H locs hP hD hS => ?_)
    have hP : va_P D vwCl (wC cI cS q N V (va_up (va_up (va_up A 3 (upd (A 3) (N 0) k0)) 4 (upd ((va_up A 3 (upd (A 3) (N 0) k0)) 4) (N 0) f0)) 5 (upd ((va_up (va_up A 3 (upd (A 3) (N 0) k0)) 4 (upd ((va_up A 3 (upd (A 3) (N 0) k0)) 4) (N 0) f0)) 5) (N 0) l0))) H := hP
    have hD : va_D Ar (wC cI cS q N V (va_up (va_up (va_up A 3 (upd (A 3) (N 0) k0)) 4 (upd ((va_up A 3 (upd (A 3) (N 0) k0)) 4) (N 0) f0)) 5 (upd ((va_up (va_up A 3 (upd (A 3) (N 0) k0)) 4 (upd ((va_up A 3 (upd (A 3) (N 0) k0)) 4) (N 0) f0)) 5) (N 0) l0))) := hD
    refine lv_aload_n hx hb dX2_add_42 rfl (lv_at hl 1 rfl) ?_
    refine va_get (D := D) (ci := 2) (v := .ref (q 6)) (C := RX2) (T := TX2) (N := 9) hx hb hts hin2 hown hK hP 2 rfl rfl 3 (by decide) (hts (.fieldLink RX2 21 "NeckShip$Spars" "thick" "[I") (by decide +kernel)) (fun _ h9 => h9) rfl dX2_add_43 ?_
    refine lv_iload hx hb dX2_add_46 (lv_at hl 0 rfl) ?_
    refine lv_iload hx hb dX2_add_48 (lv_at hl 5 rfl) ?_
    refine va_iastN (i := N 0) hx hb hK hP hD hS 6 0 rfl rfl (by decide) (by omega) dX2_add_50 (fun H locs hP hD hS => ?_)
    have hP : va_P D vwCl (wC cI cS q N V (va_up (va_up (va_up (va_up A 3 (upd (A 3) (N 0) k0)) 4 (upd ((va_up A 3 (upd (A 3) (N 0) k0)) 4) (N 0) f0)) 5 (upd ((va_up (va_up A 3 (upd (A 3) (N 0) k0)) 4 (upd ((va_up A 3 (upd (A 3) (N 0) k0)) 4) (N 0) f0)) 5) (N 0) l0)) 6 (upd ((va_up (va_up (va_up A 3 (upd (A 3) (N 0) k0)) 4 (upd ((va_up A 3 (upd (A 3) (N 0) k0)) 4) (N 0) f0)) 5 (upd ((va_up (va_up A 3 (upd (A 3) (N 0) k0)) 4 (upd ((va_up A 3 (upd (A 3) (N 0) k0)) 4) (N 0) f0)) 5) (N 0) l0)) 6) (N 0) t0))) H := hP
    have hD : va_D Ar (wC cI cS q N V (va_up (va_up (va_up (va_up A 3 (upd (A 3) (N 0) k0)) 4 (upd ((va_up A 3 (upd (A 3) (N 0) k0)) 4) (N 0) f0)) 5 (upd ((va_up (va_up A 3 (upd (A 3) (N 0) k0)) 4 (upd ((va_up A 3 (upd (A 3) (N 0) k0)) 4) (N 0) f0)) 5) (N 0) l0)) 6 (upd ((va_up (va_up (va_up A 3 (upd (A 3) (N 0) k0)) 4 (upd ((va_up A 3 (upd (A 3) (N 0) k0)) 4) (N 0) f0)) 5 (upd ((va_up (va_up A 3 (upd (A 3) (N 0) k0)) 4 (upd ((va_up A 3 (upd (A 3) (N 0) k0)) 4) (N 0) f0)) 5) (N 0) l0)) 6) (N 0) t0))) := hD
    refine lv_aload_n hx hb dX2_add_51 rfl (lv_at hl 1 rfl) ?_
    refine va_get (D := D) (ci := 2) (v := .ref (q 7)) (C := RX2) (T := TX2) (N := 9) hx hb hts hin2 hown hK hP 2 rfl rfl 4 (by decide) (hts (.fieldLink RX2 24 "NeckShip$Spars" "way" "[I") (by decide +kernel)) (fun _ h9 => h9) rfl dX2_add_52 ?_
    refine lv_iload hx hb dX2_add_55 (lv_at hl 0 rfl) ?_
    refine lv_iload hx hb dX2_add_57 (lv_at hl 6 rfl) ?_
    refine va_iastN (i := N 0) hx hb hK hP hD hS 7 0 rfl rfl (by decide) (by omega) dX2_add_59 (fun H locs hP hD hS => ?_)
    have hP : va_P D vwCl (wC cI cS q N V (va_up (va_up (va_up (va_up (va_up A 3 (upd (A 3) (N 0) k0)) 4 (upd ((va_up A 3 (upd (A 3) (N 0) k0)) 4) (N 0) f0)) 5 (upd ((va_up (va_up A 3 (upd (A 3) (N 0) k0)) 4 (upd ((va_up A 3 (upd (A 3) (N 0) k0)) 4) (N 0) f0)) 5) (N 0) l0)) 6 (upd ((va_up (va_up (va_up A 3 (upd (A 3) (N 0) k0)) 4 (upd ((va_up A 3 (upd (A 3) (N 0) k0)) 4) (N 0) f0)) 5 (upd ((va_up (va_up A 3 (upd (A 3) (N 0) k0)) 4 (upd ((va_up A 3 (upd (A 3) (N 0) k0)) 4) (N 0) f0)) 5) (N 0) l0)) 6) (N 0) t0)) 7 (upd ((va_up (va_up (va_up (va_up A 3 (upd (A 3) (N 0) k0)) 4 (upd ((va_up A 3 (upd (A 3) (N 0) k0)) 4) (N 0) f0)) 5 (upd ((va_up (va_up A 3 (upd (A 3) (N 0) k0)) 4 (upd ((va_up A 3 (upd (A 3) (N 0) k0)) 4) (N 0) f0)) 5) (N 0) l0)) 6 (upd ((va_up (va_up (va_up A 3 (upd (A 3) (N 0) k0)) 4 (upd ((va_up A 3 (upd (A 3) (N 0) k0)) 4) (N 0) f0)) 5 (upd ((va_up (va_up A 3 (upd (A 3) (N 0) k0)) 4 (upd ((va_up A 3 (upd (A 3) (N 0) k0)) 4) (N 0) f0)) 5) (N 0) l0)) 6) (N 0) t0)) 7) (N 0) w0))) H := hP
    have hD : va_D Ar (wC cI cS q N V (va_up (va_up (va_up (va_up (va_up A 3 (upd (A 3) (N 0) k0)) 4 (upd ((va_up A 3 (upd (A 3) (N 0) k0)) 4) (N 0) f0)) 5 (upd ((va_up (va_up A 3 (upd (A 3) (N 0) k0)) 4 (upd ((va_up A 3 (upd (A 3) (N 0) k0)) 4) (N 0) f0)) 5) (N 0) l0)) 6 (upd ((va_up (va_up (va_up A 3 (upd (A 3) (N 0) k0)) 4 (upd ((va_up A 3 (upd (A 3) (N 0) k0)) 4) (N 0) f0)) 5 (upd ((va_up (va_up A 3 (upd (A 3) (N 0) k0)) 4 (upd ((va_up A 3 (upd (A 3) (N 0) k0)) 4) (N 0) f0)) 5) (N 0) l0)) 6) (N 0) t0)) 7 (upd ((va_up (va_up (va_up (va_up A 3 (upd (A 3) (N 0) k0)) 4 (upd ((va_up A 3 (upd (A 3) (N 0) k0)) 4) (N 0) f0)) 5 (upd ((va_up (va_up A 3 (upd (A 3) (N 0) k0)) 4 (upd ((va_up A 3 (upd (A 3) (N 0) k0)) 4) (N 0) f0)) 5) (N 0) l0)) 6 (upd ((va_up (va_up (va_up A 3 (upd (A 3) (N 0) k0)) 4 (upd ((va_up A 3 (upd (A 3) (N 0) k0)) 4) (N 0) f0)) 5 (upd ((va_up (va_up A 3 (upd (A 3) (N 0) k0)) 4 (upd ((va_up A 3 (upd (A 3) (N 0) k0)) 4) (N 0) f0)) 5) (N 0) l0)) 6) (N 0) t0)) 7) (N 0) w0))) := hD
    refine lv_iconst (v := (0)) hx hb dX2_add_60 (by decide) ?_
    refine lv_istore (lv' := [(7, .int (0)), (6, .int (nI (N 0))), (0, .ref (q 2)), (1, .int k0), (2, .int f0), (3, .int l0), (4, .int t0), (5, .int w0)]) hx hb dX2_add_61 hl (by decide) rfl (fun ls hl => ?_)
    have KL1 : ∀ (H : Heap) (locs : List Loc), va_P D vwCl (wC cI cS q ((s_X2_add_L1 N V A k0 f0 l0 t0 w0 (N 0) 0 N V (va_up (va_up (va_up (va_up (va_up A 3 (upd (A 3) (N 0) k0)) 4 (upd ((va_up A 3 (upd (A 3) (N 0) k0)) 4) (N 0) f0)) 5 (upd ((va_up (va_up A 3 (upd (A 3) (N 0) k0)) 4 (upd ((va_up A 3 (upd (A 3) (N 0) k0)) 4) (N 0) f0)) 5) (N 0) l0)) 6 (upd ((va_up (va_up (va_up A 3 (upd (A 3) (N 0) k0)) 4 (upd ((va_up A 3 (upd (A 3) (N 0) k0)) 4) (N 0) f0)) 5 (upd ((va_up (va_up A 3 (upd (A 3) (N 0) k0)) 4 (upd ((va_up A 3 (upd (A 3) (N 0) k0)) 4) (N 0) f0)) 5) (N 0) l0)) 6) (N 0) t0)) 7 (upd ((va_up (va_up (va_up (va_up A 3 (upd (A 3) (N 0) k0)) 4 (upd ((va_up A 3 (upd (A 3) (N 0) k0)) 4) (N 0) f0)) 5 (upd ((va_up (va_up A 3 (upd (A 3) (N 0) k0)) 4 (upd ((va_up A 3 (upd (A 3) (N 0) k0)) 4) (N 0) f0)) 5) (N 0) l0)) 6 (upd ((va_up (va_up (va_up A 3 (upd (A 3) (N 0) k0)) 4 (upd ((va_up A 3 (upd (A 3) (N 0) k0)) 4) (N 0) f0)) 5 (upd ((va_up (va_up A 3 (upd (A 3) (N 0) k0)) 4 (upd ((va_up A 3 (upd (A 3) (N 0) k0)) 4) (N 0) f0)) 5) (N 0) l0)) 6) (N 0) t0)) 7) (N 0) w0))).1) ((s_X2_add_L1 N V A k0 f0 l0 t0 w0 (N 0) 0 N V (va_up (va_up (va_up (va_up (va_up A 3 (upd (A 3) (N 0) k0)) 4 (upd ((va_up A 3 (upd (A 3) (N 0) k0)) 4) (N 0) f0)) 5 (upd ((va_up (va_up A 3 (upd (A 3) (N 0) k0)) 4 (upd ((va_up A 3 (upd (A 3) (N 0) k0)) 4) (N 0) f0)) 5) (N 0) l0)) 6 (upd ((va_up (va_up (va_up A 3 (upd (A 3) (N 0) k0)) 4 (upd ((va_up A 3 (upd (A 3) (N 0) k0)) 4) (N 0) f0)) 5 (upd ((va_up (va_up A 3 (upd (A 3) (N 0) k0)) 4 (upd ((va_up A 3 (upd (A 3) (N 0) k0)) 4) (N 0) f0)) 5) (N 0) l0)) 6) (N 0) t0)) 7 (upd ((va_up (va_up (va_up (va_up A 3 (upd (A 3) (N 0) k0)) 4 (upd ((va_up A 3 (upd (A 3) (N 0) k0)) 4) (N 0) f0)) 5 (upd ((va_up (va_up A 3 (upd (A 3) (N 0) k0)) 4 (upd ((va_up A 3 (upd (A 3) (N 0) k0)) 4) (N 0) f0)) 5) (N 0) l0)) 6 (upd ((va_up (va_up (va_up A 3 (upd (A 3) (N 0) k0)) 4 (upd ((va_up A 3 (upd (A 3) (N 0) k0)) 4) (N 0) f0)) 5 (upd ((va_up (va_up A 3 (upd (A 3) (N 0) k0)) 4 (upd ((va_up A 3 (upd (A 3) (N 0) k0)) 4) (N 0) f0)) 5) (N 0) l0)) 6) (N 0) t0)) 7) (N 0) w0))).2.1) ((s_X2_add_L1 N V A k0 f0 l0 t0 w0 (N 0) 0 N V (va_up (va_up (va_up (va_up (va_up A 3 (upd (A 3) (N 0) k0)) 4 (upd ((va_up A 3 (upd (A 3) (N 0) k0)) 4) (N 0) f0)) 5 (upd ((va_up (va_up A 3 (upd (A 3) (N 0) k0)) 4 (upd ((va_up A 3 (upd (A 3) (N 0) k0)) 4) (N 0) f0)) 5) (N 0) l0)) 6 (upd ((va_up (va_up (va_up A 3 (upd (A 3) (N 0) k0)) 4 (upd ((va_up A 3 (upd (A 3) (N 0) k0)) 4) (N 0) f0)) 5 (upd ((va_up (va_up A 3 (upd (A 3) (N 0) k0)) 4 (upd ((va_up A 3 (upd (A 3) (N 0) k0)) 4) (N 0) f0)) 5) (N 0) l0)) 6) (N 0) t0)) 7 (upd ((va_up (va_up (va_up (va_up A 3 (upd (A 3) (N 0) k0)) 4 (upd ((va_up A 3 (upd (A 3) (N 0) k0)) 4) (N 0) f0)) 5 (upd ((va_up (va_up A 3 (upd (A 3) (N 0) k0)) 4 (upd ((va_up A 3 (upd (A 3) (N 0) k0)) 4) (N 0) f0)) 5) (N 0) l0)) 6 (upd ((va_up (va_up (va_up A 3 (upd (A 3) (N 0) k0)) 4 (upd ((va_up A 3 (upd (A 3) (N 0) k0)) 4) (N 0) f0)) 5 (upd ((va_up (va_up A 3 (upd (A 3) (N 0) k0)) 4 (upd ((va_up A 3 (upd (A 3) (N 0) k0)) 4) (N 0) f0)) 5) (N 0) l0)) 6) (N 0) t0)) 7) (N 0) w0))).2.2)) H → va_D Ar (wC cI cS q ((s_X2_add_L1 N V A k0 f0 l0 t0 w0 (N 0) 0 N V (va_up (va_up (va_up (va_up (va_up A 3 (upd (A 3) (N 0) k0)) 4 (upd ((va_up A 3 (upd (A 3) (N 0) k0)) 4) (N 0) f0)) 5 (upd ((va_up (va_up A 3 (upd (A 3) (N 0) k0)) 4 (upd ((va_up A 3 (upd (A 3) (N 0) k0)) 4) (N 0) f0)) 5) (N 0) l0)) 6 (upd ((va_up (va_up (va_up A 3 (upd (A 3) (N 0) k0)) 4 (upd ((va_up A 3 (upd (A 3) (N 0) k0)) 4) (N 0) f0)) 5 (upd ((va_up (va_up A 3 (upd (A 3) (N 0) k0)) 4 (upd ((va_up A 3 (upd (A 3) (N 0) k0)) 4) (N 0) f0)) 5) (N 0) l0)) 6) (N 0) t0)) 7 (upd ((va_up (va_up (va_up (va_up A 3 (upd (A 3) (N 0) k0)) 4 (upd ((va_up A 3 (upd (A 3) (N 0) k0)) 4) (N 0) f0)) 5 (upd ((va_up (va_up A 3 (upd (A 3) (N 0) k0)) 4 (upd ((va_up A 3 (upd (A 3) (N 0) k0)) 4) (N 0) f0)) 5) (N 0) l0)) 6 (upd ((va_up (va_up (va_up A 3 (upd (A 3) (N 0) k0)) 4 (upd ((va_up A 3 (upd (A 3) (N 0) k0)) 4) (N 0) f0)) 5 (upd ((va_up (va_up A 3 (upd (A 3) (N 0) k0)) 4 (upd ((va_up A 3 (upd (A 3) (N 0) k0)) 4) (N 0) f0)) 5) (N 0) l0)) 6) (N 0) t0)) 7) (N 0) w0))).1) ((s_X2_add_L1 N V A k0 f0 l0 t0 w0 (N 0) 0 N V (va_up (va_up (va_up (va_up (va_up A 3 (upd (A 3) (N 0) k0)) 4 (upd ((va_up A 3 (upd (A 3) (N 0) k0)) 4) (N 0) f0)) 5 (upd ((va_up (va_up A 3 (upd (A 3) (N 0) k0)) 4 (upd ((va_up A 3 (upd (A 3) (N 0) k0)) 4) (N 0) f0)) 5) (N 0) l0)) 6 (upd ((va_up (va_up (va_up A 3 (upd (A 3) (N 0) k0)) 4 (upd ((va_up A 3 (upd (A 3) (N 0) k0)) 4) (N 0) f0)) 5 (upd ((va_up (va_up A 3 (upd (A 3) (N 0) k0)) 4 (upd ((va_up A 3 (upd (A 3) (N 0) k0)) 4) (N 0) f0)) 5) (N 0) l0)) 6) (N 0) t0)) 7 (upd ((va_up (va_up (va_up (va_up A 3 (upd (A 3) (N 0) k0)) 4 (upd ((va_up A 3 (upd (A 3) (N 0) k0)) 4) (N 0) f0)) 5 (upd ((va_up (va_up A 3 (upd (A 3) (N 0) k0)) 4 (upd ((va_up A 3 (upd (A 3) (N 0) k0)) 4) (N 0) f0)) 5) (N 0) l0)) 6 (upd ((va_up (va_up (va_up A 3 (upd (A 3) (N 0) k0)) 4 (upd ((va_up A 3 (upd (A 3) (N 0) k0)) 4) (N 0) f0)) 5 (upd ((va_up (va_up A 3 (upd (A 3) (N 0) k0)) 4 (upd ((va_up A 3 (upd (A 3) (N 0) k0)) 4) (N 0) f0)) 5) (N 0) l0)) 6) (N 0) t0)) 7) (N 0) w0))).2.1) ((s_X2_add_L1 N V A k0 f0 l0 t0 w0 (N 0) 0 N V (va_up (va_up (va_up (va_up (va_up A 3 (upd (A 3) (N 0) k0)) 4 (upd ((va_up A 3 (upd (A 3) (N 0) k0)) 4) (N 0) f0)) 5 (upd ((va_up (va_up A 3 (upd (A 3) (N 0) k0)) 4 (upd ((va_up A 3 (upd (A 3) (N 0) k0)) 4) (N 0) f0)) 5) (N 0) l0)) 6 (upd ((va_up (va_up (va_up A 3 (upd (A 3) (N 0) k0)) 4 (upd ((va_up A 3 (upd (A 3) (N 0) k0)) 4) (N 0) f0)) 5 (upd ((va_up (va_up A 3 (upd (A 3) (N 0) k0)) 4 (upd ((va_up A 3 (upd (A 3) (N 0) k0)) 4) (N 0) f0)) 5) (N 0) l0)) 6) (N 0) t0)) 7 (upd ((va_up (va_up (va_up (va_up A 3 (upd (A 3) (N 0) k0)) 4 (upd ((va_up A 3 (upd (A 3) (N 0) k0)) 4) (N 0) f0)) 5 (upd ((va_up (va_up A 3 (upd (A 3) (N 0) k0)) 4 (upd ((va_up A 3 (upd (A 3) (N 0) k0)) 4) (N 0) f0)) 5) (N 0) l0)) 6 (upd ((va_up (va_up (va_up A 3 (upd (A 3) (N 0) k0)) 4 (upd ((va_up A 3 (upd (A 3) (N 0) k0)) 4) (N 0) f0)) 5 (upd ((va_up (va_up A 3 (upd (A 3) (N 0) k0)) 4 (upd ((va_up A 3 (upd (A 3) (N 0) k0)) 4) (N 0) f0)) 5) (N 0) l0)) 6) (N 0) t0)) 7) (N 0) w0))).2.2)) → va_S Ar s.heap H locs → ∀ (ls : Array Slot), ((s_X2_add_L1 N V A k0 f0 l0 t0 w0 (N 0) 0 N V (va_up (va_up (va_up (va_up (va_up A 3 (upd (A 3) (N 0) k0)) 4 (upd ((va_up A 3 (upd (A 3) (N 0) k0)) 4) (N 0) f0)) 5 (upd ((va_up (va_up A 3 (upd (A 3) (N 0) k0)) 4 (upd ((va_up A 3 (upd (A 3) (N 0) k0)) 4) (N 0) f0)) 5) (N 0) l0)) 6 (upd ((va_up (va_up (va_up A 3 (upd (A 3) (N 0) k0)) 4 (upd ((va_up A 3 (upd (A 3) (N 0) k0)) 4) (N 0) f0)) 5 (upd ((va_up (va_up A 3 (upd (A 3) (N 0) k0)) 4 (upd ((va_up A 3 (upd (A 3) (N 0) k0)) 4) (N 0) f0)) 5) (N 0) l0)) 6) (N 0) t0)) 7 (upd ((va_up (va_up (va_up (va_up A 3 (upd (A 3) (N 0) k0)) 4 (upd ((va_up A 3 (upd (A 3) (N 0) k0)) 4) (N 0) f0)) 5 (upd ((va_up (va_up A 3 (upd (A 3) (N 0) k0)) 4 (upd ((va_up A 3 (upd (A 3) (N 0) k0)) 4) (N 0) f0)) 5) (N 0) l0)) 6 (upd ((va_up (va_up (va_up A 3 (upd (A 3) (N 0) k0)) 4 (upd ((va_up A 3 (upd (A 3) (N 0) k0)) 4) (N 0) f0)) 5 (upd ((va_up (va_up A 3 (upd (A 3) (N 0) k0)) 4 (upd ((va_up A 3 (upd (A 3) (N 0) k0)) 4) (N 0) f0)) 5) (N 0) l0)) 6) (N 0) t0)) 7) (N 0) w0))).1) = N → lv_has ls 8 [(6, .int (nI (N 0))), (0, .ref (q 2)), (1, .int k0), (2, .int f0), (3, .int l0), (4, .int t0), (5, .int w0)] → W p l e (headSpec wsX2_add ({ frames := 3, cells := 0, slots := 0, locals := 64 })).room s m ([.ref (q 2), .int k0, .int f0, .int l0, .int t0, .int w0] : List Value).toArray below meth c H locs 0 0 (MQ below (va_Qi (fun r (_ : Unit) => r = (s_X2_add N V A k0 f0 l0 t0 w0).1) (fun _ t => PC D cI cZ cS q (s_X2_add N V A k0 f0 l0 t0 w0).2.1 (s_X2_add N V A k0 f0 l0 t0 w0).2.2.1 (s_X2_add N V A k0 f0 l0 t0 w0).2.2.2 t ∧ va_D Ar (wC cI cS q (s_X2_add N V A k0 f0 l0 t0 w0).2.1 (s_X2_add N V A k0 f0 l0 t0 w0).2.2.1 (s_X2_add N V A k0 f0 l0 t0 w0).2.2.2)) Ar) ([.ref (q 2), .int k0, .int f0, .int l0, .int t0, .int w0] : List Value).toArray s 0 0 Ar) (F0 m 117 ls []) := by
      intro H locs hP hD hS ls hI hl
      refine lv_aload_n hx hb dX2_add_117 rfl (lv_at hl 1 rfl) ?_
      refine lv_dup hx hb dX2_add_118 rfl ?_
      refine va_get (D := D) (ci := 2) (v := .int (nI ((s_X2_add_L1 N V A k0 f0 l0 t0 w0 (N 0) 0 N V (va_up (va_up (va_up (va_up (va_up A 3 (upd (A 3) (N 0) k0)) 4 (upd ((va_up A 3 (upd (A 3) (N 0) k0)) 4) (N 0) f0)) 5 (upd ((va_up (va_up A 3 (upd (A 3) (N 0) k0)) 4 (upd ((va_up A 3 (upd (A 3) (N 0) k0)) 4) (N 0) f0)) 5) (N 0) l0)) 6 (upd ((va_up (va_up (va_up A 3 (upd (A 3) (N 0) k0)) 4 (upd ((va_up A 3 (upd (A 3) (N 0) k0)) 4) (N 0) f0)) 5 (upd ((va_up (va_up A 3 (upd (A 3) (N 0) k0)) 4 (upd ((va_up A 3 (upd (A 3) (N 0) k0)) 4) (N 0) f0)) 5) (N 0) l0)) 6) (N 0) t0)) 7 (upd ((va_up (va_up (va_up (va_up A 3 (upd (A 3) (N 0) k0)) 4 (upd ((va_up A 3 (upd (A 3) (N 0) k0)) 4) (N 0) f0)) 5 (upd ((va_up (va_up A 3 (upd (A 3) (N 0) k0)) 4 (upd ((va_up A 3 (upd (A 3) (N 0) k0)) 4) (N 0) f0)) 5) (N 0) l0)) 6 (upd ((va_up (va_up (va_up A 3 (upd (A 3) (N 0) k0)) 4 (upd ((va_up A 3 (upd (A 3) (N 0) k0)) 4) (N 0) f0)) 5 (upd ((va_up (va_up A 3 (upd (A 3) (N 0) k0)) 4 (upd ((va_up A 3 (upd (A 3) (N 0) k0)) 4) (N 0) f0)) 5) (N 0) l0)) 6) (N 0) t0)) 7) (N 0) w0))).1 0))) (C := RX2) (T := TX2) (N := 9) hx hb hts hin2 hown hK hP 2 rfl rfl 7 (by decide) (hts (.fieldLink RX2 33 "NeckShip$Spars" "count" "I") (by decide +kernel)) (fun _ h9 => h9) rfl dX2_add_119 ?_
      refine lv_iconst (v := (1)) hx hb dX2_add_122 (by decide) ?_
      refine lv_iadd hx hb dX2_add_123 ?_
      rw [nI_1 ((s_X2_add_L1 N V A k0 f0 l0 t0 w0 (N 0) 0 N V (va_up (va_up (va_up (va_up (va_up A 3 (upd (A 3) (N 0) k0)) 4 (upd ((va_up A 3 (upd (A 3) (N 0) k0)) 4) (N 0) f0)) 5 (upd ((va_up (va_up A 3 (upd (A 3) (N 0) k0)) 4 (upd ((va_up A 3 (upd (A 3) (N 0) k0)) 4) (N 0) f0)) 5) (N 0) l0)) 6 (upd ((va_up (va_up (va_up A 3 (upd (A 3) (N 0) k0)) 4 (upd ((va_up A 3 (upd (A 3) (N 0) k0)) 4) (N 0) f0)) 5 (upd ((va_up (va_up A 3 (upd (A 3) (N 0) k0)) 4 (upd ((va_up A 3 (upd (A 3) (N 0) k0)) 4) (N 0) f0)) 5) (N 0) l0)) 6) (N 0) t0)) 7 (upd ((va_up (va_up (va_up (va_up A 3 (upd (A 3) (N 0) k0)) 4 (upd ((va_up A 3 (upd (A 3) (N 0) k0)) 4) (N 0) f0)) 5 (upd ((va_up (va_up A 3 (upd (A 3) (N 0) k0)) 4 (upd ((va_up A 3 (upd (A 3) (N 0) k0)) 4) (N 0) f0)) 5) (N 0) l0)) 6 (upd ((va_up (va_up (va_up A 3 (upd (A 3) (N 0) k0)) 4 (upd ((va_up A 3 (upd (A 3) (N 0) k0)) 4) (N 0) f0)) 5 (upd ((va_up (va_up A 3 (upd (A 3) (N 0) k0)) 4 (upd ((va_up A 3 (upd (A 3) (N 0) k0)) 4) (N 0) f0)) 5) (N 0) l0)) 6) (N 0) t0)) 7) (N 0) w0))).1 0)]
      refine va_put (D := D) (ci := 2) (v := .int (nI (((s_X2_add_L1 N V A k0 f0 l0 t0 w0 (N 0) 0 N V (va_up (va_up (va_up (va_up (va_up A 3 (upd (A 3) (N 0) k0)) 4 (upd ((va_up A 3 (upd (A 3) (N 0) k0)) 4) (N 0) f0)) 5 (upd ((va_up (va_up A 3 (upd (A 3) (N 0) k0)) 4 (upd ((va_up A 3 (upd (A 3) (N 0) k0)) 4) (N 0) f0)) 5) (N 0) l0)) 6 (upd ((va_up (va_up (va_up A 3 (upd (A 3) (N 0) k0)) 4 (upd ((va_up A 3 (upd (A 3) (N 0) k0)) 4) (N 0) f0)) 5 (upd ((va_up (va_up A 3 (upd (A 3) (N 0) k0)) 4 (upd ((va_up A 3 (upd (A 3) (N 0) k0)) 4) (N 0) f0)) 5) (N 0) l0)) 6) (N 0) t0)) 7 (upd ((va_up (va_up (va_up (va_up A 3 (upd (A 3) (N 0) k0)) 4 (upd ((va_up A 3 (upd (A 3) (N 0) k0)) 4) (N 0) f0)) 5 (upd ((va_up (va_up A 3 (upd (A 3) (N 0) k0)) 4 (upd ((va_up A 3 (upd (A 3) (N 0) k0)) 4) (N 0) f0)) 5) (N 0) l0)) 6 (upd ((va_up (va_up (va_up A 3 (upd (A 3) (N 0) k0)) 4 (upd ((va_up A 3 (upd (A 3) (N 0) k0)) 4) (N 0) f0)) 5 (upd ((va_up (va_up A 3 (upd (A 3) (N 0) k0)) 4 (upd ((va_up A 3 (upd (A 3) (N 0) k0)) 4) (N 0) f0)) 5) (N 0) l0)) 6) (N 0) t0)) 7) (N 0) w0))).1 0) + 1))) (ty := .int) (C := RX2) (T := TX2) (N := 9) hx hb hts hin2 tyX2 tyX2_ok nmX2 hown hK hP hD hS 2 rfl rfl 7 (by decide) (hts (.fieldLink RX2 33 "NeckShip$Spars" "count" "I") (by decide +kernel)) (fun _ h9 => h9) rfl (by decide +kernel) rfl rfl (Nat.le_of_ble_eq_true rfl) dX2_add_124 (fun H locs hP hD hS => ?_)
      have hP : va_P D vwCl (wC cI cS q (va_up ((s_X2_add_L1 N V A k0 f0 l0 t0 w0 (N 0) 0 N V (va_up (va_up (va_up (va_up (va_up A 3 (upd (A 3) (N 0) k0)) 4 (upd ((va_up A 3 (upd (A 3) (N 0) k0)) 4) (N 0) f0)) 5 (upd ((va_up (va_up A 3 (upd (A 3) (N 0) k0)) 4 (upd ((va_up A 3 (upd (A 3) (N 0) k0)) 4) (N 0) f0)) 5) (N 0) l0)) 6 (upd ((va_up (va_up (va_up A 3 (upd (A 3) (N 0) k0)) 4 (upd ((va_up A 3 (upd (A 3) (N 0) k0)) 4) (N 0) f0)) 5 (upd ((va_up (va_up A 3 (upd (A 3) (N 0) k0)) 4 (upd ((va_up A 3 (upd (A 3) (N 0) k0)) 4) (N 0) f0)) 5) (N 0) l0)) 6) (N 0) t0)) 7 (upd ((va_up (va_up (va_up (va_up A 3 (upd (A 3) (N 0) k0)) 4 (upd ((va_up A 3 (upd (A 3) (N 0) k0)) 4) (N 0) f0)) 5 (upd ((va_up (va_up A 3 (upd (A 3) (N 0) k0)) 4 (upd ((va_up A 3 (upd (A 3) (N 0) k0)) 4) (N 0) f0)) 5) (N 0) l0)) 6 (upd ((va_up (va_up (va_up A 3 (upd (A 3) (N 0) k0)) 4 (upd ((va_up A 3 (upd (A 3) (N 0) k0)) 4) (N 0) f0)) 5 (upd ((va_up (va_up A 3 (upd (A 3) (N 0) k0)) 4 (upd ((va_up A 3 (upd (A 3) (N 0) k0)) 4) (N 0) f0)) 5) (N 0) l0)) 6) (N 0) t0)) 7) (N 0) w0))).1) 0 (((s_X2_add_L1 N V A k0 f0 l0 t0 w0 (N 0) 0 N V (va_up (va_up (va_up (va_up (va_up A 3 (upd (A 3) (N 0) k0)) 4 (upd ((va_up A 3 (upd (A 3) (N 0) k0)) 4) (N 0) f0)) 5 (upd ((va_up (va_up A 3 (upd (A 3) (N 0) k0)) 4 (upd ((va_up A 3 (upd (A 3) (N 0) k0)) 4) (N 0) f0)) 5) (N 0) l0)) 6 (upd ((va_up (va_up (va_up A 3 (upd (A 3) (N 0) k0)) 4 (upd ((va_up A 3 (upd (A 3) (N 0) k0)) 4) (N 0) f0)) 5 (upd ((va_up (va_up A 3 (upd (A 3) (N 0) k0)) 4 (upd ((va_up A 3 (upd (A 3) (N 0) k0)) 4) (N 0) f0)) 5) (N 0) l0)) 6) (N 0) t0)) 7 (upd ((va_up (va_up (va_up (va_up A 3 (upd (A 3) (N 0) k0)) 4 (upd ((va_up A 3 (upd (A 3) (N 0) k0)) 4) (N 0) f0)) 5 (upd ((va_up (va_up A 3 (upd (A 3) (N 0) k0)) 4 (upd ((va_up A 3 (upd (A 3) (N 0) k0)) 4) (N 0) f0)) 5) (N 0) l0)) 6 (upd ((va_up (va_up (va_up A 3 (upd (A 3) (N 0) k0)) 4 (upd ((va_up A 3 (upd (A 3) (N 0) k0)) 4) (N 0) f0)) 5 (upd ((va_up (va_up A 3 (upd (A 3) (N 0) k0)) 4 (upd ((va_up A 3 (upd (A 3) (N 0) k0)) 4) (N 0) f0)) 5) (N 0) l0)) 6) (N 0) t0)) 7) (N 0) w0))).1 0) + 1)) ((s_X2_add_L1 N V A k0 f0 l0 t0 w0 (N 0) 0 N V (va_up (va_up (va_up (va_up (va_up A 3 (upd (A 3) (N 0) k0)) 4 (upd ((va_up A 3 (upd (A 3) (N 0) k0)) 4) (N 0) f0)) 5 (upd ((va_up (va_up A 3 (upd (A 3) (N 0) k0)) 4 (upd ((va_up A 3 (upd (A 3) (N 0) k0)) 4) (N 0) f0)) 5) (N 0) l0)) 6 (upd ((va_up (va_up (va_up A 3 (upd (A 3) (N 0) k0)) 4 (upd ((va_up A 3 (upd (A 3) (N 0) k0)) 4) (N 0) f0)) 5 (upd ((va_up (va_up A 3 (upd (A 3) (N 0) k0)) 4 (upd ((va_up A 3 (upd (A 3) (N 0) k0)) 4) (N 0) f0)) 5) (N 0) l0)) 6) (N 0) t0)) 7 (upd ((va_up (va_up (va_up (va_up A 3 (upd (A 3) (N 0) k0)) 4 (upd ((va_up A 3 (upd (A 3) (N 0) k0)) 4) (N 0) f0)) 5 (upd ((va_up (va_up A 3 (upd (A 3) (N 0) k0)) 4 (upd ((va_up A 3 (upd (A 3) (N 0) k0)) 4) (N 0) f0)) 5) (N 0) l0)) 6 (upd ((va_up (va_up (va_up A 3 (upd (A 3) (N 0) k0)) 4 (upd ((va_up A 3 (upd (A 3) (N 0) k0)) 4) (N 0) f0)) 5 (upd ((va_up (va_up A 3 (upd (A 3) (N 0) k0)) 4 (upd ((va_up A 3 (upd (A 3) (N 0) k0)) 4) (N 0) f0)) 5) (N 0) l0)) 6) (N 0) t0)) 7) (N 0) w0))).2.1) ((s_X2_add_L1 N V A k0 f0 l0 t0 w0 (N 0) 0 N V (va_up (va_up (va_up (va_up (va_up A 3 (upd (A 3) (N 0) k0)) 4 (upd ((va_up A 3 (upd (A 3) (N 0) k0)) 4) (N 0) f0)) 5 (upd ((va_up (va_up A 3 (upd (A 3) (N 0) k0)) 4 (upd ((va_up A 3 (upd (A 3) (N 0) k0)) 4) (N 0) f0)) 5) (N 0) l0)) 6 (upd ((va_up (va_up (va_up A 3 (upd (A 3) (N 0) k0)) 4 (upd ((va_up A 3 (upd (A 3) (N 0) k0)) 4) (N 0) f0)) 5 (upd ((va_up (va_up A 3 (upd (A 3) (N 0) k0)) 4 (upd ((va_up A 3 (upd (A 3) (N 0) k0)) 4) (N 0) f0)) 5) (N 0) l0)) 6) (N 0) t0)) 7 (upd ((va_up (va_up (va_up (va_up A 3 (upd (A 3) (N 0) k0)) 4 (upd ((va_up A 3 (upd (A 3) (N 0) k0)) 4) (N 0) f0)) 5 (upd ((va_up (va_up A 3 (upd (A 3) (N 0) k0)) 4 (upd ((va_up A 3 (upd (A 3) (N 0) k0)) 4) (N 0) f0)) 5) (N 0) l0)) 6 (upd ((va_up (va_up (va_up A 3 (upd (A 3) (N 0) k0)) 4 (upd ((va_up A 3 (upd (A 3) (N 0) k0)) 4) (N 0) f0)) 5 (upd ((va_up (va_up A 3 (upd (A 3) (N 0) k0)) 4 (upd ((va_up A 3 (upd (A 3) (N 0) k0)) 4) (N 0) f0)) 5) (N 0) l0)) 6) (N 0) t0)) 7) (N 0) w0))).2.2)) H := hP
      have hD : va_D Ar (wC cI cS q (va_up ((s_X2_add_L1 N V A k0 f0 l0 t0 w0 (N 0) 0 N V (va_up (va_up (va_up (va_up (va_up A 3 (upd (A 3) (N 0) k0)) 4 (upd ((va_up A 3 (upd (A 3) (N 0) k0)) 4) (N 0) f0)) 5 (upd ((va_up (va_up A 3 (upd (A 3) (N 0) k0)) 4 (upd ((va_up A 3 (upd (A 3) (N 0) k0)) 4) (N 0) f0)) 5) (N 0) l0)) 6 (upd ((va_up (va_up (va_up A 3 (upd (A 3) (N 0) k0)) 4 (upd ((va_up A 3 (upd (A 3) (N 0) k0)) 4) (N 0) f0)) 5 (upd ((va_up (va_up A 3 (upd (A 3) (N 0) k0)) 4 (upd ((va_up A 3 (upd (A 3) (N 0) k0)) 4) (N 0) f0)) 5) (N 0) l0)) 6) (N 0) t0)) 7 (upd ((va_up (va_up (va_up (va_up A 3 (upd (A 3) (N 0) k0)) 4 (upd ((va_up A 3 (upd (A 3) (N 0) k0)) 4) (N 0) f0)) 5 (upd ((va_up (va_up A 3 (upd (A 3) (N 0) k0)) 4 (upd ((va_up A 3 (upd (A 3) (N 0) k0)) 4) (N 0) f0)) 5) (N 0) l0)) 6 (upd ((va_up (va_up (va_up A 3 (upd (A 3) (N 0) k0)) 4 (upd ((va_up A 3 (upd (A 3) (N 0) k0)) 4) (N 0) f0)) 5 (upd ((va_up (va_up A 3 (upd (A 3) (N 0) k0)) 4 (upd ((va_up A 3 (upd (A 3) (N 0) k0)) 4) (N 0) f0)) 5) (N 0) l0)) 6) (N 0) t0)) 7) (N 0) w0))).1) 0 (((s_X2_add_L1 N V A k0 f0 l0 t0 w0 (N 0) 0 N V (va_up (va_up (va_up (va_up (va_up A 3 (upd (A 3) (N 0) k0)) 4 (upd ((va_up A 3 (upd (A 3) (N 0) k0)) 4) (N 0) f0)) 5 (upd ((va_up (va_up A 3 (upd (A 3) (N 0) k0)) 4 (upd ((va_up A 3 (upd (A 3) (N 0) k0)) 4) (N 0) f0)) 5) (N 0) l0)) 6 (upd ((va_up (va_up (va_up A 3 (upd (A 3) (N 0) k0)) 4 (upd ((va_up A 3 (upd (A 3) (N 0) k0)) 4) (N 0) f0)) 5 (upd ((va_up (va_up A 3 (upd (A 3) (N 0) k0)) 4 (upd ((va_up A 3 (upd (A 3) (N 0) k0)) 4) (N 0) f0)) 5) (N 0) l0)) 6) (N 0) t0)) 7 (upd ((va_up (va_up (va_up (va_up A 3 (upd (A 3) (N 0) k0)) 4 (upd ((va_up A 3 (upd (A 3) (N 0) k0)) 4) (N 0) f0)) 5 (upd ((va_up (va_up A 3 (upd (A 3) (N 0) k0)) 4 (upd ((va_up A 3 (upd (A 3) (N 0) k0)) 4) (N 0) f0)) 5) (N 0) l0)) 6 (upd ((va_up (va_up (va_up A 3 (upd (A 3) (N 0) k0)) 4 (upd ((va_up A 3 (upd (A 3) (N 0) k0)) 4) (N 0) f0)) 5 (upd ((va_up (va_up A 3 (upd (A 3) (N 0) k0)) 4 (upd ((va_up A 3 (upd (A 3) (N 0) k0)) 4) (N 0) f0)) 5) (N 0) l0)) 6) (N 0) t0)) 7) (N 0) w0))).1 0) + 1)) ((s_X2_add_L1 N V A k0 f0 l0 t0 w0 (N 0) 0 N V (va_up (va_up (va_up (va_up (va_up A 3 (upd (A 3) (N 0) k0)) 4 (upd ((va_up A 3 (upd (A 3) (N 0) k0)) 4) (N 0) f0)) 5 (upd ((va_up (va_up A 3 (upd (A 3) (N 0) k0)) 4 (upd ((va_up A 3 (upd (A 3) (N 0) k0)) 4) (N 0) f0)) 5) (N 0) l0)) 6 (upd ((va_up (va_up (va_up A 3 (upd (A 3) (N 0) k0)) 4 (upd ((va_up A 3 (upd (A 3) (N 0) k0)) 4) (N 0) f0)) 5 (upd ((va_up (va_up A 3 (upd (A 3) (N 0) k0)) 4 (upd ((va_up A 3 (upd (A 3) (N 0) k0)) 4) (N 0) f0)) 5) (N 0) l0)) 6) (N 0) t0)) 7 (upd ((va_up (va_up (va_up (va_up A 3 (upd (A 3) (N 0) k0)) 4 (upd ((va_up A 3 (upd (A 3) (N 0) k0)) 4) (N 0) f0)) 5 (upd ((va_up (va_up A 3 (upd (A 3) (N 0) k0)) 4 (upd ((va_up A 3 (upd (A 3) (N 0) k0)) 4) (N 0) f0)) 5) (N 0) l0)) 6 (upd ((va_up (va_up (va_up A 3 (upd (A 3) (N 0) k0)) 4 (upd ((va_up A 3 (upd (A 3) (N 0) k0)) 4) (N 0) f0)) 5 (upd ((va_up (va_up A 3 (upd (A 3) (N 0) k0)) 4 (upd ((va_up A 3 (upd (A 3) (N 0) k0)) 4) (N 0) f0)) 5) (N 0) l0)) 6) (N 0) t0)) 7) (N 0) w0))).2.1) ((s_X2_add_L1 N V A k0 f0 l0 t0 w0 (N 0) 0 N V (va_up (va_up (va_up (va_up (va_up A 3 (upd (A 3) (N 0) k0)) 4 (upd ((va_up A 3 (upd (A 3) (N 0) k0)) 4) (N 0) f0)) 5 (upd ((va_up (va_up A 3 (upd (A 3) (N 0) k0)) 4 (upd ((va_up A 3 (upd (A 3) (N 0) k0)) 4) (N 0) f0)) 5) (N 0) l0)) 6 (upd ((va_up (va_up (va_up A 3 (upd (A 3) (N 0) k0)) 4 (upd ((va_up A 3 (upd (A 3) (N 0) k0)) 4) (N 0) f0)) 5 (upd ((va_up (va_up A 3 (upd (A 3) (N 0) k0)) 4 (upd ((va_up A 3 (upd (A 3) (N 0) k0)) 4) (N 0) f0)) 5) (N 0) l0)) 6) (N 0) t0)) 7 (upd ((va_up (va_up (va_up (va_up A 3 (upd (A 3) (N 0) k0)) 4 (upd ((va_up A 3 (upd (A 3) (N 0) k0)) 4) (N 0) f0)) 5 (upd ((va_up (va_up A 3 (upd (A 3) (N 0) k0)) 4 (upd ((va_up A 3 (upd (A 3) (N 0) k0)) 4) (N 0) f0)) 5) (N 0) l0)) 6 (upd ((va_up (va_up (va_up A 3 (upd (A 3) (N 0) k0)) 4 (upd ((va_up A 3 (upd (A 3) (N 0) k0)) 4) (N 0) f0)) 5 (upd ((va_up (va_up A 3 (upd (A 3) (N 0) k0)) 4 (upd ((va_up A 3 (upd (A 3) (N 0) k0)) 4) (N 0) f0)) 5) (N 0) l0)) 6) (N 0) t0)) 7) (N 0) w0))).2.2)) := hD
      refine lv_iload hx hb dX2_add_127 (lv_at hl 0 rfl) ?_
      have hEE : s_X2_add N V A k0 f0 l0 t0 w0 = (nI (N 0), (va_up ((s_X2_add_L1 N V A k0 f0 l0 t0 w0 (N 0) 0 N V (va_up (va_up (va_up (va_up (va_up A 3 (upd (A 3) (N 0) k0)) 4 (upd ((va_up A 3 (upd (A 3) (N 0) k0)) 4) (N 0) f0)) 5 (upd ((va_up (va_up A 3 (upd (A 3) (N 0) k0)) 4 (upd ((va_up A 3 (upd (A 3) (N 0) k0)) 4) (N 0) f0)) 5) (N 0) l0)) 6 (upd ((va_up (va_up (va_up A 3 (upd (A 3) (N 0) k0)) 4 (upd ((va_up A 3 (upd (A 3) (N 0) k0)) 4) (N 0) f0)) 5 (upd ((va_up (va_up A 3 (upd (A 3) (N 0) k0)) 4 (upd ((va_up A 3 (upd (A 3) (N 0) k0)) 4) (N 0) f0)) 5) (N 0) l0)) 6) (N 0) t0)) 7 (upd ((va_up (va_up (va_up (va_up A 3 (upd (A 3) (N 0) k0)) 4 (upd ((va_up A 3 (upd (A 3) (N 0) k0)) 4) (N 0) f0)) 5 (upd ((va_up (va_up A 3 (upd (A 3) (N 0) k0)) 4 (upd ((va_up A 3 (upd (A 3) (N 0) k0)) 4) (N 0) f0)) 5) (N 0) l0)) 6 (upd ((va_up (va_up (va_up A 3 (upd (A 3) (N 0) k0)) 4 (upd ((va_up A 3 (upd (A 3) (N 0) k0)) 4) (N 0) f0)) 5 (upd ((va_up (va_up A 3 (upd (A 3) (N 0) k0)) 4 (upd ((va_up A 3 (upd (A 3) (N 0) k0)) 4) (N 0) f0)) 5) (N 0) l0)) 6) (N 0) t0)) 7) (N 0) w0))).1) 0 (((s_X2_add_L1 N V A k0 f0 l0 t0 w0 (N 0) 0 N V (va_up (va_up (va_up (va_up (va_up A 3 (upd (A 3) (N 0) k0)) 4 (upd ((va_up A 3 (upd (A 3) (N 0) k0)) 4) (N 0) f0)) 5 (upd ((va_up (va_up A 3 (upd (A 3) (N 0) k0)) 4 (upd ((va_up A 3 (upd (A 3) (N 0) k0)) 4) (N 0) f0)) 5) (N 0) l0)) 6 (upd ((va_up (va_up (va_up A 3 (upd (A 3) (N 0) k0)) 4 (upd ((va_up A 3 (upd (A 3) (N 0) k0)) 4) (N 0) f0)) 5 (upd ((va_up (va_up A 3 (upd (A 3) (N 0) k0)) 4 (upd ((va_up A 3 (upd (A 3) (N 0) k0)) 4) (N 0) f0)) 5) (N 0) l0)) 6) (N 0) t0)) 7 (upd ((va_up (va_up (va_up (va_up A 3 (upd (A 3) (N 0) k0)) 4 (upd ((va_up A 3 (upd (A 3) (N 0) k0)) 4) (N 0) f0)) 5 (upd ((va_up (va_up A 3 (upd (A 3) (N 0) k0)) 4 (upd ((va_up A 3 (upd (A 3) (N 0) k0)) 4) (N 0) f0)) 5) (N 0) l0)) 6 (upd ((va_up (va_up (va_up A 3 (upd (A 3) (N 0) k0)) 4 (upd ((va_up A 3 (upd (A 3) (N 0) k0)) 4) (N 0) f0)) 5 (upd ((va_up (va_up A 3 (upd (A 3) (N 0) k0)) 4 (upd ((va_up A 3 (upd (A 3) (N 0) k0)) 4) (N 0) f0)) 5) (N 0) l0)) 6) (N 0) t0)) 7) (N 0) w0))).1 0) + 1)), (s_X2_add_L1 N V A k0 f0 l0 t0 w0 (N 0) 0 N V (va_up (va_up (va_up (va_up (va_up A 3 (upd (A 3) (N 0) k0)) 4 (upd ((va_up A 3 (upd (A 3) (N 0) k0)) 4) (N 0) f0)) 5 (upd ((va_up (va_up A 3 (upd (A 3) (N 0) k0)) 4 (upd ((va_up A 3 (upd (A 3) (N 0) k0)) 4) (N 0) f0)) 5) (N 0) l0)) 6 (upd ((va_up (va_up (va_up A 3 (upd (A 3) (N 0) k0)) 4 (upd ((va_up A 3 (upd (A 3) (N 0) k0)) 4) (N 0) f0)) 5 (upd ((va_up (va_up A 3 (upd (A 3) (N 0) k0)) 4 (upd ((va_up A 3 (upd (A 3) (N 0) k0)) 4) (N 0) f0)) 5) (N 0) l0)) 6) (N 0) t0)) 7 (upd ((va_up (va_up (va_up (va_up A 3 (upd (A 3) (N 0) k0)) 4 (upd ((va_up A 3 (upd (A 3) (N 0) k0)) 4) (N 0) f0)) 5 (upd ((va_up (va_up A 3 (upd (A 3) (N 0) k0)) 4 (upd ((va_up A 3 (upd (A 3) (N 0) k0)) 4) (N 0) f0)) 5) (N 0) l0)) 6 (upd ((va_up (va_up (va_up A 3 (upd (A 3) (N 0) k0)) 4 (upd ((va_up A 3 (upd (A 3) (N 0) k0)) 4) (N 0) f0)) 5 (upd ((va_up (va_up A 3 (upd (A 3) (N 0) k0)) 4 (upd ((va_up A 3 (upd (A 3) (N 0) k0)) 4) (N 0) f0)) 5) (N 0) l0)) 6) (N 0) t0)) 7) (N 0) w0))).2.1, (s_X2_add_L1 N V A k0 f0 l0 t0 w0 (N 0) 0 N V (va_up (va_up (va_up (va_up (va_up A 3 (upd (A 3) (N 0) k0)) 4 (upd ((va_up A 3 (upd (A 3) (N 0) k0)) 4) (N 0) f0)) 5 (upd ((va_up (va_up A 3 (upd (A 3) (N 0) k0)) 4 (upd ((va_up A 3 (upd (A 3) (N 0) k0)) 4) (N 0) f0)) 5) (N 0) l0)) 6 (upd ((va_up (va_up (va_up A 3 (upd (A 3) (N 0) k0)) 4 (upd ((va_up A 3 (upd (A 3) (N 0) k0)) 4) (N 0) f0)) 5 (upd ((va_up (va_up A 3 (upd (A 3) (N 0) k0)) 4 (upd ((va_up A 3 (upd (A 3) (N 0) k0)) 4) (N 0) f0)) 5) (N 0) l0)) 6) (N 0) t0)) 7 (upd ((va_up (va_up (va_up (va_up A 3 (upd (A 3) (N 0) k0)) 4 (upd ((va_up A 3 (upd (A 3) (N 0) k0)) 4) (N 0) f0)) 5 (upd ((va_up (va_up A 3 (upd (A 3) (N 0) k0)) 4 (upd ((va_up A 3 (upd (A 3) (N 0) k0)) 4) (N 0) f0)) 5) (N 0) l0)) 6 (upd ((va_up (va_up (va_up A 3 (upd (A 3) (N 0) k0)) 4 (upd ((va_up A 3 (upd (A 3) (N 0) k0)) 4) (N 0) f0)) 5 (upd ((va_up (va_up A 3 (upd (A 3) (N 0) k0)) 4 (upd ((va_up A 3 (upd (A 3) (N 0) k0)) 4) (N 0) f0)) 5) (N 0) l0)) 6) (N 0) t0)) 7) (N 0) w0))).2.2) := (by rw [s_X2_add, if_pos c_1])
      rw [hEE]
      exact W.iret (v := nI (N 0)) hx hb hr (fun t ht hW => ⟨⟨_, (), rfl, rfl, ⟨by rw [ht]; exact hP, va_K.moved hW.alike hK, hN.warm hW⟩, hD⟩, hS.F ht⟩) hS.2.2 dX2_add_129
    have LL1 : ∀ (n k : Nat) (N1 : Nat → Nat) (V1 : Nat → Int32) (A1 : Nat → Nat → Int32) (H : Heap) (locs : List Loc), va_P D vwCl (wC cI cS q N1 V1 A1) H → va_D Ar (wC cI cS q N1 V1 A1) → va_S Ar s.heap H locs → ∀ (ls : Array Slot), k + n = N 0 → N1 = N → s_X2_add_L1 N V A k0 f0 l0 t0 w0 (N 0) 0 N V (va_up (va_up (va_up (va_up (va_up A 3 (upd (A 3) (N 0) k0)) 4 (upd ((va_up A 3 (upd (A 3) (N 0) k0)) 4) (N 0) f0)) 5 (upd ((va_up (va_up A 3 (upd (A 3) (N 0) k0)) 4 (upd ((va_up A 3 (upd (A 3) (N 0) k0)) 4) (N 0) f0)) 5) (N 0) l0)) 6 (upd ((va_up (va_up (va_up A 3 (upd (A 3) (N 0) k0)) 4 (upd ((va_up A 3 (upd (A 3) (N 0) k0)) 4) (N 0) f0)) 5 (upd ((va_up (va_up A 3 (upd (A 3) (N 0) k0)) 4 (upd ((va_up A 3 (upd (A 3) (N 0) k0)) 4) (N 0) f0)) 5) (N 0) l0)) 6) (N 0) t0)) 7 (upd ((va_up (va_up (va_up (va_up A 3 (upd (A 3) (N 0) k0)) 4 (upd ((va_up A 3 (upd (A 3) (N 0) k0)) 4) (N 0) f0)) 5 (upd ((va_up (va_up A 3 (upd (A 3) (N 0) k0)) 4 (upd ((va_up A 3 (upd (A 3) (N 0) k0)) 4) (N 0) f0)) 5) (N 0) l0)) 6 (upd ((va_up (va_up (va_up A 3 (upd (A 3) (N 0) k0)) 4 (upd ((va_up A 3 (upd (A 3) (N 0) k0)) 4) (N 0) f0)) 5 (upd ((va_up (va_up A 3 (upd (A 3) (N 0) k0)) 4 (upd ((va_up A 3 (upd (A 3) (N 0) k0)) 4) (N 0) f0)) 5) (N 0) l0)) 6) (N 0) t0)) 7) (N 0) w0)) = s_X2_add_L1 N V A k0 f0 l0 t0 w0 n k N1 V1 A1 → lv_has ls 8 [(7, .int (nI k)), (6, .int (nI (N 0))), (0, .ref (q 2)), (1, .int k0), (2, .int f0), (3, .int l0), (4, .int t0), (5, .int w0)] → W p l e (headSpec wsX2_add ({ frames := 3, cells := 0, slots := 0, locals := 64 })).room s m ([.ref (q 2), .int k0, .int f0, .int l0, .int t0, .int w0] : List Value).toArray below meth c H locs 0 0 (MQ below (va_Qi (fun r (_ : Unit) => r = (s_X2_add N V A k0 f0 l0 t0 w0).1) (fun _ t => PC D cI cZ cS q (s_X2_add N V A k0 f0 l0 t0 w0).2.1 (s_X2_add N V A k0 f0 l0 t0 w0).2.2.1 (s_X2_add N V A k0 f0 l0 t0 w0).2.2.2 t ∧ va_D Ar (wC cI cS q (s_X2_add N V A k0 f0 l0 t0 w0).2.1 (s_X2_add N V A k0 f0 l0 t0 w0).2.2.1 (s_X2_add N V A k0 f0 l0 t0 w0).2.2.2)) Ar) ([.ref (q 2), .int k0, .int f0, .int l0, .int t0, .int w0] : List Value).toArray s 0 0 Ar) (F0 m 63 ls []) := by
      intro n
      induction n with
      | zero =>
        intro k N1 V1 A1 H locs hP hD hS ls hk hI hF hl
        refine lv_iload hx hb dX2_add_63 (lv_at hl 0 rfl) ?_
        refine lv_iload hx hb dX2_add_65 (lv_at hl 1 rfl) ?_
        refine lv_icmp_ge (tgt := 117) hx hb dX2_add_67 (by decide) (fun _ => ?_) (fun c_2 => absurd (nI_le (by omega) (by omega)) c_2)
        have hF : s_X2_add_L1 N V A k0 f0 l0 t0 w0 (N 0) 0 N V (va_up (va_up (va_up (va_up (va_up A 3 (upd (A 3) (N 0) k0)) 4 (upd ((va_up A 3 (upd (A 3) (N 0) k0)) 4) (N 0) f0)) 5 (upd ((va_up (va_up A 3 (upd (A 3) (N 0) k0)) 4 (upd ((va_up A 3 (upd (A 3) (N 0) k0)) 4) (N 0) f0)) 5) (N 0) l0)) 6 (upd ((va_up (va_up (va_up A 3 (upd (A 3) (N 0) k0)) 4 (upd ((va_up A 3 (upd (A 3) (N 0) k0)) 4) (N 0) f0)) 5 (upd ((va_up (va_up A 3 (upd (A 3) (N 0) k0)) 4 (upd ((va_up A 3 (upd (A 3) (N 0) k0)) 4) (N 0) f0)) 5) (N 0) l0)) 6) (N 0) t0)) 7 (upd ((va_up (va_up (va_up (va_up A 3 (upd (A 3) (N 0) k0)) 4 (upd ((va_up A 3 (upd (A 3) (N 0) k0)) 4) (N 0) f0)) 5 (upd ((va_up (va_up A 3 (upd (A 3) (N 0) k0)) 4 (upd ((va_up A 3 (upd (A 3) (N 0) k0)) 4) (N 0) f0)) 5) (N 0) l0)) 6 (upd ((va_up (va_up (va_up A 3 (upd (A 3) (N 0) k0)) 4 (upd ((va_up A 3 (upd (A 3) (N 0) k0)) 4) (N 0) f0)) 5 (upd ((va_up (va_up A 3 (upd (A 3) (N 0) k0)) 4 (upd ((va_up A 3 (upd (A 3) (N 0) k0)) 4) (N 0) f0)) 5) (N 0) l0)) 6) (N 0) t0)) 7) (N 0) w0)) = (N1, V1, A1) := hF.trans (by rw [s_X2_add_L1])
        have hF0 := congrArg (fun z => z.1) hF
        have hF1 := congrArg (fun z => z.2.1) hF
        have hF2 := congrArg (fun z => z.2.2) hF
        dsimp only at hF0 hF1 hF2
        exact KL1 _ _ (by (try rw [hF0]); (try rw [hF1]); (try rw [hF2]); exact hP) (by (try rw [hF0]); (try rw [hF1]); (try rw [hF2]); exact hD) hS _ (by (try rw [hF0]); (try rw [hF1]); (try rw [hF2]); exact hI) (by (try rw [hF0]); (try rw [hF1]); (try rw [hF2]); exact lv_sub hl [1, 2, 3, 4, 5, 6, 7] rfl)
      | succ n ih =>
        intro k N1 V1 A1 H locs hP hD hS ls hk hI hF hl
        refine lv_iload hx hb dX2_add_63 (lv_at hl 0 rfl) ?_
        refine lv_iload hx hb dX2_add_65 (lv_at hl 1 rfl) ?_
        refine lv_icmp_ge (tgt := 117) hx hb dX2_add_67 (by decide) (fun c_3 => absurd c_3 (nI_ge (by omega) (by omega))) (fun _ => ?_)
        refine lv_aload_n hx hb dX2_add_70 rfl (lv_at hl 2 rfl) ?_
        refine lv_iload hx hb dX2_add_71 (lv_at hl 0 rfl) ?_
        refine lv_iload hx hb dX2_add_73 (lv_at hl 1 rfl) ?_
        refine vp_callSi (W.runV (As := [.int (nI k), .int (nI (N 0))]) (rest := []) ⟨hx, hb, hml, hown, hts⟩ (c_X2_coverSomeLengthTogether l D cI cZ cS q N1 V1 A1 k (N 0) (by omega) (by omega)) (cwV 2 hts gX2_add_X2_coverSomeLengthTogether rfl rfl rfl (by decide +kernel) ⟨Nat.le_of_ble_eq_true rfl, Nat.le_of_ble_eq_true rfl⟩) (preC2 hK hN hP) rfl rfl hl.1 rfl (lv_room (Nat.le_of_ble_eq_true rfl)) dX2_add_75 ⟨Nat.zero_le _, Nat.zero_le _⟩) (fun r_4 er_4 => ?_)
        subst er_4
        refine lz_if_eq (tgt := 95) hx hb dX2_add_78 (by decide) (fun c_5 => ?_) (fun c_5 => ?_)
        · refine lv_aload_n hx hb dX2_add_95 rfl (lv_at hl 2 rfl) ?_
          refine lv_iload hx hb dX2_add_96 (lv_at hl 0 rfl) ?_
          refine lv_iload hx hb dX2_add_98 (lv_at hl 1 rfl) ?_
          refine callCv (va_runV (As := [.int (nI k), .int (nI (N 0))]) (rest := []) ⟨hx, hb, hml, hown, hts⟩ (c_X2_noteFootWithin l D cI cZ cS q N1 V1 A1 H.size k (N 0) (by omega) (by omega)) (cwV 2 hts gX2_add_X2_noteFootWithin rfl rfl rfl (by decide +kernel) ⟨Nat.le_of_ble_eq_true rfl, Nat.le_of_ble_eq_true rfl⟩) (preCm2 hK hN hP hD) rfl rfl hl.1 rfl (lv_room (Nat.le_of_ble_eq_true rfl)) dX2_add_100 ⟨Nat.zero_le _, Nat.zero_le _⟩) hD hS hA (fun H locs hP hD hS => ?_)
          refine lv_aload_n hx hb dX2_add_103 rfl (lv_at hl 2 rfl) ?_
          refine lv_iload hx hb dX2_add_104 (lv_at hl 1 rfl) ?_
          refine lv_iload hx hb dX2_add_106 (lv_at hl 0 rfl) ?_
          refine callCv (va_runV (As := [.int (nI (N 0)), .int (nI k)]) (rest := []) ⟨hx, hb, hml, hown, hts⟩ (c_X2_noteFootWithin l D cI cZ cS q ((s_X2_noteFootWithin N1 V1 A1 k (N 0)).1) ((s_X2_noteFootWithin N1 V1 A1 k (N 0)).2.1) ((s_X2_noteFootWithin N1 V1 A1 k (N 0)).2.2) H.size (N 0) k (by omega) (by omega)) (cwV 2 hts gX2_add_X2_noteFootWithin rfl rfl rfl (by decide +kernel) ⟨Nat.le_of_ble_eq_true rfl, Nat.le_of_ble_eq_true rfl⟩) (preCm2 hK hN hP hD) rfl rfl hl.1 rfl (lv_room (Nat.le_of_ble_eq_true rfl)) dX2_add_108 ⟨Nat.zero_le _, Nat.zero_le _⟩) hD hS hA (fun H locs hP hD hS => ?_)
          refine lv_iinc (v := nI (k + 1)) (lv' := [(7, .int (nI (k + 1))), (6, .int (nI (N 0))), (0, .ref (q 2)), (1, .int k0), (2, .int f0), (3, .int l0), (4, .int t0), (5, .int w0)]) hx hb dX2_add_111 hl (k := 0) rfl (nI_1 k) (by decide) rfl (fun ls hl => ?_)
          refine lv_goto (tgt := 63) hx hb dX2_add_114 (by decide) ?_
          exact ih (k + 1) ((s_X2_noteFootWithin ((s_X2_noteFootWithin N1 V1 A1 k (N 0)).1) ((s_X2_noteFootWithin N1 V1 A1 k (N 0)).2.1) ((s_X2_noteFootWithin N1 V1 A1 k (N 0)).2.2) (N 0) k).1) ((s_X2_noteFootWithin ((s_X2_noteFootWithin N1 V1 A1 k (N 0)).1) ((s_X2_noteFootWithin N1 V1 A1 k (N 0)).2.1) ((s_X2_noteFootWithin N1 V1 A1 k (N 0)).2.2) (N 0) k).2.1) ((s_X2_noteFootWithin ((s_X2_noteFootWithin N1 V1 A1 k (N 0)).1) ((s_X2_noteFootWithin N1 V1 A1 k (N 0)).2.1) ((s_X2_noteFootWithin N1 V1 A1 k (N 0)).2.2) (N 0) k).2.2) _ _ hP hD hS _ (by omega) (by rw [noteFoot_N, noteFoot_N]; exact hI) (hF.trans (by rw [s_X2_add_L1, if_neg (nb c_5)])) (lv_sub hl [0, 1, 2, 3, 4, 5, 6, 7] rfl)
        · refine lv_aload_n hx hb dX2_add_81 rfl (lv_at hl 2 rfl) ?_
          refine va_get (D := D) (ci := 2) (v := .ref (q 8)) (C := RX2) (T := TX2) (N := 9) hx hb hts hin2 hown hK hP 2 rfl rfl 5 (by decide) (hts (.fieldLink RX2 27 "NeckShip$Spars" "over" "[I") (by decide +kernel)) (fun _ h9 => h9) rfl dX2_add_82 ?_
          refine lv_iload hx hb dX2_add_85 (lv_at hl 0 rfl) ?_
          refine lv_dup2_11 hx hb dX2_add_87 rfl rfl ?_
          refine va_ialdN (i := k) hx hb hK hP 8 0 rfl rfl (by decide) (by omega) dX2_add_88 ?_
          refine lv_iconst (v := (1)) hx hb dX2_add_89 (by decide) ?_
          refine lv_iload hx hb dX2_add_90 (lv_at hl 1 rfl) ?_
          refine lv_ishl hx hb dX2_add_92 ?_
          rw [sh1 (k := N 0) (by omega)]
          refine lv_ior hx hb dX2_add_93 ?_
          refine va_iastN (i := k) hx hb hK hP hD hS 8 0 rfl rfl (by decide) (by omega) dX2_add_94 (fun H locs hP hD hS => ?_)
          have hP : va_P D vwCl (wC cI cS q N1 V1 (va_up A1 8 (upd (A1 8) k (A1 8 k ||| nI (2 ^ (N 0)))))) H := hP
          have hD : va_D Ar (wC cI cS q N1 V1 (va_up A1 8 (upd (A1 8) k (A1 8 k ||| nI (2 ^ (N 0)))))) := hD
          refine lv_aload_n hx hb dX2_add_95 rfl (lv_at hl 2 rfl) ?_
          refine lv_iload hx hb dX2_add_96 (lv_at hl 0 rfl) ?_
          refine lv_iload hx hb dX2_add_98 (lv_at hl 1 rfl) ?_
          refine callCv (va_runV (As := [.int (nI k), .int (nI (N 0))]) (rest := []) ⟨hx, hb, hml, hown, hts⟩ (c_X2_noteFootWithin l D cI cZ cS q N1 V1 (va_up A1 8 (upd (A1 8) k (A1 8 k ||| nI (2 ^ (N 0))))) H.size k (N 0) (by omega) (by omega)) (cwV 2 hts gX2_add_X2_noteFootWithin rfl rfl rfl (by decide +kernel) ⟨Nat.le_of_ble_eq_true rfl, Nat.le_of_ble_eq_true rfl⟩) (preCm2 hK hN hP hD) rfl rfl hl.1 rfl (lv_room (Nat.le_of_ble_eq_true rfl)) dX2_add_100 ⟨Nat.zero_le _, Nat.zero_le _⟩) hD hS hA (fun H locs hP hD hS => ?_)
          refine lv_aload_n hx hb dX2_add_103 rfl (lv_at hl 2 rfl) ?_
          refine lv_iload hx hb dX2_add_104 (lv_at hl 1 rfl) ?_
          refine lv_iload hx hb dX2_add_106 (lv_at hl 0 rfl) ?_
          refine callCv (va_runV (As := [.int (nI (N 0)), .int (nI k)]) (rest := []) ⟨hx, hb, hml, hown, hts⟩ (c_X2_noteFootWithin l D cI cZ cS q ((s_X2_noteFootWithin N1 V1 (va_up A1 8 (upd (A1 8) k (A1 8 k ||| nI (2 ^ (N 0))))) k (N 0)).1) ((s_X2_noteFootWithin N1 V1 (va_up A1 8 (upd (A1 8) k (A1 8 k ||| nI (2 ^ (N 0))))) k (N 0)).2.1) ((s_X2_noteFootWithin N1 V1 (va_up A1 8 (upd (A1 8) k (A1 8 k ||| nI (2 ^ (N 0))))) k (N 0)).2.2) H.size (N 0) k (by omega) (by omega)) (cwV 2 hts gX2_add_X2_noteFootWithin rfl rfl rfl (by decide +kernel) ⟨Nat.le_of_ble_eq_true rfl, Nat.le_of_ble_eq_true rfl⟩) (preCm2 hK hN hP hD) rfl rfl hl.1 rfl (lv_room (Nat.le_of_ble_eq_true rfl)) dX2_add_108 ⟨Nat.zero_le _, Nat.zero_le _⟩) hD hS hA (fun H locs hP hD hS => ?_)
          refine lv_iinc (v := nI (k + 1)) (lv' := [(7, .int (nI (k + 1))), (6, .int (nI (N 0))), (0, .ref (q 2)), (1, .int k0), (2, .int f0), (3, .int l0), (4, .int t0), (5, .int w0)]) hx hb dX2_add_111 hl (k := 0) rfl (nI_1 k) (by decide) rfl (fun ls hl => ?_)
          refine lv_goto (tgt := 63) hx hb dX2_add_114 (by decide) ?_
          exact ih (k + 1) ((s_X2_noteFootWithin ((s_X2_noteFootWithin N1 V1 (va_up A1 8 (upd (A1 8) k (A1 8 k ||| nI (2 ^ (N 0))))) k (N 0)).1) ((s_X2_noteFootWithin N1 V1 (va_up A1 8 (upd (A1 8) k (A1 8 k ||| nI (2 ^ (N 0))))) k (N 0)).2.1) ((s_X2_noteFootWithin N1 V1 (va_up A1 8 (upd (A1 8) k (A1 8 k ||| nI (2 ^ (N 0))))) k (N 0)).2.2) (N 0) k).1) ((s_X2_noteFootWithin ((s_X2_noteFootWithin N1 V1 (va_up A1 8 (upd (A1 8) k (A1 8 k ||| nI (2 ^ (N 0))))) k (N 0)).1) ((s_X2_noteFootWithin N1 V1 (va_up A1 8 (upd (A1 8) k (A1 8 k ||| nI (2 ^ (N 0))))) k (N 0)).2.1) ((s_X2_noteFootWithin N1 V1 (va_up A1 8 (upd (A1 8) k (A1 8 k ||| nI (2 ^ (N 0))))) k (N 0)).2.2) (N 0) k).2.1) ((s_X2_noteFootWithin ((s_X2_noteFootWithin N1 V1 (va_up A1 8 (upd (A1 8) k (A1 8 k ||| nI (2 ^ (N 0))))) k (N 0)).1) ((s_X2_noteFootWithin N1 V1 (va_up A1 8 (upd (A1 8) k (A1 8 k ||| nI (2 ^ (N 0))))) k (N 0)).2.1) ((s_X2_noteFootWithin N1 V1 (va_up A1 8 (upd (A1 8) k (A1 8 k ||| nI (2 ^ (N 0))))) k (N 0)).2.2) (N 0) k).2.2) _ _ hP hD hS _ (by omega) (by rw [noteFoot_N, noteFoot_N]; exact hI) (hF.trans (by rw [s_X2_add_L1, if_pos c_5])) (lv_sub hl [0, 1, 2, 3, 4, 5, 6, 7] rfl)
    exact LL1 (N 0) 0 N V (va_up (va_up (va_up (va_up (va_up A 3 (upd (A 3) (N 0) k0)) 4 (upd ((va_up A 3 (upd (A 3) (N 0) k0)) 4) (N 0) f0)) 5 (upd ((va_up (va_up A 3 (upd (A 3) (N 0) k0)) 4 (upd ((va_up A 3 (upd (A 3) (N 0) k0)) 4) (N 0) f0)) 5) (N 0) l0)) 6 (upd ((va_up (va_up (va_up A 3 (upd (A 3) (N 0) k0)) 4 (upd ((va_up A 3 (upd (A 3) (N 0) k0)) 4) (N 0) f0)) 5 (upd ((va_up (va_up A 3 (upd (A 3) (N 0) k0)) 4 (upd ((va_up A 3 (upd (A 3) (N 0) k0)) 4) (N 0) f0)) 5) (N 0) l0)) 6) (N 0) t0)) 7 (upd ((va_up (va_up (va_up (va_up A 3 (upd (A 3) (N 0) k0)) 4 (upd ((va_up A 3 (upd (A 3) (N 0) k0)) 4) (N 0) f0)) 5 (upd ((va_up (va_up A 3 (upd (A 3) (N 0) k0)) 4 (upd ((va_up A 3 (upd (A 3) (N 0) k0)) 4) (N 0) f0)) 5) (N 0) l0)) 6 (upd ((va_up (va_up (va_up A 3 (upd (A 3) (N 0) k0)) 4 (upd ((va_up A 3 (upd (A 3) (N 0) k0)) 4) (N 0) f0)) 5 (upd ((va_up (va_up A 3 (upd (A 3) (N 0) k0)) 4 (upd ((va_up A 3 (upd (A 3) (N 0) k0)) 4) (N 0) f0)) 5) (N 0) l0)) 6) (N 0) t0)) 7) (N 0) w0)) _ _ hP hD hS _ (by omega) rfl rfl (lv_sub hl [0, 1, 2, 3, 4, 5, 6, 7] rfl)
  · refine lv_bipush (v := (-4)) hx hb dX2_add_9 (by decide) ?_
    have hEE : s_X2_add N V A k0 f0 l0 t0 w0 = ((-4 : Int32), N, V, A) := (by rw [s_X2_add, if_neg c_1])
    rw [hEE]
    exact W.iret (v := (-4 : Int32)) hx hb hr (fun t ht hW => ⟨⟨_, (), rfl, rfl, ⟨by rw [ht]; exact hP, va_K.moved hW.alike hK, hN.warm hW⟩, hD⟩, hS.F ht⟩) hS.2.2 dX2_add_11
