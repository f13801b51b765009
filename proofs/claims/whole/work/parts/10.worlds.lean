/-- the cells of a NeckShipModel: N: 0 spars, 1 threads, 2 up; V: 0 fault, 1 trace; A k: the row at place k -/
abbrev wM (cI cZ : ClassId) (q : Nat → Nat) (N : Nat → Nat) (V : Nat → Int32) (A : Nat → Nat → Int32) : va_W :=
  [(q 0, .inr (5, [.int (V 0), .ref (q 1), .int (nI (N 0)), .ref (q 2), .ref (q 3), .ref (q 4), .ref (q 5), .ref (q 6), .int (nI (N 2)), .int (nI (N 1)), .ref (q 7), .ref (q 8), .ref (q 9), .ref (q 10), .ref (q 11), .ref (q 12), .ref (q 13), .ref (q 14), .ref (q 15), .ref (q 16), .ref (q 17), .int (V 1)])),
   (q 1, .inl (cI, 5, .inl (A 1))),
   (q 2, .inl (cI, 10, .inl (A 2))),
   (q 3, .inl (cI, 10, .inl (A 3))),
   (q 4, .inl (cI, 10, .inl (A 4))),
   (q 5, .inl (cI, 10, .inl (A 5))),
   (q 6, .inl (cI, 10, .inl (A 6))),
   (q 7, .inl (cI, 16, .inl (A 7))),
   (q 8, .inl (cI, 16, .inl (A 8))),
   (q 9, .inl (cI, 16, .inl (A 9))),
   (q 10, .inl (cZ, 16, .inl (A 10))),
   (q 11, .inl (cZ, 1024, .inl (A 11))),
   (q 12, .inl (cZ, 1024, .inl (A 12))),
   (q 13, .inl (cI, 16, .inl (A 13))),
   (q 14, .inl (cI, 4, .inl (A 14))),
   (q 15, .inl (cI, 4, .inl (A 15))),
   (q 16, .inl (cI, 200, .inl (A 16))),
   (q 17, .inl (cI, 50, .inl (A 17)))]
/-- the cells of a NeckShip: N: 0 spars, 1 threads, 2 up, 3 behind, 4 whole; V: 0 latestFault, 1 traced, 2 sets, 3 most, 4 some, 5 .. 8 lanes, 9 .. 12 sizes; A k: the row at place k -/
abbrev wC (cI cS : ClassId) (q : Nat → Nat) (N : Nat → Nat) (V : Nat → Int32) (A : Nat → Nat → Int32) : va_W :=
  [(q 0, .inr (4, [.ref (q 1), .ref (q 2), .ref (q 10), .ref (q 16), .ref (q 25), .int (V 1), .int (V 0)])),
   (q 1, .inl (cI, 5, .inl (A 1))),
   (q 2, .inr (2, [.ref (q 3), .ref (q 4), .ref (q 5), .ref (q 6), .ref (q 7), .ref (q 8), .ref (q 9), .int (nI (N 0)), .int (nI (N 2))])),
   (q 3, .inl (cI, 10, .inl (A 3))),
   (q 4, .inl (cI, 10, .inl (A 4))),
   (q 5, .inl (cI, 10, .inl (A 5))),
   (q 6, .inl (cI, 10, .inl (A 6))),
   (q 7, .inl (cI, 10, .inl (A 7))),
   (q 8, .inl (cI, 10, .inl (A 8))),
   (q 9, .inl (cI, 10, .inl (A 9))),
   (q 10, .inr (3, [.ref (q 11), .ref (q 12), .ref (q 13), .ref (q 14), .ref (q 15), .int (nI (N 3)), .int (nI (N 4)), .int (nI (N 1))])),
   (q 11, .inl (cI, 16, .inl (A 11))),
   (q 12, .inl (cI, 16, .inl (A 12))),
   (q 13, .inl (cI, 16, .inl (A 13))),
   (q 14, .inl (cI, 16, .inl (A 14))),
   (q 15, .inl (cI, 16, .inl (A 15))),
   (q 16, .inl (cS, 4, .inr (.inr (.inr (.inr (fun j => some (q (17 + 2 * j)))))))),
   (q 17, .inr (1, [.ref (q 18), .int (V 5), .int (V 9)])),
   (q 18, .inl (cI, 50, .inl (A 18))),
   (q 19, .inr (1, [.ref (q 20), .int (V 6), .int (V 10)])),
   (q 20, .inl (cI, 50, .inl (A 20))),
   (q 21, .inr (1, [.ref (q 22), .int (V 7), .int (V 11)])),
   (q 22, .inl (cI, 50, .inl (A 22))),
   (q 23, .inr (1, [.ref (q 24), .int (V 8), .int (V 12)])),
   (q 24, .inl (cI, 50, .inl (A 24))),
   (q 25, .inr (0, [.ref (q 26), .int (V 2), .int (V 3), .int (V 4)])),
   (q 26, .inl (cI, 32, .inl (A 26)))]
/-- the classes of rows -/
abbrev tysA (cI cZ cS : ClassId) : List (ClassId × FieldType) := [(cI, .int), (cZ, .boolean), (cS, .object "NeckShip$Sheet")]
/-- the nest's links -/
def nestC (U : State) : Prop := va_Nw (.methodLinkNest RX1 22 yX4_isWithin "NeckShip") U ∧ va_Nw (.methodLinkNest RX2 64 yX4_isIn "NeckShip") U ∧ va_Nw (.methodLinkNest RX3 52 yX4_isIn "NeckShip") U ∧ va_Nw (.methodLinkNest RX0 67 yX4_isIn "NeckShip") U
theorem nestC.warm {s U : State} (hW : s.WarmedH U.vm) (h : nestC s) : nestC U := ⟨va_Nw.warmM hW h.1, va_Nw.warmM hW h.2.1, va_Nw.warmM hW h.2.2.1, va_Nw.warmM hW h.2.2.2⟩
theorem nestC.same {u U : State} (hv : u.vm = U.vm) (h : nestC u) : nestC U := ⟨va_Nw.same rfl hv h.1, va_Nw.same rfl hv h.2.1, va_Nw.same rfl hv h.2.2.1, va_Nw.same rfl hv h.2.2.2⟩
def PM (D : va_G) (cI cZ cS : ClassId) (q : Nat → Nat) (N : Nat → Nat) (V : Nat → Int32) (A : Nat → Nat → Int32) (U : State) : Prop := va_P D vwCl (wM cI cZ q N V A) U.heap ∧ va_K D vwCl (tysA cI cZ cS) U
def PC (D : va_G) (cI cZ cS : ClassId) (q : Nat → Nat) (N : Nat → Nat) (V : Nat → Int32) (A : Nat → Nat → Int32) (U : State) : Prop := va_P D vwCl (wC cI cS q N V A) U.heap ∧ va_K D vwCl (tysA cI cZ cS) U ∧ nestC U
def b2i (b : Bool) : Int32 := if b then 1 else 0
theorem b2i_nar (b : Bool) : narrow .boolean (.int (b2i b)) = .int (b2i b) := by cases b <;> rfl
theorem b2i_z {b : Bool} : b2i b = 0 ↔ b = false := by cases b <;> decide
theorem b2i_nar' (b : Bool) : vp_nar .boolean (b2i b) = b2i b := by cases b <;> rfl
section RW1
variable {p : Program} {l : Launch} {e : Env} {R : Room} {s : State} {m : MethodId} {args : Array Value} {below : List Frame} {meth : Method} {c : Code} {H : Heap} {locs : List Loc} {cells slots : Nat} {Qq : State → Prop}
variable {cc : ByteArray} {pc : Nat} {ls : Array Slot} {rest : List Value} {D : va_G} {cl : List vw_C} {Ar : Nat → Prop} {a : Nat} {tys : List (ClassId × FieldType)} {ws : va_W} {H0 : Heap}
/-- a branch on a truth -/
theorem lz_if_eq (hx : p.tables.exec = Jvm.exec) (hb : c.code = cc) {b : Bool} {off : Int} {tgt : Nat} (hdg : decode cc pc = .ok (.ifCond .eq off, 3)) (ht : (pc : Int) + off = (tgt : Int))
    (kt : b = false → W p l e R s m args below meth c H locs cells slots Qq (F0 m tgt ls rest)) (kf : b = true → W p l e R s m args below meth c H locs cells slots Qq (F0 m (pc + 3) ls rest)) : W p l e R s m args below meth c H locs cells slots Qq (F0 m pc ls (.int (b2i b) :: rest)) :=
  lv_if_eq hx hb hdg ht (fun h => kt (b2i_z.mp h)) (fun h => kf (by cases b with
    | true => rfl
    | false => exact absurd rfl h))
theorem lz_if_ne (hx : p.tables.exec = Jvm.exec) (hb : c.code = cc) {b : Bool} {off : Int} {tgt : Nat} (hdg : decode cc pc = .ok (.ifCond .ne off, 3)) (ht : (pc : Int) + off = (tgt : Int))
    (kt : b = true → W p l e R s m args below meth c H locs cells slots Qq (F0 m tgt ls rest)) (kf : b = false → W p l e R s m args below meth c H locs cells slots Qq (F0 m (pc + 3) ls rest)) : W p l e R s m args below meth c H locs cells slots Qq (F0 m pc ls (.int (b2i b) :: rest)) :=
  lv_if_ne hx hb hdg ht (fun h => kt (by cases b with
    | true => rfl
    | false => exact absurd rfl h)) (fun h => kf (b2i_z.mp h))
/-- a load at a place that is known as a Nat -/
theorem va_ialdN (hx : p.tables.exec = Jvm.exec) (hb : c.code = cc) (hK : va_K D cl tys s) (hP : va_P D cl ws H) (q0 t0 : Nat) {cA : ClassId} {n : Nat} {f : Nat → Int32} (ha : ws[q0]? = some (a, .inl (cA, n, .inl f))) (ht : tys[t0]? = some (cA, .int)) {i : Nat} (hn : n < 2 ^ 31) (hin : i < n) (hdg : decode cc pc = .ok (.iaload, 1))
    (kk : W p l e R s m args below meth c H locs cells slots Qq (F0 m (pc + 1) ls (.int (f i) :: rest))) : W p l e R s m args below meth c H locs cells slots Qq (F0 m pc ls (.int (nI i) :: .ref a :: rest)) :=
  va_iald hx hb hK hP q0 t0 ha ht (vp_in_nI hin hn) hdg (by rw [nI_clamp (Nat.lt_trans hin hn)]; exact kk)
theorem va_zaldN (hx : p.tables.exec = Jvm.exec) (hb : c.code = cc) (hK : va_K D cl tys s) (hP : va_P D cl ws H) (q0 t0 : Nat) {cA : ClassId} {n : Nat} {f : Nat → Int32} (ha : ws[q0]? = some (a, .inl (cA, n, .inl f))) (ht : tys[t0]? = some (cA, .boolean)) {i : Nat} (hn : n < 2 ^ 31) (hin : i < n) (hdg : decode cc pc = .ok (.baload, 1))
    (kk : W p l e R s m args below meth c H locs cells slots Qq (F0 m (pc + 1) ls (.int (f i) :: rest))) : W p l e R s m args below meth c H locs cells slots Qq (F0 m pc ls (.int (nI i) :: .ref a :: rest)) :=
  va_zald hx hb hK hP q0 t0 ha ht (vp_in_nI hin hn) hdg (by rw [nI_clamp (Nat.lt_trans hin hn)]; exact kk)
theorem va_iastN (hx : p.tables.exec = Jvm.exec) (hb : c.code = cc) (hK : va_K D cl tys s) (hP : va_P D cl ws H) (hD : va_D Ar ws) (hS : va_S Ar H0 H locs) (q0 t0 : Nat) {cA : ClassId} {n : Nat} {f : Nat → Int32} (ha : ws[q0]? = some (a, .inl (cA, n, .inl f))) (ht : tys[t0]? = some (cA, .int)) {i : Nat} {x : Int32} (hn : n < 2 ^ 31) (hin : i < n) (hdg : decode cc pc = .ok (.iastore, 1))
    (kk : ∀ (H1 : Heap) (locs1 : List Loc), va_P D cl (ws.set q0 (a, .inl (cA, n, .inl (upd f i x)))) H1 → va_D Ar (ws.set q0 (a, .inl (cA, n, .inl (upd f i x)))) → va_S Ar H0 H1 locs1 → W p l e R s m args below meth c H1 locs1 cells slots Qq (F0 m (pc + 1) ls rest)) : W p l e R s m args below meth c H locs cells slots Qq (F0 m pc ls (.int x :: .int (nI i) :: .ref a :: rest)) :=
  va_iast hx hb hK hP hD hS q0 t0 ha ht (vp_in_nI hin hn) hdg (by rw [nI_clamp (Nat.lt_trans hin hn)]; exact kk)
theorem va_zastN (hx : p.tables.exec = Jvm.exec) (hb : c.code = cc) (hK : va_K D cl tys s) (hP : va_P D cl ws H) (hD : va_D Ar ws) (hS : va_S Ar H0 H locs) (q0 t0 : Nat) {cA : ClassId} {n : Nat} {f : Nat → Int32} (ha : ws[q0]? = some (a, .inl (cA, n, .inl f))) (ht : tys[t0]? = some (cA, .boolean)) {i : Nat} {x : Bool} (hn : n < 2 ^ 31) (hin : i < n) (hdg : decode cc pc = .ok (.bastore, 1))
    (kk : ∀ (H1 : Heap) (locs1 : List Loc), va_P D cl (ws.set q0 (a, .inl (cA, n, .inl (upd f i (b2i x))))) H1 → va_D Ar (ws.set q0 (a, .inl (cA, n, .inl (upd f i (b2i x))))) → va_S Ar H0 H1 locs1 → W p l e R s m args below meth c H1 locs1 cells slots Qq (F0 m (pc + 1) ls rest)) : W p l e R s m args below meth c H locs cells slots Qq (F0 m pc ls (.int (b2i x) :: .int (nI i) :: .ref a :: rest)) :=
  va_zast hx hb hK hP hD hS q0 t0 ha ht (vp_in_nI hin hn) hdg (by rw [nI_clamp (Nat.lt_trans hin hn), b2i_nar']; exact kk)
end RW1
section RW2
variable {s : State} {H : Heap} {D : va_G} {cI cZ cS : ClassId} {q : Nat → Nat} {N : Nat → Nat} {V : Nat → Int32} {A : Nat → Nat → Int32} {As : List Value}
theorem PM.blind {As : List Value} : FrameBlind (va_Pc As (PM D cI cZ cS q N V A)) := fun a U g mk h => ⟨h.1, h.2.1, va_K.moved (u := U) (U := U.calling g mk a) (Vm.Alike.refl U.vm) h.2.2⟩
theorem PC.blind {As : List Value} : FrameBlind (va_Pc As (PC D cI cZ cS q N V A)) := fun a U g mk h => ⟨h.1, h.2.1, va_K.moved (u := U) (U := U.calling g mk a) (Vm.Alike.refl U.vm) h.2.2.1, nestC.same (u := U) rfl h.2.2.2⟩
/-- a reading call on the model -/
theorem preM (hK : va_K D vwCl (tysA cI cZ cS) s) (hP : va_P D vwCl (wM cI cZ q N V A) H) : PreV s H RX5 (q 0) (va_Pc (.ref (q 0) :: As) (PM D cI cZ cS q N V A)) As :=
  ⟨PM.blind, va_recv hK hP (ci := 5) (q0 := 0) rfl rfl, fun U hU hW => ⟨rfl, by rw [hU]; exact hP, va_K.moved hW.alike hK⟩⟩
/-- a reading call on a part of the ship -/
theorem preC4 (hK : va_K D vwCl (tysA cI cZ cS) s) (hN : nestC s) (hP : va_P D vwCl (wC cI cS q N V A) H) : PreV s H RX4 (q 0) (va_Pc (.ref (q 0) :: As) (PC D cI cZ cS q N V A)) As :=
  ⟨PC.blind, va_recv hK hP (ci := 4) (q0 := 0) rfl rfl, fun U hU hW => ⟨rfl, by rw [hU]; exact hP, va_K.moved hW.alike hK, hN.warm hW⟩⟩
theorem preC2 (hK : va_K D vwCl (tysA cI cZ cS) s) (hN : nestC s) (hP : va_P D vwCl (wC cI cS q N V A) H) : PreV s H RX2 (q 2) (va_Pc (.ref (q 2) :: As) (PC D cI cZ cS q N V A)) As :=
  ⟨PC.blind, va_recv hK hP (ci := 2) (q0 := 2) rfl rfl, fun U hU hW => ⟨rfl, by rw [hU]; exact hP, va_K.moved hW.alike hK, hN.warm hW⟩⟩
theorem preC3 (hK : va_K D vwCl (tysA cI cZ cS) s) (hN : nestC s) (hP : va_P D vwCl (wC cI cS q N V A) H) : PreV s H RX3 (q 10) (va_Pc (.ref (q 10) :: As) (PC D cI cZ cS q N V A)) As :=
  ⟨PC.blind, va_recv hK hP (ci := 3) (q0 := 10) rfl rfl, fun U hU hW => ⟨rfl, by rw [hU]; exact hP, va_K.moved hW.alike hK, hN.warm hW⟩⟩
theorem preC0 (hK : va_K D vwCl (tysA cI cZ cS) s) (hN : nestC s) (hP : va_P D vwCl (wC cI cS q N V A) H) : PreV s H RX0 (q 25) (va_Pc (.ref (q 25) :: As) (PC D cI cZ cS q N V A)) As :=
  ⟨PC.blind, va_recv hK hP (ci := 0) (q0 := 25) rfl rfl, fun U hU hW => ⟨rfl, by rw [hU]; exact hP, va_K.moved hW.alike hK, hN.warm hW⟩⟩
/-- the sheet of a number -/
theorem wC_sheet {k : Nat} (hk : k < 4) : (wC cI cS q N V A)[17 + 2 * k]? = some (q (17 + 2 * k), .inr (1, [.ref (q (18 + 2 * k)), .int (V (5 + k)), .int (V (9 + k))])) := by
  rcases (show k = 0 ∨ k = 1 ∨ k = 2 ∨ k = 3 by omega) with rfl | rfl | rfl | rfl <;> rfl
theorem wC_cells {k : Nat} (hk : k < 4) : (wC cI cS q N V A)[18 + 2 * k]? = some (q (18 + 2 * k), .inl (cI, 50, .inl (A (18 + 2 * k)))) := by
  rcases (show k = 0 ∨ k = 1 ∨ k = 2 ∨ k = 3 by omega) with rfl | rfl | rfl | rfl <;> rfl
theorem preC1 {k : Nat} (hk : k < 4) (hK : va_K D vwCl (tysA cI cZ cS) s) (hN : nestC s) (hP : va_P D vwCl (wC cI cS q N V A) H) : PreV s H RX1 (q (17 + 2 * k)) (va_Pc (.ref (q (17 + 2 * k)) :: As) (PC D cI cZ cS q N V A)) As :=
  ⟨PC.blind, va_recv hK hP (ci := 1) (q0 := 17 + 2 * k) rfl (wC_sheet hk), fun U hU hW => ⟨rfl, by rw [hU]; exact hP, va_K.moved hW.alike hK, hN.warm hW⟩⟩
theorem preCS (hK : va_K D vwCl (tysA cI cZ cS) s) (hN : nestC s) (hP : va_P D vwCl (wC cI cS q N V A) H) : PreS s H (va_Pc As (PC D cI cZ cS q N V A)) As :=
  ⟨PC.blind, fun U hU hW => ⟨rfl, by rw [hU]; exact hP, va_K.moved hW.alike hK, hN.warm hW⟩⟩
end RW2
