def s_X4_isSheet (N : Nat → Nat) (V : Nat → Int32) (A : Nat → Nat → Int32)  (k0 : Int32) : Bool :=
  if k0 < 0 then
    false
  else
    if (4 : Int32) ≤ k0 then
      false
    else
      true
set_option maxHeartbeats 4000000 in
set_option maxRecDepth 100000 in
theorem c_X4_isSheet (l : Launch) (D : va_G) (cI cZ cS : ClassId) (q : Nat → Nat) (N : Nat → Nat) (V : Nat → Int32) (A : Nat → Nat → Int32) (k0 : Int32) : Met l yX4_isSheet wsX4_isSheet ({ frames := 0, cells := 0, slots := 0, locals := 0 }) (va_Pc [.ref (q 0), .int k0] (PC D cI cZ cS q N V A)) (vp_Si (fun r => r = b2i (s_X4_isSheet N V A k0))) 0 0 (fun _ => False) := by
  refine Met.ofW (cc := cX4_isSheet) (maxL := 2) (ret := (some .boolean)) (by decide) rfl ?_
  intro p e s m args below meth c s₁ B hml hv
  obtain ⟨rfl, hP, hK, hN⟩ := hv
  have hx := B.exec
  have hb := B.bytes
  have hr := B.returns
  have hts := atoms_spec (ws := wsX4_isSheet) B.pre
  have hown : s.vm.findClass RX4 = some m.cls := findClass_of_methodNamed B.named
  have hlocks := B.notSynchronized
  have hin4 : ∀ w ∈ u_ws RX4 TX4 7, w ∈ wsX4_isSheet := by decide +kernel
  have hl := lv_entry ([.ref (q 0), .int k0]) (n := 2) (Nat.le_of_ble_eq_true rfl)
  rw [lg_entry_eq]
  generalize (lg_sl ([.ref (q 0), .int k0]) ++ List.replicate (2 - (lg_sl ([.ref (q 0), .int k0])).length) Slot.unset).toArray = ls at hl ⊢
  have hl : lv_has ls 2 [(0, .ref (q 0)), (1, .int k0)] := hl
  refine lv_iload_n hx hb dX4_isSheet_0 rfl (lv_at hl 1 rfl) ?_
  refine lv_if_lt (tgt := 17) hx hb dX4_isSheet_1 (by decide) (fun c_1 => ?_) (fun c_1 => ?_)
  · refine lv_iconst (v := (0)) hx hb dX4_isSheet_17 (by decide) ?_
    exact W.zret (v := b2i false) hx hb hr (b2i_nar _) (fun t ht hW => ⟨_, rfl, (by rw [s_X4_isSheet, if_pos c_1]), ht⟩) (fun _ h => by cases h) dX4_isSheet_18
  · refine lv_iload_n hx hb dX4_isSheet_4 rfl (lv_at hl 1 rfl) ?_
    refine lv_aload_n hx hb dX4_isSheet_5 rfl (lv_at hl 0 rfl) ?_
    refine va_get (D := D) (ci := 4) (v := .ref (q 16)) (C := RX4) (T := TX4) (N := 7) hx hb hts hin4 hown hK hP 0 rfl rfl 3 (by decide) (hts (.fieldLink RX4 32 "NeckShip" "sheets" "[LNeckShip$Sheet;") (by decide +kernel)) (fun _ h9 => h9) rfl dX4_isSheet_6 ?_
    refine va_alen (v := 4) hx hb hK hP 16 2 rfl rfl rfl dX4_isSheet_9 ?_
    refine lv_icmp_ge (tgt := 17) hx hb dX4_isSheet_10 (by decide) (fun c_2 => ?_) (fun c_2 => ?_)
    · refine lv_iconst (v := (0)) hx hb dX4_isSheet_17 (by decide) ?_
      exact W.zret (v := b2i false) hx hb hr (b2i_nar _) (fun t ht hW => ⟨_, rfl, (by rw [s_X4_isSheet, if_neg c_1, if_pos c_2]), ht⟩) (fun _ h => by cases h) dX4_isSheet_18
    · refine lv_iconst (v := (1)) hx hb dX4_isSheet_13 (by decide) ?_
      refine lv_goto (tgt := 18) hx hb dX4_isSheet_14 (by decide) ?_
      exact W.zret (v := b2i true) hx hb hr (b2i_nar _) (fun t ht hW => ⟨_, rfl, (by rw [s_X4_isSheet, if_neg c_1, if_neg c_2]), ht⟩) (fun _ h => by cases h) dX4_isSheet_18
def fillN (f : Nat → Int32) (x : Int32) (k : Nat) : Nat → Int32 := fun j => if j < k then x else f j
theorem fillN_0 (f : Nat → Int32) (x : Int32) : fillN f x 0 = f := by funext j; simp [fillN]
theorem fillN_s (f : Nat → Int32) (x : Int32) (k : Nat) : upd (fillN f x k) k x = fillN f x (k + 1) := by
  funext j
  by_cases hj : j = k
  · subst hj; rw [pk_us]; simp [fillN]
  · rw [pk_un hj]
    unfold fillN
    by_cases h : j < k
    · rw [if_pos h, if_pos (by omega)]
    · rw [if_neg h, if_neg (by omega)]
section RW6
variable {p : Program} {l : Launch} {e : Env} {R : Room} {s : State} {m : MethodId} {args : Array Value} {below : List Frame} {meth : Method} {c : Code} {H : Heap} {locs : List Loc} {cells slots : Nat} {Qq : State → Prop}
variable {pc : Nat} {ls : Array Slot} {rest st0 : List Value} {a' : Array Value} {Ar : Nat → Prop} {D : va_G} {cI cZ cS : ClassId} {ws ws' : va_W} {a : Nat} {x : Int32}
theorem callFill (hr : va_Run p l e R s m args below meth c H locs cells slots 0 0 (F0 m pc ls st0) rest (va_Qv (fun (_ : Unit) => True) (fun _ t => va_P D vwCl ws' t.heap ∧ va_D (va_A ws H.size) ws') (va_A ws H.size) a') (va_A ws H.size)) (hD : va_D Ar ws) (hS : va_S Ar s.heap H locs) (hA : ∀ q : Nat, s.heap.size ≤ q → Ar q)
    (kk : ∀ (H1 : Heap) (locs1 : List Loc), va_P D vwCl ws' H1 → va_D Ar ws' → va_S Ar s.heap H1 locs1 → W p l e R s m args below meth c H1 locs1 cells slots Qq (F0 m (pc + 3) ls rest)) : W p l e R s m args below meth c H locs cells slots Qq (F0 m pc ls st0) :=
  va_callv hr hS (fun q _ h => free_of hD hS hA q h) (free_of hD hS hA) (fun u t H1 locs1 ht hvm hw hB hz hk hS1 => by
    have hP1 := hB.1
    rw [ht] at hP1
    exact kk H1 locs1 hP1 (hB.2.weaken (fun _ q _ h => free_of hD hS hA q.1 h)) hS1)
theorem preFill (hK : va_K D vwCl (tysA cI cZ cS) s) (hP : va_P D vwCl ws H) (hD : va_D Ar ws) : PreS s H (va_Pc [.ref a, .int x] (fun U => U.heap.size = H.size ∧ va_P D vwCl ws U.heap ∧ va_K D vwCl (tysA cI cZ cS) U ∧ va_D (fun _ => True) ws)) [.ref a, .int x] :=
  ⟨fun a U g mk h => ⟨h.1, h.2.1, h.2.2.1, va_K.moved (u := U) (U := U.calling g mk a) (Vm.Alike.refl U.vm) h.2.2.2.1, h.2.2.2.2⟩, fun U hU hW => ⟨rfl, by rw [hU], by rw [hU]; exact hP, va_K.moved hW.alike hK, hD.weaken (fun _ _ _ _ => trivial)⟩⟩
end RW6
set_option maxHeartbeats 4000000 in
set_option maxRecDepth 100000 in
theorem c_fill (l : Launch) (D : va_G) (cI cZ cS : ClassId) (ws : va_W) (p0 a n : Nat) (f : Nat → Int32) (x : Int32) (sz : Nat) (hp : ws[p0]? = some (a, .inl (cI, n, .inl f))) (hn : n < 2 ^ 31) : Met l yJ7_fill_53178 wsJ7_fill_53178 ({ frames := 0, cells := 0, slots := 0, locals := 0 }) (va_Pc [.ref a, .int x] (fun U => U.heap.size = sz ∧ va_P D vwCl ws U.heap ∧ va_K D vwCl (tysA cI cZ cS) U ∧ va_D (fun _ => True) ws)) (va_Qv (fun (_ : Unit) => True) (fun _ t => va_P D vwCl (ws.set p0 (a, .inl (cI, n, .inl (fillN f x n)))) t.heap ∧ va_D (va_A ws sz) (ws.set p0 (a, .inl (cI, n, .inl (fillN f x n))))) (va_A ws sz)) 0 0 (va_A ws sz) := by
  refine Met.ofW (cc := cJ7_fill_53178) (maxL := 4) (ret := none) (by decide) rfl ?_
  intro p e s m args below meth c s₁ B hml hv
  obtain ⟨rfl, hsz, hP, hK, hD0⟩ := hv
  have hx := B.exec
  have hb := B.bytes
  have hr := B.returns
  have hlocks := B.notSynchronized
  subst hsz
  have hD := hD0.self (sz := s.heap.size)
  generalize hAe : va_A ws s.heap.size = Ar at hD ⊢
  have hS : va_S Ar s.heap s.heap [] := va_S.rf
  have hlt : p0 < ws.length := (List.getElem?_eq_some_iff.mp hp).1
  have hl := lv_entry ([.ref a, .int x]) (n := 4) (Nat.le_of_ble_eq_true rfl)
  rw [lg_entry_eq]
  generalize (lg_sl ([.ref a, .int x]) ++ List.replicate (4 - (lg_sl ([.ref a, .int x])).length) Slot.unset).toArray = ls at hl ⊢
  have hl : lv_has ls 4 [(0, .ref a), (1, .int x)] := hl
  refine lv_iconst (v := (0)) hx hb dJ7_fill_53178_0 (by decide) ?_
  refine lv_istore_n (lv' := [(2, .int (0)), (0, .ref a), (1, .int x)]) hx hb dJ7_fill_53178_1 rfl hl (by decide) rfl (fun ls hl => ?_)
  refine lv_aload_n hx hb dJ7_fill_53178_2 rfl (lv_at hl 1 rfl) ?_
  refine va_alen (v := nI n) hx hb hK hP p0 0 hp rfl rfl dJ7_fill_53178_3 ?_
  refine lv_istore_n (lv' := [(3, .int (nI n)), (2, .int (0)), (0, .ref a), (1, .int x)]) hx hb dJ7_fill_53178_4 rfl hl (by decide) rfl (fun ls hl => ?_)
  have LL1 : ∀ (r k : Nat) (H : Heap) (locs : List Loc), va_P D vwCl (ws.set p0 (a, .inl (cI, n, .inl (fillN f x k)))) H → va_D Ar (ws.set p0 (a, .inl (cI, n, .inl (fillN f x k)))) → va_S Ar s.heap H locs → ∀ (ls : Array Slot), k + r = n → lv_has ls 4 [(2, .int (nI k)), (3, .int (nI n)), (0, .ref a), (1, .int x)] → W p l e (headSpec wsJ7_fill_53178 ({ frames := 0, cells := 0, slots := 0, locals := 0 })).room s m ([.ref a, .int x] : List Value).toArray below meth c H locs 0 0 (MQ below (va_Qv (fun (_ : Unit) => True) (fun _ t => va_P D vwCl (ws.set p0 (a, .inl (cI, n, .inl (fillN f x n)))) t.heap ∧ va_D Ar (ws.set p0 (a, .inl (cI, n, .inl (fillN f x n))))) Ar) ([.ref a, .int x] : List Value).toArray s 0 0 Ar) (F0 m 5 ls []) := by
    intro r
    induction r with
    | zero =>
      intro k H locs hP hD hS ls hk hl
      refine lv_iload_n hx hb dJ7_fill_53178_5 rfl (lv_at hl 0 rfl) ?_
      refine lv_iload_n hx hb dJ7_fill_53178_6 rfl (lv_at hl 1 rfl) ?_
      refine lv_icmp_ge (tgt := 20) hx hb dJ7_fill_53178_7 (by decide) (fun _ => ?_) (fun h => absurd (nI_le (by omega) (by omega)) h)
      have ek : k = n := by omega
      subst ek
      exact W.vret hx hb hr (fun t ht hW => ⟨⟨(), rfl, trivial, by rw [ht]; exact hP, hD⟩, hS.F ht⟩) hS.2.2 dJ7_fill_53178_20
    | succ r ih =>
      intro k H locs hP hD hS ls hk hl
      refine lv_iload_n hx hb dJ7_fill_53178_5 rfl (lv_at hl 0 rfl) ?_
      refine lv_iload_n hx hb dJ7_fill_53178_6 rfl (lv_at hl 1 rfl) ?_
      refine lv_icmp_ge (tgt := 20) hx hb dJ7_fill_53178_7 (by decide) (fun h => absurd h (nI_ge (by omega) (by omega))) (fun _ => ?_)
      refine lv_aload_n hx hb dJ7_fill_53178_10 rfl (lv_at hl 2 rfl) ?_
      refine lv_iload_n hx hb dJ7_fill_53178_11 rfl (lv_at hl 0 rfl) ?_
      refine lv_iload_n hx hb dJ7_fill_53178_12 rfl (lv_at hl 3 rfl) ?_
      refine va_iastN (i := k) hx hb hK hP hD hS p0 0 (List.getElem?_set_self hlt) rfl hn (by omega) dJ7_fill_53178_13 (fun H locs hP hD hS => ?_)
      rw [List.set_set, fillN_s] at hP hD
      refine lv_iinc (v := nI (k + 1)) (lv' := [(2, .int (nI (k + 1))), (3, .int (nI n)), (0, .ref a), (1, .int x)]) hx hb dJ7_fill_53178_14 hl (k := 0) rfl (nI_1 k) (by decide) rfl (fun ls hl => ?_)
      refine lv_goto (tgt := 5) hx hb dJ7_fill_53178_17 (by decide) ?_
      exact ih (k + 1) _ _ hP hD hS _ (by omega) hl
  have e0 : ws.set p0 (a, .inl (cI, n, .inl (fillN f x 0))) = ws := by
    rw [fillN_0]
    apply List.ext_getElem?
    intro i
    by_cases hi : p0 = i
    · subst hi; rw [List.getElem?_set_self hlt, hp]
    · rw [List.getElem?_set_ne hi]
  exact LL1 n 0 _ _ (by rw [e0]; exact hP) (by rw [e0]; exact hD) hS _ (by omega) (lv_sub hl [1, 0, 2, 3] rfl)
theorem isSheet_t {N : Nat → Nat} {V : Nat → Int32} {A : Nat → Nat → Int32} {x : Int32} (h : s_X4_isSheet N V A x = true) : x.toNatClampNeg < 4 ∧ nI x.toNatClampNeg = x := by
  unfold s_X4_isSheet at h
  split at h
  · cases h
  · rename_i h0
    split at h
    · cases h
    · rename_i h1
      exact has_tn (by omega) h0 h1
theorem has2_t {N : Nat → Nat} {V : Nat → Int32} {A : Nat → Nat → Int32} {x : Int32} (o : N 0 ≤ 10) (h : s_X2_has N V A x = true) : x.toNatClampNeg < N 0 ∧ nI x.toNatClampNeg = x := by
  unfold s_X2_has at h
  split at h
  · cases h
  · rename_i h0
    split at h
    · cases h
    · rename_i h1
      exact has_tn (by omega) h0 h1
theorem has3_t {N : Nat → Nat} {V : Nat → Int32} {A : Nat → Nat → Int32} {x : Int32} (o : N 1 ≤ 16) (h : s_X3_has N V A x = true) : x.toNatClampNeg < N 1 ∧ nI x.toNatClampNeg = x := by
  unfold s_X3_has at h
  split at h
  · cases h
  · rename_i h0
    split at h
    · cases h
    · rename_i h1
      exact has_tn (by omega) h0 h1
theorem pop16_le (n : Nat) : pop16 n ≤ 16 := fb_ct_le _ _
theorem sh5 {n : Nat} (h : n < 2 ^ 31) : nI n >>> ((5 : Int32) &&& 31) = nI (n / 32) := pk_shrN h _ 5 (by decide)
theorem lt16 {a : Nat} (h : nI a < 16) (ha : a < 1000) : a < 16 := (nI_ltI (by omega) (by omega)).mp (show nI a < nI 16 from h)
def s_J6_bitCount_0f7a4 (n0 : Nat) : Nat := pop16 n0
set_option maxHeartbeats 4000000 in
set_option maxRecDepth 100000 in
theorem c_J6_bitCount_0f7a4 (l : Launch) (n0 : Nat) (h_1 : n0 < 65536) : Met l yJ6_bitCount_0f7a4 wsJ6_bitCount_0f7a4 ({ frames := 0, cells := 0, slots := 0, locals := 0 }) (fun w _ => w = ([.int (nI n0)] : List Value).toArray) (vp_Si (fun r => r = nI (s_J6_bitCount_0f7a4 n0))) 0 0 (fun _ => False) := by
  refine Met.ofW (cc := cJ6_bitCount_0f7a4) (maxL := 1) (ret := (some .int)) (by decide) rfl ?_
  intro p e s m args below meth c s₁ B hml hv
  obtain rfl := hv
  have hx := B.exec
  have hb := B.bytes
  have hr := B.returns
  have hts := atoms_spec (ws := wsJ6_bitCount_0f7a4) B.pre
  have hown : s.vm.findClass RJ6 = some m.cls := findClass_of_methodNamed B.named
  have hlocks := B.notSynchronized
  have hl := lv_entry ([.int (nI n0)]) (n := 1) (Nat.le_of_ble_eq_true rfl)
  rw [lg_entry_eq]
  generalize (lg_sl ([.int (nI n0)]) ++ List.replicate (1 - (lg_sl ([.int (nI n0)])).length) Slot.unset).toArray = ls at hl ⊢
  have hl : lv_has ls 1 [(0, .int (nI n0))] := hl
  refine lv_iload_n hx hb dJ6_bitCount_0f7a4_0 rfl (lv_at hl 0 rfl) ?_
  refine lv_iload_n hx hb dJ6_bitCount_0f7a4_1 rfl (lv_at hl 0 rfl) ?_
  refine lv_iconst (v := (1)) hx hb dJ6_bitCount_0f7a4_2 (by decide) ?_
  refine lv_iushr (v := (((nI n0).toUInt32 >>> (((1 : Int32)).toUInt32 &&& Int32.toUInt32 31)).toInt32)) hx hb dJ6_bitCount_0f7a4_3 rfl ?_
  refine lv_ldcw (v := (1431655765)) hx hb hown (hts (.constant RJ6 265 (1431655765)) (by decide +kernel)) dJ6_bitCount_0f7a4_4 ?_
  refine lv_iand hx hb dJ6_bitCount_0f7a4_7 ?_
  refine lv_isub hx hb dJ6_bitCount_0f7a4_8 ?_
  refine lv_istore_n (lv' := [(0, .int (nI n0 - ((((nI n0).toUInt32 >>> (((1 : Int32)).toUInt32 &&& Int32.toUInt32 31)).toInt32) &&& (1431655765 : Int32))))]) hx hb dJ6_bitCount_0f7a4_9 rfl hl (by decide) rfl (fun ls hl => ?_)
  refine lv_iload_n hx hb dJ6_bitCount_0f7a4_10 rfl (lv_at hl 0 rfl) ?_
  refine lv_ldcw (v := (858993459)) hx hb hown (hts (.constant RJ6 266 (858993459)) (by decide +kernel)) dJ6_bitCount_0f7a4_11 ?_
  refine lv_iand hx hb dJ6_bitCount_0f7a4_14 ?_
  refine lv_iload_n hx hb dJ6_bitCount_0f7a4_15 rfl (lv_at hl 0 rfl) ?_
  refine lv_iconst (v := (2)) hx hb dJ6_bitCount_0f7a4_16 (by decide) ?_
  refine lv_iushr (v := ((((nI n0 - ((((nI n0).toUInt32 >>> (((1 : Int32)).toUInt32 &&& Int32.toUInt32 31)).toInt32) &&& (1431655765 : Int32)))).toUInt32 >>> (((2 : Int32)).toUInt32 &&& Int32.toUInt32 31)).toInt32)) hx hb dJ6_bitCount_0f7a4_17 rfl ?_
  refine lv_ldcw (v := (858993459)) hx hb hown (hts (.constant RJ6 266 (858993459)) (by decide +kernel)) dJ6_bitCount_0f7a4_18 ?_
  refine lv_iand hx hb dJ6_bitCount_0f7a4_21 ?_
  refine lv_iadd hx hb dJ6_bitCount_0f7a4_22 ?_
  refine lv_istore_n (lv' := [(0, .int (((nI n0 - ((((nI n0).toUInt32 >>> (((1 : Int32)).toUInt32 &&& Int32.toUInt32 31)).toInt32) &&& (1431655765 : Int32))) &&& (858993459 : Int32)) + (((((nI n0 - ((((nI n0).toUInt32 >>> (((1 : Int32)).toUInt32 &&& Int32.toUInt32 31)).toInt32) &&& (1431655765 : Int32)))).toUInt32 >>> (((2 : Int32)).toUInt32 &&& Int32.toUInt32 31)).toInt32) &&& (858993459 : Int32))))]) hx hb dJ6_bitCount_0f7a4_23 rfl hl (by decide) rfl (fun ls hl => ?_)
  refine lv_iload_n hx hb dJ6_bitCount_0f7a4_24 rfl (lv_at hl 0 rfl) ?_
  refine lv_iload_n hx hb dJ6_bitCount_0f7a4_25 rfl (lv_at hl 0 rfl) ?_
  refine lv_iconst (v := (4)) hx hb dJ6_bitCount_0f7a4_26 (by decide) ?_
  refine lv_iushr (v := ((((((nI n0 - ((((nI n0).toUInt32 >>> (((1 : Int32)).toUInt32 &&& Int32.toUInt32 31)).toInt32) &&& (1431655765 : Int32))) &&& (858993459 : Int32)) + (((((nI n0 - ((((nI n0).toUInt32 >>> (((1 : Int32)).toUInt32 &&& Int32.toUInt32 31)).toInt32) &&& (1431655765 : Int32)))).toUInt32 >>> (((2 : Int32)).toUInt32 &&& Int32.toUInt32 31)).toInt32) &&& (858993459 : Int32)))).toUInt32 >>> (((4 : Int32)).toUInt32 &&& Int32.toUInt32 31)).toInt32)) hx hb dJ6_bitCount_0f7a4_27 rfl ?_
  refine lv_iadd hx hb dJ6_bitCount_0f7a4_28 ?_
  refine lv_ldcw (v := (252645135)) hx hb hown (hts (.constant RJ6 267 (252645135)) (by decide +kernel)) dJ6_bitCount_0f7a4_29 ?_
  refine lv_iand hx hb dJ6_bitCount_0f7a4_32 ?_
  refine lv_istore_n (lv' := [(0, .int (((((nI n0 - ((((nI n0).toUInt32 >>> (((1 : Int32)).toUInt32 &&& Int32.toUInt32 31)).toInt32) &&& (1431655765 : Int32))) &&& (858993459 : Int32)) + (((((nI n0 - ((((nI n0).toUInt32 >>> (((1 : Int32)).toUInt32 &&& Int32.toUInt32 31)).toInt32) &&& (1431655765 : Int32)))).toUInt32 >>> (((2 : Int32)).toUInt32 &&& Int32.toUInt32 31)).toInt32) &&& (858993459 : Int32))) + ((((((nI n0 - ((((nI n0).toUInt32 >>> (((1 : Int32)).toUInt32 &&& Int32.toUInt32 31)).toInt32) &&& (1431655765 : Int32))) &&& (858993459 : Int32)) + (((((nI n0 - ((((nI n0).toUInt32 >>> (((1 : Int32)).toUInt32 &&& Int32.toUInt32 31)).toInt32) &&& (1431655765 : Int32)))).toUInt32 >>> (((2 : Int32)).toUInt32 &&& Int32.toUInt32 31)).toInt32) &&& (858993459 : Int32)))).toUInt32 >>> (((4 : Int32)).toUInt32 &&& Int32.toUInt32 31)).toInt32)) &&& (252645135 : Int32)))]) hx hb dJ6_bitCount_0f7a4_33 rfl hl (by decide) rfl (fun ls hl => ?_)
  refine lv_iload_n hx hb dJ6_bitCount_0f7a4_34 rfl (lv_at hl 0 rfl) ?_
  refine lv_iload_n hx hb dJ6_bitCount_0f7a4_35 rfl (lv_at hl 0 rfl) ?_
  refine lv_bipush (v := (8)) hx hb dJ6_bitCount_0f7a4_36 (by decide) ?_
  refine lv_iushr (v := ((((((((nI n0 - ((((nI n0).toUInt32 >>> (((1 : Int32)).toUInt32 &&& Int32.toUInt32 31)).toInt32) &&& (1431655765 : Int32))) &&& (858993459 : Int32)) + (((((nI n0 - ((((nI n0).toUInt32 >>> (((1 : Int32)).toUInt32 &&& Int32.toUInt32 31)).toInt32) &&& (1431655765 : Int32)))).toUInt32 >>> (((2 : Int32)).toUInt32 &&& Int32.toUInt32 31)).toInt32) &&& (858993459 : Int32))) + ((((((nI n0 - ((((nI n0).toUInt32 >>> (((1 : Int32)).toUInt32 &&& Int32.toUInt32 31)).toInt32) &&& (1431655765 : Int32))) &&& (858993459 : Int32)) + (((((nI n0 - ((((nI n0).toUInt32 >>> (((1 : Int32)).toUInt32 &&& Int32.toUInt32 31)).toInt32) &&& (1431655765 : Int32)))).toUInt32 >>> (((2 : Int32)).toUInt32 &&& Int32.toUInt32 31)).toInt32) &&& (858993459 : Int32)))).toUInt32 >>> (((4 : Int32)).toUInt32 &&& Int32.toUInt32 31)).toInt32)) &&& (252645135 : Int32))).toUInt32 >>> (((8 : Int32)).toUInt32 &&& Int32.toUInt32 31)).toInt32)) hx hb dJ6_bitCount_0f7a4_38 rfl ?_
  refine lv_iadd hx hb dJ6_bitCount_0f7a4_39 ?_
  refine lv_istore_n (lv' := [(0, .int ((((((nI n0 - ((((nI n0).toUInt32 >>> (((1 : Int32)).toUInt32 &&& Int32.toUInt32 31)).toInt32) &&& (1431655765 : Int32))) &&& (858993459 : Int32)) + (((((nI n0 - ((((nI n0).toUInt32 >>> (((1 : Int32)).toUInt32 &&& Int32.toUInt32 31)).toInt32) &&& (1431655765 : Int32)))).toUInt32 >>> (((2 : Int32)).toUInt32 &&& Int32.toUInt32 31)).toInt32) &&& (858993459 : Int32))) + ((((((nI n0 - ((((nI n0).toUInt32 >>> (((1 : Int32)).toUInt32 &&& Int32.toUInt32 31)).toInt32) &&& (1431655765 : Int32))) &&& (858993459 : Int32)) + (((((nI n0 - ((((nI n0).toUInt32 >>> (((1 : Int32)).toUInt32 &&& Int32.toUInt32 31)).toInt32) &&& (1431655765 : Int32)))).toUInt32 >>> (((2 : Int32)).toUInt32 &&& Int32.toUInt32 31)).toInt32) &&& (858993459 : Int32)))).toUInt32 >>> (((4 : Int32)).toUInt32 &&& Int32.toUInt32 31)).toInt32)) &&& (252645135 : Int32)) + ((((((((nI n0 - ((((nI n0).toUInt32 >>> (((1 : Int32)).toUInt32 &&& Int32.toUInt32 31)).toInt32) &&& (1431655765 : Int32))) &&& (858993459 : Int32)) + (((((nI n0 - ((((nI n0).toUInt32 >>> (((1 : Int32)).toUInt32 &&& Int32.toUInt32 31)).toInt32) &&& (1431655765 : Int32)))).toUInt32 >>> (((2 : Int32)).toUInt32 &&& Int32.toUInt32 31)).toInt32) &&& (858993459 : Int32))) + ((((((nI n0 - ((((nI n0).toUInt32 >>> (((1 : Int32)).toUInt32 &&& Int32.toUInt32 31)).toInt32) &&& (1431655765 : Int32))) &&& (858993459 : Int32)) + (((((nI n0 - ((((nI n0).toUInt32 >>> (((1 : Int32)).toUInt32 &&& Int32.toUInt32 31)).toInt32) &&& (1431655765 : Int32)))).toUInt32 >>> (((2 : Int32)).toUInt32 &&& Int32.toUInt32 31)).toInt32) &&& (858993459 : Int32)))).toUInt32 >>> (((4 : Int32)).toUInt32 &&& Int32.toUInt32 31)).toInt32)) &&& (252645135 : Int32))).toUInt32 >>> (((8 : Int32)).toUInt32 &&& Int32.toUInt32 31)).toInt32)))]) hx hb dJ6_bitCount_0f7a4_40 rfl hl (by decide) rfl (fun ls hl => ?_)
  refine lv_iload_n hx hb dJ6_bitCount_0f7a4_41 rfl (lv_at hl 0 rfl) ?_
  refine lv_iload_n hx hb dJ6_bitCount_0f7a4_42 rfl (lv_at hl 0 rfl) ?_
  refine lv_bipush (v := (16)) hx hb dJ6_bitCount_0f7a4_43 (by decide) ?_
  refine lv_iushr (v := (((((((((nI n0 - ((((nI n0).toUInt32 >>> (((1 : Int32)).toUInt32 &&& Int32.toUInt32 31)).toInt32) &&& (1431655765 : Int32))) &&& (858993459 : Int32)) + (((((nI n0 - ((((nI n0).toUInt32 >>> (((1 : Int32)).toUInt32 &&& Int32.toUInt32 31)).toInt32) &&& (1431655765 : Int32)))).toUInt32 >>> (((2 : Int32)).toUInt32 &&& Int32.toUInt32 31)).toInt32) &&& (858993459 : Int32))) + ((((((nI n0 - ((((nI n0).toUInt32 >>> (((1 : Int32)).toUInt32 &&& Int32.toUInt32 31)).toInt32) &&& (1431655765 : Int32))) &&& (858993459 : Int32)) + (((((nI n0 - ((((nI n0).toUInt32 >>> (((1 : Int32)).toUInt32 &&& Int32.toUInt32 31)).toInt32) &&& (1431655765 : Int32)))).toUInt32 >>> (((2 : Int32)).toUInt32 &&& Int32.toUInt32 31)).toInt32) &&& (858993459 : Int32)))).toUInt32 >>> (((4 : Int32)).toUInt32 &&& Int32.toUInt32 31)).toInt32)) &&& (252645135 : Int32)) + ((((((((nI n0 - ((((nI n0).toUInt32 >>> (((1 : Int32)).toUInt32 &&& Int32.toUInt32 31)).toInt32) &&& (1431655765 : Int32))) &&& (858993459 : Int32)) + (((((nI n0 - ((((nI n0).toUInt32 >>> (((1 : Int32)).toUInt32 &&& Int32.toUInt32 31)).toInt32) &&& (1431655765 : Int32)))).toUInt32 >>> (((2 : Int32)).toUInt32 &&& Int32.toUInt32 31)).toInt32) &&& (858993459 : Int32))) + ((((((nI n0 - ((((nI n0).toUInt32 >>> (((1 : Int32)).toUInt32 &&& Int32.toUInt32 31)).toInt32) &&& (1431655765 : Int32))) &&& (858993459 : Int32)) + (((((nI n0 - ((((nI n0).toUInt32 >>> (((1 : Int32)).toUInt32 &&& Int32.toUInt32 31)).toInt32) &&& (1431655765 : Int32)))).toUInt32 >>> (((2 : Int32)).toUInt32 &&& Int32.toUInt32 31)).toInt32) &&& (858993459 : Int32)))).toUInt32 >>> (((4 : Int32)).toUInt32 &&& Int32.toUInt32 31)).toInt32)) &&& (252645135 : Int32))).toUInt32 >>> (((8 : Int32)).toUInt32 &&& Int32.toUInt32 31)).toInt32))).toUInt32 >>> (((16 : Int32)).toUInt32 &&& Int32.toUInt32 31)).toInt32)) hx hb dJ6_bitCount_0f7a4_45 rfl ?_
  refine lv_iadd hx hb dJ6_bitCount_0f7a4_46 ?_
  refine lv_istore_n (lv' := [(0, .int (((((((nI n0 - ((((nI n0).toUInt32 >>> (((1 : Int32)).toUInt32 &&& Int32.toUInt32 31)).toInt32) &&& (1431655765 : Int32))) &&& (858993459 : Int32)) + (((((nI n0 - ((((nI n0).toUInt32 >>> (((1 : Int32)).toUInt32 &&& Int32.toUInt32 31)).toInt32) &&& (1431655765 : Int32)))).toUInt32 >>> (((2 : Int32)).toUInt32 &&& Int32.toUInt32 31)).toInt32) &&& (858993459 : Int32))) + ((((((nI n0 - ((((nI n0).toUInt32 >>> (((1 : Int32)).toUInt32 &&& Int32.toUInt32 31)).toInt32) &&& (1431655765 : Int32))) &&& (858993459 : Int32)) + (((((nI n0 - ((((nI n0).toUInt32 >>> (((1 : Int32)).toUInt32 &&& Int32.toUInt32 31)).toInt32) &&& (1431655765 : Int32)))).toUInt32 >>> (((2 : Int32)).toUInt32 &&& Int32.toUInt32 31)).toInt32) &&& (858993459 : Int32)))).toUInt32 >>> (((4 : Int32)).toUInt32 &&& Int32.toUInt32 31)).toInt32)) &&& (252645135 : Int32)) + ((((((((nI n0 - ((((nI n0).toUInt32 >>> (((1 : Int32)).toUInt32 &&& Int32.toUInt32 31)).toInt32) &&& (1431655765 : Int32))) &&& (858993459 : Int32)) + (((((nI n0 - ((((nI n0).toUInt32 >>> (((1 : Int32)).toUInt32 &&& Int32.toUInt32 31)).toInt32) &&& (1431655765 : Int32)))).toUInt32 >>> (((2 : Int32)).toUInt32 &&& Int32.toUInt32 31)).toInt32) &&& (858993459 : Int32))) + ((((((nI n0 - ((((nI n0).toUInt32 >>> (((1 : Int32)).toUInt32 &&& Int32.toUInt32 31)).toInt32) &&& (1431655765 : Int32))) &&& (858993459 : Int32)) + (((((nI n0 - ((((nI n0).toUInt32 >>> (((1 : Int32)).toUInt32 &&& Int32.toUInt32 31)).toInt32) &&& (1431655765 : Int32)))).toUInt32 >>> (((2 : Int32)).toUInt32 &&& Int32.toUInt32 31)).toInt32) &&& (858993459 : Int32)))).toUInt32 >>> (((4 : Int32)).toUInt32 &&& Int32.toUInt32 31)).toInt32)) &&& (252645135 : Int32))).toUInt32 >>> (((8 : Int32)).toUInt32 &&& Int32.toUInt32 31)).toInt32)) + (((((((((nI n0 - ((((nI n0).toUInt32 >>> (((1 : Int32)).toUInt32 &&& Int32.toUInt32 31)).toInt32) &&& (1431655765 : Int32))) &&& (858993459 : Int32)) + (((((nI n0 - ((((nI n0).toUInt32 >>> (((1 : Int32)).toUInt32 &&& Int32.toUInt32 31)).toInt32) &&& (1431655765 : Int32)))).toUInt32 >>> (((2 : Int32)).toUInt32 &&& Int32.toUInt32 31)).toInt32) &&& (858993459 : Int32))) + ((((((nI n0 - ((((nI n0).toUInt32 >>> (((1 : Int32)).toUInt32 &&& Int32.toUInt32 31)).toInt32) &&& (1431655765 : Int32))) &&& (858993459 : Int32)) + (((((nI n0 - ((((nI n0).toUInt32 >>> (((1 : Int32)).toUInt32 &&& Int32.toUInt32 31)).toInt32) &&& (1431655765 : Int32)))).toUInt32 >>> (((2 : Int32)).toUInt32 &&& Int32.toUInt32 31)).toInt32) &&& (858993459 : Int32)))).toUInt32 >>> (((4 : Int32)).toUInt32 &&& Int32.toUInt32 31)).toInt32)) &&& (252645135 : Int32)) + ((((((((nI n0 - ((((nI n0).toUInt32 >>> (((1 : Int32)).toUInt32 &&& Int32.toUInt32 31)).toInt32) &&& (1431655765 : Int32))) &&& (858993459 : Int32)) + (((((nI n0 - ((((nI n0).toUInt32 >>> (((1 : Int32)).toUInt32 &&& Int32.toUInt32 31)).toInt32) &&& (1431655765 : Int32)))).toUInt32 >>> (((2 : Int32)).toUInt32 &&& Int32.toUInt32 31)).toInt32) &&& (858993459 : Int32))) + ((((((nI n0 - ((((nI n0).toUInt32 >>> (((1 : Int32)).toUInt32 &&& Int32.toUInt32 31)).toInt32) &&& (1431655765 : Int32))) &&& (858993459 : Int32)) + (((((nI n0 - ((((nI n0).toUInt32 >>> (((1 : Int32)).toUInt32 &&& Int32.toUInt32 31)).toInt32) &&& (1431655765 : Int32)))).toUInt32 >>> (((2 : Int32)).toUInt32 &&& Int32.toUInt32 31)).toInt32) &&& (858993459 : Int32)))).toUInt32 >>> (((4 : Int32)).toUInt32 &&& Int32.toUInt32 31)).toInt32)) &&& (252645135 : Int32))).toUInt32 >>> (((8 : Int32)).toUInt32 &&& Int32.toUInt32 31)).toInt32))).toUInt32 >>> (((16 : Int32)).toUInt32 &&& Int32.toUInt32 31)).toInt32)))]) hx hb dJ6_bitCount_0f7a4_47 rfl hl (by decide) rfl (fun ls hl => ?_)
  refine lv_iload_n hx hb dJ6_bitCount_0f7a4_48 rfl (lv_at hl 0 rfl) ?_
  refine lv_bipush (v := (63)) hx hb dJ6_bitCount_0f7a4_49 (by decide) ?_
  refine lv_iand hx hb dJ6_bitCount_0f7a4_51 ?_
  rw [show ((((((((nI n0 - ((((nI n0).toUInt32 >>> (((1 : Int32)).toUInt32 &&& Int32.toUInt32 31)).toInt32) &&& (1431655765 : Int32))) &&& (858993459 : Int32)) + (((((nI n0 - ((((nI n0).toUInt32 >>> (((1 : Int32)).toUInt32 &&& Int32.toUInt32 31)).toInt32) &&& (1431655765 : Int32)))).toUInt32 >>> (((2 : Int32)).toUInt32 &&& Int32.toUInt32 31)).toInt32) &&& (858993459 : Int32))) + ((((((nI n0 - ((((nI n0).toUInt32 >>> (((1 : Int32)).toUInt32 &&& Int32.toUInt32 31)).toInt32) &&& (1431655765 : Int32))) &&& (858993459 : Int32)) + (((((nI n0 - ((((nI n0).toUInt32 >>> (((1 : Int32)).toUInt32 &&& Int32.toUInt32 31)).toInt32) &&& (1431655765 : Int32)))).toUInt32 >>> (((2 : Int32)).toUInt32 &&& Int32.toUInt32 31)).toInt32) &&& (858993459 : Int32)))).toUInt32 >>> (((4 : Int32)).toUInt32 &&& Int32.toUInt32 31)).toInt32)) &&& (252645135 : Int32)) + ((((((((nI n0 - ((((nI n0).toUInt32 >>> (((1 : Int32)).toUInt32 &&& Int32.toUInt32 31)).toInt32) &&& (1431655765 : Int32))) &&& (858993459 : Int32)) + (((((nI n0 - ((((nI n0).toUInt32 >>> (((1 : Int32)).toUInt32 &&& Int32.toUInt32 31)).toInt32) &&& (1431655765 : Int32)))).toUInt32 >>> (((2 : Int32)).toUInt32 &&& Int32.toUInt32 31)).toInt32) &&& (858993459 : Int32))) + ((((((nI n0 - ((((nI n0).toUInt32 >>> (((1 : Int32)).toUInt32 &&& Int32.toUInt32 31)).toInt32) &&& (1431655765 : Int32))) &&& (858993459 : Int32)) + (((((nI n0 - ((((nI n0).toUInt32 >>> (((1 : Int32)).toUInt32 &&& Int32.toUInt32 31)).toInt32) &&& (1431655765 : Int32)))).toUInt32 >>> (((2 : Int32)).toUInt32 &&& Int32.toUInt32 31)).toInt32) &&& (858993459 : Int32)))).toUInt32 >>> (((4 : Int32)).toUInt32 &&& Int32.toUInt32 31)).toInt32)) &&& (252645135 : Int32))).toUInt32 >>> (((8 : Int32)).toUInt32 &&& Int32.toUInt32 31)).toInt32)) + (((((((((nI n0 - ((((nI n0).toUInt32 >>> (((1 : Int32)).toUInt32 &&& Int32.toUInt32 31)).toInt32) &&& (1431655765 : Int32))) &&& (858993459 : Int32)) + (((((nI n0 - ((((nI n0).toUInt32 >>> (((1 : Int32)).toUInt32 &&& Int32.toUInt32 31)).toInt32) &&& (1431655765 : Int32)))).toUInt32 >>> (((2 : Int32)).toUInt32 &&& Int32.toUInt32 31)).toInt32) &&& (858993459 : Int32))) + ((((((nI n0 - ((((nI n0).toUInt32 >>> (((1 : Int32)).toUInt32 &&& Int32.toUInt32 31)).toInt32) &&& (1431655765 : Int32))) &&& (858993459 : Int32)) + (((((nI n0 - ((((nI n0).toUInt32 >>> (((1 : Int32)).toUInt32 &&& Int32.toUInt32 31)).toInt32) &&& (1431655765 : Int32)))).toUInt32 >>> (((2 : Int32)).toUInt32 &&& Int32.toUInt32 31)).toInt32) &&& (858993459 : Int32)))).toUInt32 >>> (((4 : Int32)).toUInt32 &&& Int32.toUInt32 31)).toInt32)) &&& (252645135 : Int32)) + ((((((((nI n0 - ((((nI n0).toUInt32 >>> (((1 : Int32)).toUInt32 &&& Int32.toUInt32 31)).toInt32) &&& (1431655765 : Int32))) &&& (858993459 : Int32)) + (((((nI n0 - ((((nI n0).toUInt32 >>> (((1 : Int32)).toUInt32 &&& Int32.toUInt32 31)).toInt32) &&& (1431655765 : Int32)))).toUInt32 >>> (((2 : Int32)).toUInt32 &&& Int32.toUInt32 31)).toInt32) &&& (858993459 : Int32))) + ((((((nI n0 - ((((nI n0).toUInt32 >>> (((1 : Int32)).toUInt32 &&& Int32.toUInt32 31)).toInt32) &&& (1431655765 : Int32))) &&& (858993459 : Int32)) + (((((nI n0 - ((((nI n0).toUInt32 >>> (((1 : Int32)).toUInt32 &&& Int32.toUInt32 31)).toInt32) &&& (1431655765 : Int32)))).toUInt32 >>> (((2 : Int32)).toUInt32 &&& Int32.toUInt32 31)).toInt32) &&& (858993459 : Int32)))).toUInt32 >>> (((4 : Int32)).toUInt32 &&& Int32.toUInt32 31)).toInt32)) &&& (252645135 : Int32))).toUInt32 >>> (((8 : Int32)).toUInt32 &&& Int32.toUInt32 31)).toInt32))).toUInt32 >>> (((16 : Int32)).toUInt32 &&& Int32.toUInt32 31)).toInt32)) &&& (63 : Int32)) = nI (pop16 n0) from bc_ok h_1 rfl rfl rfl rfl rfl]
  exact W.iret (v := nI (pop16 n0)) hx hb hr (fun t ht hW => ⟨_, rfl, (by rw [s_J6_bitCount_0f7a4]), ht⟩) (fun _ h => by cases h) dJ6_bitCount_0f7a4_52
def s_X1_isLane (N : Nat → Nat) (V : Nat → Int32) (A : Nat → Nat → Int32)  (l0 : Int32) : Bool :=
  (s_X4_isWithin l0 (0 : Int32) (2 : Int32))
set_option maxHeartbeats 4000000 in
set_option maxRecDepth 100000 in
theorem c_X1_isLane (l : Launch) (D : va_G) (cI cZ cS : ClassId) (q : Nat → Nat) (N : Nat → Nat) (V : Nat → Int32) (A : Nat → Nat → Int32) (l0 : Int32) : Met l yX1_isLane wsX1_isLane ({ frames := 1, cells := 0, slots := 0, locals := 22 }) (va_Pc [.int l0] (PC D cI cZ cS q N V A)) (vp_Si (fun r => r = b2i (s_X1_isLane N V A l0))) 0 0 (fun _ => False) := by
  refine Met.ofW (cc := cX1_isLane) (maxL := 1) (ret := (some .boolean)) (by decide) rfl ?_
  intro p e s m args below meth c s₁ B hml hv
  obtain ⟨rfl, hP, hK, hN⟩ := hv
  have hx := B.exec
  have hb := B.bytes
  have hr := B.returns
  have hts := atoms_spec (ws := wsX1_isLane) B.pre
  have hown : s.vm.findClass RX1 = some m.cls := findClass_of_methodNamed B.named
  have hlocks := B.notSynchronized
  have hl := lv_entry ([.int l0]) (n := 1) (Nat.le_of_ble_eq_true rfl)
  rw [lg_entry_eq]
  generalize (lg_sl ([.int l0]) ++ List.replicate (1 - (lg_sl ([.int l0])).length) Slot.unset).toArray = ls at hl ⊢
  have hl : lv_has ls 1 [(0, .int l0)] := hl
  refine lv_iload_n hx hb dX1_isLane_0 rfl (lv_at hl 0 rfl) ?_
  refine lv_iconst (v := (0)) hx hb dX1_isLane_1 (by decide) ?_
  refine lv_iconst (v := (2)) hx hb dX1_isLane_2 (by decide) ?_
  refine vp_callSi (va_Run.run (va_runSN (As := [.int l0, .int (0 : Int32), .int (2 : Int32)]) (rest := []) ⟨hx, hb, hml, hown, hts⟩ (c_X4_isWithin l l0 (0 : Int32) (2 : Int32)) ⟨va_cnB 3 hts ggX1_isLane_X4_isWithin rfl rfl rfl hN.1 (hts (.initialized RX4) (by decide +kernel)) (by decide +kernel) ⟨Nat.le_of_ble_eq_true rfl, Nat.le_of_ble_eq_true rfl⟩, (hts (.static yX4_isWithin) (by decide +kernel)), trivial⟩ preEq rfl rfl hl.1 rfl (lv_room (Nat.le_of_ble_eq_true rfl)) dX1_isLane_3 ⟨Nat.zero_le _, Nat.zero_le _⟩)) (fun r_1 er_1 => ?_)
  subst er_1
  exact W.zret (v := b2i (s_X4_isWithin l0 (0 : Int32) (2 : Int32))) hx hb hr (b2i_nar _) (fun t ht hW => ⟨_, rfl, (by rw [s_X1_isLane]), ht⟩) (fun _ h => by cases h) dX1_isLane_6
def s_X1_hasNothing (N : Nat → Nat) (V : Nat → Int32) (A : Nat → Nat → Int32) (kk : Nat) : Bool :=
  if V (5 + kk) = (-1 : Int32) then
    true
  else
    false
set_option maxHeartbeats 4000000 in
set_option maxRecDepth 100000 in
theorem c_X1_hasNothing (l : Launch) (D : va_G) (cI cZ cS : ClassId) (q : Nat → Nat) (N : Nat → Nat) (V : Nat → Int32) (A : Nat → Nat → Int32) (kk : Nat) (h_1 : kk < 4) : Met l yX1_hasNothing wsX1_hasNothing ({ frames := 0, cells := 0, slots := 0, locals := 0 }) (va_Pc [.ref (q (17 + 2 * kk))] (PC D cI cZ cS q N V A)) (vp_Si (fun r => r = b2i (s_X1_hasNothing N V A kk))) 0 0 (fun _ => False) := by
  refine Met.ofW (cc := cX1_hasNothing) (maxL := 1) (ret := (some .boolean)) (by decide) rfl ?_
  intro p e s m args below meth c s₁ B hml hv
  obtain ⟨rfl, hP, hK, hN⟩ := hv
  have hx := B.exec
  have hb := B.bytes
  have hr := B.returns
  have hts := atoms_spec (ws := wsX1_hasNothing) B.pre
  have hown : s.vm.findClass RX1 = some m.cls := findClass_of_methodNamed B.named
  have hlocks := B.notSynchronized
  have hin1 : ∀ w ∈ u_ws RX1 TX1 3, w ∈ wsX1_hasNothing := by decide +kernel
  have hl := lv_entry ([.ref (q (17 + 2 * kk))]) (n := 1) (Nat.le_of_ble_eq_true rfl)
  rw [lg_entry_eq]
  generalize (lg_sl ([.ref (q (17 + 2 * kk))]) ++ List.replicate (1 - (lg_sl ([.ref (q (17 + 2 * kk))])).length) Slot.unset).toArray = ls at hl ⊢
  have hl : lv_has ls 1 [(0, .ref (q (17 + 2 * kk)))] := hl
  refine lv_aload_n hx hb dX1_hasNothing_0 rfl (lv_at hl 0 rfl) ?_
  refine va_get (D := D) (ci := 1) (v := .int (V (5 + kk))) (C := RX1) (T := TX1) (N := 3) hx hb hts hin1 hown hK hP (17 + 2 * kk) (wC_sheet h_1) rfl 1 (by decide) (hts (.fieldLink RX1 15 "NeckShip$Sheet" "lane" "I") (by decide +kernel)) (fun _ h9 => h9) rfl dX1_hasNothing_1 ?_
  refine lv_iconst (v := (-1)) hx hb dX1_hasNothing_4 (by decide) ?_
  refine lv_icmp_ne (tgt := 12) hx hb dX1_hasNothing_5 (by decide) (fun c_1 => ?_) (fun c_1 => ?_)
  · refine lv_iconst (v := (0)) hx hb dX1_hasNothing_12 (by decide) ?_
    exact W.zret (v := b2i false) hx hb hr (b2i_nar _) (fun t ht hW => ⟨_, rfl, (by rw [s_X1_hasNothing, if_neg c_1]), ht⟩) (fun _ h => by cases h) dX1_hasNothing_13
  · refine lv_iconst (v := (1)) hx hb dX1_hasNothing_8 (by decide) ?_
    refine lv_goto (tgt := 13) hx hb dX1_hasNothing_9 (by decide) ?_
    exact W.zret (v := b2i true) hx hb hr (b2i_nar _) (fun t ht hW => ⟨_, rfl, (by rw [s_X1_hasNothing, if_pos c_1]), ht⟩) (fun _ h => by cases h) dX1_hasNothing_13
def s_X1_empty (N : Nat → Nat) (V : Nat → Int32) (A : Nat → Nat → Int32) (kk : Nat) : St :=
  (N, (va_up (va_up V (5 + kk) (-1 : Int32)) (9 + kk) (0 : Int32)), A)
set_option maxHeartbeats 4000000 in
set_option maxRecDepth 100000 in
theorem c_X1_empty (l : Launch) (D : va_G) (cI cZ cS : ClassId) (q : Nat → Nat) (N : Nat → Nat) (V : Nat → Int32) (A : Nat → Nat → Int32) (sz : Nat) (kk : Nat) (h_1 : kk < 4) : Met l yX1_empty wsX1_empty ({ frames := 0, cells := 0, slots := 0, locals := 0 }) (va_Pc [.ref (q (17 + 2 * kk))] (fun U => U.heap.size = sz ∧ PC D cI cZ cS q N V A U ∧ va_D (fun _ => True) (wC cI cS q N V A))) (va_Qv (fun (_ : Unit) => True) (fun _ t => PC D cI cZ cS q (s_X1_empty N V A kk).1 (s_X1_empty N V A kk).2.1 (s_X1_empty N V A kk).2.2 t ∧ va_D (va_A (wC cI cS q N V A) sz) (wC cI cS q (s_X1_empty N V A kk).1 (s_X1_empty N V A kk).2.1 (s_X1_empty N V A kk).2.2)) (va_A (wC cI cS q N V A) sz)) 0 0 (va_A (wC cI cS q N V A) sz) := by
  refine Met.ofW (cc := cX1_empty) (maxL := 1) (ret := none) (by decide) rfl ?_
  intro p e s m args below meth c s₁ B hml hv
  obtain ⟨rfl, hsz, ⟨hP, hK, hN⟩, hD0⟩ := hv
  have hx := B.exec
  have hb := B.bytes
  have hr := B.returns
  have hts := atoms_spec (ws := wsX1_empty) B.pre
  have hown : s.vm.findClass RX1 = some m.cls := findClass_of_methodNamed B.named
  have hlocks := B.notSynchronized
  have hin1 : ∀ w ∈ u_ws RX1 TX1 3, w ∈ wsX1_empty := by decide +kernel
  subst hsz
  have hD := hD0.self (sz := s.heap.size)
  generalize hAe : va_A (wC cI cS q N V A) s.heap.size = Ar at hD ⊢
  have hA : ∀ q : Nat, s.heap.size ≤ q → Ar q := fun q h => by rw [← hAe]; exact Or.inr h
  have hS : va_S Ar s.heap s.heap [] := va_S.rf
  have hl := lv_entry ([.ref (q (17 + 2 * kk))]) (n := 1) (Nat.le_of_ble_eq_true rfl)
  rw [lg_entry_eq]
  generalize (lg_sl ([.ref (q (17 + 2 * kk))]) ++ List.replicate (1 - (lg_sl ([.ref (q (17 + 2 * kk))])).length) Slot.unset).toArray = ls at hl ⊢
  have hl : lv_has ls 1 [(0, .ref (q (17 + 2 * kk)))] := hl
  refine lv_aload_n hx hb dX1_empty_0 rfl (lv_at hl 0 rfl) ?_
  refine lv_iconst (v := (-1)) hx hb dX1_empty_1 (by decide) ?_
  refine va_put (D := D) (ci := 1) (v := .int (-1)) (ty := .int) (C := RX1) (T := TX1) (N := 3) hx hb hts hin1 tyX1 tyX1_ok nmX1 hown hK hP hD hS (17 + 2 * kk) (wC_sheet h_1) rfl 1 (by decide) (hts (.fieldLink RX1 15 "NeckShip$Sheet" "lane" "I") (by decide +kernel)) (fun _ h9 => h9) rfl (by decide +kernel) rfl rfl (Nat.le_of_ble_eq_true rfl) dX1_empty_2 (fun H locs hP hD hS => ?_)
  rw [wC_put_lane h_1] at hP hD
  have hP : va_P D vwCl (wC cI cS q N (va_up V (5 + kk) (-1 : Int32)) A) H := hP
  have hD : va_D Ar (wC cI cS q N (va_up V (5 + kk) (-1 : Int32)) A) := hD
  refine lv_aload_n hx hb dX1_empty_5 rfl (lv_at hl 0 rfl) ?_
  refine lv_iconst (v := (0)) hx hb dX1_empty_6 (by decide) ?_
  refine va_put (D := D) (ci := 1) (v := .int (0)) (ty := .int) (C := RX1) (T := TX1) (N := 3) hx hb hts hin1 tyX1 tyX1_ok nmX1 hown hK hP hD hS (17 + 2 * kk) (wC_sheet h_1) rfl 2 (by decide) (hts (.fieldLink RX1 19 "NeckShip$Sheet" "size" "I") (by decide +kernel)) (fun _ h9 => h9) rfl (by decide +kernel) rfl rfl (Nat.le_of_ble_eq_true rfl) dX1_empty_7 (fun H locs hP hD hS => ?_)
  rw [wC_put_size h_1] at hP hD
  have hP : va_P D vwCl (wC cI cS q N (va_up (va_up V (5 + kk) (-1 : Int32)) (9 + kk) (0 : Int32)) A) H := hP
  have hD : va_D Ar (wC cI cS q N (va_up (va_up V (5 + kk) (-1 : Int32)) (9 + kk) (0 : Int32)) A) := hD
  have hEE : s_X1_empty N V A kk = (N, (va_up (va_up V (5 + kk) (-1 : Int32)) (9 + kk) (0 : Int32)), A) := (by rw [s_X1_empty])
  rw [hEE]
  exact W.vret hx hb hr (fun t ht hW => ⟨⟨(), rfl, trivial, ⟨by rw [ht]; exact hP, va_K.moved hW.alike hK, hN.warm hW⟩, hD⟩, hS.F ht⟩) hS.2.2 dX1_empty_10
def s_X1_renew (N : Nat → Nat) (V : Nat → Int32) (A : Nat → Nat → Int32) (kk : Nat) (l0 : Int32) (n0 : Int32) : St :=
  (N, (va_up (va_up V (5 + kk) l0) (9 + kk) n0), (va_up A (18 + 2 * kk) (fillN (A (18 + 2 * kk)) (0 : Int32) 50)))
set_option maxHeartbeats 4000000 in
set_option maxRecDepth 100000 in
theorem c_X1_renew (l : Launch) (D : va_G) (cI cZ cS : ClassId) (q : Nat → Nat) (N : Nat → Nat) (V : Nat → Int32) (A : Nat → Nat → Int32) (sz : Nat) (kk : Nat) (l0 : Int32) (n0 : Int32) (h_1 : kk < 4) : Met l yX1_renew wsX1_renew ({ frames := 1, cells := 0, slots := 0, locals := 23 }) (va_Pc [.ref (q (17 + 2 * kk)), .int l0, .int n0] (fun U => U.heap.size = sz ∧ PC D cI cZ cS q N V A U ∧ va_D (fun _ => True) (wC cI cS q N V A))) (va_Qv (fun (_ : Unit) => True) (fun _ t => PC D cI cZ cS q (s_X1_renew N V A kk l0 n0).1 (s_X1_renew N V A kk l0 n0).2.1 (s_X1_renew N V A kk l0 n0).2.2 t ∧ va_D (va_A (wC cI cS q N V A) sz) (wC cI cS q (s_X1_renew N V A kk l0 n0).1 (s_X1_renew N V A kk l0 n0).2.1 (s_X1_renew N V A kk l0 n0).2.2)) (va_A (wC cI cS q N V A) sz)) 0 0 (va_A (wC cI cS q N V A) sz) := by
  refine Met.ofW (cc := cX1_renew) (maxL := 3) (ret := none) (by decide) rfl ?_
  intro p e s m args below meth c s₁ B hml hv
  obtain ⟨rfl, hsz, ⟨hP, hK, hN⟩, hD0⟩ := hv
  have hx := B.exec
  have hb := B.bytes
  have hr := B.returns
  have hts := atoms_spec (ws := wsX1_renew) B.pre
  have hown : s.vm.findClass RX1 = some m.cls := findClass_of_methodNamed B.named
  have hlocks := B.notSynchronized
  have hin1 : ∀ w ∈ u_ws RX1 TX1 3, w ∈ wsX1_renew := by decide +kernel
  subst hsz
  have hD := hD0.self (sz := s.heap.size)
  generalize hAe : va_A (wC cI cS q N V A) s.heap.size = Ar at hD ⊢
  have hA : ∀ q : Nat, s.heap.size ≤ q → Ar q := fun q h => by rw [← hAe]; exact Or.inr h
  have hS : va_S Ar s.heap s.heap [] := va_S.rf
  have hl := lv_entry ([.ref (q (17 + 2 * kk)), .int l0, .int n0]) (n := 3) (Nat.le_of_ble_eq_true rfl)
  rw [lg_entry_eq]
  generalize (lg_sl ([.ref (q (17 + 2 * kk)), .int l0, .int n0]) ++ List.replicate (3 - (lg_sl ([.ref (q (17 + 2 * kk)), .int l0, .int n0])).length) Slot.unset).toArray = ls at hl ⊢
  have hl : lv_has ls 3 [(0, .ref (q (17 + 2 * kk))), (1, .int l0), (2, .int n0)] := hl
  refine lv_aload_n hx hb dX1_renew_0 rfl (lv_at hl 0 rfl) ?_
  refine lv_iload_n hx hb dX1_renew_1 rfl (lv_at hl 1 rfl) ?_
  refine va_put (D := D) (ci := 1) (v := .int l0) (ty := .int) (C := RX1) (T := TX1) (N := 3) hx hb hts hin1 tyX1 tyX1_ok nmX1 hown hK hP hD hS (17 + 2 * kk) (wC_sheet h_1) rfl 1 (by decide) (hts (.fieldLink RX1 15 "NeckShip$Sheet" "lane" "I") (by decide +kernel)) (fun _ h9 => h9) rfl (by decide +kernel) rfl rfl (Nat.le_of_ble_eq_true rfl) dX1_renew_2 (fun H locs hP hD hS => ?_)
  rw [wC_put_lane h_1] at hP hD
  have hP : va_P D vwCl (wC cI cS q N (va_up V (5 + kk) l0) A) H := hP
  have hD : va_D Ar (wC cI cS q N (va_up V (5 + kk) l0) A) := hD
  refine lv_aload_n hx hb dX1_renew_5 rfl (lv_at hl 0 rfl) ?_
  refine lv_iload_n hx hb dX1_renew_6 rfl (lv_at hl 2 rfl) ?_
  refine va_put (D := D) (ci := 1) (v := .int n0) (ty := .int) (C := RX1) (T := TX1) (N := 3) hx hb hts hin1 tyX1 tyX1_ok nmX1 hown hK hP hD hS (17 + 2 * kk) (wC_sheet h_1) rfl 2 (by decide) (hts (.fieldLink RX1 19 "NeckShip$Sheet" "size" "I") (by decide +kernel)) (fun _ h9 => h9) rfl (by decide +kernel) rfl rfl (Nat.le_of_ble_eq_true rfl) dX1_renew_7 (fun H locs hP hD hS => ?_)
  rw [wC_put_size h_1] at hP hD
  have hP : va_P D vwCl (wC cI cS q N (va_up (va_up V (5 + kk) l0) (9 + kk) n0) A) H := hP
  have hD : va_D Ar (wC cI cS q N (va_up (va_up V (5 + kk) l0) (9 + kk) n0) A) := hD
  refine lv_aload_n hx hb dX1_renew_10 rfl (lv_at hl 0 rfl) ?_
  refine va_get (D := D) (ci := 1) (v := .ref (q (18 + 2 * kk))) (C := RX1) (T := TX1) (N := 3) hx hb hts hin1 hown hK hP (17 + 2 * kk) (wC_sheet h_1) rfl 0 (by decide) (hts (.fieldLink RX1 11 "NeckShip$Sheet" "cells" "[I") (by decide +kernel)) (fun _ h9 => h9) rfl dX1_renew_11 ?_
  refine lv_iconst (v := (0)) hx hb dX1_renew_14 (by decide) ?_
  refine callFill (va_runS (As := [.ref (q (18 + 2 * kk)), .int (0)]) (rest := []) ⟨hx, hb, hml, hown, hts⟩ (c_fill l D cI cZ cS (wC cI cS q N (va_up (va_up V (5 + kk) l0) (9 + kk) n0) A) (18 + 2 * kk) (q (18 + 2 * kk)) 50 (A (18 + 2 * kk)) (0 : Int32) H.size (wC_cells h_1) (by decide)) (va_cwS 2 hts gX1_renew_J7_fill_53178 rfl rfl rfl (by decide +kernel) ⟨Nat.le_of_ble_eq_true rfl, Nat.le_of_ble_eq_true rfl⟩) (preFill hK hP hD) rfl rfl hl.1 rfl (lv_room (Nat.le_of_ble_eq_true rfl)) dX1_renew_15 ⟨Nat.zero_le _, Nat.zero_le _⟩) hD hS hA (fun H locs hP hD hS => ?_)
  rw [wC_put_cells h_1] at hP hD
  have hP : va_P D vwCl (wC cI cS q N (va_up (va_up V (5 + kk) l0) (9 + kk) n0) (va_up A (18 + 2 * kk) (fillN (A (18 + 2 * kk)) (0 : Int32) 50))) H := hP
  have hD : va_D Ar (wC cI cS q N (va_up (va_up V (5 + kk) l0) (9 + kk) n0) (va_up A (18 + 2 * kk) (fillN (A (18 + 2 * kk)) (0 : Int32) 50))) := hD
  have hEE : s_X1_renew N V A kk l0 n0 = (N, (va_up (va_up V (5 + kk) l0) (9 + kk) n0), (va_up A (18 + 2 * kk) (fillN (A (18 + 2 * kk)) (0 : Int32) 50))) := (by rw [s_X1_renew])
  rw [hEE]
  exact W.vret hx hb hr (fun t ht hW => ⟨⟨(), rfl, trivial, ⟨by rw [ht]; exact hP, va_K.moved hW.alike hK, hN.warm hW⟩, hD⟩, hS.F ht⟩) hS.2.2 dX1_renew_18
def s_X1_hasCells (N : Nat → Nat) (V : Nat → Int32) (A : Nat → Nat → Int32) (kk : Nat) (f0 : Int32) (m0 : Int32) : Bool :=
  if f0 < 0 then
    false
  else
    if m0 < 0 then
      false
    else
      if (V (9 + kk) - f0) < m0 then
        false
      else
        true
set_option maxHeartbeats 4000000 in
set_option maxRecDepth 100000 in
theorem c_X1_hasCells (l : Launch) (D : va_G) (cI cZ cS : ClassId) (q : Nat → Nat) (N : Nat → Nat) (V : Nat → Int32) (A : Nat → Nat → Int32) (kk : Nat) (f0 : Int32) (m0 : Int32) (h_1 : kk < 4) : Met l yX1_hasCells wsX1_hasCells ({ frames := 0, cells := 0, slots := 0, locals := 0 }) (va_Pc [.ref (q (17 + 2 * kk)), .int f0, .int m0] (PC D cI cZ cS q N V A)) (vp_Si (fun r => r = b2i (s_X1_hasCells N V A kk f0 m0))) 0 0 (fun _ => False) := by
  refine Met.ofW (cc := cX1_hasCells) (maxL := 3) (ret := (some .boolean)) (by decide) rfl ?_
  intro p e s m args below meth c s₁ B hml hv
  obtain ⟨rfl, hP, hK, hN⟩ := hv
  have hx := B.exec
  have hb := B.bytes
  have hr := B.returns
  have hts := atoms_spec (ws := wsX1_hasCells) B.pre
  have hown : s.vm.findClass RX1 = some m.cls := findClass_of_methodNamed B.named
  have hlocks := B.notSynchronized
  have hin1 : ∀ w ∈ u_ws RX1 TX1 3, w ∈ wsX1_hasCells := by decide +kernel
  have hl := lv_entry ([.ref (q (17 + 2 * kk)), .int f0, .int m0]) (n := 3) (Nat.le_of_ble_eq_true rfl)
  rw [lg_entry_eq]
  generalize (lg_sl ([.ref (q (17 + 2 * kk)), .int f0, .int m0]) ++ List.replicate (3 - (lg_sl ([.ref (q (17 + 2 * kk)), .int f0, .int m0])).length) Slot.unset).toArray = ls at hl ⊢
  have hl : lv_has ls 3 [(0, .ref (q (17 + 2 * kk))), (1, .int f0), (2, .int m0)] := hl
  refine lv_iload_n hx hb dX1_hasCells_0 rfl (lv_at hl 1 rfl) ?_
  refine lv_if_lt (tgt := 22) hx hb dX1_hasCells_1 (by decide) (fun c_1 => ?_) (fun c_1 => ?_)
  · refine lv_iconst (v := (0)) hx hb dX1_hasCells_22 (by decide) ?_
    exact W.zret (v := b2i false) hx hb hr (b2i_nar _) (fun t ht hW => ⟨_, rfl, (by rw [s_X1_hasCells, if_pos c_1]), ht⟩) (fun _ h => by cases h) dX1_hasCells_23
  · refine lv_iload_n hx hb dX1_hasCells_4 rfl (lv_at hl 2 rfl) ?_
    refine lv_if_lt (tgt := 22) hx hb dX1_hasCells_5 (by decide) (fun c_2 => ?_) (fun c_2 => ?_)
    · refine lv_iconst (v := (0)) hx hb dX1_hasCells_22 (by decide) ?_
      exact W.zret (v := b2i false) hx hb hr (b2i_nar _) (fun t ht hW => ⟨_, rfl, (by rw [s_X1_hasCells, if_neg c_1, if_pos c_2]), ht⟩) (fun _ h => by cases h) dX1_hasCells_23
    · refine lv_iload_n hx hb dX1_hasCells_8 rfl (lv_at hl 2 rfl) ?_
      refine lv_aload_n hx hb dX1_hasCells_9 rfl (lv_at hl 0 rfl) ?_
      refine va_get (D := D) (ci := 1) (v := .int (V (9 + kk))) (C := RX1) (T := TX1) (N := 3) hx hb hts hin1 hown hK hP (17 + 2 * kk) (wC_sheet h_1) rfl 2 (by decide) (hts (.fieldLink RX1 19 "NeckShip$Sheet" "size" "I") (by decide +kernel)) (fun _ h9 => h9) rfl dX1_hasCells_10 ?_
      refine lv_iload_n hx hb dX1_hasCells_13 rfl (lv_at hl 1 rfl) ?_
      refine lv_isub hx hb dX1_hasCells_14 ?_
      refine lv_icmp_gt (tgt := 22) hx hb dX1_hasCells_15 (by decide) (fun c_3 => ?_) (fun c_3 => ?_)
      · refine lv_iconst (v := (0)) hx hb dX1_hasCells_22 (by decide) ?_
        exact W.zret (v := b2i false) hx hb hr (b2i_nar _) (fun t ht hW => ⟨_, rfl, (by rw [s_X1_hasCells, if_neg c_1, if_neg c_2, if_pos c_3]), ht⟩) (fun _ h => by cases h) dX1_hasCells_23
      · refine lv_iconst (v := (1)) hx hb dX1_hasCells_18 (by decide) ?_
        refine lv_goto (tgt := 23) hx hb dX1_hasCells_19 (by decide) ?_
        exact W.zret (v := b2i true) hx hb hr (b2i_nar _) (fun t ht hW => ⟨_, rfl, (by rw [s_X1_hasCells, if_neg c_1, if_neg c_2, if_neg c_3]), ht⟩) (fun _ h => by cases h) dX1_hasCells_23
def s_X1_faultAsLane (N : Nat → Nat) (V : Nat → Int32) (A : Nat → Nat → Int32) (kk : Nat) (l0 : Int32) : Int32 :=
  if (s_X1_hasNothing N V A kk) = true then
    (1 : Int32)
  else
    if V (5 + kk) = l0 then
      (0 : Int32)
    else
      (2 : Int32)
set_option maxHeartbeats 4000000 in
set_option maxRecDepth 100000 in
theorem c_X1_faultAsLane (l : Launch) (D : va_G) (cI cZ cS : ClassId) (q : Nat → Nat) (N : Nat → Nat) (V : Nat → Int32) (A : Nat → Nat → Int32) (kk : Nat) (l0 : Int32) (h_1 : kk < 4) : Met l yX1_faultAsLane wsX1_faultAsLane ({ frames := 1, cells := 0, slots := 0, locals := 20 }) (va_Pc [.ref (q (17 + 2 * kk)), .int l0] (PC D cI cZ cS q N V A)) (vp_Si (fun r => r = (s_X1_faultAsLane N V A kk l0))) 0 0 (fun _ => False) := by
  refine Met.ofW (cc := cX1_faultAsLane) (maxL := 2) (ret := (some .int)) (by decide) rfl ?_
  intro p e s m args below meth c s₁ B hml hv
  obtain ⟨rfl, hP, hK, hN⟩ := hv
  have hx := B.exec
  have hb := B.bytes
  have hr := B.returns
  have hts := atoms_spec (ws := wsX1_faultAsLane) B.pre
  have hown : s.vm.findClass RX1 = some m.cls := findClass_of_methodNamed B.named
  have hlocks := B.notSynchronized
  have hin1 : ∀ w ∈ u_ws RX1 TX1 3, w ∈ wsX1_faultAsLane := by decide +kernel
  have hl := lv_entry ([.ref (q (17 + 2 * kk)), .int l0]) (n := 2) (Nat.le_of_ble_eq_true rfl)
  rw [lg_entry_eq]
  generalize (lg_sl ([.ref (q (17 + 2 * kk)), .int l0]) ++ List.replicate (2 - (lg_sl ([.ref (q (17 + 2 * kk)), .int l0])).length) Slot.unset).toArray = ls at hl ⊢
  have hl : lv_has ls 2 [(0, .ref (q (17 + 2 * kk))), (1, .int l0)] := hl
  refine lv_aload_n hx hb dX1_faultAsLane_0 rfl (lv_at hl 0 rfl) ?_
  refine vp_callSi (W.runV (As := []) (rest := []) ⟨hx, hb, hml, hown, hts⟩ (c_X1_hasNothing l D cI cZ cS q N V A kk h_1) (cwV 0 hts gX1_faultAsLane_X1_hasNothing rfl rfl rfl (by decide +kernel) ⟨Nat.le_of_ble_eq_true rfl, Nat.le_of_ble_eq_true rfl⟩) (preC1 h_1 hK hN hP) rfl rfl hl.1 rfl (lv_room (Nat.le_of_ble_eq_true rfl)) dX1_faultAsLane_1 ⟨Nat.zero_le _, Nat.zero_le _⟩) (fun r_1 er_1 => ?_)
  subst er_1
  refine lz_if_eq (tgt := 9) hx hb dX1_faultAsLane_4 (by decide) (fun c_2 => ?_) (fun c_2 => ?_)
  · refine lv_aload_n hx hb dX1_faultAsLane_9 rfl (lv_at hl 0 rfl) ?_
    refine va_get (D := D) (ci := 1) (v := .int (V (5 + kk))) (C := RX1) (T := TX1) (N := 3) hx hb hts hin1 hown hK hP (17 + 2 * kk) (wC_sheet h_1) rfl 1 (by decide) (hts (.fieldLink RX1 15 "NeckShip$Sheet" "lane" "I") (by decide +kernel)) (fun _ h9 => h9) rfl dX1_faultAsLane_10 ?_
    refine lv_iload_n hx hb dX1_faultAsLane_13 rfl (lv_at hl 1 rfl) ?_
    refine lv_icmp_eq (tgt := 21) hx hb dX1_faultAsLane_14 (by decide) (fun c_3 => ?_) (fun c_3 => ?_)
    · refine lv_iconst (v := (0)) hx hb dX1_faultAsLane_21 (by decide) ?_
      exact W.iret (v := (0 : Int32)) hx hb hr (fun t ht hW => ⟨_, rfl, (by rw [s_X1_faultAsLane, if_neg (nb c_2), if_pos c_3]), ht⟩) (fun _ h => by cases h) dX1_faultAsLane_22
    · refine lv_iconst (v := (2)) hx hb dX1_faultAsLane_17 (by decide) ?_
      refine lv_goto (tgt := 22) hx hb dX1_faultAsLane_18 (by decide) ?_
      exact W.iret (v := (2 : Int32)) hx hb hr (fun t ht hW => ⟨_, rfl, (by rw [s_X1_faultAsLane, if_neg (nb c_2), if_neg c_3]), ht⟩) (fun _ h => by cases h) dX1_faultAsLane_22
  · refine lv_iconst (v := (1)) hx hb dX1_faultAsLane_7 (by decide) ?_
    exact W.iret (v := (1 : Int32)) hx hb hr (fun t ht hW => ⟨_, rfl, (by rw [s_X1_faultAsLane, if_pos c_2]), ht⟩) (fun _ h => by cases h) dX1_faultAsLane_8
def s_X1_cutToLane (N : Nat → Nat) (V : Nat → Int32) (A : Nat → Nat → Int32) (kk : Nat) (v0 : Int32) : Int32 :=
  if V (5 + kk) = (0) then
    (v0).toInt8.toInt32
  else
    if V (5 + kk) = (1) then
      (v0).toInt16.toInt32
    else
      v0
set_option maxHeartbeats 4000000 in
set_option maxRecDepth 100000 in
theorem c_X1_cutToLane (l : Launch) (D : va_G) (cI cZ cS : ClassId) (q : Nat → Nat) (N : Nat → Nat) (V : Nat → Int32) (A : Nat → Nat → Int32) (kk : Nat) (v0 : Int32) (h_1 : kk < 4) : Met l yX1_cutToLane wsX1_cutToLane ({ frames := 0, cells := 0, slots := 0, locals := 0 }) (va_Pc [.ref (q (17 + 2 * kk)), .int v0] (PC D cI cZ cS q N V A)) (vp_Si (fun r => r = (s_X1_cutToLane N V A kk v0))) 0 0 (fun _ => False) := by
  refine Met.ofW (cc := cX1_cutToLane) (maxL := 2) (ret := (some .int)) (by decide) rfl ?_
  intro p e s m args below meth c s₁ B hml hv
  obtain ⟨rfl, hP, hK, hN⟩ := hv
  have hx := B.exec
  have hb := B.bytes
  have hr := B.returns
  have hts := atoms_spec (ws := wsX1_cutToLane) B.pre
  have hown : s.vm.findClass RX1 = some m.cls := findClass_of_methodNamed B.named
  have hlocks := B.notSynchronized
  have hin1 : ∀ w ∈ u_ws RX1 TX1 3, w ∈ wsX1_cutToLane := by decide +kernel
  have hl := lv_entry ([.ref (q (17 + 2 * kk)), .int v0]) (n := 2) (Nat.le_of_ble_eq_true rfl)
  rw [lg_entry_eq]
  generalize (lg_sl ([.ref (q (17 + 2 * kk)), .int v0]) ++ List.replicate (2 - (lg_sl ([.ref (q (17 + 2 * kk)), .int v0])).length) Slot.unset).toArray = ls at hl ⊢
  have hl : lv_has ls 2 [(0, .ref (q (17 + 2 * kk))), (1, .int v0)] := hl
  refine lv_aload_n hx hb dX1_cutToLane_0 rfl (lv_at hl 0 rfl) ?_
  refine va_get (D := D) (ci := 1) (v := .int (V (5 + kk))) (C := RX1) (T := TX1) (N := 3) hx hb hts hin1 hown hK hP (17 + 2 * kk) (wC_sheet h_1) rfl 1 (by decide) (hts (.fieldLink RX1 15 "NeckShip$Sheet" "lane" "I") (by decide +kernel)) (fun _ h9 => h9) rfl dX1_cutToLane_1 ?_
  by_cases c_1 : V (5 + kk) = (0)
  · refine lv_lookup (off := 28) (tgt := 32) hx hb dX1_cutToLane_4 rfl (by rw [c_1]; rfl) (by decide) ?_
    refine lv_iload_n hx hb dX1_cutToLane_32 rfl (lv_at hl 1 rfl) ?_
    refine lv_i2b (v := (v0).toInt8.toInt32) hx hb dX1_cutToLane_33 rfl ?_
    exact W.iret (v := (v0).toInt8.toInt32) hx hb hr (fun t ht hW => ⟨_, rfl, (by rw [s_X1_cutToLane, if_pos c_1]), ht⟩) (fun _ h => by cases h) dX1_cutToLane_34
  · by_cases c_2 : V (5 + kk) = (1)
    · refine lv_lookup (off := 31) (tgt := 35) hx hb dX1_cutToLane_4 rfl (by rw [c_2]; rfl) (by decide) ?_
      refine lv_iload_n hx hb dX1_cutToLane_35 rfl (lv_at hl 1 rfl) ?_
      refine lv_i2s (v := (v0).toInt16.toInt32) hx hb dX1_cutToLane_36 rfl ?_
      exact W.iret (v := (v0).toInt16.toInt32) hx hb hr (fun t ht hW => ⟨_, rfl, (by rw [s_X1_cutToLane, if_neg c_1, if_pos c_2]), ht⟩) (fun _ h => by cases h) dX1_cutToLane_37
    · refine lv_lookup (off := 34) (tgt := 38) hx hb dX1_cutToLane_4 rfl (by show Op.lookupswitch.offset [(0, 28), (1, 31)] (34) _ = 34; exact (lv_osw c_1 rfl).trans ((lv_osw c_2 rfl).trans (rfl))) (by decide) ?_
      refine lv_iload_n hx hb dX1_cutToLane_38 rfl (lv_at hl 1 rfl) ?_
      exact W.iret (v := v0) hx hb hr (fun t ht hW => ⟨_, rfl, (by rw [s_X1_cutToLane, if_neg c_1, if_neg c_2]), ht⟩) (fun _ h => by cases h) dX1_cutToLane_39
def s_X0_mark (N : Nat → Nat) (V : Nat → Int32) (A : Nat → Nat → Int32)  (s0 : Nat) : St :=
  (N, V, (va_up A 26 (upd (A 26) (s0 / 32) (A 26 (s0 / 32) ||| ((1 : Int32) <<< ((nI s0 &&& (31 : Int32)) &&& 31))))))
set_option maxHeartbeats 4000000 in
set_option maxRecDepth 100000 in
theorem c_X0_mark (l : Launch) (D : va_G) (cI cZ cS : ClassId) (q : Nat → Nat) (N : Nat → Nat) (V : Nat → Int32) (A : Nat → Nat → Int32) (sz : Nat) (s0 : Nat) (h_1 : s0 < 1024) : Met l yX0_mark wsX0_mark ({ frames := 0, cells := 0, slots := 0, locals := 0 }) (va_Pc [.ref (q 25), .int (nI s0)] (fun U => U.heap.size = sz ∧ PC D cI cZ cS q N V A U ∧ va_D (fun _ => True) (wC cI cS q N V A))) (va_Qv (fun (_ : Unit) => True) (fun _ t => PC D cI cZ cS q (s_X0_mark N V A s0).1 (s_X0_mark N V A s0).2.1 (s_X0_mark N V A s0).2.2 t ∧ va_D (va_A (wC cI cS q N V A) sz) (wC cI cS q (s_X0_mark N V A s0).1 (s_X0_mark N V A s0).2.1 (s_X0_mark N V A s0).2.2)) (va_A (wC cI cS q N V A) sz)) 0 0 (va_A (wC cI cS q N V A) sz) := by
  refine Met.ofW (cc := cX0_mark) (maxL := 2) (ret := none) (by decide) rfl ?_
  intro p e s m args below meth c s₁ B hml hv
  obtain ⟨rfl, hsz, ⟨hP, hK, hN⟩, hD0⟩ := hv
  have hx := B.exec
  have hb := B.bytes
  have hr := B.returns
  have hts := atoms_spec (ws := wsX0_mark) B.pre
  have hown : s.vm.findClass RX0 = some m.cls := findClass_of_methodNamed B.named
  have hlocks := B.notSynchronized
  have hin0 : ∀ w ∈ u_ws RX0 TX0 4, w ∈ wsX0_mark := by decide +kernel
  subst hsz
  have hD := hD0.self (sz := s.heap.size)
  generalize hAe : va_A (wC cI cS q N V A) s.heap.size = Ar at hD ⊢
  have hA : ∀ q : Nat, s.heap.size ≤ q → Ar q := fun q h => by rw [← hAe]; exact Or.inr h
  have hS : va_S Ar s.heap s.heap [] := va_S.rf
  have hl := lv_entry ([.ref (q 25), .int (nI s0)]) (n := 2) (Nat.le_of_ble_eq_true rfl)
  rw [lg_entry_eq]
  generalize (lg_sl ([.ref (q 25), .int (nI s0)]) ++ List.replicate (2 - (lg_sl ([.ref (q 25), .int (nI s0)])).length) Slot.unset).toArray = ls at hl ⊢
  have hl : lv_has ls 2 [(0, .ref (q 25)), (1, .int (nI s0))] := hl
  refine lv_aload_n hx hb dX0_mark_0 rfl (lv_at hl 0 rfl) ?_
  refine va_get (D := D) (ci := 0) (v := .ref (q 26)) (C := RX0) (T := TX0) (N := 4) hx hb hts hin0 hown hK hP 25 rfl rfl 0 (by decide) (hts (.fieldLink RX0 9 "NeckShip$Rising" "bits" "[I") (by decide +kernel)) (fun _ h9 => h9) rfl dX0_mark_1 ?_
  refine lv_iload_n hx hb dX0_mark_4 rfl (lv_at hl 1 rfl) ?_
  refine lv_iconst (v := (5)) hx hb dX0_mark_5 (by decide) ?_
  refine lv_ishr hx hb dX0_mark_6 ?_
  rw [show (nI s0 >>> ((5 : Int32) &&& 31)) = nI (s0 / 32) from sh5 (by omega)]
  refine lv_dup2_11 hx hb dX0_mark_7 rfl rfl ?_
  refine va_ialdN (i := s0 / 32) hx hb hK hP 26 0 rfl rfl (by decide) (by omega) dX0_mark_8 ?_
  refine lv_iconst (v := (1)) hx hb dX0_mark_9 (by decide) ?_
  refine lv_iload_n hx hb dX0_mark_10 rfl (lv_at hl 1 rfl) ?_
  refine lv_bipush (v := (31)) hx hb dX0_mark_11 (by decide) ?_
  refine lv_iand hx hb dX0_mark_13 ?_
  refine lv_ishl hx hb dX0_mark_14 ?_
  refine lv_ior hx hb dX0_mark_15 ?_
  refine va_iastN (i := s0 / 32) hx hb hK hP hD hS 26 0 rfl rfl (by decide) (by omega) dX0_mark_16 (fun H locs hP hD hS => ?_)
  have hP : va_P D vwCl (wC cI cS q N V (va_up A 26 (upd (A 26) (s0 / 32) (A 26 (s0 / 32) ||| ((1 : Int32) <<< ((nI s0 &&& (31 : Int32)) &&& 31)))))) H := hP
  have hD : va_D Ar (wC cI cS q N V (va_up A 26 (upd (A 26) (s0 / 32) (A 26 (s0 / 32) ||| ((1 : Int32) <<< ((nI s0 &&& (31 : Int32)) &&& 31)))))) := hD
  have hEE : s_X0_mark N V A s0 = (N, V, (va_up A 26 (upd (A 26) (s0 / 32) (A 26 (s0 / 32) ||| ((1 : Int32) <<< ((nI s0 &&& (31 : Int32)) &&& 31)))))) := (by rw [s_X0_mark])
  rw [hEE]
  exact W.vret hx hb hr (fun t ht hW => ⟨⟨(), rfl, trivial, ⟨by rw [ht]; exact hP, va_K.moved hW.alike hK, hN.warm hW⟩, hD⟩, hS.F ht⟩) hS.2.2 dX0_mark_17
def s_X0_isMarked (N : Nat → Nat) (V : Nat → Int32) (A : Nat → Nat → Int32)  (s0 : Nat) : Bool :=
  (s_X4_isIn (A 26 (s0 / 32)) (nI s0 &&& (31 : Int32)))
set_option maxHeartbeats 4000000 in
set_option maxRecDepth 100000 in
theorem c_X0_isMarked (l : Launch) (D : va_G) (cI cZ cS : ClassId) (q : Nat → Nat) (N : Nat → Nat) (V : Nat → Int32) (A : Nat → Nat → Int32) (s0 : Nat) (h_1 : s0 < 1024) : Met l yX0_isMarked wsX0_isMarked ({ frames := 1, cells := 0, slots := 0, locals := 21 }) (va_Pc [.ref (q 25), .int (nI s0)] (PC D cI cZ cS q N V A)) (vp_Si (fun r => r = b2i (s_X0_isMarked N V A s0))) 0 0 (fun _ => False) := by
  refine Met.ofW (cc := cX0_isMarked) (maxL := 2) (ret := (some .boolean)) (by decide) rfl ?_
  intro p e s m args below meth c s₁ B hml hv
  obtain ⟨rfl, hP, hK, hN⟩ := hv
  have hx := B.exec
  have hb := B.bytes
  have hr := B.returns
  have hts := atoms_spec (ws := wsX0_isMarked) B.pre
  have hown : s.vm.findClass RX0 = some m.cls := findClass_of_methodNamed B.named
  have hlocks := B.notSynchronized
  have hin0 : ∀ w ∈ u_ws RX0 TX0 4, w ∈ wsX0_isMarked := by decide +kernel
  have hl := lv_entry ([.ref (q 25), .int (nI s0)]) (n := 2) (Nat.le_of_ble_eq_true rfl)
  rw [lg_entry_eq]
  generalize (lg_sl ([.ref (q 25), .int (nI s0)]) ++ List.replicate (2 - (lg_sl ([.ref (q 25), .int (nI s0)])).length) Slot.unset).toArray = ls at hl ⊢
  have hl : lv_has ls 2 [(0, .ref (q 25)), (1, .int (nI s0))] := hl
  refine lv_aload_n hx hb dX0_isMarked_0 rfl (lv_at hl 0 rfl) ?_
  refine va_get (D := D) (ci := 0) (v := .ref (q 26)) (C := RX0) (T := TX0) (N := 4) hx hb hts hin0 hown hK hP 25 rfl rfl 0 (by decide) (hts (.fieldLink RX0 9 "NeckShip$Rising" "bits" "[I") (by decide +kernel)) (fun _ h9 => h9) rfl dX0_isMarked_1 ?_
  refine lv_iload_n hx hb dX0_isMarked_4 rfl (lv_at hl 1 rfl) ?_
  refine lv_iconst (v := (5)) hx hb dX0_isMarked_5 (by decide) ?_
  refine lv_ishr hx hb dX0_isMarked_6 ?_
  rw [show (nI s0 >>> ((5 : Int32) &&& 31)) = nI (s0 / 32) from sh5 (by omega)]
  refine va_ialdN (i := s0 / 32) hx hb hK hP 26 0 rfl rfl (by decide) (by omega) dX0_isMarked_7 ?_
  refine lv_iload_n hx hb dX0_isMarked_8 rfl (lv_at hl 1 rfl) ?_
  refine lv_bipush (v := (31)) hx hb dX0_isMarked_9 (by decide) ?_
  refine lv_iand hx hb dX0_isMarked_11 ?_
  refine vp_callSi (va_Run.run (va_runSN (As := [.int (A 26 (s0 / 32)), .int (nI s0 &&& (31 : Int32))]) (rest := []) ⟨hx, hb, hml, hown, hts⟩ (c_X4_isIn l (A 26 (s0 / 32)) (nI s0 &&& (31 : Int32))) ⟨va_cnB 2 hts ggX0_isMarked_X4_isIn rfl rfl rfl hN.2.2.2 (hts (.initialized RX4) (by decide +kernel)) (by decide +kernel) ⟨Nat.le_of_ble_eq_true rfl, Nat.le_of_ble_eq_true rfl⟩, (hts (.static yX4_isIn) (by decide +kernel)), trivial⟩ preEq rfl rfl hl.1 rfl (lv_room (Nat.le_of_ble_eq_true rfl)) dX0_isMarked_12 ⟨Nat.zero_le _, Nat.zero_le _⟩)) (fun r_1 er_1 => ?_)
  subst er_1
  exact W.zret (v := b2i (s_X4_isIn (A 26 (s0 / 32)) (nI s0 &&& (31 : Int32)))) hx hb hr (b2i_nar _) (fun t ht hW => ⟨_, rfl, (by rw [s_X0_isMarked]), ht⟩) (fun _ h => by cases h) dX0_isMarked_15
def s_X0_count (N : Nat → Nat) (V : Nat → Int32) (A : Nat → Nat → Int32)  (s0 : Nat) : St :=
  (N, (va_up (va_up (va_up V 2 (V 2 + (1 : Int32))) 3 (if (va_up V 2 (V 2 + (1 : Int32))) 3 < nI (s_J6_bitCount_0f7a4 s0) then nI (s_J6_bitCount_0f7a4 s0) else (va_up V 2 (V 2 + (1 : Int32))) 3)) 4 ((va_up (va_up V 2 (V 2 + (1 : Int32))) 3 (if (va_up V 2 (V 2 + (1 : Int32))) 3 < nI (s_J6_bitCount_0f7a4 s0) then nI (s_J6_bitCount_0f7a4 s0) else (va_up V 2 (V 2 + (1 : Int32))) 3)) 4 ||| nI s0)), A)
set_option maxHeartbeats 4000000 in
set_option maxRecDepth 100000 in
theorem c_X0_count (l : Launch) (D : va_G) (cI cZ cS : ClassId) (q : Nat → Nat) (N : Nat → Nat) (V : Nat → Int32) (A : Nat → Nat → Int32) (sz : Nat) (s0 : Nat) (h_1 : s0 < 1024) : Met l yX0_count wsX0_count ({ frames := 1, cells := 0, slots := 0, locals := 22 }) (va_Pc [.ref (q 25), .int (nI s0)] (fun U => U.heap.size = sz ∧ PC D cI cZ cS q N V A U ∧ va_D (fun _ => True) (wC cI cS q N V A))) (va_Qv (fun (_ : Unit) => True) (fun _ t => PC D cI cZ cS q (s_X0_count N V A s0).1 (s_X0_count N V A s0).2.1 (s_X0_count N V A s0).2.2 t ∧ va_D (va_A (wC cI cS q N V A) sz) (wC cI cS q (s_X0_count N V A s0).1 (s_X0_count N V A s0).2.1 (s_X0_count N V A s0).2.2)) (va_A (wC cI cS q N V A) sz)) 0 0 (va_A (wC cI cS q N V A) sz) := by
  refine Met.ofW (cc := cX0_count) (maxL := 2) (ret := none) (by decide) rfl ?_
  intro p e s m args below meth c s₁ B hml hv
  obtain ⟨rfl, hsz, ⟨hP, hK, hN⟩, hD0⟩ := hv
  have hx := B.exec
  have hb := B.bytes
  have hr := B.returns
  have hts := atoms_spec (ws := wsX0_count) B.pre
  have hown : s.vm.findClass RX0 = some m.cls := findClass_of_methodNamed B.named
  have hlocks := B.notSynchronized
  have hin0 : ∀ w ∈ u_ws RX0 TX0 4, w ∈ wsX0_count := by decide +kernel
  subst hsz
  have hD := hD0.self (sz := s.heap.size)
  generalize hAe : va_A (wC cI cS q N V A) s.heap.size = Ar at hD ⊢
  have hA : ∀ q : Nat, s.heap.size ≤ q → Ar q := fun q h => by rw [← hAe]; exact Or.inr h
  have hS : va_S Ar s.heap s.heap [] := va_S.rf
  have hl := lv_entry ([.ref (q 25), .int (nI s0)]) (n := 2) (Nat.le_of_ble_eq_true rfl)
  rw [lg_entry_eq]
  generalize (lg_sl ([.ref (q 25), .int (nI s0)]) ++ List.replicate (2 - (lg_sl ([.ref (q 25), .int (nI s0)])).length) Slot.unset).toArray = ls at hl ⊢
  have hl : lv_has ls 2 [(0, .ref (q 25)), (1, .int (nI s0))] := hl
  refine lv_aload_n hx hb dX0_count_0 rfl (lv_at hl 0 rfl) ?_
  refine lv_dup hx hb dX0_count_1 rfl ?_
  refine va_get (D := D) (ci := 0) (v := .int (V 2)) (C := RX0) (T := TX0) (N := 4) hx hb hts hin0 hown hK hP 25 rfl rfl 1 (by decide) (hts (.fieldLink RX0 15 "NeckShip$Rising" "sets" "I") (by decide +kernel)) (fun _ h9 => h9) rfl dX0_count_2 ?_
  refine lv_iconst (v := (1)) hx hb dX0_count_5 (by decide) ?_
  refine lv_iadd hx hb dX0_count_6 ?_
  refine va_put (D := D) (ci := 0) (v := .int (V 2 + (1 : Int32))) (ty := .int) (C := RX0) (T := TX0) (N := 4) hx hb hts hin0 tyX0 tyX0_ok nmX0 hown hK hP hD hS 25 rfl rfl 1 (by decide) (hts (.fieldLink RX0 15 "NeckShip$Rising" "sets" "I") (by decide +kernel)) (fun _ h9 => h9) rfl (by decide +kernel) rfl rfl (Nat.le_of_ble_eq_true rfl) dX0_count_7 (fun H locs hP hD hS => ?_)
  have hP : va_P D vwCl (wC cI cS q N (va_up V 2 (V 2 + (1 : Int32))) A) H := hP
  have hD : va_D Ar (wC cI cS q N (va_up V 2 (V 2 + (1 : Int32))) A) := hD
  refine lv_aload_n hx hb dX0_count_10 rfl (lv_at hl 0 rfl) ?_
  refine lv_aload_n hx hb dX0_count_11 rfl (lv_at hl 0 rfl) ?_
  refine va_get (D := D) (ci := 0) (v := .int ((va_up V 2 (V 2 + (1 : Int32))) 3)) (C := RX0) (T := TX0) (N := 4) hx hb hts hin0 hown hK hP 25 rfl rfl 2 (by decide) (hts (.fieldLink RX0 19 "NeckShip$Rising" "most" "I") (by decide +kernel)) (fun _ h9 => h9) rfl dX0_count_12 ?_
  refine lv_iload_n hx hb dX0_count_15 rfl (lv_at hl 1 rfl) ?_
  refine vp_callSi (W.runS (As := [.int (nI s0)]) (rest := [.int ((va_up V 2 (V 2 + (1 : Int32))) 3), .ref (q 25)]) ⟨hx, hb, hml, hown, hts⟩ (c_J6_bitCount_0f7a4 l s0 (by omega)) (va_cwS 1 hts gX0_count_J6_bitCount_0f7a4 rfl rfl rfl (by decide +kernel) ⟨Nat.le_of_ble_eq_true rfl, Nat.le_of_ble_eq_true rfl⟩) (preEq) rfl rfl hl.1 rfl (lv_room (Nat.le_of_ble_eq_true rfl)) dX0_count_16 ⟨Nat.zero_le _, Nat.zero_le _⟩) (fun r_1 er_1 => ?_)
  subst er_1
  refine va_mmax hx hb (by rw [hml]; exact hl.1.symm) hown (hts (.methodLink RX0 57 Lib.Math.max.name) (by decide +kernel)) (hts (.static Lib.Math.max.name) (by decide +kernel)) (hts (.initialized "java/lang/Math") (by decide +kernel)) (hts (.code Lib.Math.max.name Lib.Math.max.code 2 (some .int)) (by decide +kernel)) (Nat.le_of_ble_eq_true rfl) (Nat.le_of_ble_eq_true rfl) (Nat.zero_le _) (Nat.zero_le _) dX0_count_19 ?_
  refine va_put (D := D) (ci := 0) (v := .int (if (va_up V 2 (V 2 + (1 : Int32))) 3 < nI (s_J6_bitCount_0f7a4 s0) then nI (s_J6_bitCount_0f7a4 s0) else (va_up V 2 (V 2 + (1 : Int32))) 3)) (ty := .int) (C := RX0) (T := TX0) (N := 4) hx hb hts hin0 tyX0 tyX0_ok nmX0 hown hK hP hD hS 25 rfl rfl 2 (by decide) (hts (.fieldLink RX0 19 "NeckShip$Rising" "most" "I") (by decide +kernel)) (fun _ h9 => h9) rfl (by decide +kernel) rfl rfl (Nat.le_of_ble_eq_true rfl) dX0_count_22 (fun H locs hP hD hS => ?_)
  have hP : va_P D vwCl (wC cI cS q N (va_up (va_up V 2 (V 2 + (1 : Int32))) 3 (if (va_up V 2 (V 2 + (1 : Int32))) 3 < nI (s_J6_bitCount_0f7a4 s0) then nI (s_J6_bitCount_0f7a4 s0) else (va_up V 2 (V 2 + (1 : Int32))) 3)) A) H := hP
  have hD : va_D Ar (wC cI cS q N (va_up (va_up V 2 (V 2 + (1 : Int32))) 3 (if (va_up V 2 (V 2 + (1 : Int32))) 3 < nI (s_J6_bitCount_0f7a4 s0) then nI (s_J6_bitCount_0f7a4 s0) else (va_up V 2 (V 2 + (1 : Int32))) 3)) A) := hD
  refine lv_aload_n hx hb dX0_count_25 rfl (lv_at hl 0 rfl) ?_
  refine lv_dup hx hb dX0_count_26 rfl ?_
  refine va_get (D := D) (ci := 0) (v := .int ((va_up (va_up V 2 (V 2 + (1 : Int32))) 3 (if (va_up V 2 (V 2 + (1 : Int32))) 3 < nI (s_J6_bitCount_0f7a4 s0) then nI (s_J6_bitCount_0f7a4 s0) else (va_up V 2 (V 2 + (1 : Int32))) 3)) 4)) (C := RX0) (T := TX0) (N := 4) hx hb hts hin0 hown hK hP 25 rfl rfl 3 (by decide) (hts (.fieldLink RX0 22 "NeckShip$Rising" "some" "I") (by decide +kernel)) (fun _ h9 => h9) rfl dX0_count_27 ?_
  refine lv_iload_n hx hb dX0_count_30 rfl (lv_at hl 1 rfl) ?_
  refine lv_ior hx hb dX0_count_31 ?_
  refine va_put (D := D) (ci := 0) (v := .int ((va_up (va_up V 2 (V 2 + (1 : Int32))) 3 (if (va_up V 2 (V 2 + (1 : Int32))) 3 < nI (s_J6_bitCount_0f7a4 s0) then nI (s_J6_bitCount_0f7a4 s0) else (va_up V 2 (V 2 + (1 : Int32))) 3)) 4 ||| nI s0)) (ty := .int) (C := RX0) (T := TX0) (N := 4) hx hb hts hin0 tyX0 tyX0_ok nmX0 hown hK hP hD hS 25 rfl rfl 3 (by decide) (hts (.fieldLink RX0 22 "NeckShip$Rising" "some" "I") (by decide +kernel)) (fun _ h9 => h9) rfl (by decide +kernel) rfl rfl (Nat.le_of_ble_eq_true rfl) dX0_count_32 (fun H locs hP hD hS => ?_)
  have hP : va_P D vwCl (wC cI cS q N (va_up (va_up (va_up V 2 (V 2 + (1 : Int32))) 3 (if (va_up V 2 (V 2 + (1 : Int32))) 3 < nI (s_J6_bitCount_0f7a4 s0) then nI (s_J6_bitCount_0f7a4 s0) else (va_up V 2 (V 2 + (1 : Int32))) 3)) 4 ((va_up (va_up V 2 (V 2 + (1 : Int32))) 3 (if (va_up V 2 (V 2 + (1 : Int32))) 3 < nI (s_J6_bitCount_0f7a4 s0) then nI (s_J6_bitCount_0f7a4 s0) else (va_up V 2 (V 2 + (1 : Int32))) 3)) 4 ||| nI s0)) A) H := hP
  have hD : va_D Ar (wC cI cS q N (va_up (va_up (va_up V 2 (V 2 + (1 : Int32))) 3 (if (va_up V 2 (V 2 + (1 : Int32))) 3 < nI (s_J6_bitCount_0f7a4 s0) then nI (s_J6_bitCount_0f7a4 s0) else (va_up V 2 (V 2 + (1 : Int32))) 3)) 4 ((va_up (va_up V 2 (V 2 + (1 : Int32))) 3 (if (va_up V 2 (V 2 + (1 : Int32))) 3 < nI (s_J6_bitCount_0f7a4 s0) then nI (s_J6_bitCount_0f7a4 s0) else (va_up V 2 (V 2 + (1 : Int32))) 3)) 4 ||| nI s0)) A) := hD
  have hEE : s_X0_count N V A s0 = (N, (va_up (va_up (va_up V 2 (V 2 + (1 : Int32))) 3 (if (va_up V 2 (V 2 + (1 : Int32))) 3 < nI (s_J6_bitCount_0f7a4 s0) then nI (s_J6_bitCount_0f7a4 s0) else (va_up V 2 (V 2 + (1 : Int32))) 3)) 4 ((va_up (va_up V 2 (V 2 + (1 : Int32))) 3 (if (va_up V 2 (V 2 + (1 : Int32))) 3 < nI (s_J6_bitCount_0f7a4 s0) then nI (s_J6_bitCount_0f7a4 s0) else (va_up V 2 (V 2 + (1 : Int32))) 3)) 4 ||| nI s0)), A) := (by rw [s_X0_count])
  rw [hEE]
  exact W.vret hx hb hr (fun t ht hW => ⟨⟨(), rfl, trivial, ⟨by rw [ht]; exact hP, va_K.moved hW.alike hK, hN.warm hW⟩, hD⟩, hS.F ht⟩) hS.2.2 dX0_count_35
def s_X0_markNextOf_L1 (N : Nat → Nat) (V : Nat → Int32) (A : Nat → Nat → Int32) (s0 : Nat) (r0 : Int32) : Nat → Nat → (Nat → Nat → Int32) → (Nat → Nat → Int32)
  | 0, k, A1 =>
    A1
  | n + 1, k, A1 =>
    if (s_X2_mayRise N V A1 k (nI s0) r0) = true then
      s_X0_markNextOf_L1 N V A s0 r0 n (k + 1) ((s_X0_mark N V A1 (s0 ||| (2 ^ k))).2.2)
    else
      s_X0_markNextOf_L1 N V A s0 r0 n (k + 1) A1
def s_X0_markNextOf (N : Nat → Nat) (V : Nat → Int32) (A : Nat → Nat → Int32)  (s0 : Nat) (r0 : Int32) : St :=
  (N, V, (s_X0_markNextOf_L1 N V A s0 r0 (N 0) 0 A))
set_option maxHeartbeats 4000000 in
set_option maxRecDepth 100000 in
theorem c_X0_markNextOf (l : Launch) (D : va_G) (cI cZ cS : ClassId) (q : Nat → Nat) (N : Nat → Nat) (V : Nat → Int32) (A : Nat → Nat → Int32) (sz : Nat) (s0 : Nat) (r0 : Int32) (h_1 : N 0 ≤ 10) (h_2 : s0 < 1024) : Met l yX0_markNextOf wsX0_markNextOf ({ frames := 2, cells := 0, slots := 0, locals := 44 }) (va_Pc [.ref (q 25), .int (nI s0), .ref (q 2), .int r0] (fun U => U.heap.size = sz ∧ PC D cI cZ cS q N V A U ∧ va_D (fun _ => True) (wC cI cS q N V A))) (va_Qv (fun (_ : Unit) => True) (fun _ t => PC D cI cZ cS q (s_X0_markNextOf N V A s0 r0).1 (s_X0_markNextOf N V A s0 r0).2.1 (s_X0_markNextOf N V A s0 r0).2.2 t ∧ va_D (va_A (wC cI cS q N V A) sz) (wC cI cS q (s_X0_markNextOf N V A s0 r0).1 (s_X0_markNextOf N V A s0 r0).2.1 (s_X0_markNextOf N V A s0 r0).2.2)) (va_A (wC cI cS q N V A) sz)) 0 0 (va_A (wC cI cS q N V A) sz) := by
  refine Met.ofW (cc := cX0_markNextOf) (maxL := 5) (ret := none) (by decide) rfl ?_
  intro p e s m args below meth c s₁ B hml hv
  obtain ⟨rfl, hsz, ⟨hP, hK, hN⟩, hD0⟩ := hv
  have hx := B.exec
  have hb := B.bytes
  have hr := B.returns
  have hts := atoms_spec (ws := wsX0_markNextOf) B.pre
  have hown : s.vm.findClass RX0 = some m.cls := findClass_of_methodNamed B.named
  have hlocks := B.notSynchronized
  have hin2 : ∀ w ∈ u_ws RX2 TX2 9, w ∈ wsX0_markNextOf := by decide +kernel
  subst hsz
  have hD := hD0.self (sz := s.heap.size)
  generalize hAe : va_A (wC cI cS q N V A) s.heap.size = Ar at hD ⊢
  have hA : ∀ q : Nat, s.heap.size ≤ q → Ar q := fun q h => by rw [← hAe]; exact Or.inr h
  have hS : va_S Ar s.heap s.heap [] := va_S.rf
  have hl := lv_entry ([.ref (q 25), .int (nI s0), .ref (q 2), .int r0]) (n := 5) (Nat.le_of_ble_eq_true rfl)
  rw [lg_entry_eq]
  generalize (lg_sl ([.ref (q 25), .int (nI s0), .ref (q 2), .int r0]) ++ List.replicate (5 - (lg_sl ([.ref (q 25), .int (nI s0), .ref (q 2), .int r0])).length) Slot.unset).toArray = ls at hl ⊢
  have hl : lv_has ls 5 [(0, .ref (q 25)), (1, .int (nI s0)), (2, .ref (q 2)), (3, .int r0)] := hl
  refine lv_iconst (v := (0)) hx hb dX0_markNextOf_0 (by decide) ?_
  refine lv_istore (lv' := [(4, .int (0)), (0, .ref (q 25)), (1, .int (nI s0)), (2, .ref (q 2)), (3, .int r0)]) hx hb dX0_markNextOf_1 hl (by decide) rfl (fun ls hl => ?_)
  have KL1 : ∀ (H : Heap) (locs : List Loc), va_P D vwCl (wC cI cS q N V (s_X0_markNextOf_L1 N V A s0 r0 (N 0) 0 A)) H → va_D Ar (wC cI cS q N V (s_X0_markNextOf_L1 N V A s0 r0 (N 0) 0 A)) → va_S Ar s.heap H locs → ∀ (ls : Array Slot), lv_has ls 5 [(0, .ref (q 25)), (1, .int (nI s0)), (2, .ref (q 2)), (3, .int r0)] → W p l e (headSpec wsX0_markNextOf ({ frames := 2, cells := 0, slots := 0, locals := 44 })).room s m ([.ref (q 25), .int (nI s0), .ref (q 2), .int r0] : List Value).toArray below meth c H locs 0 0 (MQ below (va_Qv (fun (_ : Unit) => True) (fun _ t => PC D cI cZ cS q (s_X0_markNextOf N V A s0 r0).1 (s_X0_markNextOf N V A s0 r0).2.1 (s_X0_markNextOf N V A s0 r0).2.2 t ∧ va_D Ar (wC cI cS q (s_X0_markNextOf N V A s0 r0).1 (s_X0_markNextOf N V A s0 r0).2.1 (s_X0_markNextOf N V A s0 r0).2.2)) Ar) ([.ref (q 25), .int (nI s0), .ref (q 2), .int r0] : List Value).toArray s 0 0 Ar) (F0 m 39 ls []) := by
    intro H locs hP hD hS ls hl
    have hEE : s_X0_markNextOf N V A s0 r0 = (N, V, (s_X0_markNextOf_L1 N V A s0 r0 (N 0) 0 A)) := (by rw [s_X0_markNextOf])
    rw [hEE]
    exact W.vret hx hb hr (fun t ht hW => ⟨⟨(), rfl, trivial, ⟨by rw [ht]; exact hP, va_K.moved hW.alike hK, hN.warm hW⟩, hD⟩, hS.F ht⟩) hS.2.2 dX0_markNextOf_39
  have LL1 : ∀ (n k : Nat) (A1 : Nat → Nat → Int32) (H : Heap) (locs : List Loc), va_P D vwCl (wC cI cS q N V A1) H → va_D Ar (wC cI cS q N V A1) → va_S Ar s.heap H locs → ∀ (ls : Array Slot), k + n = N 0 → s_X0_markNextOf_L1 N V A s0 r0 (N 0) 0 A = s_X0_markNextOf_L1 N V A s0 r0 n k A1 → lv_has ls 5 [(4, .int (nI k)), (0, .ref (q 25)), (1, .int (nI s0)), (2, .ref (q 2)), (3, .int r0)] → W p l e (headSpec wsX0_markNextOf ({ frames := 2, cells := 0, slots := 0, locals := 44 })).room s m ([.ref (q 25), .int (nI s0), .ref (q 2), .int r0] : List Value).toArray below meth c H locs 0 0 (MQ below (va_Qv (fun (_ : Unit) => True) (fun _ t => PC D cI cZ cS q (s_X0_markNextOf N V A s0 r0).1 (s_X0_markNextOf N V A s0 r0).2.1 (s_X0_markNextOf N V A s0 r0).2.2 t ∧ va_D Ar (wC cI cS q (s_X0_markNextOf N V A s0 r0).1 (s_X0_markNextOf N V A s0 r0).2.1 (s_X0_markNextOf N V A s0 r0).2.2)) Ar) ([.ref (q 25), .int (nI s0), .ref (q 2), .int r0] : List Value).toArray s 0 0 Ar) (F0 m 3 ls []) := by
    intro n
    induction n with
    | zero =>
      intro k A1 H locs hP hD hS ls hk hF hl
      refine lv_iload hx hb dX0_markNextOf_3 (lv_at hl 0 rfl) ?_
      refine lv_aload_n hx hb dX0_markNextOf_5 rfl (lv_at hl 3 rfl) ?_
      refine va_get (D := D) (ci := 2) (v := .int (nI (N 0))) (C := RX2) (T := TX2) (N := 9) hx hb hts hin2 hown hK hP 2 rfl rfl 7 (by decide) (hts (.fieldLink RX0 38 "NeckShip$Spars" "count" "I") (by decide +kernel)) (fun _ h9 => h9) rfl dX0_markNextOf_6 ?_
      refine lv_icmp_ge (tgt := 39) hx hb dX0_markNextOf_9 (by decide) (fun _ => ?_) (fun c_1 => absurd (nI_le (by omega) (by omega)) c_1)
      have hF : s_X0_markNextOf_L1 N V A s0 r0 (N 0) 0 A = A1 := hF.trans (by rw [s_X0_markNextOf_L1])
      exact KL1 _ _ (by (try rw [hF]); exact hP) (by (try rw [hF]); exact hD) hS _ (by (try rw [hF]); exact lv_sub hl [1, 2, 3, 4] rfl)
    | succ n ih =>
      intro k A1 H locs hP hD hS ls hk hF hl
      refine lv_iload hx hb dX0_markNextOf_3 (lv_at hl 0 rfl) ?_
      refine lv_aload_n hx hb dX0_markNextOf_5 rfl (lv_at hl 3 rfl) ?_
      refine va_get (D := D) (ci := 2) (v := .int (nI (N 0))) (C := RX2) (T := TX2) (N := 9) hx hb hts hin2 hown hK hP 2 rfl rfl 7 (by decide) (hts (.fieldLink RX0 38 "NeckShip$Spars" "count" "I") (by decide +kernel)) (fun _ h9 => h9) rfl dX0_markNextOf_6 ?_
      refine lv_icmp_ge (tgt := 39) hx hb dX0_markNextOf_9 (by decide) (fun c_2 => absurd c_2 (nI_ge (by omega) (by omega))) (fun _ => ?_)
      refine lv_aload_n hx hb dX0_markNextOf_12 rfl (lv_at hl 3 rfl) ?_
      refine lv_iload hx hb dX0_markNextOf_13 (lv_at hl 0 rfl) ?_
      refine lv_iload_n hx hb dX0_markNextOf_15 rfl (lv_at hl 2 rfl) ?_
      refine lv_iload_n hx hb dX0_markNextOf_16 rfl (lv_at hl 4 rfl) ?_
      refine vp_callSi (W.runV (As := [.int (nI k), .int (nI s0), .int r0]) (rest := []) ⟨hx, hb, hml, hown, hts⟩ (c_X2_mayRise l D cI cZ cS q N V A1 k (nI s0) r0 (by omega)) (cwV 3 hts gX0_markNextOf_X2_mayRise rfl rfl rfl (by decide +kernel) ⟨Nat.le_of_ble_eq_true rfl, Nat.le_of_ble_eq_true rfl⟩) (preC2 hK hN hP) rfl rfl hl.1 rfl (lv_room (Nat.le_of_ble_eq_true rfl)) dX0_markNextOf_17 ⟨Nat.zero_le _, Nat.zero_le _⟩) (fun r_3 er_3 => ?_)
      subst er_3
      refine lz_if_eq (tgt := 33) hx hb dX0_markNextOf_20 (by decide) (fun c_4 => ?_) (fun c_4 => ?_)
      · refine lv_iinc (v := nI (k + 1)) (lv' := [(4, .int (nI (k + 1))), (0, .ref (q 25)), (1, .int (nI s0)), (2, .ref (q 2)), (3, .int r0)]) hx hb dX0_markNextOf_33 hl (k := 0) rfl (nI_1 k) (by decide) rfl (fun ls hl => ?_)
        refine lv_goto (tgt := 3) hx hb dX0_markNextOf_36 (by decide) ?_
        exact ih (k + 1) A1 _ _ hP hD hS _ (by omega) (hF.trans (by rw [s_X0_markNextOf_L1, if_neg (nb c_4)])) (lv_sub hl [0, 1, 2, 3, 4] rfl)
      · refine lv_aload_n hx hb dX0_markNextOf_23 rfl (lv_at hl 1 rfl) ?_
        refine lv_iload_n hx hb dX0_markNextOf_24 rfl (lv_at hl 2 rfl) ?_
        refine lv_iconst (v := (1)) hx hb dX0_markNextOf_25 (by decide) ?_
        refine lv_iload hx hb dX0_markNextOf_26 (lv_at hl 0 rfl) ?_
        refine lv_ishl hx hb dX0_markNextOf_28 ?_
        rw [sh1 (k := k) (by omega)]
        refine lv_ior hx hb dX0_markNextOf_29 ?_
        rw [fa_or s0 (2 ^ k)]
        refine callCv (va_runV (As := [.int (nI (s0 ||| (2 ^ k)))]) (rest := []) ⟨hx, hb, hml, hown, hts⟩ (c_X0_mark l D cI cZ cS q N V A1 H.size (s0 ||| (2 ^ k)) (or1024 (by omega) (by omega))) (cwV 1 hts gX0_markNextOf_X0_mark rfl rfl rfl (by decide +kernel) ⟨Nat.le_of_ble_eq_true rfl, Nat.le_of_ble_eq_true rfl⟩) (preCm0 hK hN hP hD) rfl rfl hl.1 rfl (lv_room (Nat.le_of_ble_eq_true rfl)) dX0_markNextOf_30 ⟨Nat.zero_le _, Nat.zero_le _⟩) hD hS hA (fun H locs hP hD hS => ?_)
        have hP : va_P D vwCl (wC cI cS q N V ((s_X0_mark N V A1 (s0 ||| (2 ^ k))).2.2)) H := hP
        have hD : va_D Ar (wC cI cS q N V ((s_X0_mark N V A1 (s0 ||| (2 ^ k))).2.2)) := hD
        refine lv_iinc (v := nI (k + 1)) (lv' := [(4, .int (nI (k + 1))), (0, .ref (q 25)), (1, .int (nI s0)), (2, .ref (q 2)), (3, .int r0)]) hx hb dX0_markNextOf_33 hl (k := 0) rfl (nI_1 k) (by decide) rfl (fun ls hl => ?_)
        refine lv_goto (tgt := 3) hx hb dX0_markNextOf_36 (by decide) ?_
        exact ih (k + 1) ((s_X0_mark N V A1 (s0 ||| (2 ^ k))).2.2) _ _ hP hD hS _ (by omega) (hF.trans (by rw [s_X0_markNextOf_L1, if_pos c_4])) (lv_sub hl [0, 1, 2, 3, 4] rfl)
  exact LL1 (N 0) 0 A _ _ hP hD hS _ (by omega) rfl (lv_sub hl [0, 1, 2, 3, 4] rfl)
def s_X0_search_L1 (N : Nat → Nat) (V : Nat → Int32) (A : Nat → Nat → Int32) (r0 : Int32) : Nat → Nat → (Nat → Int32) → (Nat → Nat → Int32) → (Nat → Int32) × (Nat → Nat → Int32)
  | 0, k, V1, A1 =>
    (V1, A1)
  | n + 1, k, V1, A1 =>
    if (s_X0_isMarked N V1 A1 k) = true then
      s_X0_search_L1 N V A r0 n (k + 1) ((s_X0_count N V1 A1 k).2.1) ((s_X0_markNextOf N ((s_X0_count N V1 A1 k).2.1) A1 k r0).2.2)
    else
      s_X0_search_L1 N V A r0 n (k + 1) V1 A1
def s_X0_search (N : Nat → Nat) (V : Nat → Int32) (A : Nat → Nat → Int32)  (r0 : Int32) : St :=
  (N, (s_X0_search_L1 N V A r0 (2 ^ N 0 - N 2) (N 2) (va_up (va_up (va_up V 2 (0 : Int32)) 3 (0 : Int32)) 4 (0 : Int32)) ((s_X0_mark N (va_up (va_up (va_up V 2 (0 : Int32)) 3 (0 : Int32)) 4 (0 : Int32)) (va_up A 26 (fillN (A 26) (0 : Int32) 32)) (N 2)).2.2)).1, (s_X0_search_L1 N V A r0 (2 ^ N 0 - N 2) (N 2) (va_up (va_up (va_up V 2 (0 : Int32)) 3 (0 : Int32)) 4 (0 : Int32)) ((s_X0_mark N (va_up (va_up (va_up V 2 (0 : Int32)) 3 (0 : Int32)) 4 (0 : Int32)) (va_up A 26 (fillN (A 26) (0 : Int32) 32)) (N 2)).2.2)).2)
set_option maxHeartbeats 4000000 in
set_option maxRecDepth 100000 in
theorem c_X0_search (l : Launch) (D : va_G) (cI cZ cS : ClassId) (q : Nat → Nat) (N : Nat → Nat) (V : Nat → Int32) (A : Nat → Nat → Int32) (sz : Nat) (r0 : Int32) (h_1 : N 0 ≤ 10) (h_2 : N 2 < 2 ^ N 0) : Met l yX0_search wsX0_search ({ frames := 3, cells := 0, slots := 0, locals := 68 }) (va_Pc [.ref (q 25), .ref (q 2), .int r0] (fun U => U.heap.size = sz ∧ PC D cI cZ cS q N V A U ∧ va_D (fun _ => True) (wC cI cS q N V A))) (va_Qv (fun (_ : Unit) => True) (fun _ t => PC D cI cZ cS q (s_X0_search N V A r0).1 (s_X0_search N V A r0).2.1 (s_X0_search N V A r0).2.2 t ∧ va_D (va_A (wC cI cS q N V A) sz) (wC cI cS q (s_X0_search N V A r0).1 (s_X0_search N V A r0).2.1 (s_X0_search N V A r0).2.2)) (va_A (wC cI cS q N V A) sz)) 0 0 (va_A (wC cI cS q N V A) sz) := by
  refine Met.ofW (cc := cX0_search) (maxL := 4) (ret := none) (by decide) rfl ?_
  intro p e s m args below meth c s₁ B hml hv
  obtain ⟨rfl, hsz, ⟨hP, hK, hN⟩, hD0⟩ := hv
  have hx := B.exec
  have hb := B.bytes
  have hr := B.returns
  have hts := atoms_spec (ws := wsX0_search) B.pre
  have hown : s.vm.findClass RX0 = some m.cls := findClass_of_methodNamed B.named
  have hlocks := B.notSynchronized
  have hin0 : ∀ w ∈ u_ws RX0 TX0 4, w ∈ wsX0_search := by decide +kernel
  have hin2 : ∀ w ∈ u_ws RX2 TX2 9, w ∈ wsX0_search := by decide +kernel
  subst hsz
  have hD := hD0.self (sz := s.heap.size)
  generalize hAe : va_A (wC cI cS q N V A) s.heap.size = Ar at hD ⊢
  have hA : ∀ q : Nat, s.heap.size ≤ q → Ar q := fun q h => by rw [← hAe]; exact Or.inr h
  have hS : va_S Ar s.heap s.heap [] := va_S.rf
  have o1 := h_1
  have hp : 2 ^ N 0 ≤ 2 ^ 10 := Nat.pow_le_pow_right (by omega) o1
  have hp1 : 1 ≤ 2 ^ N 0 := Nat.one_le_two_pow
  have hp2 : (2 : Nat) ^ 10 = 1024 := rfl
  have hl := lv_entry ([.ref (q 25), .ref (q 2), .int r0]) (n := 4) (Nat.le_of_ble_eq_true rfl)
  rw [lg_entry_eq]
  generalize (lg_sl ([.ref (q 25), .ref (q 2), .int r0]) ++ List.replicate (4 - (lg_sl ([.ref (q 25), .ref (q 2), .int r0])).length) Slot.unset).toArray = ls at hl ⊢
  have hl : lv_has ls 4 [(0, .ref (q 25)), (1, .ref (q 2)), (2, .int r0)] := hl
  refine lv_aload_n hx hb dX0_search_0 rfl (lv_at hl 0 rfl) ?_
  refine va_get (D := D) (ci := 0) (v := .ref (q 26)) (C := RX0) (T := TX0) (N := 4) hx hb hts hin0 hown hK hP 25 rfl rfl 0 (by decide) (hts (.fieldLink RX0 9 "NeckShip$Rising" "bits" "[I") (by decide +kernel)) (fun _ h9 => h9) rfl dX0_search_1 ?_
  refine lv_iconst (v := (0)) hx hb dX0_search_4 (by decide) ?_
  refine callFill (va_runS (As := [.ref (q 26), .int (0)]) (rest := []) ⟨hx, hb, hml, hown, hts⟩ (c_fill l D cI cZ cS (wC cI cS q N V A) 26 (q 26) 32 (A 26) (0 : Int32) s.heap.size rfl (by decide)) (va_cwS 2 hts gX0_search_J7_fill_53178 rfl rfl rfl (by decide +kernel) ⟨Nat.le_of_ble_eq_true rfl, Nat.le_of_ble_eq_true rfl⟩) (preFill hK hP hD) rfl rfl hl.1 rfl (lv_room (Nat.le_of_ble_eq_true rfl)) dX0_search_5 ⟨Nat.zero_le _, Nat.zero_le _⟩) hD hS hA (fun H locs hP hD hS => ?_)
  have hP : va_P D vwCl (wC cI cS q N V (va_up A 26 (fillN (A 26) (0 : Int32) 32))) H := hP
  have hD : va_D Ar (wC cI cS q N V (va_up A 26 (fillN (A 26) (0 : Int32) 32))) := hD
  refine lv_aload_n hx hb dX0_search_8 rfl (lv_at hl 0 rfl) ?_
  refine lv_iconst (v := (0)) hx hb dX0_search_9 (by decide) ?_
  refine va_put (D := D) (ci := 0) (v := .int (0)) (ty := .int) (C := RX0) (T := TX0) (N := 4) hx hb hts hin0 tyX0 tyX0_ok nmX0 hown hK hP hD hS 25 rfl rfl 1 (by decide) (hts (.fieldLink RX0 15 "NeckShip$Rising" "sets" "I") (by decide +kernel)) (fun _ h9 => h9) rfl (by decide +kernel) rfl rfl (Nat.le_of_ble_eq_true rfl) dX0_search_10 (fun H locs hP hD hS => ?_)
  have hP : va_P D vwCl (wC cI cS q N (va_up V 2 (0 : Int32)) (va_up A 26 (fillN (A 26) (0 : Int32) 32))) H := hP
  have hD : va_D Ar (wC cI cS q N (va_up V 2 (0 : Int32)) (va_up A 26 (fillN (A 26) (0 : Int32) 32))) := hD
  refine lv_aload_n hx hb dX0_search_13 rfl (lv_at hl 0 rfl) ?_
  refine lv_iconst (v := (0)) hx hb dX0_search_14 (by decide) ?_
  refine va_put (D := D) (ci := 0) (v := .int (0)) (ty := .int) (C := RX0) (T := TX0) (N := 4) hx hb hts hin0 tyX0 tyX0_ok nmX0 hown hK hP hD hS 25 rfl rfl 2 (by decide) (hts (.fieldLink RX0 19 "NeckShip$Rising" "most" "I") (by decide +kernel)) (fun _ h9 => h9) rfl (by decide +kernel) rfl rfl (Nat.le_of_ble_eq_true rfl) dX0_search_15 (fun H locs hP hD hS => ?_)
  have hP : va_P D vwCl (wC cI cS q N (va_up (va_up V 2 (0 : Int32)) 3 (0 : Int32)) (va_up A 26 (fillN (A 26) (0 : Int32) 32))) H := hP
  have hD : va_D Ar (wC cI cS q N (va_up (va_up V 2 (0 : Int32)) 3 (0 : Int32)) (va_up A 26 (fillN (A 26) (0 : Int32) 32))) := hD
  refine lv_aload_n hx hb dX0_search_18 rfl (lv_at hl 0 rfl) ?_
  refine lv_iconst (v := (0)) hx hb dX0_search_19 (by decide) ?_
  refine va_put (D := D) (ci := 0) (v := .int (0)) (ty := .int) (C := RX0) (T := TX0) (N := 4) hx hb hts hin0 tyX0 tyX0_ok nmX0 hown hK hP hD hS 25 rfl rfl 3 (by decide) (hts (.fieldLink RX0 22 "NeckShip$Rising" "some" "I") (by decide +kernel)) (fun _ h9 => h9) rfl (by decide +kernel) rfl rfl (Nat.le_of_ble_eq_true rfl) dX0_search_20 (fun H locs hP hD hS => ?_)
  have hP : va_P D vwCl (wC cI cS q N (va_up (va_up (va_up V 2 (0 : Int32)) 3 (0 : Int32)) 4 (0 : Int32)) (va_up A 26 (fillN (A 26) (0 : Int32) 32))) H := hP
  have hD : va_D Ar (wC cI cS q N (va_up (va_up (va_up V 2 (0 : Int32)) 3 (0 : Int32)) 4 (0 : Int32)) (va_up A 26 (fillN (A 26) (0 : Int32) 32))) := hD
  refine lv_aload_n hx hb dX0_search_23 rfl (lv_at hl 0 rfl) ?_
  refine lv_aload_n hx hb dX0_search_24 rfl (lv_at hl 1 rfl) ?_
  refine va_get (D := D) (ci := 2) (v := .int (nI (N 2))) (C := RX2) (T := TX2) (N := 9) hx hb hts hin2 hown hK hP 2 rfl rfl 8 (by decide) (hts (.fieldLink RX0 31 "NeckShip$Spars" "up" "I") (by decide +kernel)) (fun _ h9 => h9) rfl dX0_search_25 ?_
  refine callCv (va_runV (As := [.int (nI (N 2))]) (rest := []) ⟨hx, hb, hml, hown, hts⟩ (c_X0_mark l D cI cZ cS q N (va_up (va_up (va_up V 2 (0 : Int32)) 3 (0 : Int32)) 4 (0 : Int32)) (va_up A 26 (fillN (A 26) (0 : Int32) 32)) H.size (N 2) (by omega)) (cwV 1 hts gX0_search_X0_mark rfl rfl rfl (by decide +kernel) ⟨Nat.le_of_ble_eq_true rfl, Nat.le_of_ble_eq_true rfl⟩) (preCm0 hK hN hP hD) rfl rfl hl.1 rfl (lv_room (Nat.le_of_ble_eq_true rfl)) dX0_search_28 ⟨Nat.zero_le _, Nat.zero_le _⟩) hD hS hA (fun H locs hP hD hS => ?_)
  have hP : va_P D vwCl (wC cI cS q N (va_up (va_up (va_up V 2 (0 : Int32)) 3 (0 : Int32)) 4 (0 : Int32)) ((s_X0_mark N (va_up (va_up (va_up V 2 (0 : Int32)) 3 (0 : Int32)) 4 (0 : Int32)) (va_up A 26 (fillN (A 26) (0 : Int32) 32)) (N 2)).2.2)) H := hP
  have hD : va_D Ar (wC cI cS q N (va_up (va_up (va_up V 2 (0 : Int32)) 3 (0 : Int32)) 4 (0 : Int32)) ((s_X0_mark N (va_up (va_up (va_up V 2 (0 : Int32)) 3 (0 : Int32)) 4 (0 : Int32)) (va_up A 26 (fillN (A 26) (0 : Int32) 32)) (N 2)).2.2)) := hD
  refine lv_aload_n hx hb dX0_search_31 rfl (lv_at hl 1 rfl) ?_
  refine va_get (D := D) (ci := 2) (v := .int (nI (N 2))) (C := RX2) (T := TX2) (N := 9) hx hb hts hin2 hown hK hP 2 rfl rfl 8 (by decide) (hts (.fieldLink RX0 31 "NeckShip$Spars" "up" "I") (by decide +kernel)) (fun _ h9 => h9) rfl dX0_search_32 ?_
  refine lv_istore_n (lv' := [(3, .int (nI (N 2))), (0, .ref (q 25)), (1, .ref (q 2)), (2, .int r0)]) hx hb dX0_search_35 rfl hl (by decide) rfl (fun ls hl => ?_)
  have KL1 : ∀ (H : Heap) (locs : List Loc), va_P D vwCl (wC cI cS q N ((s_X0_search_L1 N V A r0 (2 ^ N 0 - N 2) (N 2) (va_up (va_up (va_up V 2 (0 : Int32)) 3 (0 : Int32)) 4 (0 : Int32)) ((s_X0_mark N (va_up (va_up (va_up V 2 (0 : Int32)) 3 (0 : Int32)) 4 (0 : Int32)) (va_up A 26 (fillN (A 26) (0 : Int32) 32)) (N 2)).2.2)).1) ((s_X0_search_L1 N V A r0 (2 ^ N 0 - N 2) (N 2) (va_up (va_up (va_up V 2 (0 : Int32)) 3 (0 : Int32)) 4 (0 : Int32)) ((s_X0_mark N (va_up (va_up (va_up V 2 (0 : Int32)) 3 (0 : Int32)) 4 (0 : Int32)) (va_up A 26 (fillN (A 26) (0 : Int32) 32)) (N 2)).2.2)).2)) H → va_D Ar (wC cI cS q N ((s_X0_search_L1 N V A r0 (2 ^ N 0 - N 2) (N 2) (va_up (va_up (va_up V 2 (0 : Int32)) 3 (0 : Int32)) 4 (0 : Int32)) ((s_X0_mark N (va_up (va_up (va_up V 2 (0 : Int32)) 3 (0 : Int32)) 4 (0 : Int32)) (va_up A 26 (fillN (A 26) (0 : Int32) 32)) (N 2)).2.2)).1) ((s_X0_search_L1 N V A r0 (2 ^ N 0 - N 2) (N 2) (va_up (va_up (va_up V 2 (0 : Int32)) 3 (0 : Int32)) 4 (0 : Int32)) ((s_X0_mark N (va_up (va_up (va_up V 2 (0 : Int32)) 3 (0 : Int32)) 4 (0 : Int32)) (va_up A 26 (fillN (A 26) (0 : Int32) 32)) (N 2)).2.2)).2)) → va_S Ar s.heap H locs → ∀ (ls : Array Slot), lv_has ls 4 [(0, .ref (q 25)), (1, .ref (q 2)), (2, .int r0)] → W p l e (headSpec wsX0_search ({ frames := 3, cells := 0, slots := 0, locals := 68 })).room s m ([.ref (q 25), .ref (q 2), .int r0] : List Value).toArray below meth c H locs 0 0 (MQ below (va_Qv (fun (_ : Unit) => True) (fun _ t => PC D cI cZ cS q (s_X0_search N V A r0).1 (s_X0_search N V A r0).2.1 (s_X0_search N V A r0).2.2 t ∧ va_D Ar (wC cI cS q (s_X0_search N V A r0).1 (s_X0_search N V A r0).2.1 (s_X0_search N V A r0).2.2)) Ar) ([.ref (q 25), .ref (q 2), .int r0] : List Value).toArray s 0 0 Ar) (F0 m 72 ls []) := by
    intro H locs hP hD hS ls hl
    have hEE : s_X0_search N V A r0 = (N, (s_X0_search_L1 N V A r0 (2 ^ N 0 - N 2) (N 2) (va_up (va_up (va_up V 2 (0 : Int32)) 3 (0 : Int32)) 4 (0 : Int32)) ((s_X0_mark N (va_up (va_up (va_up V 2 (0 : Int32)) 3 (0 : Int32)) 4 (0 : Int32)) (va_up A 26 (fillN (A 26) (0 : Int32) 32)) (N 2)).2.2)).1, (s_X0_search_L1 N V A r0 (2 ^ N 0 - N 2) (N 2) (va_up (va_up (va_up V 2 (0 : Int32)) 3 (0 : Int32)) 4 (0 : Int32)) ((s_X0_mark N (va_up (va_up (va_up V 2 (0 : Int32)) 3 (0 : Int32)) 4 (0 : Int32)) (va_up A 26 (fillN (A 26) (0 : Int32) 32)) (N 2)).2.2)).2) := (by rw [s_X0_search])
    rw [hEE]
    exact W.vret hx hb hr (fun t ht hW => ⟨⟨(), rfl, trivial, ⟨by rw [ht]; exact hP, va_K.moved hW.alike hK, hN.warm hW⟩, hD⟩, hS.F ht⟩) hS.2.2 dX0_search_72
  have LL1 : ∀ (n k : Nat) (V1 : Nat → Int32) (A1 : Nat → Nat → Int32) (H : Heap) (locs : List Loc), va_P D vwCl (wC cI cS q N V1 A1) H → va_D Ar (wC cI cS q N V1 A1) → va_S Ar s.heap H locs → ∀ (ls : Array Slot), k + n = 2 ^ N 0 → s_X0_search_L1 N V A r0 (2 ^ N 0 - N 2) (N 2) (va_up (va_up (va_up V 2 (0 : Int32)) 3 (0 : Int32)) 4 (0 : Int32)) ((s_X0_mark N (va_up (va_up (va_up V 2 (0 : Int32)) 3 (0 : Int32)) 4 (0 : Int32)) (va_up A 26 (fillN (A 26) (0 : Int32) 32)) (N 2)).2.2) = s_X0_search_L1 N V A r0 n k V1 A1 → lv_has ls 4 [(3, .int (nI k)), (0, .ref (q 25)), (1, .ref (q 2)), (2, .int r0)] → W p l e (headSpec wsX0_search ({ frames := 3, cells := 0, slots := 0, locals := 68 })).room s m ([.ref (q 25), .ref (q 2), .int r0] : List Value).toArray below meth c H locs 0 0 (MQ below (va_Qv (fun (_ : Unit) => True) (fun _ t => PC D cI cZ cS q (s_X0_search N V A r0).1 (s_X0_search N V A r0).2.1 (s_X0_search N V A r0).2.2 t ∧ va_D Ar (wC cI cS q (s_X0_search N V A r0).1 (s_X0_search N V A r0).2.1 (s_X0_search N V A r0).2.2)) Ar) ([.ref (q 25), .ref (q 2), .int r0] : List Value).toArray s 0 0 Ar) (F0 m 36 ls []) := by
    intro n
    induction n with
    | zero =>
      intro k V1 A1 H locs hP hD hS ls hk hF hl
      refine lv_iload_n hx hb dX0_search_36 rfl (lv_at hl 0 rfl) ?_
      refine lv_iconst (v := (1)) hx hb dX0_search_37 (by decide) ?_
      refine lv_aload_n hx hb dX0_search_38 rfl (lv_at hl 2 rfl) ?_
      refine va_get (D := D) (ci := 2) (v := .int (nI (N 0))) (C := RX2) (T := TX2) (N := 9) hx hb hts hin2 hown hK hP 2 rfl rfl 7 (by decide) (hts (.fieldLink RX0 38 "NeckShip$Spars" "count" "I") (by decide +kernel)) (fun _ h9 => h9) rfl dX0_search_39 ?_
      refine lv_ishl hx hb dX0_search_42 ?_
      rw [sh1 (k := N 0) (by omega)]
      refine lv_icmp_ge (tgt := 72) hx hb dX0_search_43 (by decide) (fun _ => ?_) (fun c_1 => absurd (nI_le (by omega) (by omega)) c_1)
      have hF : s_X0_search_L1 N V A r0 (2 ^ N 0 - N 2) (N 2) (va_up (va_up (va_up V 2 (0 : Int32)) 3 (0 : Int32)) 4 (0 : Int32)) ((s_X0_mark N (va_up (va_up (va_up V 2 (0 : Int32)) 3 (0 : Int32)) 4 (0 : Int32)) (va_up A 26 (fillN (A 26) (0 : Int32) 32)) (N 2)).2.2) = (V1, A1) := hF.trans (by rw [s_X0_search_L1])
      have hF0 := congrArg (fun z => z.1) hF
      have hF1 := congrArg (fun z => z.2) hF
      dsimp only at hF0 hF1
      exact KL1 _ _ (by (try rw [hF0]); (try rw [hF1]); exact hP) (by (try rw [hF0]); (try rw [hF1]); exact hD) hS _ (by (try rw [hF0]); (try rw [hF1]); exact lv_sub hl [1, 2, 3] rfl)
    | succ n ih =>
      intro k V1 A1 H locs hP hD hS ls hk hF hl
      refine lv_iload_n hx hb dX0_search_36 rfl (lv_at hl 0 rfl) ?_
      refine lv_iconst (v := (1)) hx hb dX0_search_37 (by decide) ?_
      refine lv_aload_n hx hb dX0_search_38 rfl (lv_at hl 2 rfl) ?_
      refine va_get (D := D) (ci := 2) (v := .int (nI (N 0))) (C := RX2) (T := TX2) (N := 9) hx hb hts hin2 hown hK hP 2 rfl rfl 7 (by decide) (hts (.fieldLink RX0 38 "NeckShip$Spars" "count" "I") (by decide +kernel)) (fun _ h9 => h9) rfl dX0_search_39 ?_
      refine lv_ishl hx hb dX0_search_42 ?_
      rw [sh1 (k := N 0) (by omega)]
      refine lv_icmp_ge (tgt := 72) hx hb dX0_search_43 (by decide) (fun c_2 => absurd c_2 (nI_ge (by omega) (by omega))) (fun _ => ?_)
      refine lv_aload_n hx hb dX0_search_46 rfl (lv_at hl 1 rfl) ?_
      refine lv_iload_n hx hb dX0_search_47 rfl (lv_at hl 0 rfl) ?_
      refine vp_callSi (W.runV (As := [.int (nI k)]) (rest := []) ⟨hx, hb, hml, hown, hts⟩ (c_X0_isMarked l D cI cZ cS q N V1 A1 k (by omega)) (cwV 1 hts gX0_search_X0_isMarked rfl rfl rfl (by decide +kernel) ⟨Nat.le_of_ble_eq_true rfl, Nat.le_of_ble_eq_true rfl⟩) (preC0 hK hN hP) rfl rfl hl.1 rfl (lv_room (Nat.le_of_ble_eq_true rfl)) dX0_search_48 ⟨Nat.zero_le _, Nat.zero_le _⟩) (fun r_3 er_3 => ?_)
      subst er_3
      refine lz_if_eq (tgt := 66) hx hb dX0_search_51 (by decide) (fun c_4 => ?_) (fun c_4 => ?_)
      · refine lv_iinc (v := nI (k + 1)) (lv' := [(3, .int (nI (k + 1))), (0, .ref (q 25)), (1, .ref (q 2)), (2, .int r0)]) hx hb dX0_search_66 hl (k := 0) rfl (nI_1 k) (by decide) rfl (fun ls hl => ?_)
        refine lv_goto (tgt := 36) hx hb dX0_search_69 (by decide) ?_
        exact ih (k + 1) V1 A1 _ _ hP hD hS _ (by omega) (hF.trans (by rw [s_X0_search_L1, if_neg (nb c_4)])) (lv_sub hl [0, 1, 2, 3] rfl)
      · refine lv_aload_n hx hb dX0_search_54 rfl (lv_at hl 1 rfl) ?_
        refine lv_iload_n hx hb dX0_search_55 rfl (lv_at hl 0 rfl) ?_
        refine callCv (va_runV (As := [.int (nI k)]) (rest := []) ⟨hx, hb, hml, hown, hts⟩ (c_X0_count l D cI cZ cS q N V1 A1 H.size k (by omega)) (cwV 1 hts gX0_search_X0_count rfl rfl rfl (by decide +kernel) ⟨Nat.le_of_ble_eq_true rfl, Nat.le_of_ble_eq_true rfl⟩) (preCm0 hK hN hP hD) rfl rfl hl.1 rfl (lv_room (Nat.le_of_ble_eq_true rfl)) dX0_search_56 ⟨Nat.zero_le _, Nat.zero_le _⟩) hD hS hA (fun H locs hP hD hS => ?_)
        have hP : va_P D vwCl (wC cI cS q N ((s_X0_count N V1 A1 k).2.1) A1) H := hP
        have hD : va_D Ar (wC cI cS q N ((s_X0_count N V1 A1 k).2.1) A1) := hD
        refine lv_aload_n hx hb dX0_search_59 rfl (lv_at hl 1 rfl) ?_
        refine lv_iload_n hx hb dX0_search_60 rfl (lv_at hl 0 rfl) ?_
        refine lv_aload_n hx hb dX0_search_61 rfl (lv_at hl 2 rfl) ?_
        refine lv_iload_n hx hb dX0_search_62 rfl (lv_at hl 3 rfl) ?_
        refine callCv (va_runV (As := [.int (nI k), .ref (q 2), .int r0]) (rest := []) ⟨hx, hb, hml, hown, hts⟩ (c_X0_markNextOf l D cI cZ cS q N ((s_X0_count N V1 A1 k).2.1) A1 H.size k r0 (by omega) (by omega)) (cwV 3 hts gX0_search_X0_markNextOf rfl rfl rfl (by decide +kernel) ⟨Nat.le_of_ble_eq_true rfl, Nat.le_of_ble_eq_true rfl⟩) (preCm0 hK hN hP hD) rfl rfl hl.1 rfl (lv_room (Nat.le_of_ble_eq_true rfl)) dX0_search_63 ⟨Nat.zero_le _, Nat.zero_le _⟩) hD hS hA (fun H locs hP hD hS => ?_)
        have hP : va_P D vwCl (wC cI cS q N ((s_X0_count N V1 A1 k).2.1) ((s_X0_markNextOf N ((s_X0_count N V1 A1 k).2.1) A1 k r0).2.2)) H := hP
        have hD : va_D Ar (wC cI cS q N ((s_X0_count N V1 A1 k).2.1) ((s_X0_markNextOf N ((s_X0_count N V1 A1 k).2.1) A1 k r0).2.2)) := hD
        refine lv_iinc (v := nI (k + 1)) (lv' := [(3, .int (nI (k + 1))), (0, .ref (q 25)), (1, .ref (q 2)), (2, .int r0)]) hx hb dX0_search_66 hl (k := 0) rfl (nI_1 k) (by decide) rfl (fun ls hl => ?_)
        refine lv_goto (tgt := 36) hx hb dX0_search_69 (by decide) ?_
        exact ih (k + 1) ((s_X0_count N V1 A1 k).2.1) ((s_X0_markNextOf N ((s_X0_count N V1 A1 k).2.1) A1 k r0).2.2) _ _ hP hD hS _ (by omega) (hF.trans (by rw [s_X0_search_L1, if_pos c_4])) (lv_sub hl [0, 1, 2, 3] rfl)
  exact LL1 (2 ^ N 0 - N 2) (N 2) (va_up (va_up (va_up V 2 (0 : Int32)) 3 (0 : Int32)) 4 (0 : Int32)) ((s_X0_mark N (va_up (va_up (va_up V 2 (0 : Int32)) 3 (0 : Int32)) 4 (0 : Int32)) (va_up A 26 (fillN (A 26) (0 : Int32) 32)) (N 2)).2.2) _ _ hP hD hS _ (by omega) rfl (lv_sub hl [0, 1, 2, 3] rfl)
def s_X3_add_L1 (N : Nat → Nat) (V : Nat → Int32) (A : Nat → Nat → Int32) (h0 : Int32) (s0 : Int32) (p0 : Int32) (f0 : Int32) (b0 : Bool) : Nat → Nat → (Nat → Nat → Int32) → (Nat → Nat → Int32)
  | 0, k, A1 =>
    A1
  | n + 1, k, A1 =>
    if (s_X3_haveInnerPointInCommon N V A1 k (N 1)) = true then
      s_X3_add_L1 N V A h0 s0 p0 f0 b0 n (k + 1) (va_up (va_up A1 15 (upd (A1 15) k (A1 15 k ||| nI (2 ^ (N 1))))) 15 (upd ((va_up A1 15 (upd (A1 15) k (A1 15 k ||| nI (2 ^ (N 1))))) 15) (N 1) ((va_up A1 15 (upd (A1 15) k (A1 15 k ||| nI (2 ^ (N 1))))) 15 (N 1) ||| nI (2 ^ k))))
    else
      s_X3_add_L1 N V A h0 s0 p0 f0 b0 n (k + 1) A1
def s_X3_add (N : Nat → Nat) (V : Nat → Int32) (A : Nat → Nat → Int32)  (h0 : Int32) (s0 : Int32) (p0 : Int32) (f0 : Int32) (b0 : Bool) : Int32 × St :=
  if nI (N 1) < (16 : Int32) then
    if b0 = true then
      (nI (N 1), (va_up (va_up (va_up N 4 ((N 4) ||| (2 ^ (N 1)))) 3 (((va_up N 4 ((N 4) ||| (2 ^ (N 1)))) 3) ||| (2 ^ (N 1)))) 1 (((va_up (va_up N 4 ((N 4) ||| (2 ^ (N 1)))) 3 (((va_up N 4 ((N 4) ||| (2 ^ (N 1)))) 3) ||| (2 ^ (N 1)))) 1) + 1)), V, (s_X3_add_L1 N V A h0 s0 p0 f0 b0 (N 1) 0 (va_up (va_up (va_up (va_up A 11 (upd (A 11) (N 1) h0)) 12 (upd ((va_up A 11 (upd (A 11) (N 1) h0)) 12) (N 1) s0)) 13 (upd ((va_up (va_up A 11 (upd (A 11) (N 1) h0)) 12 (upd ((va_up A 11 (upd (A 11) (N 1) h0)) 12) (N 1) s0)) 13) (N 1) p0)) 14 (upd ((va_up (va_up (va_up A 11 (upd (A 11) (N 1) h0)) 12 (upd ((va_up A 11 (upd (A 11) (N 1) h0)) 12) (N 1) s0)) 13 (upd ((va_up (va_up A 11 (upd (A 11) (N 1) h0)) 12 (upd ((va_up A 11 (upd (A 11) (N 1) h0)) 12) (N 1) s0)) 13) (N 1) p0)) 14) (N 1) f0))))
    else
      (nI (N 1), (va_up (va_up N 4 ((N 4) ||| (2 ^ (N 1)))) 1 (((va_up N 4 ((N 4) ||| (2 ^ (N 1)))) 1) + 1)), V, (s_X3_add_L1 N V A h0 s0 p0 f0 b0 (N 1) 0 (va_up (va_up (va_up (va_up A 11 (upd (A 11) (N 1) h0)) 12 (upd ((va_up A 11 (upd (A 11) (N 1) h0)) 12) (N 1) s0)) 13 (upd ((va_up (va_up A 11 (upd (A 11) (N 1) h0)) 12 (upd ((va_up A 11 (upd (A 11) (N 1) h0)) 12) (N 1) s0)) 13) (N 1) p0)) 14 (upd ((va_up (va_up (va_up A 11 (upd (A 11) (N 1) h0)) 12 (upd ((va_up A 11 (upd (A 11) (N 1) h0)) 12) (N 1) s0)) 13 (upd ((va_up (va_up A 11 (upd (A 11) (N 1) h0)) 12 (upd ((va_up A 11 (upd (A 11) (N 1) h0)) 12) (N 1) s0)) 13) (N 1) p0)) 14) (N 1) f0))))
  else
    ((-4 : Int32), N, V, A)
set_option maxHeartbeats 4000000 in
set_option maxRecDepth 100000 in
theorem c_X3_add (l : Launch) (D : va_G) (cI cZ cS : ClassId) (q : Nat → Nat) (N : Nat → Nat) (V : Nat → Int32) (A : Nat → Nat → Int32) (sz : Nat) (h0 : Int32) (s0 : Int32) (p0 : Int32) (f0 : Int32) (b0 : Bool) (h_1 : N 1 ≤ 16) : Met l yX3_add wsX3_add ({ frames := 2, cells := 0, slots := 0, locals := 47 }) (va_Pc [.ref (q 10), .int h0, .int s0, .int p0, .int f0, .int (b2i b0)] (fun U => U.heap.size = sz ∧ PC D cI cZ cS q N V A U ∧ va_D (fun _ => True) (wC cI cS q N V A))) (va_Qi (fun r (_ : Unit) => r = (s_X3_add N V A h0 s0 p0 f0 b0).1) (fun _ t => PC D cI cZ cS q (s_X3_add N V A h0 s0 p0 f0 b0).2.1 (s_X3_add N V A h0 s0 p0 f0 b0).2.2.1 (s_X3_add N V A h0 s0 p0 f0 b0).2.2.2 t ∧ va_D (va_A (wC cI cS q N V A) sz) (wC cI cS q (s_X3_add N V A h0 s0 p0 f0 b0).2.1 (s_X3_add N V A h0 s0 p0 f0 b0).2.2.1 (s_X3_add N V A h0 s0 p0 f0 b0).2.2.2)) (va_A (wC cI cS q N V A) sz)) 0 0 (va_A (wC cI cS q N V A) sz) := by
  refine Met.ofW (cc := cX3_add) (maxL := 8) (ret := (some .int)) (by decide) rfl ?_
  intro p e s m args below meth c s₁ B hml hv
  obtain ⟨rfl, hsz, ⟨hP, hK, hN⟩, hD0⟩ := hv
  have hx := B.exec
  have hb := B.bytes
  have hr := B.returns
  have hts := atoms_spec (ws := wsX3_add) B.pre
  have hown : s.vm.findClass RX3 = some m.cls := findClass_of_methodNamed B.named
  have hlocks := B.notSynchronized
  have hin3 : ∀ w ∈ u_ws RX3 TX3 8, w ∈ wsX3_add := by decide +kernel
  subst hsz
  have hD := hD0.self (sz := s.heap.size)
  generalize hAe : va_A (wC cI cS q N V A) s.heap.size = Ar at hD ⊢
  have hA : ∀ q : Nat, s.heap.size ≤ q → Ar q := fun q h => by rw [← hAe]; exact Or.inr h
  have hS : va_S Ar s.heap s.heap [] := va_S.rf
  have hl := lv_entry ([.ref (q 10), .int h0, .int s0, .int p0, .int f0, .int (b2i b0)]) (n := 8) (Nat.le_of_ble_eq_true rfl)
  rw [lg_entry_eq]
  generalize (lg_sl ([.ref (q 10), .int h0, .int s0, .int p0, .int f0, .int (b2i b0)]) ++ List.replicate (8 - (lg_sl ([.ref (q 10), .int h0, .int s0, .int p0, .int f0, .int (b2i b0)])).length) Slot.unset).toArray = ls at hl ⊢
  have hl : lv_has ls 8 [(0, .ref (q 10)), (1, .int h0), (2, .int s0), (3, .int p0), (4, .int f0), (5, .int (b2i b0))] := hl
  refine lv_aload_n hx hb dX3_add_0 rfl (lv_at hl 0 rfl) ?_
  refine va_get (D := D) (ci := 3) (v := .int (nI (N 1))) (C := RX3) (T := TX3) (N := 8) hx hb hts hin3 hown hK hP 10 rfl rfl 7 (by decide) (hts (.fieldLink RX3 34 "NeckShip$Threads" "count" "I") (by decide +kernel)) (fun _ h9 => h9) rfl dX3_add_1 ?_
  refine lv_bipush (v := (16)) hx hb dX3_add_4 (by decide) ?_
  refine lv_icmp_lt (tgt := 12) hx hb dX3_add_6 (by decide) (fun c_1 => ?_) (fun c_1 => ?_)
  · have hlt := lt16 c_1 (by omega)
    refine lv_aload_n hx hb dX3_add_12 rfl (lv_at hl 0 rfl) ?_
    refine va_get (D := D) (ci := 3) (v := .int (nI (N 1))) (C := RX3) (T := TX3) (N := 8) hx hb hts hin3 hown hK hP 10 rfl rfl 7 (by decide) (hts (.fieldLink RX3 34 "NeckShip$Threads" "count" "I") (by decide +kernel)) (fun _ h9 => h9) rfl dX3_add_13 ?_
    refine lv_istore (lv' := [(6, .int (nI (N 1))), (0, .ref (q 10)), (1, .int h0), (2, .int s0), (3, .int p0), (4, .int f0), (5, .int (b2i b0))]) hx hb dX3_add_16 hl (by decide) rfl (fun ls hl => ?_)
    refine lv_aload_n hx hb dX3_add_18 rfl (lv_at hl 1 rfl) ?_
    refine va_get (D := D) (ci := 3) (v := .ref (q 11)) (C := RX3) (T := TX3) (N := 8) hx hb hts hin3 hown hK hP 10 rfl rfl 0 (by decide) (hts (.fieldLink RX3 11 "NeckShip$Threads" "hole" "[I") (by decide +kernel)) (fun _ h9 => h9) rfl dX3_add_19 ?_
    refine lv_iload hx hb dX3_add_22 (lv_at hl 0 rfl) ?_
    refine lv_iload_n hx hb dX3_add_24 rfl (lv_at hl 2 rfl) ?_
    refine va_iastN (i := N 1) hx hb hK hP hD hS 11 0 rfl rfl (by decide) (by omega) dX3_add_25 (fun H locs hP hD hS => ?_)
    have hP : va_P D vwCl (wC cI cS q N V (va_up A 11 (upd (A 11) (N 1) h0))) H := hP
    have hD : va_D Ar (wC cI cS q N V (va_up A 11 (upd (A 11) (N 1) h0))) := hD
    refine lv_aload_n hx hb dX3_add_26 rfl (lv_at hl 1 rfl) ?_
    refine va_get (D := D) (ci := 3) (v := .ref (q 12)) (C := RX3) (T := TX3) (N := 8) hx hb hts hin3 hown hK hP 10 rfl rfl 1 (by decide) (hts (.fieldLink RX3 15 "NeckShip$Threads" "spar" "[I") (by decide +kernel)) (fun _ h9 => h9) rfl dX3_add_27 ?_
    refine lv_iload hx hb dX3_add_30 (lv_at hl 0 rfl) ?_
    refine lv_iload_n hx hb dX3_add_32 rfl (lv_at hl 3 rfl) ?_
    refine va_iastN (i := N 1) hx hb hK hP hD hS 12 0 rfl rfl (by decide) (by omega) dX3_add_33 (fun H locs hP hD hS => ?_)
    have hP : va_P D vwCl (wC cI cS q N V (va_up (va_up A 11 (upd (A 11) (N 1) h0)) 12 (upd ((va_up A 11 (upd (A 11) (N 1) h0)) 12) (N 1) s0))) H := hP
    have hD : va_D Ar (wC cI cS q N V (va_up (va_up A 11 (upd (A 11) (N 1) h0)) 12 (upd ((va_up A 11 (upd (A 11) (N 1) h0)) 12) (N 1) s0))) := hD
    refine lv_aload_n hx hb dX3_add_34 rfl (lv_at hl 1 rfl) ?_
    refine va_get (D := D) (ci := 3) (v := .ref (q 13)) (C := RX3) (T := TX3) (N := 8) hx hb hts hin3 hown hK hP 10 rfl rfl 2 (by decide) (hts (.fieldLink RX3 18 "NeckShip$Threads" "place" "[I") (by decide +kernel)) (fun _ h9 => h9) rfl dX3_add_35 ?_
    refine lv_iload hx hb dX3_add_38 (lv_at hl 0 rfl) ?_
    refine lv_iload_n hx hb dX3_add_40 rfl (lv_at hl 4 rfl) ?_
    refine va_iastN (i := N 1) hx hb hK hP hD hS 13 0 rfl rfl (by decide) (by omega) dX3_add_41 (fun H locs hP hD hS => ?_)
    have hP : va_P D vwCl (wC cI cS q N V (va_up (va_up (va_up A 11 (upd (A 11) (N 1) h0)) 12 (upd ((va_up A 11 (upd (A 11) (N 1) h0)) 12) (N 1) s0)) 13 (upd ((va_up (va_up A 11 (upd (A 11) (N 1) h0)) 12 (upd ((va_up A 11 (upd (A 11) (N 1) h0)) 12) (N 1) s0)) 13) (N 1) p0))) H := hP
    have hD : va_D Ar (wC cI cS q N V (va_up (va_up (va_up A 11 (upd (A 11) (N 1) h0)) 12 (upd ((va_up A 11 (upd (A 11) (N 1) h0)) 12) (N 1) s0)) 13 (upd ((va_up (va_up A 11 (upd (A 11) (N 1) h0)) 12 (upd ((va_up A 11 (upd (A 11) (N 1) h0)) 12) (N 1) s0)) 13) (N 1) p0))) := hD
    refine lv_aload_n hx hb dX3_add_42 rfl (lv_at hl 1 rfl) ?_
    refine va_get (D := D) (ci := 3) (v := .ref (q 14)) (C := RX3) (T := TX3) (N := 8) hx hb hts hin3 hown hK hP 10 rfl rfl 3 (by decide) (hts (.fieldLink RX3 21 "NeckShip$Threads" "foot" "[I") (by decide +kernel)) (fun _ h9 => h9) rfl dX3_add_43 ?_
    refine lv_iload hx hb dX3_add_46 (lv_at hl 0 rfl) ?_
    refine lv_iload hx hb dX3_add_48 (lv_at hl 5 rfl) ?_
    refine va_iastN (i := N 1) hx hb hK hP hD hS 14 0 rfl rfl (by decide) (by omega) dX3_add_50 (fun H locs hP hD hS => ?_)
    have hP : va_P D vwCl (wC cI cS q N V (va_up (va_up (va_up (va_up A 11 (upd (A 11) (N 1) h0)) 12 (upd ((va_up A 11 (upd (A 11) (N 1) h0)) 12) (N 1) s0)) 13 (upd ((va_up (va_up A 11 (upd (A 11) (N 1) h0)) 12 (upd ((va_up A 11 (upd (A 11) (N 1) h0)) 12) (N 1) s0)) 13) (N 1) p0)) 14 (upd ((va_up (va_up (va_up A 11 (upd (A 11) (N 1) h0)) 12 (upd ((va_up A 11 (upd (A 11) (N 1) h0)) 12) (N 1) s0)) 13 (upd ((va_up (va_up A 11 (upd (A 11) (N 1) h0)) 12 (upd ((va_up A 11 (upd (A 11) (N 1) h0)) 12) (N 1) s0)) 13) (N 1) p0)) 14) (N 1) f0))) H := hP
    have hD : va_D Ar (wC cI cS q N V (va_up (va_up (va_up (va_up A 11 (upd (A 11) (N 1) h0)) 12 (upd ((va_up A 11 (upd (A 11) (N 1) h0)) 12) (N 1) s0)) 13 (upd ((va_up (va_up A 11 (upd (A 11) (N 1) h0)) 12 (upd ((va_up A 11 (upd (A 11) (N 1) h0)) 12) (N 1) s0)) 13) (N 1) p0)) 14 (upd ((va_up (va_up (va_up A 11 (upd (A 11) (N 1) h0)) 12 (upd ((va_up A 11 (upd (A 11) (N 1) h0)) 12) (N 1) s0)) 13 (upd ((va_up (va_up A 11 (upd (A 11) (N 1) h0)) 12 (upd ((va_up A 11 (upd (A 11) (N 1) h0)) 12) (N 1) s0)) 13) (N 1) p0)) 14) (N 1) f0))) := hD
    refine lv_iconst (v := (0)) hx hb dX3_add_51 (by decide) ?_
    refine lv_istore (lv' := [(7, .int (0)), (6, .int (nI (N 1))), (0, .ref (q 10)), (1, .int h0), (2, .int s0), (3, .int p0), (4, .int f0), (5, .int (b2i b0))]) hx hb dX3_add_52 hl (by decide) rfl (fun ls hl => ?_)
    have KL1 : ∀ (H : Heap) (locs : List Loc), va_P D vwCl (wC cI cS q N V (s_X3_add_L1 N V A h0 s0 p0 f0 b0 (N 1) 0 (va_up (va_up (va_up (va_up A 11 (upd (A 11) (N 1) h0)) 12 (upd ((va_up A 11 (upd (A 11) (N 1) h0)) 12) (N 1) s0)) 13 (upd ((va_up (va_up A 11 (upd (A 11) (N 1) h0)) 12 (upd ((va_up A 11 (upd (A 11) (N 1) h0)) 12) (N 1) s0)) 13) (N 1) p0)) 14 (upd ((va_up (va_up (va_up A 11 (upd (A 11) (N 1) h0)) 12 (upd ((va_up A 11 (upd (A 11) (N 1) h0)) 12) (N 1) s0)) 13 (upd ((va_up (va_up A 11 (upd (A 11) (N 1) h0)) 12 (upd ((va_up A 11 (upd (A 11) (N 1) h0)) 12) (N 1) s0)) 13) (N 1) p0)) 14) (N 1) f0)))) H → va_D Ar (wC cI cS q N V (s_X3_add_L1 N V A h0 s0 p0 f0 b0 (N 1) 0 (va_up (va_up (va_up (va_up A 11 (upd (A 11) (N 1) h0)) 12 (upd ((va_up A 11 (upd (A 11) (N 1) h0)) 12) (N 1) s0)) 13 (upd ((va_up (va_up A 11 (upd (A 11) (N 1) h0)) 12 (upd ((va_up A 11 (upd (A 11) (N 1) h0)) 12) (N 1) s0)) 13) (N 1) p0)) 14 (upd ((va_up (va_up (va_up A 11 (upd (A 11) (N 1) h0)) 12 (upd ((va_up A 11 (upd (A 11) (N 1) h0)) 12) (N 1) s0)) 13 (upd ((va_up (va_up A 11 (upd (A 11) (N 1) h0)) 12 (upd ((va_up A 11 (upd (A 11) (N 1) h0)) 12) (N 1) s0)) 13) (N 1) p0)) 14) (N 1) f0)))) → va_S Ar s.heap H locs → ∀ (ls : Array Slot), lv_has ls 8 [(6, .int (nI (N 1))), (0, .ref (q 10)), (1, .int h0), (2, .int s0), (3, .int p0), (4, .int f0), (5, .int (b2i b0))] → W p l e (headSpec wsX3_add ({ frames := 2, cells := 0, slots := 0, locals := 47 })).room s m ([.ref (q 10), .int h0, .int s0, .int p0, .int f0, .int (b2i b0)] : List Value).toArray below meth c H locs 0 0 (MQ below (va_Qi (fun r (_ : Unit) => r = (s_X3_add N V A h0 s0 p0 f0 b0).1) (fun _ t => PC D cI cZ cS q (s_X3_add N V A h0 s0 p0 f0 b0).2.1 (s_X3_add N V A h0 s0 p0 f0 b0).2.2.1 (s_X3_add N V A h0 s0 p0 f0 b0).2.2.2 t ∧ va_D Ar (wC cI cS q (s_X3_add N V A h0 s0 p0 f0 b0).2.1 (s_X3_add N V A h0 s0 p0 f0 b0).2.2.1 (s_X3_add N V A h0 s0 p0 f0 b0).2.2.2)) Ar) ([.ref (q 10), .int h0, .int s0, .int p0, .int f0, .int (b2i b0)] : List Value).toArray s 0 0 Ar) (F0 m 106 ls []) := by
      intro H locs hP hD hS ls hl
      refine lv_aload_n hx hb dX3_add_106 rfl (lv_at hl 1 rfl) ?_
      refine lv_dup hx hb dX3_add_107 rfl ?_
      refine va_get (D := D) (ci := 3) (v := .int (nI (N 4))) (C := RX3) (T := TX3) (N := 8) hx hb hts hin3 hown hK hP 10 rfl rfl 6 (by decide) (hts (.fieldLink RX3 31 "NeckShip$Threads" "whole" "I") (by decide +kernel)) (fun _ h9 => h9) rfl dX3_add_108 ?_
      refine lv_iconst (v := (1)) hx hb dX3_add_111 (by decide) ?_
      refine lv_iload hx hb dX3_add_112 (lv_at hl 0 rfl) ?_
      refine lv_ishl hx hb dX3_add_114 ?_
      rw [sh1 (k := N 1) (by omega)]
      refine lv_ior hx hb dX3_add_115 ?_
      rw [fa_or (N 4) (2 ^ (N 1))]
      refine va_put (D := D) (ci := 3) (v := .int (nI ((N 4) ||| (2 ^ (N 1))))) (ty := .int) (C := RX3) (T := TX3) (N := 8) hx hb hts hin3 tyX3 tyX3_ok nmX3 hown hK hP hD hS 10 rfl rfl 6 (by decide) (hts (.fieldLink RX3 31 "NeckShip$Threads" "whole" "I") (by decide +kernel)) (fun _ h9 => h9) rfl (by decide +kernel) rfl rfl (Nat.le_of_ble_eq_true rfl) dX3_add_116 (fun H locs hP hD hS => ?_)
      have hP : va_P D vwCl (wC cI cS q (va_up N 4 ((N 4) ||| (2 ^ (N 1)))) V (s_X3_add_L1 N V A h0 s0 p0 f0 b0 (N 1) 0 (va_up (va_up (va_up (va_up A 11 (upd (A 11) (N 1) h0)) 12 (upd ((va_up A 11 (upd (A 11) (N 1) h0)) 12) (N 1) s0)) 13 (upd ((va_up (va_up A 11 (upd (A 11) (N 1) h0)) 12 (upd ((va_up A 11 (upd (A 11) (N 1) h0)) 12) (N 1) s0)) 13) (N 1) p0)) 14 (upd ((va_up (va_up (va_up A 11 (upd (A 11) (N 1) h0)) 12 (upd ((va_up A 11 (upd (A 11) (N 1) h0)) 12) (N 1) s0)) 13 (upd ((va_up (va_up A 11 (upd (A 11) (N 1) h0)) 12 (upd ((va_up A 11 (upd (A 11) (N 1) h0)) 12) (N 1) s0)) 13) (N 1) p0)) 14) (N 1) f0)))) H := hP
      have hD : va_D Ar (wC cI cS q (va_up N 4 ((N 4) ||| (2 ^ (N 1)))) V (s_X3_add_L1 N V A h0 s0 p0 f0 b0 (N 1) 0 (va_up (va_up (va_up (va_up A 11 (upd (A 11) (N 1) h0)) 12 (upd ((va_up A 11 (upd (A 11) (N 1) h0)) 12) (N 1) s0)) 13 (upd ((va_up (va_up A 11 (upd (A 11) (N 1) h0)) 12 (upd ((va_up A 11 (upd (A 11) (N 1) h0)) 12) (N 1) s0)) 13) (N 1) p0)) 14 (upd ((va_up (va_up (va_up A 11 (upd (A 11) (N 1) h0)) 12 (upd ((va_up A 11 (upd (A 11) (N 1) h0)) 12) (N 1) s0)) 13 (upd ((va_up (va_up A 11 (upd (A 11) (N 1) h0)) 12 (upd ((va_up A 11 (upd (A 11) (N 1) h0)) 12) (N 1) s0)) 13) (N 1) p0)) 14) (N 1) f0)))) := hD
      refine lv_iload hx hb dX3_add_119 (lv_at hl 6 rfl) ?_
      refine lz_if_eq (tgt := 137) hx hb dX3_add_121 (by decide) (fun c_2 => ?_) (fun c_2 => ?_)
      · refine lv_aload_n hx hb dX3_add_137 rfl (lv_at hl 1 rfl) ?_
        refine lv_dup hx hb dX3_add_138 rfl ?_
        refine va_get (D := D) (ci := 3) (v := .int (nI ((va_up N 4 ((N 4) ||| (2 ^ (N 1)))) 1))) (C := RX3) (T := TX3) (N := 8) hx hb hts hin3 hown hK hP 10 rfl rfl 7 (by decide) (hts (.fieldLink RX3 34 "NeckShip$Threads" "count" "I") (by decide +kernel)) (fun _ h9 => h9) rfl dX3_add_139 ?_
        refine lv_iconst (v := (1)) hx hb dX3_add_142 (by decide) ?_
        refine lv_iadd hx hb dX3_add_143 ?_
        rw [nI_1 ((va_up N 4 ((N 4) ||| (2 ^ (N 1)))) 1)]
        refine va_put (D := D) (ci := 3) (v := .int (nI (((va_up N 4 ((N 4) ||| (2 ^ (N 1)))) 1) + 1))) (ty := .int) (C := RX3) (T := TX3) (N := 8) hx hb hts hin3 tyX3 tyX3_ok nmX3 hown hK hP hD hS 10 rfl rfl 7 (by decide) (hts (.fieldLink RX3 34 "NeckShip$Threads" "count" "I") (by decide +kernel)) (fun _ h9 => h9) rfl (by decide +kernel) rfl rfl (Nat.le_of_ble_eq_true rfl) dX3_add_144 (fun H locs hP hD hS => ?_)
        have hP : va_P D vwCl (wC cI cS q (va_up (va_up N 4 ((N 4) ||| (2 ^ (N 1)))) 1 (((va_up N 4 ((N 4) ||| (2 ^ (N 1)))) 1) + 1)) V (s_X3_add_L1 N V A h0 s0 p0 f0 b0 (N 1) 0 (va_up (va_up (va_up (va_up A 11 (upd (A 11) (N 1) h0)) 12 (upd ((va_up A 11 (upd (A 11) (N 1) h0)) 12) (N 1) s0)) 13 (upd ((va_up (va_up A 11 (upd (A 11) (N 1) h0)) 12 (upd ((va_up A 11 (upd (A 11) (N 1) h0)) 12) (N 1) s0)) 13) (N 1) p0)) 14 (upd ((va_up (va_up (va_up A 11 (upd (A 11) (N 1) h0)) 12 (upd ((va_up A 11 (upd (A 11) (N 1) h0)) 12) (N 1) s0)) 13 (upd ((va_up (va_up A 11 (upd (A 11) (N 1) h0)) 12 (upd ((va_up A 11 (upd (A 11) (N 1) h0)) 12) (N 1) s0)) 13) (N 1) p0)) 14) (N 1) f0)))) H := hP
        have hD : va_D Ar (wC cI cS q (va_up (va_up N 4 ((N 4) ||| (2 ^ (N 1)))) 1 (((va_up N 4 ((N 4) ||| (2 ^ (N 1)))) 1) + 1)) V (s_X3_add_L1 N V A h0 s0 p0 f0 b0 (N 1) 0 (va_up (va_up (va_up (va_up A 11 (upd (A 11) (N 1) h0)) 12 (upd ((va_up A 11 (upd (A 11) (N 1) h0)) 12) (N 1) s0)) 13 (upd ((va_up (va_up A 11 (upd (A 11) (N 1) h0)) 12 (upd ((va_up A 11 (upd (A 11) (N 1) h0)) 12) (N 1) s0)) 13) (N 1) p0)) 14 (upd ((va_up (va_up (va_up A 11 (upd (A 11) (N 1) h0)) 12 (upd ((va_up A 11 (upd (A 11) (N 1) h0)) 12) (N 1) s0)) 13 (upd ((va_up (va_up A 11 (upd (A 11) (N 1) h0)) 12 (upd ((va_up A 11 (upd (A 11) (N 1) h0)) 12) (N 1) s0)) 13) (N 1) p0)) 14) (N 1) f0)))) := hD
        refine lv_iload hx hb dX3_add_147 (lv_at hl 0 rfl) ?_
        have hEE : s_X3_add N V A h0 s0 p0 f0 b0 = (nI (N 1), (va_up (va_up N 4 ((N 4) ||| (2 ^ (N 1)))) 1 (((va_up N 4 ((N 4) ||| (2 ^ (N 1)))) 1) + 1)), V, (s_X3_add_L1 N V A h0 s0 p0 f0 b0 (N 1) 0 (va_up (va_up (va_up (va_up A 11 (upd (A 11) (N 1) h0)) 12 (upd ((va_up A 11 (upd (A 11) (N 1) h0)) 12) (N 1) s0)) 13 (upd ((va_up (va_up A 11 (upd (A 11) (N 1) h0)) 12 (upd ((va_up A 11 (upd (A 11) (N 1) h0)) 12) (N 1) s0)) 13) (N 1) p0)) 14 (upd ((va_up (va_up (va_up A 11 (upd (A 11) (N 1) h0)) 12 (upd ((va_up A 11 (upd (A 11) (N 1) h0)) 12) (N 1) s0)) 13 (upd ((va_up (va_up A 11 (upd (A 11) (N 1) h0)) 12 (upd ((va_up A 11 (upd (A 11) (N 1) h0)) 12) (N 1) s0)) 13) (N 1) p0)) 14) (N 1) f0)))) := (by rw [s_X3_add, if_pos c_1, if_neg (nb c_2)])
        rw [hEE]
        exact W.iret (v := nI (N 1)) hx hb hr (fun t ht hW => ⟨⟨_, (), rfl, rfl, ⟨by rw [ht]; exact hP, va_K.moved hW.alike hK, hN.warm hW⟩, hD⟩, hS.F ht⟩) hS.2.2 dX3_add_149
      · refine lv_aload_n hx hb dX3_add_124 rfl (lv_at hl 1 rfl) ?_
        refine lv_dup hx hb dX3_add_125 rfl ?_
        refine va_get (D := D) (ci := 3) (v := .int (nI ((va_up N 4 ((N 4) ||| (2 ^ (N 1)))) 3))) (C := RX3) (T := TX3) (N := 8) hx hb hts hin3 hown hK hP 10 rfl rfl 5 (by decide) (hts (.fieldLink RX3 27 "NeckShip$Threads" "behind" "I") (by decide +kernel)) (fun _ h9 => h9) rfl dX3_add_126 ?_
        refine lv_iconst (v := (1)) hx hb dX3_add_129 (by decide) ?_
        refine lv_iload hx hb dX3_add_130 (lv_at hl 0 rfl) ?_
        refine lv_ishl hx hb dX3_add_132 ?_
        rw [sh1 (k := N 1) (by omega)]
        refine lv_ior hx hb dX3_add_133 ?_
        rw [fa_or ((va_up N 4 ((N 4) ||| (2 ^ (N 1)))) 3) (2 ^ (N 1))]
        refine va_put (D := D) (ci := 3) (v := .int (nI (((va_up N 4 ((N 4) ||| (2 ^ (N 1)))) 3) ||| (2 ^ (N 1))))) (ty := .int) (C := RX3) (T := TX3) (N := 8) hx hb hts hin3 tyX3 tyX3_ok nmX3 hown hK hP hD hS 10 rfl rfl 5 (by decide) (hts (.fieldLink RX3 27 "NeckShip$Threads" "behind" "I") (by decide +kernel)) (fun _ h9 => h9) rfl (by decide +kernel) rfl rfl (Nat.le_of_ble_eq_true rfl) dX3_add_134 (fun H locs hP hD hS => ?_)
        have hP : va_P D vwCl (wC cI cS q (va_up (va_up N 4 ((N 4) ||| (2 ^ (N 1)))) 3 (((va_up N 4 ((N 4) ||| (2 ^ (N 1)))) 3) ||| (2 ^ (N 1)))) V (s_X3_add_L1 N V A h0 s0 p0 f0 b0 (N 1) 0 (va_up (va_up (va_up (va_up A 11 (upd (A 11) (N 1) h0)) 12 (upd ((va_up A 11 (upd (A 11) (N 1) h0)) 12) (N 1) s0)) 13 (upd ((va_up (va_up A 11 (upd (A 11) (N 1) h0)) 12 (upd ((va_up A 11 (upd (A 11) (N 1) h0)) 12) (N 1) s0)) 13) (N 1) p0)) 14 (upd ((va_up (va_up (va_up A 11 (upd (A 11) (N 1) h0)) 12 (upd ((va_up A 11 (upd (A 11) (N 1) h0)) 12) (N 1) s0)) 13 (upd ((va_up (va_up A 11 (upd (A 11) (N 1) h0)) 12 (upd ((va_up A 11 (upd (A 11) (N 1) h0)) 12) (N 1) s0)) 13) (N 1) p0)) 14) (N 1) f0)))) H := hP
        have hD : va_D Ar (wC cI cS q (va_up (va_up N 4 ((N 4) ||| (2 ^ (N 1)))) 3 (((va_up N 4 ((N 4) ||| (2 ^ (N 1)))) 3) ||| (2 ^ (N 1)))) V (s_X3_add_L1 N V A h0 s0 p0 f0 b0 (N 1) 0 (va_up (va_up (va_up (va_up A 11 (upd (A 11) (N 1) h0)) 12 (upd ((va_up A 11 (upd (A 11) (N 1) h0)) 12) (N 1) s0)) 13 (upd ((va_up (va_up A 11 (upd (A 11) (N 1) h0)) 12 (upd ((va_up A 11 (upd (A 11) (N 1) h0)) 12) (N 1) s0)) 13) (N 1) p0)) 14 (upd ((va_up (va_up (va_up A 11 (upd (A 11) (N 1) h0)) 12 (upd ((va_up A 11 (upd (A 11) (N 1) h0)) 12) (N 1) s0)) 13 (upd ((va_up (va_up A 11 (upd (A 11) (N 1) h0)) 12 (upd ((va_up A 11 (upd (A 11) (N 1) h0)) 12) (N 1) s0)) 13) (N 1) p0)) 14) (N 1) f0)))) := hD
        refine lv_aload_n hx hb dX3_add_137 rfl (lv_at hl 1 rfl) ?_
        refine lv_dup hx hb dX3_add_138 rfl ?_
        refine va_get (D := D) (ci := 3) (v := .int (nI ((va_up (va_up N 4 ((N 4) ||| (2 ^ (N 1)))) 3 (((va_up N 4 ((N 4) ||| (2 ^ (N 1)))) 3) ||| (2 ^ (N 1)))) 1))) (C := RX3) (T := TX3) (N := 8) hx hb hts hin3 hown hK hP 10 rfl rfl 7 (by decide) (hts (.fieldLink RX3 34 "NeckShip$Threads" "count" "I") (by decide +kernel)) (fun _ h9 => h9) rfl dX3_add_139 ?_
        refine lv_iconst (v := (1)) hx hb dX3_add_142 (by decide) ?_
        refine lv_iadd hx hb dX3_add_143 ?_
        rw [nI_1 ((va_up (va_up N 4 ((N 4) ||| (2 ^ (N 1)))) 3 (((va_up N 4 ((N 4) ||| (2 ^ (N 1)))) 3) ||| (2 ^ (N 1)))) 1)]
        refine va_put (D := D) (ci := 3) (v := .int (nI (((va_up (va_up N 4 ((N 4) ||| (2 ^ (N 1)))) 3 (((va_up N 4 ((N 4) ||| (2 ^ (N 1)))) 3) ||| (2 ^ (N 1)))) 1) + 1))) (ty := .int) (C := RX3) (T := TX3) (N := 8) hx hb hts hin3 tyX3 tyX3_ok nmX3 hown hK hP hD hS 10 rfl rfl 7 (by decide) (hts (.fieldLink RX3 34 "NeckShip$Threads" "count" "I") (by decide +kernel)) (fun _ h9 => h9) rfl (by decide +kernel) rfl rfl (Nat.le_of_ble_eq_true rfl) dX3_add_144 (fun H locs hP hD hS => ?_)
        have hP : va_P D vwCl (wC cI cS q (va_up (va_up (va_up N 4 ((N 4) ||| (2 ^ (N 1)))) 3 (((va_up N 4 ((N 4) ||| (2 ^ (N 1)))) 3) ||| (2 ^ (N 1)))) 1 (((va_up (va_up N 4 ((N 4) ||| (2 ^ (N 1)))) 3 (((va_up N 4 ((N 4) ||| (2 ^ (N 1)))) 3) ||| (2 ^ (N 1)))) 1) + 1)) V (s_X3_add_L1 N V A h0 s0 p0 f0 b0 (N 1) 0 (va_up (va_up (va_up (va_up A 11 (upd (A 11) (N 1) h0)) 12 (upd ((va_up A 11 (upd (A 11) (N 1) h0)) 12) (N 1) s0)) 13 (upd ((va_up (va_up A 11 (upd (A 11) (N 1) h0)) 12 (upd ((va_up A 11 (upd (A 11) (N 1) h0)) 12) (N 1) s0)) 13) (N 1) p0)) 14 (upd ((va_up (va_up (va_up A 11 (upd (A 11) (N 1) h0)) 12 (upd ((va_up A 11 (upd (A 11) (N 1) h0)) 12) (N 1) s0)) 13 (upd ((va_up (va_up A 11 (upd (A 11) (N 1) h0)) 12 (upd ((va_up A 11 (upd (A 11) (N 1) h0)) 12) (N 1) s0)) 13) (N 1) p0)) 14) (N 1) f0)))) H := hP
        have hD : va_D Ar (wC cI cS q (va_up (va_up (va_up N 4 ((N 4) ||| (2 ^ (N 1)))) 3 (((va_up N 4 ((N 4) ||| (2 ^ (N 1)))) 3) ||| (2 ^ (N 1)))) 1 (((va_up (va_up N 4 ((N 4) ||| (2 ^ (N 1)))) 3 (((va_up N 4 ((N 4) ||| (2 ^ (N 1)))) 3) ||| (2 ^ (N 1)))) 1) + 1)) V (s_X3_add_L1 N V A h0 s0 p0 f0 b0 (N 1) 0 (va_up (va_up (va_up (va_up A 11 (upd (A 11) (N 1) h0)) 12 (upd ((va_up A 11 (upd (A 11) (N 1) h0)) 12) (N 1) s0)) 13 (upd ((va_up (va_up A 11 (upd (A 11) (N 1) h0)) 12 (upd ((va_up A 11 (upd (A 11) (N 1) h0)) 12) (N 1) s0)) 13) (N 1) p0)) 14 (upd ((va_up (va_up (va_up A 11 (upd (A 11) (N 1) h0)) 12 (upd ((va_up A 11 (upd (A 11) (N 1) h0)) 12) (N 1) s0)) 13 (upd ((va_up (va_up A 11 (upd (A 11) (N 1) h0)) 12 (upd ((va_up A 11 (upd (A 11) (N 1) h0)) 12) (N 1) s0)) 13) (N 1) p0)) 14) (N 1) f0)))) := hD
        refine lv_iload hx hb dX3_add_147 (lv_at hl 0 rfl) ?_
        have hEE : s_X3_add N V A h0 s0 p0 f0 b0 = (nI (N 1), (va_up (va_up (va_up N 4 ((N 4) ||| (2 ^ (N 1)))) 3 (((va_up N 4 ((N 4) ||| (2 ^ (N 1)))) 3) ||| (2 ^ (N 1)))) 1 (((va_up (va_up N 4 ((N 4) ||| (2 ^ (N 1)))) 3 (((va_up N 4 ((N 4) ||| (2 ^ (N 1)))) 3) ||| (2 ^ (N 1)))) 1) + 1)), V, (s_X3_add_L1 N V A h0 s0 p0 f0 b0 (N 1) 0 (va_up (va_up (va_up (va_up A 11 (upd (A 11) (N 1) h0)) 12 (upd ((va_up A 11 (upd (A 11) (N 1) h0)) 12) (N 1) s0)) 13 (upd ((va_up (va_up A 11 (upd (A 11) (N 1) h0)) 12 (upd ((va_up A 11 (upd (A 11) (N 1) h0)) 12) (N 1) s0)) 13) (N 1) p0)) 14 (upd ((va_up (va_up (va_up A 11 (upd (A 11) (N 1) h0)) 12 (upd ((va_up A 11 (upd (A 11) (N 1) h0)) 12) (N 1) s0)) 13 (upd ((va_up (va_up A 11 (upd (A 11) (N 1) h0)) 12 (upd ((va_up A 11 (upd (A 11) (N 1) h0)) 12) (N 1) s0)) 13) (N 1) p0)) 14) (N 1) f0)))) := (by rw [s_X3_add, if_pos c_1, if_pos c_2])
        rw [hEE]
        exact W.iret (v := nI (N 1)) hx hb hr (fun t ht hW => ⟨⟨_, (), rfl, rfl, ⟨by rw [ht]; exact hP, va_K.moved hW.alike hK, hN.warm hW⟩, hD⟩, hS.F ht⟩) hS.2.2 dX3_add_149
    have LL1 : ∀ (n k : Nat) (A1 : Nat → Nat → Int32) (H : Heap) (locs : List Loc), va_P D vwCl (wC cI cS q N V A1) H → va_D Ar (wC cI cS q N V A1) → va_S Ar s.heap H locs → ∀ (ls : Array Slot), k + n = N 1 → s_X3_add_L1 N V A h0 s0 p0 f0 b0 (N 1) 0 (va_up (va_up (va_up (va_up A 11 (upd (A 11) (N 1) h0)) 12 (upd ((va_up A 11 (upd (A 11) (N 1) h0)) 12) (N 1) s0)) 13 (upd ((va_up (va_up A 11 (upd (A 11) (N 1) h0)) 12 (upd ((va_up A 11 (upd (A 11) (N 1) h0)) 12) (N 1) s0)) 13) (N 1) p0)) 14 (upd ((va_up (va_up (va_up A 11 (upd (A 11) (N 1) h0)) 12 (upd ((va_up A 11 (upd (A 11) (N 1) h0)) 12) (N 1) s0)) 13 (upd ((va_up (va_up A 11 (upd (A 11) (N 1) h0)) 12 (upd ((va_up A 11 (upd (A 11) (N 1) h0)) 12) (N 1) s0)) 13) (N 1) p0)) 14) (N 1) f0)) = s_X3_add_L1 N V A h0 s0 p0 f0 b0 n k A1 → lv_has ls 8 [(7, .int (nI k)), (6, .int (nI (N 1))), (0, .ref (q 10)), (1, .int h0), (2, .int s0), (3, .int p0), (4, .int f0), (5, .int (b2i b0))] → W p l e (headSpec wsX3_add ({ frames := 2, cells := 0, slots := 0, locals := 47 })).room s m ([.ref (q 10), .int h0, .int s0, .int p0, .int f0, .int (b2i b0)] : List Value).toArray below meth c H locs 0 0 (MQ below (va_Qi (fun r (_ : Unit) => r = (s_X3_add N V A h0 s0 p0 f0 b0).1) (fun _ t => PC D cI cZ cS q (s_X3_add N V A h0 s0 p0 f0 b0).2.1 (s_X3_add N V A h0 s0 p0 f0 b0).2.2.1 (s_X3_add N V A h0 s0 p0 f0 b0).2.2.2 t ∧ va_D Ar (wC cI cS q (s_X3_add N V A h0 s0 p0 f0 b0).2.1 (s_X3_add N V A h0 s0 p0 f0 b0).2.2.1 (s_X3_add N V A h0 s0 p0 f0 b0).2.2.2)) Ar) ([.ref (q 10), .int h0, .int s0, .int p0, .int f0, .int (b2i b0)] : List Value).toArray s 0 0 Ar) (F0 m 54 ls []) := by
      intro n
      induction n with
      | zero =>
        intro k A1 H locs hP hD hS ls hk hF hl
        refine lv_iload hx hb dX3_add_54 (lv_at hl 0 rfl) ?_
        refine lv_iload hx hb dX3_add_56 (lv_at hl 1 rfl) ?_
        refine lv_icmp_ge (tgt := 106) hx hb dX3_add_58 (by decide) (fun _ => ?_) (fun c_3 => absurd (nI_le (by omega) (by omega)) c_3)
        have hF : s_X3_add_L1 N V A h0 s0 p0 f0 b0 (N 1) 0 (va_up (va_up (va_up (va_up A 11 (upd (A 11) (N 1) h0)) 12 (upd ((va_up A 11 (upd (A 11) (N 1) h0)) 12) (N 1) s0)) 13 (upd ((va_up (va_up A 11 (upd (A 11) (N 1) h0)) 12 (upd ((va_up A 11 (upd (A 11) (N 1) h0)) 12) (N 1) s0)) 13) (N 1) p0)) 14 (upd ((va_up (va_up (va_up A 11 (upd (A 11) (N 1) h0)) 12 (upd ((va_up A 11 (upd (A 11) (N 1) h0)) 12) (N 1) s0)) 13 (upd ((va_up (va_up A 11 (upd (A 11) (N 1) h0)) 12 (upd ((va_up A 11 (upd (A 11) (N 1) h0)) 12) (N 1) s0)) 13) (N 1) p0)) 14) (N 1) f0)) = A1 := hF.trans (by rw [s_X3_add_L1])
        exact KL1 _ _ (by (try rw [hF]); exact hP) (by (try rw [hF]); exact hD) hS _ (by (try rw [hF]); exact lv_sub hl [1, 2, 3, 4, 5, 6, 7] rfl)
      | succ n ih =>
        intro k A1 H locs hP hD hS ls hk hF hl
        refine lv_iload hx hb dX3_add_54 (lv_at hl 0 rfl) ?_
        refine lv_iload hx hb dX3_add_56 (lv_at hl 1 rfl) ?_
        refine lv_icmp_ge (tgt := 106) hx hb dX3_add_58 (by decide) (fun c_4 => absurd c_4 (nI_ge (by omega) (by omega))) (fun _ => ?_)
        refine lv_aload_n hx hb dX3_add_61 rfl (lv_at hl 2 rfl) ?_
        refine lv_iload hx hb dX3_add_62 (lv_at hl 0 rfl) ?_
        refine lv_iload hx hb dX3_add_64 (lv_at hl 1 rfl) ?_
        refine vp_callSi (W.runV (As := [.int (nI k), .int (nI (N 1))]) (rest := []) ⟨hx, hb, hml, hown, hts⟩ (c_X3_haveInnerPointInCommon l D cI cZ cS q N V A1 k (N 1) (by omega) (by omega)) (cwV 2 hts gX3_add_X3_haveInnerPointInCommon rfl rfl rfl (by decide +kernel) ⟨Nat.le_of_ble_eq_true rfl, Nat.le_of_ble_eq_true rfl⟩) (preC3 hK hN hP) rfl rfl hl.1 rfl (lv_room (Nat.le_of_ble_eq_true rfl)) dX3_add_66 ⟨Nat.zero_le _, Nat.zero_le _⟩) (fun r_5 er_5 => ?_)
        subst er_5
        refine lz_if_eq (tgt := 100) hx hb dX3_add_69 (by decide) (fun c_6 => ?_) (fun c_6 => ?_)
        · refine lv_iinc (v := nI (k + 1)) (lv' := [(7, .int (nI (k + 1))), (6, .int (nI (N 1))), (0, .ref (q 10)), (1, .int h0), (2, .int s0), (3, .int p0), (4, .int f0), (5, .int (b2i b0))]) hx hb dX3_add_100 hl (k := 0) rfl (nI_1 k) (by decide) rfl (fun ls hl => ?_)
          refine lv_goto (tgt := 54) hx hb dX3_add_103 (by decide) ?_
          exact ih (k + 1) A1 _ _ hP hD hS _ (by omega) (hF.trans (by rw [s_X3_add_L1, if_neg (nb c_6)])) (lv_sub hl [0, 1, 2, 3, 4, 5, 6, 7] rfl)
        · refine lv_aload_n hx hb dX3_add_72 rfl (lv_at hl 2 rfl) ?_
          refine va_get (D := D) (ci := 3) (v := .ref (q 15)) (C := RX3) (T := TX3) (N := 8) hx hb hts hin3 hown hK hP 10 rfl rfl 4 (by decide) (hts (.fieldLink RX3 24 "NeckShip$Threads" "crossing" "[I") (by decide +kernel)) (fun _ h9 => h9) rfl dX3_add_73 ?_
          refine lv_iload hx hb dX3_add_76 (lv_at hl 0 rfl) ?_
          refine lv_dup2_11 hx hb dX3_add_78 rfl rfl ?_
          refine va_ialdN (i := k) hx hb hK hP 15 0 rfl rfl (by decide) (by omega) dX3_add_79 ?_
          refine lv_iconst (v := (1)) hx hb dX3_add_80 (by decide) ?_
          refine lv_iload hx hb dX3_add_81 (lv_at hl 1 rfl) ?_
          refine lv_ishl hx hb dX3_add_83 ?_
          rw [sh1 (k := N 1) (by omega)]
          refine lv_ior hx hb dX3_add_84 ?_
          refine va_iastN (i := k) hx hb hK hP hD hS 15 0 rfl rfl (by decide) (by omega) dX3_add_85 (fun H locs hP hD hS => ?_)
          have hP : va_P D vwCl (wC cI cS q N V (va_up A1 15 (upd (A1 15) k (A1 15 k ||| nI (2 ^ (N 1)))))) H := hP
          have hD : va_D Ar (wC cI cS q N V (va_up A1 15 (upd (A1 15) k (A1 15 k ||| nI (2 ^ (N 1)))))) := hD
          refine lv_aload_n hx hb dX3_add_86 rfl (lv_at hl 2 rfl) ?_
          refine va_get (D := D) (ci := 3) (v := .ref (q 15)) (C := RX3) (T := TX3) (N := 8) hx hb hts hin3 hown hK hP 10 rfl rfl 4 (by decide) (hts (.fieldLink RX3 24 "NeckShip$Threads" "crossing" "[I") (by decide +kernel)) (fun _ h9 => h9) rfl dX3_add_87 ?_
          refine lv_iload hx hb dX3_add_90 (lv_at hl 1 rfl) ?_
          refine lv_dup2_11 hx hb dX3_add_92 rfl rfl ?_
          refine va_ialdN (i := N 1) hx hb hK hP 15 0 rfl rfl (by decide) (by omega) dX3_add_93 ?_
          refine lv_iconst (v := (1)) hx hb dX3_add_94 (by decide) ?_
          refine lv_iload hx hb dX3_add_95 (lv_at hl 0 rfl) ?_
          refine lv_ishl hx hb dX3_add_97 ?_
          rw [sh1 (k := k) (by omega)]
          refine lv_ior hx hb dX3_add_98 ?_
          refine va_iastN (i := N 1) hx hb hK hP hD hS 15 0 rfl rfl (by decide) (by omega) dX3_add_99 (fun H locs hP hD hS => ?_)
          have hP : va_P D vwCl (wC cI cS q N V (va_up (va_up A1 15 (upd (A1 15) k (A1 15 k ||| nI (2 ^ (N 1))))) 15 (upd ((va_up A1 15 (upd (A1 15) k (A1 15 k ||| nI (2 ^ (N 1))))) 15) (N 1) ((va_up A1 15 (upd (A1 15) k (A1 15 k ||| nI (2 ^ (N 1))))) 15 (N 1) ||| nI (2 ^ k))))) H := hP
          have hD : va_D Ar (wC cI cS q N V (va_up (va_up A1 15 (upd (A1 15) k (A1 15 k ||| nI (2 ^ (N 1))))) 15 (upd ((va_up A1 15 (upd (A1 15) k (A1 15 k ||| nI (2 ^ (N 1))))) 15) (N 1) ((va_up A1 15 (upd (A1 15) k (A1 15 k ||| nI (2 ^ (N 1))))) 15 (N 1) ||| nI (2 ^ k))))) := hD
          refine lv_iinc (v := nI (k + 1)) (lv' := [(7, .int (nI (k + 1))), (6, .int (nI (N 1))), (0, .ref (q 10)), (1, .int h0), (2, .int s0), (3, .int p0), (4, .int f0), (5, .int (b2i b0))]) hx hb dX3_add_100 hl (k := 0) rfl (nI_1 k) (by decide) rfl (fun ls hl => ?_)
          refine lv_goto (tgt := 54) hx hb dX3_add_103 (by decide) ?_
          exact ih (k + 1) (va_up (va_up A1 15 (upd (A1 15) k (A1 15 k ||| nI (2 ^ (N 1))))) 15 (upd ((va_up A1 15 (upd (A1 15) k (A1 15 k ||| nI (2 ^ (N 1))))) 15) (N 1) ((va_up A1 15 (upd (A1 15) k (A1 15 k ||| nI (2 ^ (N 1))))) 15 (N 1) ||| nI (2 ^ k)))) _ _ hP hD hS _ (by omega) (hF.trans (by rw [s_X3_add_L1, if_pos c_6])) (lv_sub hl [0, 1, 2, 3, 4, 5, 6, 7] rfl)
    exact LL1 (N 1) 0 (va_up (va_up (va_up (va_up A 11 (upd (A 11) (N 1) h0)) 12 (upd ((va_up A 11 (upd (A 11) (N 1) h0)) 12) (N 1) s0)) 13 (upd ((va_up (va_up A 11 (upd (A 11) (N 1) h0)) 12 (upd ((va_up A 11 (upd (A 11) (N 1) h0)) 12) (N 1) s0)) 13) (N 1) p0)) 14 (upd ((va_up (va_up (va_up A 11 (upd (A 11) (N 1) h0)) 12 (upd ((va_up A 11 (upd (A 11) (N 1) h0)) 12) (N 1) s0)) 13 (upd ((va_up (va_up A 11 (upd (A 11) (N 1) h0)) 12 (upd ((va_up A 11 (upd (A 11) (N 1) h0)) 12) (N 1) s0)) 13) (N 1) p0)) 14) (N 1) f0)) _ _ hP hD hS _ (by omega) rfl (lv_sub hl [0, 1, 2, 3, 4, 5, 6, 7] rfl)
  · refine lv_bipush (v := (-4)) hx hb dX3_add_9 (by decide) ?_
    have hEE : s_X3_add N V A h0 s0 p0 f0 b0 = ((-4 : Int32), N, V, A) := (by rw [s_X3_add, if_neg c_1])
    rw [hEE]
    exact W.iret (v := (-4 : Int32)) hx hb hr (fun t ht hW => ⟨⟨_, (), rfl, rfl, ⟨by rw [ht]; exact hP, va_K.moved hW.alike hK, hN.warm hW⟩, hD⟩, hS.F ht⟩) hS.2.2 dX3_add_11
theorem and_lt {a b n : Nat} (h : b < n) : a &&& b < n := Nat.lt_of_le_of_lt Nat.and_le_right h
def s_X3_wholePairsThatCross_L1 (N : Nat → Nat) (V : Nat → Int32) (A : Nat → Nat → Int32) : Nat → Nat → Int32 → Int32
  | 0, k, a =>
    a
  | n + 1, k, a =>
    if (s_X4_isIn (nI (N 4)) (nI k)) = true then
      s_X3_wholePairsThatCross_L1 N V A n (k + 1) (a + nI (s_J6_bitCount_0f7a4 (((A 15 k).toNatClampNeg) &&& (N 4))))
    else
      s_X3_wholePairsThatCross_L1 N V A n (k + 1) a
def s_X3_wholePairsThatCross (N : Nat → Nat) (V : Nat → Int32) (A : Nat → Nat → Int32)  : Int32 :=
  ((s_X3_wholePairsThatCross_L1 N V A (N 1) 0 (0 : Int32)) / (2 : Int32))
set_option maxHeartbeats 4000000 in
set_option maxRecDepth 100000 in
theorem c_X3_wholePairsThatCross (l : Launch) (D : va_G) (cI cZ cS : ClassId) (q : Nat → Nat) (N : Nat → Nat) (V : Nat → Int32) (A : Nat → Nat → Int32) (h_1 : okC N A) : Met l yX3_wholePairsThatCross wsX3_wholePairsThatCross ({ frames := 1, cells := 0, slots := 0, locals := 21 }) (va_Pc [.ref (q 10)] (PC D cI cZ cS q N V A)) (vp_Si (fun r => r = (s_X3_wholePairsThatCross N V A))) 0 0 (fun _ => False) := by
  refine Met.ofW (cc := cX3_wholePairsThatCross) (maxL := 3) (ret := (some .int)) (by decide) rfl ?_
  intro p e s m args below meth c s₁ B hml hv
  obtain ⟨rfl, hP, hK, hN⟩ := hv
  have hx := B.exec
  have hb := B.bytes
  have hr := B.returns
  have hts := atoms_spec (ws := wsX3_wholePairsThatCross) B.pre
  have hown : s.vm.findClass RX3 = some m.cls := findClass_of_methodNamed B.named
  have hlocks := B.notSynchronized
  have hin3 : ∀ w ∈ u_ws RX3 TX3 8, w ∈ wsX3_wholePairsThatCross := by decide +kernel
  obtain ⟨o1, o2, o3, o4, o5, o6, o7, o8, o9⟩ := id h_1
  have hl := lv_entry ([.ref (q 10)]) (n := 3) (Nat.le_of_ble_eq_true rfl)
  rw [lg_entry_eq]
  generalize (lg_sl ([.ref (q 10)]) ++ List.replicate (3 - (lg_sl ([.ref (q 10)])).length) Slot.unset).toArray = ls at hl ⊢
  have hl : lv_has ls 3 [(0, .ref (q 10))] := hl
  refine lv_iconst (v := (0)) hx hb dX3_wholePairsThatCross_0 (by decide) ?_
  refine lv_istore_n (lv' := [(1, .int (0)), (0, .ref (q 10))]) hx hb dX3_wholePairsThatCross_1 rfl hl (by decide) rfl (fun ls hl => ?_)
  refine lv_iconst (v := (0)) hx hb dX3_wholePairsThatCross_2 (by decide) ?_
  refine lv_istore_n (lv' := [(2, .int (0)), (1, .int (0)), (0, .ref (q 10))]) hx hb dX3_wholePairsThatCross_3 rfl hl (by decide) rfl (fun ls hl => ?_)
  have KL1 : ∀ (ls : Array Slot), lv_has ls 3 [(1, .int (s_X3_wholePairsThatCross_L1 N V A (N 1) 0 (0 : Int32))), (0, .ref (q 10))] → W p l e (headSpec wsX3_wholePairsThatCross ({ frames := 1, cells := 0, slots := 0, locals := 21 })).room s m ([.ref (q 10)] : List Value).toArray below meth c s.heap [] 0 0 (MQ below (vp_Si (fun r => r = (s_X3_wholePairsThatCross N V A))) ([.ref (q 10)] : List Value).toArray s 0 0 (fun _ => False)) (F0 m 46 ls []) := by
    intro ls hl
    refine lv_iload_n hx hb dX3_wholePairsThatCross_46 rfl (lv_at hl 0 rfl) ?_
    refine lv_iconst (v := (2)) hx hb dX3_wholePairsThatCross_47 (by decide) ?_
    refine lv_idiv hx hb dX3_wholePairsThatCross_48 (by decide) ?_
    exact W.iret (v := ((s_X3_wholePairsThatCross_L1 N V A (N 1) 0 (0 : Int32)) / (2 : Int32))) hx hb hr (fun t ht hW => ⟨_, rfl, (by rw [s_X3_wholePairsThatCross]), ht⟩) (fun _ h => by cases h) dX3_wholePairsThatCross_49
  have LL1 : ∀ (n k : Nat) (a : Int32) (ls : Array Slot), k + n = N 1 → s_X3_wholePairsThatCross_L1 N V A (N 1) 0 (0 : Int32) = s_X3_wholePairsThatCross_L1 N V A n k a → lv_has ls 3 [(2, .int (nI k)), (1, .int a), (0, .ref (q 10))] → W p l e (headSpec wsX3_wholePairsThatCross ({ frames := 1, cells := 0, slots := 0, locals := 21 })).room s m ([.ref (q 10)] : List Value).toArray below meth c s.heap [] 0 0 (MQ below (vp_Si (fun r => r = (s_X3_wholePairsThatCross N V A))) ([.ref (q 10)] : List Value).toArray s 0 0 (fun _ => False)) (F0 m 4 ls []) := by
    intro n
    induction n with
    | zero =>
      intro k a ls hk hF hl
      refine lv_iload_n hx hb dX3_wholePairsThatCross_4 rfl (lv_at hl 0 rfl) ?_
      refine lv_aload_n hx hb dX3_wholePairsThatCross_5 rfl (lv_at hl 2 rfl) ?_
      refine va_get (D := D) (ci := 3) (v := .int (nI (N 1))) (C := RX3) (T := TX3) (N := 8) hx hb hts hin3 hown hK hP 10 rfl rfl 7 (by decide) (hts (.fieldLink RX3 34 "NeckShip$Threads" "count" "I") (by decide +kernel)) (fun _ h9 => h9) rfl dX3_wholePairsThatCross_6 ?_
      refine lv_icmp_ge (tgt := 46) hx hb dX3_wholePairsThatCross_9 (by decide) (fun _ => ?_) (fun c_1 => absurd (nI_le (by omega) (by omega)) c_1)
      have hF : s_X3_wholePairsThatCross_L1 N V A (N 1) 0 (0 : Int32) = a := hF.trans (by rw [s_X3_wholePairsThatCross_L1])
      exact KL1 _ (by (try rw [hF]); exact lv_sub hl [1, 2] rfl)
    | succ n ih =>
      intro k a ls hk hF hl
      refine lv_iload_n hx hb dX3_wholePairsThatCross_4 rfl (lv_at hl 0 rfl) ?_
      refine lv_aload_n hx hb dX3_wholePairsThatCross_5 rfl (lv_at hl 2 rfl) ?_
      refine va_get (D := D) (ci := 3) (v := .int (nI (N 1))) (C := RX3) (T := TX3) (N := 8) hx hb hts hin3 hown hK hP 10 rfl rfl 7 (by decide) (hts (.fieldLink RX3 34 "NeckShip$Threads" "count" "I") (by decide +kernel)) (fun _ h9 => h9) rfl dX3_wholePairsThatCross_6 ?_
      refine lv_icmp_ge (tgt := 46) hx hb dX3_wholePairsThatCross_9 (by decide) (fun c_2 => absurd c_2 (nI_ge (by omega) (by omega))) (fun _ => ?_)
      refine lv_aload_n hx hb dX3_wholePairsThatCross_12 rfl (lv_at hl 2 rfl) ?_
      refine va_get (D := D) (ci := 3) (v := .int (nI (N 4))) (C := RX3) (T := TX3) (N := 8) hx hb hts hin3 hown hK hP 10 rfl rfl 6 (by decide) (hts (.fieldLink RX3 31 "NeckShip$Threads" "whole" "I") (by decide +kernel)) (fun _ h9 => h9) rfl dX3_wholePairsThatCross_13 ?_
      refine lv_iload_n hx hb dX3_wholePairsThatCross_16 rfl (lv_at hl 0 rfl) ?_
      refine vp_callSi (va_Run.run (va_runSN (As := [.int (nI (N 4)), .int (nI k)]) (rest := []) ⟨hx, hb, hml, hown, hts⟩ (c_X4_isIn l (nI (N 4)) (nI k)) ⟨va_cnB 2 hts ggX3_wholePairsThatCross_X4_isIn rfl rfl rfl hN.2.2.1 (hts (.initialized RX4) (by decide +kernel)) (by decide +kernel) ⟨Nat.le_of_ble_eq_true rfl, Nat.le_of_ble_eq_true rfl⟩, (hts (.static yX4_isIn) (by decide +kernel)), trivial⟩ preEq rfl rfl hl.1 rfl (lv_room (Nat.le_of_ble_eq_true rfl)) dX3_wholePairsThatCross_17 ⟨Nat.zero_le _, Nat.zero_le _⟩)) (fun r_3 er_3 => ?_)
      subst er_3
      refine lz_if_eq (tgt := 40) hx hb dX3_wholePairsThatCross_20 (by decide) (fun c_4 => ?_) (fun c_4 => ?_)
      · refine lv_iinc (v := nI (k + 1)) (lv' := [(2, .int (nI (k + 1))), (1, .int a), (0, .ref (q 10))]) hx hb dX3_wholePairsThatCross_40 hl (k := 0) rfl (nI_1 k) (by decide) rfl (fun ls hl => ?_)
        refine lv_goto (tgt := 4) hx hb dX3_wholePairsThatCross_43 (by decide) ?_
        exact ih (k + 1) a _ (by omega) (hF.trans (by rw [s_X3_wholePairsThatCross_L1, if_neg (nb c_4)])) (lv_sub hl [0, 1, 2] rfl)
      · refine lv_iload_n hx hb dX3_wholePairsThatCross_23 rfl (lv_at hl 1 rfl) ?_
        refine lv_aload_n hx hb dX3_wholePairsThatCross_24 rfl (lv_at hl 2 rfl) ?_
        refine va_get (D := D) (ci := 3) (v := .ref (q 15)) (C := RX3) (T := TX3) (N := 8) hx hb hts hin3 hown hK hP 10 rfl rfl 4 (by decide) (hts (.fieldLink RX3 24 "NeckShip$Threads" "crossing" "[I") (by decide +kernel)) (fun _ h9 => h9) rfl dX3_wholePairsThatCross_25 ?_
        refine lv_iload_n hx hb dX3_wholePairsThatCross_28 rfl (lv_at hl 0 rfl) ?_
        refine va_ialdV (i := k) (x := (A 15 k).toNatClampNeg) hx hb hK hP 15 0 rfl rfl (o8 _).1 (by decide) (by omega) dX3_wholePairsThatCross_29 ?_
        refine lv_aload_n hx hb dX3_wholePairsThatCross_30 rfl (lv_at hl 2 rfl) ?_
        refine va_get (D := D) (ci := 3) (v := .int (nI (N 4))) (C := RX3) (T := TX3) (N := 8) hx hb hts hin3 hown hK hP 10 rfl rfl 6 (by decide) (hts (.fieldLink RX3 31 "NeckShip$Threads" "whole" "I") (by decide +kernel)) (fun _ h9 => h9) rfl dX3_wholePairsThatCross_31 ?_
        refine lv_iand hx hb dX3_wholePairsThatCross_34 ?_
        rw [fa_and ((A 15 k).toNatClampNeg) (N 4)]
        refine vp_callSi (W.runS (As := [.int (nI (((A 15 k).toNatClampNeg) &&& (N 4)))]) (rest := [.int a]) ⟨hx, hb, hml, hown, hts⟩ (c_J6_bitCount_0f7a4 l (((A 15 k).toNatClampNeg) &&& (N 4)) (and_lt o5)) (va_cwS 1 hts gX3_wholePairsThatCross_J6_bitCount_0f7a4 rfl rfl rfl (by decide +kernel) ⟨Nat.le_of_ble_eq_true rfl, Nat.le_of_ble_eq_true rfl⟩) (preEq) rfl rfl hl.1 rfl (lv_room (Nat.le_of_ble_eq_true rfl)) dX3_wholePairsThatCross_35 ⟨Nat.zero_le _, Nat.zero_le _⟩) (fun r_5 er_5 => ?_)
        subst er_5
        refine lv_iadd hx hb dX3_wholePairsThatCross_38 ?_
        refine lv_istore_n (lv' := [(1, .int (a + nI (s_J6_bitCount_0f7a4 (((A 15 k).toNatClampNeg) &&& (N 4))))), (2, .int (nI k)), (0, .ref (q 10))]) hx hb dX3_wholePairsThatCross_39 rfl hl (by decide) rfl (fun ls hl => ?_)
        refine lv_iinc (v := nI (k + 1)) (lv' := [(2, .int (nI (k + 1))), (1, .int (a + nI (s_J6_bitCount_0f7a4 (((A 15 k).toNatClampNeg) &&& (N 4))))), (0, .ref (q 10))]) hx hb dX3_wholePairsThatCross_40 hl (k := 1) rfl (nI_1 k) (by decide) rfl (fun ls hl => ?_)
        refine lv_goto (tgt := 4) hx hb dX3_wholePairsThatCross_43 (by decide) ?_
        exact ih (k + 1) (a + nI (s_J6_bitCount_0f7a4 (((A 15 k).toNatClampNeg) &&& (N 4)))) _ (by omega) (hF.trans (by rw [s_X3_wholePairsThatCross_L1, if_pos c_4])) (lv_sub hl [0, 1, 2] rfl)
  exact LL1 (N 1) 0 (0 : Int32) _ (by omega) rfl (lv_sub hl [0, 1, 2] rfl)
