/-! the law's cases 7 to 13 -/
set_option maxHeartbeats 4000000 in
set_option maxRecDepth 100000 in
theorem lc_7 {p : Program} {l : Launch} {e : Env} {s : State} {m : MethodId} {below : List Frame} {meth : Method} {c : Code} {D : va_G} {cI cZ cS : ClassId} {q q' : Nat → Nat} {N M : Nat → Nat} {V U : Nat → Int32} {A B : Nat → Nat → Int32} {H : Heap} {locs : List Loc} {ls : Array Slot} {b L i tG : Nat} {xs : Nat → Int32} (hL : L ≤ 3072) (hi : i + 6 ≤ L) (C0 : lw_At p s m meth c b L xs) (hK : va_K D vwCl (tysA cI cZ cS) s) (hN : nestC s) (hG : gmS s tG) (kk : lawK p l e s m below meth c b D cI cZ cS q q' (nI i)) (iv : Inv N V A M U B) (hPc : va_P D vwCl (wC cI cS q N V A) H) (hPm : va_P D vwCl (wM cI cZ q' M U B) H) (hD : va_D (fun q : Nat => s.heap.size ≤ q) (wC cI cS q N V A ++ wM cI cZ q' M U B)) (hS : va_S (fun q : Nat => s.heap.size ≤ q) s.heap H locs) (hl : lv_has ls 4 [(0, .ref b), (1, .ref (q 0)), (2, .ref (q' 0)), (3, .int (nI i))]) : W p l e room_1 s m #[Value.ref b] below meth c H locs 600000 7302250 (lw_Z below #[Value.ref b] s) (F0 m 421 ls []) := by
  obtain ⟨hx, hb, hr, hml, hown, hts0, hX, hbl, hlocks, hgv⟩ := C0
  have hts : ∀ w ∈ wsL_law, w.before #[Value.ref b] s = true := fun w h => hts0 w (wsL_law_in w h)
  have hown : s.vm.findClass RL = some m.cls := hown
  have hA : ∀ q : Nat, s.heap.size ≤ q → (fun q : Nat => s.heap.size ≤ q) q := fun _ h => h
  have hbA : ¬ (fun q : Nat => s.heap.size ≤ q) b := Nat.not_le.mpr hbl
  obtain ⟨i0, i1, i2, i3, i4, i5⟩ := inS hL hi
  have okc := iv.2.2.2.2.2.2.2.1
  have okm := iv.2.2.2.2.2.2.2.2
  have okv := iv.okV
  have oks := iv.okS
  have hup : M 2 < 2 ^ M 0 := iv.1.2.2.2.2.2
  have hupN : N 2 < 2 ^ N 0 := by rw [iv.1.2.2.1, iv.1.1]; exact hup
  have hw3 : ¬ B 1 3 = 0 := fun h => by have := (iv.2.2.1 3 (by decide)).2.1; rw [h] at this; exact absurd this (by decide)
  refine lv_aload_n hx hb dL_law_421 rfl (lv_at hl 1 rfl) ?_
  refine lv_aload_n hx hb dL_law_422 rfl (lv_at hl 0 rfl) ?_
  refine lv_iload_n hx hb dL_law_423 rfl (lv_at hl 3 rfl) ?_
  refine lv_iconst (v := (1)) hx hb dL_law_424 (by decide) ?_
  refine lv_iadd hx hb dL_law_425 ?_
  refine va_sld (i := nI i + (1 : Int32)) hx hb hX hbl hbA hS i1 dL_law_426 ?_
  refine lv_aload_n hx hb dL_law_427 rfl (lv_at hl 0 rfl) ?_
  refine lv_iload_n hx hb dL_law_428 rfl (lv_at hl 3 rfl) ?_
  refine lv_iconst (v := (2)) hx hb dL_law_429 (by decide) ?_
  refine lv_iadd hx hb dL_law_430 ?_
  refine va_sld (i := nI i + (2 : Int32)) hx hb hX hbl hbA hS i2 dL_law_431 ?_
  refine lv_aload_n hx hb dL_law_432 rfl (lv_at hl 0 rfl) ?_
  refine lv_iload_n hx hb dL_law_433 rfl (lv_at hl 3 rfl) ?_
  refine lv_iconst (v := (3)) hx hb dL_law_434 (by decide) ?_
  refine lv_iadd hx hb dL_law_435 ?_
  refine va_sld (i := nI i + (3 : Int32)) hx hb hX hbl hbA hS i3 dL_law_436 ?_
  refine law_i (wx := wC cI cS q N V A) (wy := wM cI cZ q' M U B) (va_runV (As := [.int (xs (nI i + (1 : Int32)).toNatClampNeg), .int (xs (nI i + (2 : Int32)).toNatClampNeg), .int (xs (nI i + (3 : Int32)).toNatClampNeg)]) (rest := []) ⟨hx, hb, hml, hown, hts⟩ (c_X4_thread l D cI cZ cS q N V A H.size (xs (nI i + (1 : Int32)).toNatClampNeg) (xs (nI i + (2 : Int32)).toNatClampNeg) (xs (nI i + (3 : Int32)).toNatClampNeg) okc) (cwV 3 hts gL_law_X4_thread rfl rfl rfl (by decide +kernel) ⟨Nat.le_of_ble_eq_true rfl, Nat.le_of_ble_eq_true rfl⟩) (preCm4 hK hN hPc (pair_l hD)) rfl rfl hl.1 rfl (lv_room (Nat.le_of_ble_eq_true rfl)) dL_law_437 ⟨Nat.le_of_ble_eq_true rfl, Nat.le_of_ble_eq_true rfl⟩) (fun t h => h.1) hD hPm hS hA (fun H locs hPc hPm hD hS => ?_)
  refine lv_aload_n hx hb dL_law_440 rfl (lv_at hl 2 rfl) ?_
  refine lv_aload_n hx hb dL_law_441 rfl (lv_at hl 0 rfl) ?_
  refine lv_iload_n hx hb dL_law_442 rfl (lv_at hl 3 rfl) ?_
  refine lv_iconst (v := (1)) hx hb dL_law_443 (by decide) ?_
  refine lv_iadd hx hb dL_law_444 ?_
  refine va_sld (i := nI i + (1 : Int32)) hx hb hX hbl hbA hS i1 dL_law_445 ?_
  refine lv_aload_n hx hb dL_law_446 rfl (lv_at hl 0 rfl) ?_
  refine lv_iload_n hx hb dL_law_447 rfl (lv_at hl 3 rfl) ?_
  refine lv_iconst (v := (2)) hx hb dL_law_448 (by decide) ?_
  refine lv_iadd hx hb dL_law_449 ?_
  refine va_sld (i := nI i + (2 : Int32)) hx hb hX hbl hbA hS i2 dL_law_450 ?_
  refine lv_aload_n hx hb dL_law_451 rfl (lv_at hl 0 rfl) ?_
  refine lv_iload_n hx hb dL_law_452 rfl (lv_at hl 3 rfl) ?_
  refine lv_iconst (v := (3)) hx hb dL_law_453 (by decide) ?_
  refine lv_iadd hx hb dL_law_454 ?_
  refine va_sld (i := nI i + (3 : Int32)) hx hb hX hbl hbA hS i3 dL_law_455 ?_
  refine law_i (wx := wM cI cZ q' M U B) (wy := wC cI cS q (s_X4_thread N V A (xs (nI i + (1 : Int32)).toNatClampNeg) (xs (nI i + (2 : Int32)).toNatClampNeg) (xs (nI i + (3 : Int32)).toNatClampNeg)).2.1 (s_X4_thread N V A (xs (nI i + (1 : Int32)).toNatClampNeg) (xs (nI i + (2 : Int32)).toNatClampNeg) (xs (nI i + (3 : Int32)).toNatClampNeg)).2.2.1 (s_X4_thread N V A (xs (nI i + (1 : Int32)).toNatClampNeg) (xs (nI i + (2 : Int32)).toNatClampNeg) (xs (nI i + (3 : Int32)).toNatClampNeg)).2.2.2) (va_runV (As := [.int (xs (nI i + (1 : Int32)).toNatClampNeg), .int (xs (nI i + (2 : Int32)).toNatClampNeg), .int (xs (nI i + (3 : Int32)).toNatClampNeg)]) (rest := [(.int (s_X4_thread N V A (xs (nI i + (1 : Int32)).toNatClampNeg) (xs (nI i + (2 : Int32)).toNatClampNeg) (xs (nI i + (3 : Int32)).toNatClampNeg)).1)]) ⟨hx, hb, hml, hown, hts⟩ (c_X5_thread l D cI cZ cS q' M U B H.size (xs (nI i + (1 : Int32)).toNatClampNeg) (xs (nI i + (2 : Int32)).toNatClampNeg) (xs (nI i + (3 : Int32)).toNatClampNeg) okm) (cwV 3 hts gL_law_X5_thread rfl rfl rfl (by decide +kernel) ⟨Nat.le_of_ble_eq_true rfl, Nat.le_of_ble_eq_true rfl⟩) (preMm hK hPm (pair_r hD)) rfl rfl hl.1 rfl (lv_room (Nat.le_of_ble_eq_true rfl)) dL_law_456 ⟨Nat.le_of_ble_eq_true rfl, Nat.le_of_ble_eq_true rfl⟩) (fun t h => h.1) (pair_sw hD) hPc hS hA (fun H locs hPm hPc hD hS => ?_)
  have hD := pair_sw hD
  have hs := thread_eq iv (xs (nI i + (1 : Int32)).toNatClampNeg) (xs (nI i + (2 : Int32)).toNatClampNeg) (xs (nI i + (3 : Int32)).toNatClampNeg)
  refine lv_icmp_eq (tgt := 1015) hx hb dL_law_459 (by decide) (fun _ => ?_) (fun c1 => absurd hs.1 c1)
  exact kk _ _ _ _ _ _ _ _ _ hs.2 hPc hPm hD hS hl
set_option maxHeartbeats 4000000 in
set_option maxRecDepth 100000 in
theorem lc_8 {p : Program} {l : Launch} {e : Env} {s : State} {m : MethodId} {below : List Frame} {meth : Method} {c : Code} {D : va_G} {cI cZ cS : ClassId} {q q' : Nat → Nat} {N M : Nat → Nat} {V U : Nat → Int32} {A B : Nat → Nat → Int32} {H : Heap} {locs : List Loc} {ls : Array Slot} {b L i tG : Nat} {xs : Nat → Int32} (hL : L ≤ 3072) (hi : i + 6 ≤ L) (C0 : lw_At p s m meth c b L xs) (hK : va_K D vwCl (tysA cI cZ cS) s) (hN : nestC s) (hG : gmS s tG) (kk : lawK p l e s m below meth c b D cI cZ cS q q' (nI i)) (iv : Inv N V A M U B) (hPc : va_P D vwCl (wC cI cS q N V A) H) (hPm : va_P D vwCl (wM cI cZ q' M U B) H) (hD : va_D (fun q : Nat => s.heap.size ≤ q) (wC cI cS q N V A ++ wM cI cZ q' M U B)) (hS : va_S (fun q : Nat => s.heap.size ≤ q) s.heap H locs) (hl : lv_has ls 4 [(0, .ref b), (1, .ref (q 0)), (2, .ref (q' 0)), (3, .int (nI i))]) : W p l e room_1 s m #[Value.ref b] below meth c H locs 600000 7302250 (lw_Z below #[Value.ref b] s) (F0 m 464 ls []) := by
  obtain ⟨hx, hb, hr, hml, hown, hts0, hX, hbl, hlocks, hgv⟩ := C0
  have hts : ∀ w ∈ wsL_law, w.before #[Value.ref b] s = true := fun w h => hts0 w (wsL_law_in w h)
  have hown : s.vm.findClass RL = some m.cls := hown
  have hA : ∀ q : Nat, s.heap.size ≤ q → (fun q : Nat => s.heap.size ≤ q) q := fun _ h => h
  have hbA : ¬ (fun q : Nat => s.heap.size ≤ q) b := Nat.not_le.mpr hbl
  obtain ⟨i0, i1, i2, i3, i4, i5⟩ := inS hL hi
  have okc := iv.2.2.2.2.2.2.2.1
  have okm := iv.2.2.2.2.2.2.2.2
  have okv := iv.okV
  have oks := iv.okS
  have hup : M 2 < 2 ^ M 0 := iv.1.2.2.2.2.2
  have hupN : N 2 < 2 ^ N 0 := by rw [iv.1.2.2.1, iv.1.1]; exact hup
  have hw3 : ¬ B 1 3 = 0 := fun h => by have := (iv.2.2.1 3 (by decide)).2.1; rw [h] at this; exact absurd this (by decide)
  refine lv_aload_n hx hb dL_law_464 rfl (lv_at hl 1 rfl) ?_
  refine lv_aload_n hx hb dL_law_465 rfl (lv_at hl 0 rfl) ?_
  refine lv_iload_n hx hb dL_law_466 rfl (lv_at hl 3 rfl) ?_
  refine lv_iconst (v := (1)) hx hb dL_law_467 (by decide) ?_
  refine lv_iadd hx hb dL_law_468 ?_
  refine va_sld (i := nI i + (1 : Int32)) hx hb hX hbl hbA hS i1 dL_law_469 ?_
  refine law_i (wx := wC cI cS q N V A) (wy := wM cI cZ q' M U B) (va_runV (As := [.int (xs (nI i + (1 : Int32)).toNatClampNeg)]) (rest := []) ⟨hx, hb, hml, hown, hts⟩ (c_X4_cut l D cI cZ cS q N V A H.size (xs (nI i + (1 : Int32)).toNatClampNeg) okc) (cwV 1 hts gL_law_X4_cut rfl rfl rfl (by decide +kernel) ⟨Nat.le_of_ble_eq_true rfl, Nat.le_of_ble_eq_true rfl⟩) (preCm4 hK hN hPc (pair_l hD)) rfl rfl hl.1 rfl (lv_room (Nat.le_of_ble_eq_true rfl)) dL_law_470 ⟨Nat.le_of_ble_eq_true rfl, Nat.le_of_ble_eq_true rfl⟩) (fun t h => h.1) hD hPm hS hA (fun H locs hPc hPm hD hS => ?_)
  refine lv_aload_n hx hb dL_law_473 rfl (lv_at hl 2 rfl) ?_
  refine lv_aload_n hx hb dL_law_474 rfl (lv_at hl 0 rfl) ?_
  refine lv_iload_n hx hb dL_law_475 rfl (lv_at hl 3 rfl) ?_
  refine lv_iconst (v := (1)) hx hb dL_law_476 (by decide) ?_
  refine lv_iadd hx hb dL_law_477 ?_
  refine va_sld (i := nI i + (1 : Int32)) hx hb hX hbl hbA hS i1 dL_law_478 ?_
  refine law_i (wx := wM cI cZ q' M U B) (wy := wC cI cS q (s_X4_cut N V A (xs (nI i + (1 : Int32)).toNatClampNeg)).2.1 (s_X4_cut N V A (xs (nI i + (1 : Int32)).toNatClampNeg)).2.2.1 (s_X4_cut N V A (xs (nI i + (1 : Int32)).toNatClampNeg)).2.2.2) (va_runV (As := [.int (xs (nI i + (1 : Int32)).toNatClampNeg)]) (rest := [(.int (s_X4_cut N V A (xs (nI i + (1 : Int32)).toNatClampNeg)).1)]) ⟨hx, hb, hml, hown, hts⟩ (c_X5_cut l D cI cZ cS q' M U B H.size (xs (nI i + (1 : Int32)).toNatClampNeg) okm) (cwV 1 hts gL_law_X5_cut rfl rfl rfl (by decide +kernel) ⟨Nat.le_of_ble_eq_true rfl, Nat.le_of_ble_eq_true rfl⟩) (preMm hK hPm (pair_r hD)) rfl rfl hl.1 rfl (lv_room (Nat.le_of_ble_eq_true rfl)) dL_law_479 ⟨Nat.le_of_ble_eq_true rfl, Nat.le_of_ble_eq_true rfl⟩) (fun t h => h.1) (pair_sw hD) hPc hS hA (fun H locs hPm hPc hD hS => ?_)
  have hD := pair_sw hD
  have hs := cut_eq iv (xs (nI i + (1 : Int32)).toNatClampNeg)
  refine lv_icmp_eq (tgt := 1015) hx hb dL_law_482 (by decide) (fun _ => ?_) (fun c1 => absurd hs.1 c1)
  exact kk _ _ _ _ _ _ _ _ _ hs.2 hPc hPm hD hS hl
set_option maxHeartbeats 4000000 in
set_option maxRecDepth 100000 in
theorem lc_9 {p : Program} {l : Launch} {e : Env} {s : State} {m : MethodId} {below : List Frame} {meth : Method} {c : Code} {D : va_G} {cI cZ cS : ClassId} {q q' : Nat → Nat} {N M : Nat → Nat} {V U : Nat → Int32} {A B : Nat → Nat → Int32} {H : Heap} {locs : List Loc} {ls : Array Slot} {b L i tG : Nat} {xs : Nat → Int32} (hL : L ≤ 3072) (hi : i + 6 ≤ L) (C0 : lw_At p s m meth c b L xs) (hK : va_K D vwCl (tysA cI cZ cS) s) (hN : nestC s) (hG : gmS s tG) (kk : lawK p l e s m below meth c b D cI cZ cS q q' (nI i)) (iv : Inv N V A M U B) (hPc : va_P D vwCl (wC cI cS q N V A) H) (hPm : va_P D vwCl (wM cI cZ q' M U B) H) (hD : va_D (fun q : Nat => s.heap.size ≤ q) (wC cI cS q N V A ++ wM cI cZ q' M U B)) (hS : va_S (fun q : Nat => s.heap.size ≤ q) s.heap H locs) (hl : lv_has ls 4 [(0, .ref b), (1, .ref (q 0)), (2, .ref (q' 0)), (3, .int (nI i))]) : W p l e room_1 s m #[Value.ref b] below meth c H locs 600000 7302250 (lw_Z below #[Value.ref b] s) (F0 m 487 ls []) := by
  obtain ⟨hx, hb, hr, hml, hown, hts0, hX, hbl, hlocks, hgv⟩ := C0
  have hts : ∀ w ∈ wsL_law, w.before #[Value.ref b] s = true := fun w h => hts0 w (wsL_law_in w h)
  have hown : s.vm.findClass RL = some m.cls := hown
  have hA : ∀ q : Nat, s.heap.size ≤ q → (fun q : Nat => s.heap.size ≤ q) q := fun _ h => h
  have hbA : ¬ (fun q : Nat => s.heap.size ≤ q) b := Nat.not_le.mpr hbl
  obtain ⟨i0, i1, i2, i3, i4, i5⟩ := inS hL hi
  have okc := iv.2.2.2.2.2.2.2.1
  have okm := iv.2.2.2.2.2.2.2.2
  have okv := iv.okV
  have oks := iv.okS
  have hup : M 2 < 2 ^ M 0 := iv.1.2.2.2.2.2
  have hupN : N 2 < 2 ^ N 0 := by rw [iv.1.2.2.1, iv.1.1]; exact hup
  have hw3 : ¬ B 1 3 = 0 := fun h => by have := (iv.2.2.1 3 (by decide)).2.1; rw [h] at this; exact absurd this (by decide)
  refine lv_aload_n hx hb dL_law_487 rfl (lv_at hl 1 rfl) ?_
  refine lv_aload_n hx hb dL_law_488 rfl (lv_at hl 0 rfl) ?_
  refine lv_iload_n hx hb dL_law_489 rfl (lv_at hl 3 rfl) ?_
  refine lv_iconst (v := (1)) hx hb dL_law_490 (by decide) ?_
  refine lv_iadd hx hb dL_law_491 ?_
  refine va_sld (i := nI i + (1 : Int32)) hx hb hX hbl hbA hS i1 dL_law_492 ?_
  refine lv_aload_n hx hb dL_law_493 rfl (lv_at hl 0 rfl) ?_
  refine lv_iload_n hx hb dL_law_494 rfl (lv_at hl 3 rfl) ?_
  refine lv_iconst (v := (2)) hx hb dL_law_495 (by decide) ?_
  refine lv_iadd hx hb dL_law_496 ?_
  refine va_sld (i := nI i + (2 : Int32)) hx hb hX hbl hbA hS i2 dL_law_497 ?_
  refine vp_callSi (W.runV (As := [.int (xs (nI i + (1 : Int32)).toNatClampNeg), .int (xs (nI i + (2 : Int32)).toNatClampNeg)]) (rest := []) ⟨hx, hb, hml, hown, hts⟩ (c_X4_threaded l D cI cZ cS q N V A (xs (nI i + (1 : Int32)).toNatClampNeg) (xs (nI i + (2 : Int32)).toNatClampNeg) okc) (cwV 2 hts gL_law_X4_threaded rfl rfl rfl (by decide +kernel) ⟨Nat.le_of_ble_eq_true rfl, Nat.le_of_ble_eq_true rfl⟩) (preC4 hK hN hPc) rfl rfl hl.1 rfl (lv_room (Nat.le_of_ble_eq_true rfl)) dL_law_498 ⟨Nat.le_of_ble_eq_true rfl, Nat.le_of_ble_eq_true rfl⟩) (fun r1 er1 => ?_)
  subst er1
  refine lv_aload_n hx hb dL_law_501 rfl (lv_at hl 2 rfl) ?_
  refine lv_aload_n hx hb dL_law_502 rfl (lv_at hl 0 rfl) ?_
  refine lv_iload_n hx hb dL_law_503 rfl (lv_at hl 3 rfl) ?_
  refine lv_iconst (v := (1)) hx hb dL_law_504 (by decide) ?_
  refine lv_iadd hx hb dL_law_505 ?_
  refine va_sld (i := nI i + (1 : Int32)) hx hb hX hbl hbA hS i1 dL_law_506 ?_
  refine lv_aload_n hx hb dL_law_507 rfl (lv_at hl 0 rfl) ?_
  refine lv_iload_n hx hb dL_law_508 rfl (lv_at hl 3 rfl) ?_
  refine lv_iconst (v := (2)) hx hb dL_law_509 (by decide) ?_
  refine lv_iadd hx hb dL_law_510 ?_
  refine va_sld (i := nI i + (2 : Int32)) hx hb hX hbl hbA hS i2 dL_law_511 ?_
  refine vp_callSi (W.runV (As := [.int (xs (nI i + (1 : Int32)).toNatClampNeg), .int (xs (nI i + (2 : Int32)).toNatClampNeg)]) (rest := [(.int (s_X4_threaded N V A (xs (nI i + (1 : Int32)).toNatClampNeg) (xs (nI i + (2 : Int32)).toNatClampNeg)))]) ⟨hx, hb, hml, hown, hts⟩ (c_X5_threaded l D cI cZ cS q' M U B (xs (nI i + (1 : Int32)).toNatClampNeg) (xs (nI i + (2 : Int32)).toNatClampNeg) okm) (cwV 2 hts gL_law_X5_threaded rfl rfl rfl (by decide +kernel) ⟨Nat.le_of_ble_eq_true rfl, Nat.le_of_ble_eq_true rfl⟩) (preM hK hPm) rfl rfl hl.1 rfl (lv_room (Nat.le_of_ble_eq_true rfl)) dL_law_512 ⟨Nat.le_of_ble_eq_true rfl, Nat.le_of_ble_eq_true rfl⟩) (fun r2 er2 => ?_)
  subst er2
  have hs := threaded_eq iv (xs (nI i + (1 : Int32)).toNatClampNeg) (xs (nI i + (2 : Int32)).toNatClampNeg)
  refine lv_icmp_eq (tgt := 1015) hx hb dL_law_515 (by decide) (fun _ => ?_) (fun c1 => absurd hs c1)
  exact kk _ _ _ _ _ _ _ _ _ iv hPc hPm hD hS hl
set_option maxHeartbeats 4000000 in
set_option maxRecDepth 100000 in
theorem lc_10 {p : Program} {l : Launch} {e : Env} {s : State} {m : MethodId} {below : List Frame} {meth : Method} {c : Code} {D : va_G} {cI cZ cS : ClassId} {q q' : Nat → Nat} {N M : Nat → Nat} {V U : Nat → Int32} {A B : Nat → Nat → Int32} {H : Heap} {locs : List Loc} {ls : Array Slot} {b L i tG : Nat} {xs : Nat → Int32} (hL : L ≤ 3072) (hi : i + 6 ≤ L) (C0 : lw_At p s m meth c b L xs) (hK : va_K D vwCl (tysA cI cZ cS) s) (hN : nestC s) (hG : gmS s tG) (kk : lawK p l e s m below meth c b D cI cZ cS q q' (nI i)) (iv : Inv N V A M U B) (hPc : va_P D vwCl (wC cI cS q N V A) H) (hPm : va_P D vwCl (wM cI cZ q' M U B) H) (hD : va_D (fun q : Nat => s.heap.size ≤ q) (wC cI cS q N V A ++ wM cI cZ q' M U B)) (hS : va_S (fun q : Nat => s.heap.size ≤ q) s.heap H locs) (hl : lv_has ls 4 [(0, .ref b), (1, .ref (q 0)), (2, .ref (q' 0)), (3, .int (nI i))]) : W p l e room_1 s m #[Value.ref b] below meth c H locs 600000 7302250 (lw_Z below #[Value.ref b] s) (F0 m 520 ls []) := by
  obtain ⟨hx, hb, hr, hml, hown, hts0, hX, hbl, hlocks, hgv⟩ := C0
  have hts : ∀ w ∈ wsL_law, w.before #[Value.ref b] s = true := fun w h => hts0 w (wsL_law_in w h)
  have hown : s.vm.findClass RL = some m.cls := hown
  have hA : ∀ q : Nat, s.heap.size ≤ q → (fun q : Nat => s.heap.size ≤ q) q := fun _ h => h
  have hbA : ¬ (fun q : Nat => s.heap.size ≤ q) b := Nat.not_le.mpr hbl
  obtain ⟨i0, i1, i2, i3, i4, i5⟩ := inS hL hi
  have okc := iv.2.2.2.2.2.2.2.1
  have okm := iv.2.2.2.2.2.2.2.2
  have okv := iv.okV
  have oks := iv.okS
  have hup : M 2 < 2 ^ M 0 := iv.1.2.2.2.2.2
  have hupN : N 2 < 2 ^ N 0 := by rw [iv.1.2.2.1, iv.1.1]; exact hup
  have hw3 : ¬ B 1 3 = 0 := fun h => by have := (iv.2.2.1 3 (by decide)).2.1; rw [h] at this; exact absurd this (by decide)
  refine lv_aload_n hx hb dL_law_520 rfl (lv_at hl 1 rfl) ?_
  refine lv_aload_n hx hb dL_law_521 rfl (lv_at hl 0 rfl) ?_
  refine lv_iload_n hx hb dL_law_522 rfl (lv_at hl 3 rfl) ?_
  refine lv_iconst (v := (1)) hx hb dL_law_523 (by decide) ?_
  refine lv_iadd hx hb dL_law_524 ?_
  refine va_sld (i := nI i + (1 : Int32)) hx hb hX hbl hbA hS i1 dL_law_525 ?_
  refine lv_aload_n hx hb dL_law_526 rfl (lv_at hl 0 rfl) ?_
  refine lv_iload_n hx hb dL_law_527 rfl (lv_at hl 3 rfl) ?_
  refine lv_iconst (v := (2)) hx hb dL_law_528 (by decide) ?_
  refine lv_iadd hx hb dL_law_529 ?_
  refine va_sld (i := nI i + (2 : Int32)) hx hb hX hbl hbA hS i2 dL_law_530 ?_
  refine vp_callSi (W.runV (As := [.int (xs (nI i + (1 : Int32)).toNatClampNeg), .int (xs (nI i + (2 : Int32)).toNatClampNeg)]) (rest := []) ⟨hx, hb, hml, hown, hts⟩ (c_X4_cross l D cI cZ cS q N V A (xs (nI i + (1 : Int32)).toNatClampNeg) (xs (nI i + (2 : Int32)).toNatClampNeg) okc) (cwV 2 hts gL_law_X4_cross rfl rfl rfl (by decide +kernel) ⟨Nat.le_of_ble_eq_true rfl, Nat.le_of_ble_eq_true rfl⟩) (preC4 hK hN hPc) rfl rfl hl.1 rfl (lv_room (Nat.le_of_ble_eq_true rfl)) dL_law_531 ⟨Nat.le_of_ble_eq_true rfl, Nat.le_of_ble_eq_true rfl⟩) (fun r1 er1 => ?_)
  subst er1
  refine lv_aload_n hx hb dL_law_534 rfl (lv_at hl 2 rfl) ?_
  refine lv_aload_n hx hb dL_law_535 rfl (lv_at hl 0 rfl) ?_
  refine lv_iload_n hx hb dL_law_536 rfl (lv_at hl 3 rfl) ?_
  refine lv_iconst (v := (1)) hx hb dL_law_537 (by decide) ?_
  refine lv_iadd hx hb dL_law_538 ?_
  refine va_sld (i := nI i + (1 : Int32)) hx hb hX hbl hbA hS i1 dL_law_539 ?_
  refine lv_aload_n hx hb dL_law_540 rfl (lv_at hl 0 rfl) ?_
  refine lv_iload_n hx hb dL_law_541 rfl (lv_at hl 3 rfl) ?_
  refine lv_iconst (v := (2)) hx hb dL_law_542 (by decide) ?_
  refine lv_iadd hx hb dL_law_543 ?_
  refine va_sld (i := nI i + (2 : Int32)) hx hb hX hbl hbA hS i2 dL_law_544 ?_
  refine vp_callSi (W.runV (As := [.int (xs (nI i + (1 : Int32)).toNatClampNeg), .int (xs (nI i + (2 : Int32)).toNatClampNeg)]) (rest := [(.int (s_X4_cross N V A (xs (nI i + (1 : Int32)).toNatClampNeg) (xs (nI i + (2 : Int32)).toNatClampNeg)))]) ⟨hx, hb, hml, hown, hts⟩ (c_X5_cross l D cI cZ cS q' M U B (xs (nI i + (1 : Int32)).toNatClampNeg) (xs (nI i + (2 : Int32)).toNatClampNeg) okm) (cwV 2 hts gL_law_X5_cross rfl rfl rfl (by decide +kernel) ⟨Nat.le_of_ble_eq_true rfl, Nat.le_of_ble_eq_true rfl⟩) (preM hK hPm) rfl rfl hl.1 rfl (lv_room (Nat.le_of_ble_eq_true rfl)) dL_law_545 ⟨Nat.le_of_ble_eq_true rfl, Nat.le_of_ble_eq_true rfl⟩) (fun r2 er2 => ?_)
  subst er2
  have hs := cross_eq iv (xs (nI i + (1 : Int32)).toNatClampNeg) (xs (nI i + (2 : Int32)).toNatClampNeg)
  refine lv_icmp_eq (tgt := 1015) hx hb dL_law_548 (by decide) (fun _ => ?_) (fun c1 => absurd hs c1)
  exact kk _ _ _ _ _ _ _ _ _ iv hPc hPm hD hS hl
set_option maxHeartbeats 4000000 in
set_option maxRecDepth 100000 in
theorem lc_11 {p : Program} {l : Launch} {e : Env} {s : State} {m : MethodId} {below : List Frame} {meth : Method} {c : Code} {D : va_G} {cI cZ cS : ClassId} {q q' : Nat → Nat} {N M : Nat → Nat} {V U : Nat → Int32} {A B : Nat → Nat → Int32} {H : Heap} {locs : List Loc} {ls : Array Slot} {b L i tG : Nat} {xs : Nat → Int32} (hL : L ≤ 3072) (hi : i + 6 ≤ L) (C0 : lw_At p s m meth c b L xs) (hK : va_K D vwCl (tysA cI cZ cS) s) (hN : nestC s) (hG : gmS s tG) (kk : lawK p l e s m below meth c b D cI cZ cS q q' (nI i)) (iv : Inv N V A M U B) (hPc : va_P D vwCl (wC cI cS q N V A) H) (hPm : va_P D vwCl (wM cI cZ q' M U B) H) (hD : va_D (fun q : Nat => s.heap.size ≤ q) (wC cI cS q N V A ++ wM cI cZ q' M U B)) (hS : va_S (fun q : Nat => s.heap.size ≤ q) s.heap H locs) (hl : lv_has ls 4 [(0, .ref b), (1, .ref (q 0)), (2, .ref (q' 0)), (3, .int (nI i))]) : W p l e room_1 s m #[Value.ref b] below meth c H locs 600000 7302250 (lw_Z below #[Value.ref b] s) (F0 m 553 ls []) := by
  obtain ⟨hx, hb, hr, hml, hown, hts0, hX, hbl, hlocks, hgv⟩ := C0
  have hts : ∀ w ∈ wsL_law, w.before #[Value.ref b] s = true := fun w h => hts0 w (wsL_law_in w h)
  have hown : s.vm.findClass RL = some m.cls := hown
  have hA : ∀ q : Nat, s.heap.size ≤ q → (fun q : Nat => s.heap.size ≤ q) q := fun _ h => h
  have hbA : ¬ (fun q : Nat => s.heap.size ≤ q) b := Nat.not_le.mpr hbl
  obtain ⟨i0, i1, i2, i3, i4, i5⟩ := inS hL hi
  have okc := iv.2.2.2.2.2.2.2.1
  have okm := iv.2.2.2.2.2.2.2.2
  have okv := iv.okV
  have oks := iv.okS
  have hup : M 2 < 2 ^ M 0 := iv.1.2.2.2.2.2
  have hupN : N 2 < 2 ^ N 0 := by rw [iv.1.2.2.1, iv.1.1]; exact hup
  have hw3 : ¬ B 1 3 = 0 := fun h => by have := (iv.2.2.1 3 (by decide)).2.1; rw [h] at this; exact absurd this (by decide)
  refine lv_aload_n hx hb dL_law_553 rfl (lv_at hl 1 rfl) ?_
  refine lv_aload_n hx hb dL_law_554 rfl (lv_at hl 0 rfl) ?_
  refine lv_iload_n hx hb dL_law_555 rfl (lv_at hl 3 rfl) ?_
  refine lv_iconst (v := (1)) hx hb dL_law_556 (by decide) ?_
  refine lv_iadd hx hb dL_law_557 ?_
  refine va_sld (i := nI i + (1 : Int32)) hx hb hX hbl hbA hS i1 dL_law_558 ?_
  refine law_i (wx := wC cI cS q N V A) (wy := wM cI cZ q' M U B) (va_runV (As := [.int (xs (nI i + (1 : Int32)).toNatClampNeg)]) (rest := []) ⟨hx, hb, hml, hown, hts⟩ (c_X4_raise l D cI cZ cS q N V A H.size (xs (nI i + (1 : Int32)).toNatClampNeg) okc) (cwV 1 hts gL_law_X4_raise rfl rfl rfl (by decide +kernel) ⟨Nat.le_of_ble_eq_true rfl, Nat.le_of_ble_eq_true rfl⟩) (preCm4 hK hN hPc (pair_l hD)) rfl rfl hl.1 rfl (lv_room (Nat.le_of_ble_eq_true rfl)) dL_law_559 ⟨Nat.le_of_ble_eq_true rfl, Nat.le_of_ble_eq_true rfl⟩) (fun t h => h.1) hD hPm hS hA (fun H locs hPc hPm hD hS => ?_)
  refine lv_aload_n hx hb dL_law_562 rfl (lv_at hl 2 rfl) ?_
  refine lv_aload_n hx hb dL_law_563 rfl (lv_at hl 0 rfl) ?_
  refine lv_iload_n hx hb dL_law_564 rfl (lv_at hl 3 rfl) ?_
  refine lv_iconst (v := (1)) hx hb dL_law_565 (by decide) ?_
  refine lv_iadd hx hb dL_law_566 ?_
  refine va_sld (i := nI i + (1 : Int32)) hx hb hX hbl hbA hS i1 dL_law_567 ?_
  refine law_i (wx := wM cI cZ q' M U B) (wy := wC cI cS q (s_X4_raise N V A (xs (nI i + (1 : Int32)).toNatClampNeg)).2.1 (s_X4_raise N V A (xs (nI i + (1 : Int32)).toNatClampNeg)).2.2.1 (s_X4_raise N V A (xs (nI i + (1 : Int32)).toNatClampNeg)).2.2.2) (va_runV (As := [.int (xs (nI i + (1 : Int32)).toNatClampNeg)]) (rest := [(.int (s_X4_raise N V A (xs (nI i + (1 : Int32)).toNatClampNeg)).1)]) ⟨hx, hb, hml, hown, hts⟩ (c_X5_raise l D cI cZ cS q' M U B H.size (xs (nI i + (1 : Int32)).toNatClampNeg) okm) (cwV 1 hts gL_law_X5_raise rfl rfl rfl (by decide +kernel) ⟨Nat.le_of_ble_eq_true rfl, Nat.le_of_ble_eq_true rfl⟩) (preMm hK hPm (pair_r hD)) rfl rfl hl.1 rfl (lv_room (Nat.le_of_ble_eq_true rfl)) dL_law_568 ⟨Nat.le_of_ble_eq_true rfl, Nat.le_of_ble_eq_true rfl⟩) (fun t h => h.1) (pair_sw hD) hPc hS hA (fun H locs hPm hPc hD hS => ?_)
  have hD := pair_sw hD
  have hs := raise_eq iv (xs (nI i + (1 : Int32)).toNatClampNeg)
  refine lv_icmp_eq (tgt := 1015) hx hb dL_law_571 (by decide) (fun _ => ?_) (fun c1 => absurd hs.1 c1)
  exact kk _ _ _ _ _ _ _ _ _ hs.2 hPc hPm hD hS hl
set_option maxHeartbeats 4000000 in
set_option maxRecDepth 100000 in
theorem lc_12 {p : Program} {l : Launch} {e : Env} {s : State} {m : MethodId} {below : List Frame} {meth : Method} {c : Code} {D : va_G} {cI cZ cS : ClassId} {q q' : Nat → Nat} {N M : Nat → Nat} {V U : Nat → Int32} {A B : Nat → Nat → Int32} {H : Heap} {locs : List Loc} {ls : Array Slot} {b L i tG : Nat} {xs : Nat → Int32} (hL : L ≤ 3072) (hi : i + 6 ≤ L) (C0 : lw_At p s m meth c b L xs) (hK : va_K D vwCl (tysA cI cZ cS) s) (hN : nestC s) (hG : gmS s tG) (kk : lawK p l e s m below meth c b D cI cZ cS q q' (nI i)) (iv : Inv N V A M U B) (hPc : va_P D vwCl (wC cI cS q N V A) H) (hPm : va_P D vwCl (wM cI cZ q' M U B) H) (hD : va_D (fun q : Nat => s.heap.size ≤ q) (wC cI cS q N V A ++ wM cI cZ q' M U B)) (hS : va_S (fun q : Nat => s.heap.size ≤ q) s.heap H locs) (hl : lv_has ls 4 [(0, .ref b), (1, .ref (q 0)), (2, .ref (q' 0)), (3, .int (nI i))]) : W p l e room_1 s m #[Value.ref b] below meth c H locs 600000 7302250 (lw_Z below #[Value.ref b] s) (F0 m 576 ls []) := by
  obtain ⟨hx, hb, hr, hml, hown, hts0, hX, hbl, hlocks, hgv⟩ := C0
  have hts : ∀ w ∈ wsL_law, w.before #[Value.ref b] s = true := fun w h => hts0 w (wsL_law_in w h)
  have hown : s.vm.findClass RL = some m.cls := hown
  have hA : ∀ q : Nat, s.heap.size ≤ q → (fun q : Nat => s.heap.size ≤ q) q := fun _ h => h
  have hbA : ¬ (fun q : Nat => s.heap.size ≤ q) b := Nat.not_le.mpr hbl
  obtain ⟨i0, i1, i2, i3, i4, i5⟩ := inS hL hi
  have okc := iv.2.2.2.2.2.2.2.1
  have okm := iv.2.2.2.2.2.2.2.2
  have okv := iv.okV
  have oks := iv.okS
  have hup : M 2 < 2 ^ M 0 := iv.1.2.2.2.2.2
  have hupN : N 2 < 2 ^ N 0 := by rw [iv.1.2.2.1, iv.1.1]; exact hup
  have hw3 : ¬ B 1 3 = 0 := fun h => by have := (iv.2.2.1 3 (by decide)).2.1; rw [h] at this; exact absurd this (by decide)
  refine lv_aload_n hx hb dL_law_576 rfl (lv_at hl 1 rfl) ?_
  refine lv_aload_n hx hb dL_law_577 rfl (lv_at hl 0 rfl) ?_
  refine lv_iload_n hx hb dL_law_578 rfl (lv_at hl 3 rfl) ?_
  refine lv_iconst (v := (1)) hx hb dL_law_579 (by decide) ?_
  refine lv_iadd hx hb dL_law_580 ?_
  refine va_sld (i := nI i + (1 : Int32)) hx hb hX hbl hbA hS i1 dL_law_581 ?_
  refine law_i (wx := wC cI cS q N V A) (wy := wM cI cZ q' M U B) (va_runV (As := [.int (xs (nI i + (1 : Int32)).toNatClampNeg)]) (rest := []) ⟨hx, hb, hml, hown, hts⟩ (c_X4_lay l D cI cZ cS q N V A H.size (xs (nI i + (1 : Int32)).toNatClampNeg) okc) (cwV 1 hts gL_law_X4_lay rfl rfl rfl (by decide +kernel) ⟨Nat.le_of_ble_eq_true rfl, Nat.le_of_ble_eq_true rfl⟩) (preCm4 hK hN hPc (pair_l hD)) rfl rfl hl.1 rfl (lv_room (Nat.le_of_ble_eq_true rfl)) dL_law_582 ⟨Nat.le_of_ble_eq_true rfl, Nat.le_of_ble_eq_true rfl⟩) (fun t h => h.1) hD hPm hS hA (fun H locs hPc hPm hD hS => ?_)
  refine lv_aload_n hx hb dL_law_585 rfl (lv_at hl 2 rfl) ?_
  refine lv_aload_n hx hb dL_law_586 rfl (lv_at hl 0 rfl) ?_
  refine lv_iload_n hx hb dL_law_587 rfl (lv_at hl 3 rfl) ?_
  refine lv_iconst (v := (1)) hx hb dL_law_588 (by decide) ?_
  refine lv_iadd hx hb dL_law_589 ?_
  refine va_sld (i := nI i + (1 : Int32)) hx hb hX hbl hbA hS i1 dL_law_590 ?_
  refine law_i (wx := wM cI cZ q' M U B) (wy := wC cI cS q (s_X4_lay N V A (xs (nI i + (1 : Int32)).toNatClampNeg)).2.1 (s_X4_lay N V A (xs (nI i + (1 : Int32)).toNatClampNeg)).2.2.1 (s_X4_lay N V A (xs (nI i + (1 : Int32)).toNatClampNeg)).2.2.2) (va_runV (As := [.int (xs (nI i + (1 : Int32)).toNatClampNeg)]) (rest := [(.int (s_X4_lay N V A (xs (nI i + (1 : Int32)).toNatClampNeg)).1)]) ⟨hx, hb, hml, hown, hts⟩ (c_X5_lay l D cI cZ cS q' M U B H.size (xs (nI i + (1 : Int32)).toNatClampNeg) okm) (cwV 1 hts gL_law_X5_lay rfl rfl rfl (by decide +kernel) ⟨Nat.le_of_ble_eq_true rfl, Nat.le_of_ble_eq_true rfl⟩) (preMm hK hPm (pair_r hD)) rfl rfl hl.1 rfl (lv_room (Nat.le_of_ble_eq_true rfl)) dL_law_591 ⟨Nat.le_of_ble_eq_true rfl, Nat.le_of_ble_eq_true rfl⟩) (fun t h => h.1) (pair_sw hD) hPc hS hA (fun H locs hPm hPc hD hS => ?_)
  have hD := pair_sw hD
  have hs := lay_eq iv (xs (nI i + (1 : Int32)).toNatClampNeg)
  refine lv_icmp_eq (tgt := 1015) hx hb dL_law_594 (by decide) (fun _ => ?_) (fun c1 => absurd hs.1 c1)
  exact kk _ _ _ _ _ _ _ _ _ hs.2 hPc hPm hD hS hl
set_option maxHeartbeats 4000000 in
set_option maxRecDepth 100000 in
theorem lc_13 {p : Program} {l : Launch} {e : Env} {s : State} {m : MethodId} {below : List Frame} {meth : Method} {c : Code} {D : va_G} {cI cZ cS : ClassId} {q q' : Nat → Nat} {N M : Nat → Nat} {V U : Nat → Int32} {A B : Nat → Nat → Int32} {H : Heap} {locs : List Loc} {ls : Array Slot} {b L i tG : Nat} {xs : Nat → Int32} (hL : L ≤ 3072) (hi : i + 6 ≤ L) (C0 : lw_At p s m meth c b L xs) (hK : va_K D vwCl (tysA cI cZ cS) s) (hN : nestC s) (hG : gmS s tG) (kk : lawK p l e s m below meth c b D cI cZ cS q q' (nI i)) (iv : Inv N V A M U B) (hPc : va_P D vwCl (wC cI cS q N V A) H) (hPm : va_P D vwCl (wM cI cZ q' M U B) H) (hD : va_D (fun q : Nat => s.heap.size ≤ q) (wC cI cS q N V A ++ wM cI cZ q' M U B)) (hS : va_S (fun q : Nat => s.heap.size ≤ q) s.heap H locs) (hl : lv_has ls 4 [(0, .ref b), (1, .ref (q 0)), (2, .ref (q' 0)), (3, .int (nI i))]) : W p l e room_1 s m #[Value.ref b] below meth c H locs 600000 7302250 (lw_Z below #[Value.ref b] s) (F0 m 599 ls []) := by
  obtain ⟨hx, hb, hr, hml, hown, hts0, hX, hbl, hlocks, hgv⟩ := C0
  have hts : ∀ w ∈ wsL_law, w.before #[Value.ref b] s = true := fun w h => hts0 w (wsL_law_in w h)
  have hown : s.vm.findClass RL = some m.cls := hown
  have hA : ∀ q : Nat, s.heap.size ≤ q → (fun q : Nat => s.heap.size ≤ q) q := fun _ h => h
  have hbA : ¬ (fun q : Nat => s.heap.size ≤ q) b := Nat.not_le.mpr hbl
  obtain ⟨i0, i1, i2, i3, i4, i5⟩ := inS hL hi
  have okc := iv.2.2.2.2.2.2.2.1
  have okm := iv.2.2.2.2.2.2.2.2
  have okv := iv.okV
  have oks := iv.okS
  have hup : M 2 < 2 ^ M 0 := iv.1.2.2.2.2.2
  have hupN : N 2 < 2 ^ N 0 := by rw [iv.1.2.2.1, iv.1.1]; exact hup
  have hw3 : ¬ B 1 3 = 0 := fun h => by have := (iv.2.2.1 3 (by decide)).2.1; rw [h] at this; exact absurd this (by decide)
  refine lv_aload_n hx hb dL_law_599 rfl (lv_at hl 1 rfl) ?_
  refine law_i (wx := wC cI cS q N V A) (wy := wM cI cZ q' M U B) (va_runV (As := []) (rest := []) ⟨hx, hb, hml, hown, hts⟩ (c_X4_settle l D cI cZ cS q N V A H.size  okc) (cwV 0 hts gL_law_X4_settle rfl rfl rfl (by decide +kernel) ⟨Nat.le_of_ble_eq_true rfl, Nat.le_of_ble_eq_true rfl⟩) (preCm4 hK hN hPc (pair_l hD)) rfl rfl hl.1 rfl (lv_room (Nat.le_of_ble_eq_true rfl)) dL_law_600 ⟨Nat.le_of_ble_eq_true rfl, Nat.le_of_ble_eq_true rfl⟩) (fun t h => h.1) hD hPm hS hA (fun H locs hPc hPm hD hS => ?_)
  refine lv_aload_n hx hb dL_law_603 rfl (lv_at hl 2 rfl) ?_
  refine law_i (wx := wM cI cZ q' M U B) (wy := wC cI cS q (s_X4_settle N V A ).2.1 (s_X4_settle N V A ).2.2.1 (s_X4_settle N V A ).2.2.2) (va_runV (As := []) (rest := [(.int (s_X4_settle N V A ).1)]) ⟨hx, hb, hml, hown, hts⟩ (c_X5_settle l D cI cZ cS q' M U B H.size  okm) (cwV 0 hts gL_law_X5_settle rfl rfl rfl (by decide +kernel) ⟨Nat.le_of_ble_eq_true rfl, Nat.le_of_ble_eq_true rfl⟩) (preMm hK hPm (pair_r hD)) rfl rfl hl.1 rfl (lv_room (Nat.le_of_ble_eq_true rfl)) dL_law_604 ⟨Nat.le_of_ble_eq_true rfl, Nat.le_of_ble_eq_true rfl⟩) (fun t h => h.1) (pair_sw hD) hPc hS hA (fun H locs hPm hPc hD hS => ?_)
  have hD := pair_sw hD
  have hs := settle_eq iv 
  refine lv_icmp_eq (tgt := 1015) hx hb dL_law_607 (by decide) (fun _ => ?_) (fun c1 => absurd hs.1 c1)
  exact kk _ _ _ _ _ _ _ _ _ hs.2 hPc hPm hD hS hl
