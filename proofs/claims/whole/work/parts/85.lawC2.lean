/-! the law's cases 14 to 20 -/
set_option maxHeartbeats 4000000 in
set_option maxRecDepth 100000 in
theorem lc_14 {p : Program} {l : Launch} {e : Env} {s : State} {m : MethodId} {below : List Frame} {meth : Method} {c : Code} {D : va_G} {cI cZ cS : ClassId} {q q' : Nat → Nat} {N M : Nat → Nat} {V U : Nat → Int32} {A B : Nat → Nat → Int32} {H : Heap} {locs : List Loc} {ls : Array Slot} {b L i tG : Nat} {xs : Nat → Int32} (hL : L ≤ 3072) (hi : i + 6 ≤ L) (C0 : lw_At p s m meth c b L xs) (hK : va_K D vwCl (tysA cI cZ cS) s) (hN : nestC s) (hG : gmS s tG) (kk : lawK p l e s m below meth c b D cI cZ cS q q' (nI i)) (iv : Inv N V A M U B) (hPc : va_P D vwCl (wC cI cS q N V A) H) (hPm : va_P D vwCl (wM cI cZ q' M U B) H) (hD : va_D (fun q : Nat => s.heap.size ≤ q) (wC cI cS q N V A ++ wM cI cZ q' M U B)) (hS : va_S (fun q : Nat => s.heap.size ≤ q) s.heap H locs) (hl : lv_has ls 4 [(0, .ref b), (1, .ref (q 0)), (2, .ref (q' 0)), (3, .int (nI i))]) : W p l e room_1 s m #[Value.ref b] below meth c H locs 600000 7302250 (lw_Z below #[Value.ref b] s) (F0 m 612 ls []) := by
  obtain ⟨hx, hb, hr, hml, hown, hts0, hX, hbl, hlocks, hgv⟩ := C0
  have hts : ∀ w ∈ wsL_law, w.before #[Value.ref b] s = true := fun w h => hts0 w (wsL_law_in w h)
  have hown : s.vm.findClass RL = some m.cls := hown
  have hA : ∀ q : Nat, s.heap.size ≤ q → (fun q : Nat => s.heap.size ≤ q) q := fun _ h => h
  have hbA : ¬ (fun q : Nat => s.heap.size ≤ q) b := Nat.not_le.mpr hbl
  obtain ⟨i0, i1, i2, i3, i4, i5⟩ := inS hL hi
  have okc := iv.2.2.2.2.2.2.2.1
  have okm := iv.2.2.2.2.2.2.2.2
  have okv := iv.okV
  have oks := iv.okS
  have hup : M 2 < 2 ^ M 0 := iv.1.2.2.2.2.2
  have hupN : N 2 < 2 ^ N 0 := by rw [iv.1.2.2.1, iv.1.1]; exact hup
  have hw3 : ¬ B 1 3 = 0 := fun h => by have := (iv.2.2.1 3 (by decide)).2.1; rw [h] at this; exact absurd this (by decide)
  refine lv_aload_n hx hb dL_law_612 rfl (lv_at hl 1 rfl) ?_
  refine lv_aload_n hx hb dL_law_613 rfl (lv_at hl 0 rfl) ?_
  refine lv_iload_n hx hb dL_law_614 rfl (lv_at hl 3 rfl) ?_
  refine lv_iconst (v := (1)) hx hb dL_law_615 (by decide) ?_
  refine lv_iadd hx hb dL_law_616 ?_
  refine va_sld (i := nI i + (1 : Int32)) hx hb hX hbl hbA hS i1 dL_law_617 ?_
  refine vp_callSi (W.runV (As := [.int (xs (nI i + (1 : Int32)).toNatClampNeg)]) (rest := []) ⟨hx, hb, hml, hown, hts⟩ (c_X4_order l D cI cZ cS q N V A (xs (nI i + (1 : Int32)).toNatClampNeg) okc) (cwV 1 hts gL_law_X4_order rfl rfl rfl (by decide +kernel) ⟨Nat.le_of_ble_eq_true rfl, Nat.le_of_ble_eq_true rfl⟩) (preC4 hK hN hPc) rfl rfl hl.1 rfl (lv_room (Nat.le_of_ble_eq_true rfl)) dL_law_618 ⟨Nat.le_of_ble_eq_true rfl, Nat.le_of_ble_eq_true rfl⟩) (fun r1 er1 => ?_)
  subst er1
  refine lv_aload_n hx hb dL_law_621 rfl (lv_at hl 2 rfl) ?_
  refine lv_aload_n hx hb dL_law_622 rfl (lv_at hl 0 rfl) ?_
  refine lv_iload_n hx hb dL_law_623 rfl (lv_at hl 3 rfl) ?_
  refine lv_iconst (v := (1)) hx hb dL_law_624 (by decide) ?_
  refine lv_iadd hx hb dL_law_625 ?_
  refine va_sld (i := nI i + (1 : Int32)) hx hb hX hbl hbA hS i1 dL_law_626 ?_
  refine law_i (wx := wM cI cZ q' M U B) (wy := wC cI cS q N V A) (va_runV (As := [.int (xs (nI i + (1 : Int32)).toNatClampNeg)]) (rest := [(.int (s_X4_order N V A (xs (nI i + (1 : Int32)).toNatClampNeg)))]) ⟨hx, hb, hml, hown, hts⟩ (c_X5_order l D cI cZ cS q' M U B H.size (xs (nI i + (1 : Int32)).toNatClampNeg) okm hup) (cwV 1 hts gL_law_X5_order rfl rfl rfl (by decide +kernel) ⟨Nat.le_of_ble_eq_true rfl, Nat.le_of_ble_eq_true rfl⟩) (preMm hK hPm (pair_r hD)) rfl rfl hl.1 rfl (lv_room (Nat.le_of_ble_eq_true rfl)) dL_law_627 ⟨Nat.le_of_ble_eq_true rfl, Nat.le_of_ble_eq_true rfl⟩) (fun t h => h.1) (pair_sw hD) hPc hS hA (fun H locs hPm hPc hD hS => ?_)
  have hD := pair_sw hD
  have hs := order_eq iv (xs (nI i + (1 : Int32)).toNatClampNeg)
  refine lv_icmp_eq (tgt := 1015) hx hb dL_law_630 (by decide) (fun _ => ?_) (fun c1 => absurd hs.1 c1)
  exact kk _ _ _ _ _ _ _ _ _ hs.2 hPc hPm hD hS hl
set_option maxHeartbeats 4000000 in
set_option maxRecDepth 100000 in
theorem lc_15 {p : Program} {l : Launch} {e : Env} {s : State} {m : MethodId} {below : List Frame} {meth : Method} {c : Code} {D : va_G} {cI cZ cS : ClassId} {q q' : Nat → Nat} {N M : Nat → Nat} {V U : Nat → Int32} {A B : Nat → Nat → Int32} {H : Heap} {locs : List Loc} {ls : Array Slot} {b L i tG : Nat} {xs : Nat → Int32} (hL : L ≤ 3072) (hi : i + 6 ≤ L) (C0 : lw_At p s m meth c b L xs) (hK : va_K D vwCl (tysA cI cZ cS) s) (hN : nestC s) (hG : gmS s tG) (kk : lawK p l e s m below meth c b D cI cZ cS q q' (nI i)) (iv : Inv N V A M U B) (hPc : va_P D vwCl (wC cI cS q N V A) H) (hPm : va_P D vwCl (wM cI cZ q' M U B) H) (hD : va_D (fun q : Nat => s.heap.size ≤ q) (wC cI cS q N V A ++ wM cI cZ q' M U B)) (hS : va_S (fun q : Nat => s.heap.size ≤ q) s.heap H locs) (hl : lv_has ls 4 [(0, .ref b), (1, .ref (q 0)), (2, .ref (q' 0)), (3, .int (nI i))]) : W p l e room_1 s m #[Value.ref b] below meth c H locs 600000 7302250 (lw_Z below #[Value.ref b] s) (F0 m 635 ls []) := by
  obtain ⟨hx, hb, hr, hml, hown, hts0, hX, hbl, hlocks, hgv⟩ := C0
  have hts : ∀ w ∈ wsL_law, w.before #[Value.ref b] s = true := fun w h => hts0 w (wsL_law_in w h)
  have hown : s.vm.findClass RL = some m.cls := hown
  have hA : ∀ q : Nat, s.heap.size ≤ q → (fun q : Nat => s.heap.size ≤ q) q := fun _ h => h
  have hbA : ¬ (fun q : Nat => s.heap.size ≤ q) b := Nat.not_le.mpr hbl
  obtain ⟨i0, i1, i2, i3, i4, i5⟩ := inS hL hi
  have okc := iv.2.2.2.2.2.2.2.1
  have okm := iv.2.2.2.2.2.2.2.2
  have okv := iv.okV
  have oks := iv.okS
  have hup : M 2 < 2 ^ M 0 := iv.1.2.2.2.2.2
  have hupN : N 2 < 2 ^ N 0 := by rw [iv.1.2.2.1, iv.1.1]; exact hup
  have hw3 : ¬ B 1 3 = 0 := fun h => by have := (iv.2.2.1 3 (by decide)).2.1; rw [h] at this; exact absurd this (by decide)
  refine lv_aload_n hx hb dL_law_635 rfl (lv_at hl 1 rfl) ?_
  refine lv_aload_n hx hb dL_law_636 rfl (lv_at hl 0 rfl) ?_
  refine lv_iload_n hx hb dL_law_637 rfl (lv_at hl 3 rfl) ?_
  refine lv_iconst (v := (1)) hx hb dL_law_638 (by decide) ?_
  refine lv_iadd hx hb dL_law_639 ?_
  refine va_sld (i := nI i + (1 : Int32)) hx hb hX hbl hbA hS i1 dL_law_640 ?_
  refine law_i (wx := wC cI cS q N V A) (wy := wM cI cZ q' M U B) (va_runV (As := [.int (xs (nI i + (1 : Int32)).toNatClampNeg)]) (rest := []) ⟨hx, hb, hml, hown, hts⟩ (c_X4_rising l D cI cZ cS q N V A H.size (xs (nI i + (1 : Int32)).toNatClampNeg) okc hupN) (cwV 1 hts gL_law_X4_rising rfl rfl rfl (by decide +kernel) ⟨Nat.le_of_ble_eq_true rfl, Nat.le_of_ble_eq_true rfl⟩) (preCm4 hK hN hPc (pair_l hD)) rfl rfl hl.1 rfl (lv_room (Nat.le_of_ble_eq_true rfl)) dL_law_641 ⟨Nat.le_of_ble_eq_true rfl, Nat.le_of_ble_eq_true rfl⟩) (fun t h => h.1) hD hPm hS hA (fun H locs hPc hPm hD hS => ?_)
  refine lv_aload_n hx hb dL_law_644 rfl (lv_at hl 2 rfl) ?_
  refine lv_aload_n hx hb dL_law_645 rfl (lv_at hl 0 rfl) ?_
  refine lv_iload_n hx hb dL_law_646 rfl (lv_at hl 3 rfl) ?_
  refine lv_iconst (v := (1)) hx hb dL_law_647 (by decide) ?_
  refine lv_iadd hx hb dL_law_648 ?_
  refine va_sld (i := nI i + (1 : Int32)) hx hb hX hbl hbA hS i1 dL_law_649 ?_
  refine law_i (wx := wM cI cZ q' M U B) (wy := wC cI cS q (s_X4_rising N V A (xs (nI i + (1 : Int32)).toNatClampNeg)).2.1 (s_X4_rising N V A (xs (nI i + (1 : Int32)).toNatClampNeg)).2.2.1 (s_X4_rising N V A (xs (nI i + (1 : Int32)).toNatClampNeg)).2.2.2) (va_runV (As := [.int (xs (nI i + (1 : Int32)).toNatClampNeg)]) (rest := [(.int (s_X4_rising N V A (xs (nI i + (1 : Int32)).toNatClampNeg)).1)]) ⟨hx, hb, hml, hown, hts⟩ (c_X5_rising l D cI cZ cS q' M U B H.size (xs (nI i + (1 : Int32)).toNatClampNeg) okm hup) (cwV 1 hts gL_law_X5_rising rfl rfl rfl (by decide +kernel) ⟨Nat.le_of_ble_eq_true rfl, Nat.le_of_ble_eq_true rfl⟩) (preMm hK hPm (pair_r hD)) rfl rfl hl.1 rfl (lv_room (Nat.le_of_ble_eq_true rfl)) dL_law_650 ⟨Nat.le_of_ble_eq_true rfl, Nat.le_of_ble_eq_true rfl⟩) (fun t h => h.1) (pair_sw hD) hPc hS hA (fun H locs hPm hPc hD hS => ?_)
  have hD := pair_sw hD
  have hs := rising_eq iv (xs (nI i + (1 : Int32)).toNatClampNeg)
  refine lv_icmp_eq (tgt := 1015) hx hb dL_law_653 (by decide) (fun _ => ?_) (fun c1 => absurd hs.1 c1)
  exact kk _ _ _ _ _ _ _ _ _ hs.2 hPc hPm hD hS hl
set_option maxHeartbeats 4000000 in
set_option maxRecDepth 100000 in
theorem lc_16 {p : Program} {l : Launch} {e : Env} {s : State} {m : MethodId} {below : List Frame} {meth : Method} {c : Code} {D : va_G} {cI cZ cS : ClassId} {q q' : Nat → Nat} {N M : Nat → Nat} {V U : Nat → Int32} {A B : Nat → Nat → Int32} {H : Heap} {locs : List Loc} {ls : Array Slot} {b L i tG : Nat} {xs : Nat → Int32} (hL : L ≤ 3072) (hi : i + 6 ≤ L) (C0 : lw_At p s m meth c b L xs) (hK : va_K D vwCl (tysA cI cZ cS) s) (hN : nestC s) (hG : gmS s tG) (kk : lawK p l e s m below meth c b D cI cZ cS q q' (nI i)) (iv : Inv N V A M U B) (hPc : va_P D vwCl (wC cI cS q N V A) H) (hPm : va_P D vwCl (wM cI cZ q' M U B) H) (hD : va_D (fun q : Nat => s.heap.size ≤ q) (wC cI cS q N V A ++ wM cI cZ q' M U B)) (hS : va_S (fun q : Nat => s.heap.size ≤ q) s.heap H locs) (hl : lv_has ls 4 [(0, .ref b), (1, .ref (q 0)), (2, .ref (q' 0)), (3, .int (nI i))]) : W p l e room_1 s m #[Value.ref b] below meth c H locs 600000 7302250 (lw_Z below #[Value.ref b] s) (F0 m 658 ls []) := by
  obtain ⟨hx, hb, hr, hml, hown, hts0, hX, hbl, hlocks, hgv⟩ := C0
  have hts : ∀ w ∈ wsL_law, w.before #[Value.ref b] s = true := fun w h => hts0 w (wsL_law_in w h)
  have hown : s.vm.findClass RL = some m.cls := hown
  have hA : ∀ q : Nat, s.heap.size ≤ q → (fun q : Nat => s.heap.size ≤ q) q := fun _ h => h
  have hbA : ¬ (fun q : Nat => s.heap.size ≤ q) b := Nat.not_le.mpr hbl
  obtain ⟨i0, i1, i2, i3, i4, i5⟩ := inS hL hi
  have okc := iv.2.2.2.2.2.2.2.1
  have okm := iv.2.2.2.2.2.2.2.2
  have okv := iv.okV
  have oks := iv.okS
  have hup : M 2 < 2 ^ M 0 := iv.1.2.2.2.2.2
  have hupN : N 2 < 2 ^ N 0 := by rw [iv.1.2.2.1, iv.1.1]; exact hup
  have hw3 : ¬ B 1 3 = 0 := fun h => by have := (iv.2.2.1 3 (by decide)).2.1; rw [h] at this; exact absurd this (by decide)
  refine lv_aload_n hx hb dL_law_658 rfl (lv_at hl 1 rfl) ?_
  refine vp_callSi (W.runV (As := []) (rest := []) ⟨hx, hb, hml, hown, hts⟩ (c_X4_rig l D cI cZ cS q N V A  okc) (cwV 0 hts gL_law_X4_rig rfl rfl rfl (by decide +kernel) ⟨Nat.le_of_ble_eq_true rfl, Nat.le_of_ble_eq_true rfl⟩) (preC4 hK hN hPc) rfl rfl hl.1 rfl (lv_room (Nat.le_of_ble_eq_true rfl)) dL_law_659 ⟨Nat.le_of_ble_eq_true rfl, Nat.le_of_ble_eq_true rfl⟩) (fun r1 er1 => ?_)
  subst er1
  refine lv_aload_n hx hb dL_law_662 rfl (lv_at hl 2 rfl) ?_
  refine law_i (wx := wM cI cZ q' M U B) (wy := wC cI cS q N V A) (va_runV (As := []) (rest := [(.int (s_X4_rig N V A ))]) ⟨hx, hb, hml, hown, hts⟩ (c_X5_rig l D cI cZ cS q' M U B H.size  okm) (cwV 0 hts gL_law_X5_rig rfl rfl rfl (by decide +kernel) ⟨Nat.le_of_ble_eq_true rfl, Nat.le_of_ble_eq_true rfl⟩) (preMm hK hPm (pair_r hD)) rfl rfl hl.1 rfl (lv_room (Nat.le_of_ble_eq_true rfl)) dL_law_663 ⟨Nat.le_of_ble_eq_true rfl, Nat.le_of_ble_eq_true rfl⟩) (fun t h => h.1) (pair_sw hD) hPc hS hA (fun H locs hPm hPc hD hS => ?_)
  have hD := pair_sw hD
  have hs := rig_eq iv 
  refine lv_icmp_eq (tgt := 1015) hx hb dL_law_666 (by decide) (fun _ => ?_) (fun c1 => absurd hs.1 c1)
  exact kk _ _ _ _ _ _ _ _ _ hs.2 hPc hPm hD hS hl
set_option maxHeartbeats 4000000 in
set_option maxRecDepth 100000 in
theorem lc_17 {p : Program} {l : Launch} {e : Env} {s : State} {m : MethodId} {below : List Frame} {meth : Method} {c : Code} {D : va_G} {cI cZ cS : ClassId} {q q' : Nat → Nat} {N M : Nat → Nat} {V U : Nat → Int32} {A B : Nat → Nat → Int32} {H : Heap} {locs : List Loc} {ls : Array Slot} {b L i tG : Nat} {xs : Nat → Int32} (hL : L ≤ 3072) (hi : i + 6 ≤ L) (C0 : lw_At p s m meth c b L xs) (hK : va_K D vwCl (tysA cI cZ cS) s) (hN : nestC s) (hG : gmS s tG) (kk : lawK p l e s m below meth c b D cI cZ cS q q' (nI i)) (iv : Inv N V A M U B) (hPc : va_P D vwCl (wC cI cS q N V A) H) (hPm : va_P D vwCl (wM cI cZ q' M U B) H) (hD : va_D (fun q : Nat => s.heap.size ≤ q) (wC cI cS q N V A ++ wM cI cZ q' M U B)) (hS : va_S (fun q : Nat => s.heap.size ≤ q) s.heap H locs) (hl : lv_has ls 4 [(0, .ref b), (1, .ref (q 0)), (2, .ref (q' 0)), (3, .int (nI i))]) : W p l e room_1 s m #[Value.ref b] below meth c H locs 600000 7302250 (lw_Z below #[Value.ref b] s) (F0 m 671 ls []) := by
  obtain ⟨hx, hb, hr, hml, hown, hts0, hX, hbl, hlocks, hgv⟩ := C0
  have hts : ∀ w ∈ wsL_law, w.before #[Value.ref b] s = true := fun w h => hts0 w (wsL_law_in w h)
  have hown : s.vm.findClass RL = some m.cls := hown
  have hA : ∀ q : Nat, s.heap.size ≤ q → (fun q : Nat => s.heap.size ≤ q) q := fun _ h => h
  have hbA : ¬ (fun q : Nat => s.heap.size ≤ q) b := Nat.not_le.mpr hbl
  obtain ⟨i0, i1, i2, i3, i4, i5⟩ := inS hL hi
  have okc := iv.2.2.2.2.2.2.2.1
  have okm := iv.2.2.2.2.2.2.2.2
  have okv := iv.okV
  have oks := iv.okS
  have hup : M 2 < 2 ^ M 0 := iv.1.2.2.2.2.2
  have hupN : N 2 < 2 ^ N 0 := by rw [iv.1.2.2.1, iv.1.1]; exact hup
  have hw3 : ¬ B 1 3 = 0 := fun h => by have := (iv.2.2.1 3 (by decide)).2.1; rw [h] at this; exact absurd this (by decide)
  refine lv_aload_n hx hb dL_law_671 rfl (lv_at hl 1 rfl) ?_
  refine lv_aload_n hx hb dL_law_672 rfl (lv_at hl 0 rfl) ?_
  refine lv_iload_n hx hb dL_law_673 rfl (lv_at hl 3 rfl) ?_
  refine lv_iconst (v := (1)) hx hb dL_law_674 (by decide) ?_
  refine lv_iadd hx hb dL_law_675 ?_
  refine va_sld (i := nI i + (1 : Int32)) hx hb hX hbl hbA hS i1 dL_law_676 ?_
  refine lv_aload_n hx hb dL_law_677 rfl (lv_at hl 0 rfl) ?_
  refine lv_iload_n hx hb dL_law_678 rfl (lv_at hl 3 rfl) ?_
  refine lv_iconst (v := (2)) hx hb dL_law_679 (by decide) ?_
  refine lv_iadd hx hb dL_law_680 ?_
  refine va_sld (i := nI i + (2 : Int32)) hx hb hX hbl hbA hS i2 dL_law_681 ?_
  refine lv_aload_n hx hb dL_law_682 rfl (lv_at hl 0 rfl) ?_
  refine lv_iload_n hx hb dL_law_683 rfl (lv_at hl 3 rfl) ?_
  refine lv_iconst (v := (3)) hx hb dL_law_684 (by decide) ?_
  refine lv_iadd hx hb dL_law_685 ?_
  refine va_sld (i := nI i + (3 : Int32)) hx hb hX hbl hbA hS i3 dL_law_686 ?_
  refine law_i (wx := wC cI cS q N V A) (wy := wM cI cZ q' M U B) (va_runV (As := [.int (xs (nI i + (1 : Int32)).toNatClampNeg), .int (xs (nI i + (2 : Int32)).toNatClampNeg), .int (xs (nI i + (3 : Int32)).toNatClampNeg)]) (rest := []) ⟨hx, hb, hml, hown, hts⟩ (c_X4_sheet l D cI cZ cS q N V A H.size (xs (nI i + (1 : Int32)).toNatClampNeg) (xs (nI i + (2 : Int32)).toNatClampNeg) (xs (nI i + (3 : Int32)).toNatClampNeg) ) (cwV 3 hts gL_law_X4_sheet rfl rfl rfl (by decide +kernel) ⟨Nat.le_of_ble_eq_true rfl, Nat.le_of_ble_eq_true rfl⟩) (preCm4 hK hN hPc (pair_l hD)) rfl rfl hl.1 rfl (lv_room (Nat.le_of_ble_eq_true rfl)) dL_law_687 ⟨Nat.le_of_ble_eq_true rfl, Nat.le_of_ble_eq_true rfl⟩) (fun t h => h.1) hD hPm hS hA (fun H locs hPc hPm hD hS => ?_)
  refine lv_aload_n hx hb dL_law_690 rfl (lv_at hl 2 rfl) ?_
  refine lv_aload_n hx hb dL_law_691 rfl (lv_at hl 0 rfl) ?_
  refine lv_iload_n hx hb dL_law_692 rfl (lv_at hl 3 rfl) ?_
  refine lv_iconst (v := (1)) hx hb dL_law_693 (by decide) ?_
  refine lv_iadd hx hb dL_law_694 ?_
  refine va_sld (i := nI i + (1 : Int32)) hx hb hX hbl hbA hS i1 dL_law_695 ?_
  refine lv_aload_n hx hb dL_law_696 rfl (lv_at hl 0 rfl) ?_
  refine lv_iload_n hx hb dL_law_697 rfl (lv_at hl 3 rfl) ?_
  refine lv_iconst (v := (2)) hx hb dL_law_698 (by decide) ?_
  refine lv_iadd hx hb dL_law_699 ?_
  refine va_sld (i := nI i + (2 : Int32)) hx hb hX hbl hbA hS i2 dL_law_700 ?_
  refine lv_aload_n hx hb dL_law_701 rfl (lv_at hl 0 rfl) ?_
  refine lv_iload_n hx hb dL_law_702 rfl (lv_at hl 3 rfl) ?_
  refine lv_iconst (v := (3)) hx hb dL_law_703 (by decide) ?_
  refine lv_iadd hx hb dL_law_704 ?_
  refine va_sld (i := nI i + (3 : Int32)) hx hb hX hbl hbA hS i3 dL_law_705 ?_
  refine law_i (wx := wM cI cZ q' M U B) (wy := wC cI cS q (s_X4_sheet N V A (xs (nI i + (1 : Int32)).toNatClampNeg) (xs (nI i + (2 : Int32)).toNatClampNeg) (xs (nI i + (3 : Int32)).toNatClampNeg)).2.1 (s_X4_sheet N V A (xs (nI i + (1 : Int32)).toNatClampNeg) (xs (nI i + (2 : Int32)).toNatClampNeg) (xs (nI i + (3 : Int32)).toNatClampNeg)).2.2.1 (s_X4_sheet N V A (xs (nI i + (1 : Int32)).toNatClampNeg) (xs (nI i + (2 : Int32)).toNatClampNeg) (xs (nI i + (3 : Int32)).toNatClampNeg)).2.2.2) (va_runV (As := [.int (xs (nI i + (1 : Int32)).toNatClampNeg), .int (xs (nI i + (2 : Int32)).toNatClampNeg), .int (xs (nI i + (3 : Int32)).toNatClampNeg)]) (rest := [(.int (s_X4_sheet N V A (xs (nI i + (1 : Int32)).toNatClampNeg) (xs (nI i + (2 : Int32)).toNatClampNeg) (xs (nI i + (3 : Int32)).toNatClampNeg)).1)]) ⟨hx, hb, hml, hown, hts⟩ (c_X5_sheet l D cI cZ cS q' M U B H.size (xs (nI i + (1 : Int32)).toNatClampNeg) (xs (nI i + (2 : Int32)).toNatClampNeg) (xs (nI i + (3 : Int32)).toNatClampNeg) ) (cwV 3 hts gL_law_X5_sheet rfl rfl rfl (by decide +kernel) ⟨Nat.le_of_ble_eq_true rfl, Nat.le_of_ble_eq_true rfl⟩) (preMm hK hPm (pair_r hD)) rfl rfl hl.1 rfl (lv_room (Nat.le_of_ble_eq_true rfl)) dL_law_706 ⟨Nat.le_of_ble_eq_true rfl, Nat.le_of_ble_eq_true rfl⟩) (fun t h => h.1) (pair_sw hD) hPc hS hA (fun H locs hPm hPc hD hS => ?_)
  have hD := pair_sw hD
  have hs := sheet_eq iv (xs (nI i + (1 : Int32)).toNatClampNeg) (xs (nI i + (2 : Int32)).toNatClampNeg) (xs (nI i + (3 : Int32)).toNatClampNeg)
  refine lv_icmp_eq (tgt := 1015) hx hb dL_law_709 (by decide) (fun _ => ?_) (fun c1 => absurd hs.1 c1)
  exact kk _ _ _ _ _ _ _ _ _ hs.2 hPc hPm hD hS hl
set_option maxHeartbeats 4000000 in
set_option maxRecDepth 100000 in
theorem lc_18 {p : Program} {l : Launch} {e : Env} {s : State} {m : MethodId} {below : List Frame} {meth : Method} {c : Code} {D : va_G} {cI cZ cS : ClassId} {q q' : Nat → Nat} {N M : Nat → Nat} {V U : Nat → Int32} {A B : Nat → Nat → Int32} {H : Heap} {locs : List Loc} {ls : Array Slot} {b L i tG : Nat} {xs : Nat → Int32} (hL : L ≤ 3072) (hi : i + 6 ≤ L) (C0 : lw_At p s m meth c b L xs) (hK : va_K D vwCl (tysA cI cZ cS) s) (hN : nestC s) (hG : gmS s tG) (kk : lawK p l e s m below meth c b D cI cZ cS q q' (nI i)) (iv : Inv N V A M U B) (hPc : va_P D vwCl (wC cI cS q N V A) H) (hPm : va_P D vwCl (wM cI cZ q' M U B) H) (hD : va_D (fun q : Nat => s.heap.size ≤ q) (wC cI cS q N V A ++ wM cI cZ q' M U B)) (hS : va_S (fun q : Nat => s.heap.size ≤ q) s.heap H locs) (hl : lv_has ls 4 [(0, .ref b), (1, .ref (q 0)), (2, .ref (q' 0)), (3, .int (nI i))]) : W p l e room_1 s m #[Value.ref b] below meth c H locs 600000 7302250 (lw_Z below #[Value.ref b] s) (F0 m 714 ls []) := by
  obtain ⟨hx, hb, hr, hml, hown, hts0, hX, hbl, hlocks, hgv⟩ := C0
  have hts : ∀ w ∈ wsL_law, w.before #[Value.ref b] s = true := fun w h => hts0 w (wsL_law_in w h)
  have hown : s.vm.findClass RL = some m.cls := hown
  have hA : ∀ q : Nat, s.heap.size ≤ q → (fun q : Nat => s.heap.size ≤ q) q := fun _ h => h
  have hbA : ¬ (fun q : Nat => s.heap.size ≤ q) b := Nat.not_le.mpr hbl
  obtain ⟨i0, i1, i2, i3, i4, i5⟩ := inS hL hi
  have okc := iv.2.2.2.2.2.2.2.1
  have okm := iv.2.2.2.2.2.2.2.2
  have okv := iv.okV
  have oks := iv.okS
  have hup : M 2 < 2 ^ M 0 := iv.1.2.2.2.2.2
  have hupN : N 2 < 2 ^ N 0 := by rw [iv.1.2.2.1, iv.1.1]; exact hup
  have hw3 : ¬ B 1 3 = 0 := fun h => by have := (iv.2.2.1 3 (by decide)).2.1; rw [h] at this; exact absurd this (by decide)
  refine lv_aload_n hx hb dL_law_714 rfl (lv_at hl 1 rfl) ?_
  refine lv_aload_n hx hb dL_law_715 rfl (lv_at hl 0 rfl) ?_
  refine lv_iload_n hx hb dL_law_716 rfl (lv_at hl 3 rfl) ?_
  refine lv_iconst (v := (1)) hx hb dL_law_717 (by decide) ?_
  refine lv_iadd hx hb dL_law_718 ?_
  refine va_sld (i := nI i + (1 : Int32)) hx hb hX hbl hbA hS i1 dL_law_719 ?_
  refine law_i (wx := wC cI cS q N V A) (wy := wM cI cZ q' M U B) (va_runV (As := [.int (xs (nI i + (1 : Int32)).toNatClampNeg)]) (rest := []) ⟨hx, hb, hml, hown, hts⟩ (c_X4_lose l D cI cZ cS q N V A H.size (xs (nI i + (1 : Int32)).toNatClampNeg) ) (cwV 1 hts gL_law_X4_lose rfl rfl rfl (by decide +kernel) ⟨Nat.le_of_ble_eq_true rfl, Nat.le_of_ble_eq_true rfl⟩) (preCm4 hK hN hPc (pair_l hD)) rfl rfl hl.1 rfl (lv_room (Nat.le_of_ble_eq_true rfl)) dL_law_720 ⟨Nat.le_of_ble_eq_true rfl, Nat.le_of_ble_eq_true rfl⟩) (fun t h => h.1) hD hPm hS hA (fun H locs hPc hPm hD hS => ?_)
  refine lv_aload_n hx hb dL_law_723 rfl (lv_at hl 2 rfl) ?_
  refine lv_aload_n hx hb dL_law_724 rfl (lv_at hl 0 rfl) ?_
  refine lv_iload_n hx hb dL_law_725 rfl (lv_at hl 3 rfl) ?_
  refine lv_iconst (v := (1)) hx hb dL_law_726 (by decide) ?_
  refine lv_iadd hx hb dL_law_727 ?_
  refine va_sld (i := nI i + (1 : Int32)) hx hb hX hbl hbA hS i1 dL_law_728 ?_
  refine law_i (wx := wM cI cZ q' M U B) (wy := wC cI cS q (s_X4_lose N V A (xs (nI i + (1 : Int32)).toNatClampNeg)).2.1 (s_X4_lose N V A (xs (nI i + (1 : Int32)).toNatClampNeg)).2.2.1 (s_X4_lose N V A (xs (nI i + (1 : Int32)).toNatClampNeg)).2.2.2) (va_runV (As := [.int (xs (nI i + (1 : Int32)).toNatClampNeg)]) (rest := [(.int (s_X4_lose N V A (xs (nI i + (1 : Int32)).toNatClampNeg)).1)]) ⟨hx, hb, hml, hown, hts⟩ (c_X5_lose l D cI cZ cS q' M U B H.size (xs (nI i + (1 : Int32)).toNatClampNeg) ) (cwV 1 hts gL_law_X5_lose rfl rfl rfl (by decide +kernel) ⟨Nat.le_of_ble_eq_true rfl, Nat.le_of_ble_eq_true rfl⟩) (preMm hK hPm (pair_r hD)) rfl rfl hl.1 rfl (lv_room (Nat.le_of_ble_eq_true rfl)) dL_law_729 ⟨Nat.le_of_ble_eq_true rfl, Nat.le_of_ble_eq_true rfl⟩) (fun t h => h.1) (pair_sw hD) hPc hS hA (fun H locs hPm hPc hD hS => ?_)
  have hD := pair_sw hD
  have hs := lose_eq iv (xs (nI i + (1 : Int32)).toNatClampNeg)
  refine lv_icmp_eq (tgt := 1015) hx hb dL_law_732 (by decide) (fun _ => ?_) (fun c1 => absurd hs.1 c1)
  exact kk _ _ _ _ _ _ _ _ _ hs.2 hPc hPm hD hS hl
set_option maxHeartbeats 4000000 in
set_option maxRecDepth 100000 in
theorem lc_19 {p : Program} {l : Launch} {e : Env} {s : State} {m : MethodId} {below : List Frame} {meth : Method} {c : Code} {D : va_G} {cI cZ cS : ClassId} {q q' : Nat → Nat} {N M : Nat → Nat} {V U : Nat → Int32} {A B : Nat → Nat → Int32} {H : Heap} {locs : List Loc} {ls : Array Slot} {b L i tG : Nat} {xs : Nat → Int32} (hL : L ≤ 3072) (hi : i + 6 ≤ L) (C0 : lw_At p s m meth c b L xs) (hK : va_K D vwCl (tysA cI cZ cS) s) (hN : nestC s) (hG : gmS s tG) (kk : lawK p l e s m below meth c b D cI cZ cS q q' (nI i)) (iv : Inv N V A M U B) (hPc : va_P D vwCl (wC cI cS q N V A) H) (hPm : va_P D vwCl (wM cI cZ q' M U B) H) (hD : va_D (fun q : Nat => s.heap.size ≤ q) (wC cI cS q N V A ++ wM cI cZ q' M U B)) (hS : va_S (fun q : Nat => s.heap.size ≤ q) s.heap H locs) (hl : lv_has ls 4 [(0, .ref b), (1, .ref (q 0)), (2, .ref (q' 0)), (3, .int (nI i))]) : W p l e room_1 s m #[Value.ref b] below meth c H locs 600000 7302250 (lw_Z below #[Value.ref b] s) (F0 m 737 ls []) := by
  obtain ⟨hx, hb, hr, hml, hown, hts0, hX, hbl, hlocks, hgv⟩ := C0
  have hts : ∀ w ∈ wsL_law, w.before #[Value.ref b] s = true := fun w h => hts0 w (wsL_law_in w h)
  have hown : s.vm.findClass RL = some m.cls := hown
  have hA : ∀ q : Nat, s.heap.size ≤ q → (fun q : Nat => s.heap.size ≤ q) q := fun _ h => h
  have hbA : ¬ (fun q : Nat => s.heap.size ≤ q) b := Nat.not_le.mpr hbl
  obtain ⟨i0, i1, i2, i3, i4, i5⟩ := inS hL hi
  have okc := iv.2.2.2.2.2.2.2.1
  have okm := iv.2.2.2.2.2.2.2.2
  have okv := iv.okV
  have oks := iv.okS
  have hup : M 2 < 2 ^ M 0 := iv.1.2.2.2.2.2
  have hupN : N 2 < 2 ^ N 0 := by rw [iv.1.2.2.1, iv.1.1]; exact hup
  have hw3 : ¬ B 1 3 = 0 := fun h => by have := (iv.2.2.1 3 (by decide)).2.1; rw [h] at this; exact absurd this (by decide)
  refine lv_aload_n hx hb dL_law_737 rfl (lv_at hl 1 rfl) ?_
  refine lv_aload_n hx hb dL_law_738 rfl (lv_at hl 0 rfl) ?_
  refine lv_iload_n hx hb dL_law_739 rfl (lv_at hl 3 rfl) ?_
  refine lv_iconst (v := (1)) hx hb dL_law_740 (by decide) ?_
  refine lv_iadd hx hb dL_law_741 ?_
  refine va_sld (i := nI i + (1 : Int32)) hx hb hX hbl hbA hS i1 dL_law_742 ?_
  refine lv_aload_n hx hb dL_law_743 rfl (lv_at hl 0 rfl) ?_
  refine lv_iload_n hx hb dL_law_744 rfl (lv_at hl 3 rfl) ?_
  refine lv_iconst (v := (2)) hx hb dL_law_745 (by decide) ?_
  refine lv_iadd hx hb dL_law_746 ?_
  refine va_sld (i := nI i + (2 : Int32)) hx hb hX hbl hbA hS i2 dL_law_747 ?_
  refine lv_aload_n hx hb dL_law_748 rfl (lv_at hl 0 rfl) ?_
  refine lv_iload_n hx hb dL_law_749 rfl (lv_at hl 3 rfl) ?_
  refine lv_iconst (v := (3)) hx hb dL_law_750 (by decide) ?_
  refine lv_iadd hx hb dL_law_751 ?_
  refine va_sld (i := nI i + (3 : Int32)) hx hb hX hbl hbA hS i3 dL_law_752 ?_
  refine law_i (wx := wC cI cS q N V A) (wy := wM cI cZ q' M U B) (va_runV (As := [.int (xs (nI i + (1 : Int32)).toNatClampNeg), .int (xs (nI i + (2 : Int32)).toNatClampNeg), .int (xs (nI i + (3 : Int32)).toNatClampNeg)]) (rest := []) ⟨hx, hb, hml, hown, hts⟩ (c_X4_put l D cI cZ cS q N V A H.size (xs (nI i + (1 : Int32)).toNatClampNeg) (xs (nI i + (2 : Int32)).toNatClampNeg) (xs (nI i + (3 : Int32)).toNatClampNeg) okv) (cwV 3 hts gL_law_X4_put rfl rfl rfl (by decide +kernel) ⟨Nat.le_of_ble_eq_true rfl, Nat.le_of_ble_eq_true rfl⟩) (preCm4 hK hN hPc (pair_l hD)) rfl rfl hl.1 rfl (lv_room (Nat.le_of_ble_eq_true rfl)) dL_law_753 ⟨Nat.le_of_ble_eq_true rfl, Nat.le_of_ble_eq_true rfl⟩) (fun t h => h.1) hD hPm hS hA (fun H locs hPc hPm hD hS => ?_)
  refine lv_aload_n hx hb dL_law_756 rfl (lv_at hl 2 rfl) ?_
  refine lv_aload_n hx hb dL_law_757 rfl (lv_at hl 0 rfl) ?_
  refine lv_iload_n hx hb dL_law_758 rfl (lv_at hl 3 rfl) ?_
  refine lv_iconst (v := (1)) hx hb dL_law_759 (by decide) ?_
  refine lv_iadd hx hb dL_law_760 ?_
  refine va_sld (i := nI i + (1 : Int32)) hx hb hX hbl hbA hS i1 dL_law_761 ?_
  refine lv_aload_n hx hb dL_law_762 rfl (lv_at hl 0 rfl) ?_
  refine lv_iload_n hx hb dL_law_763 rfl (lv_at hl 3 rfl) ?_
  refine lv_iconst (v := (2)) hx hb dL_law_764 (by decide) ?_
  refine lv_iadd hx hb dL_law_765 ?_
  refine va_sld (i := nI i + (2 : Int32)) hx hb hX hbl hbA hS i2 dL_law_766 ?_
  refine lv_aload_n hx hb dL_law_767 rfl (lv_at hl 0 rfl) ?_
  refine lv_iload_n hx hb dL_law_768 rfl (lv_at hl 3 rfl) ?_
  refine lv_iconst (v := (3)) hx hb dL_law_769 (by decide) ?_
  refine lv_iadd hx hb dL_law_770 ?_
  refine va_sld (i := nI i + (3 : Int32)) hx hb hX hbl hbA hS i3 dL_law_771 ?_
  refine law_i (wx := wM cI cZ q' M U B) (wy := wC cI cS q (s_X4_put N V A (xs (nI i + (1 : Int32)).toNatClampNeg) (xs (nI i + (2 : Int32)).toNatClampNeg) (xs (nI i + (3 : Int32)).toNatClampNeg)).2.1 (s_X4_put N V A (xs (nI i + (1 : Int32)).toNatClampNeg) (xs (nI i + (2 : Int32)).toNatClampNeg) (xs (nI i + (3 : Int32)).toNatClampNeg)).2.2.1 (s_X4_put N V A (xs (nI i + (1 : Int32)).toNatClampNeg) (xs (nI i + (2 : Int32)).toNatClampNeg) (xs (nI i + (3 : Int32)).toNatClampNeg)).2.2.2) (va_runV (As := [.int (xs (nI i + (1 : Int32)).toNatClampNeg), .int (xs (nI i + (2 : Int32)).toNatClampNeg), .int (xs (nI i + (3 : Int32)).toNatClampNeg)]) (rest := [(.int (s_X4_put N V A (xs (nI i + (1 : Int32)).toNatClampNeg) (xs (nI i + (2 : Int32)).toNatClampNeg) (xs (nI i + (3 : Int32)).toNatClampNeg)).1)]) ⟨hx, hb, hml, hown, hts⟩ (c_X5_put l D cI cZ cS q' M U B H.size (xs (nI i + (1 : Int32)).toNatClampNeg) (xs (nI i + (2 : Int32)).toNatClampNeg) (xs (nI i + (3 : Int32)).toNatClampNeg) oks) (cwV 3 hts gL_law_X5_put rfl rfl rfl (by decide +kernel) ⟨Nat.le_of_ble_eq_true rfl, Nat.le_of_ble_eq_true rfl⟩) (preMm hK hPm (pair_r hD)) rfl rfl hl.1 rfl (lv_room (Nat.le_of_ble_eq_true rfl)) dL_law_772 ⟨Nat.le_of_ble_eq_true rfl, Nat.le_of_ble_eq_true rfl⟩) (fun t h => h.1) (pair_sw hD) hPc hS hA (fun H locs hPm hPc hD hS => ?_)
  have hD := pair_sw hD
  have hs := put_eq iv (xs (nI i + (1 : Int32)).toNatClampNeg) (xs (nI i + (2 : Int32)).toNatClampNeg) (xs (nI i + (3 : Int32)).toNatClampNeg)
  refine lv_icmp_eq (tgt := 1015) hx hb dL_law_775 (by decide) (fun _ => ?_) (fun c1 => absurd hs.1 c1)
  exact kk _ _ _ _ _ _ _ _ _ hs.2 hPc hPm hD hS hl
set_option maxHeartbeats 4000000 in
set_option maxRecDepth 100000 in
theorem lc_20 {p : Program} {l : Launch} {e : Env} {s : State} {m : MethodId} {below : List Frame} {meth : Method} {c : Code} {D : va_G} {cI cZ cS : ClassId} {q q' : Nat → Nat} {N M : Nat → Nat} {V U : Nat → Int32} {A B : Nat → Nat → Int32} {H : Heap} {locs : List Loc} {ls : Array Slot} {b L i tG : Nat} {xs : Nat → Int32} (hL : L ≤ 3072) (hi : i + 6 ≤ L) (C0 : lw_At p s m meth c b L xs) (hK : va_K D vwCl (tysA cI cZ cS) s) (hN : nestC s) (hG : gmS s tG) (kk : lawK p l e s m below meth c b D cI cZ cS q q' (nI i)) (iv : Inv N V A M U B) (hPc : va_P D vwCl (wC cI cS q N V A) H) (hPm : va_P D vwCl (wM cI cZ q' M U B) H) (hD : va_D (fun q : Nat => s.heap.size ≤ q) (wC cI cS q N V A ++ wM cI cZ q' M U B)) (hS : va_S (fun q : Nat => s.heap.size ≤ q) s.heap H locs) (hl : lv_has ls 4 [(0, .ref b), (1, .ref (q 0)), (2, .ref (q' 0)), (3, .int (nI i))]) : W p l e room_1 s m #[Value.ref b] below meth c H locs 600000 7302250 (lw_Z below #[Value.ref b] s) (F0 m 780 ls []) := by
  obtain ⟨hx, hb, hr, hml, hown, hts0, hX, hbl, hlocks, hgv⟩ := C0
  have hts : ∀ w ∈ wsL_law, w.before #[Value.ref b] s = true := fun w h => hts0 w (wsL_law_in w h)
  have hown : s.vm.findClass RL = some m.cls := hown
  have hA : ∀ q : Nat, s.heap.size ≤ q → (fun q : Nat => s.heap.size ≤ q) q := fun _ h => h
  have hbA : ¬ (fun q : Nat => s.heap.size ≤ q) b := Nat.not_le.mpr hbl
  obtain ⟨i0, i1, i2, i3, i4, i5⟩ := inS hL hi
  have okc := iv.2.2.2.2.2.2.2.1
  have okm := iv.2.2.2.2.2.2.2.2
  have okv := iv.okV
  have oks := iv.okS
  have hup : M 2 < 2 ^ M 0 := iv.1.2.2.2.2.2
  have hupN : N 2 < 2 ^ N 0 := by rw [iv.1.2.2.1, iv.1.1]; exact hup
  have hw3 : ¬ B 1 3 = 0 := fun h => by have := (iv.2.2.1 3 (by decide)).2.1; rw [h] at this; exact absurd this (by decide)
  refine lv_aload_n hx hb dL_law_780 rfl (lv_at hl 1 rfl) ?_
  refine lv_aload_n hx hb dL_law_781 rfl (lv_at hl 0 rfl) ?_
  refine lv_iload_n hx hb dL_law_782 rfl (lv_at hl 3 rfl) ?_
  refine lv_iconst (v := (1)) hx hb dL_law_783 (by decide) ?_
  refine lv_iadd hx hb dL_law_784 ?_
  refine va_sld (i := nI i + (1 : Int32)) hx hb hX hbl hbA hS i1 dL_law_785 ?_
  refine lv_aload_n hx hb dL_law_786 rfl (lv_at hl 0 rfl) ?_
  refine lv_iload_n hx hb dL_law_787 rfl (lv_at hl 3 rfl) ?_
  refine lv_iconst (v := (2)) hx hb dL_law_788 (by decide) ?_
  refine lv_iadd hx hb dL_law_789 ?_
  refine va_sld (i := nI i + (2 : Int32)) hx hb hX hbl hbA hS i2 dL_law_790 ?_
  refine lv_aload_n hx hb dL_law_791 rfl (lv_at hl 0 rfl) ?_
  refine lv_iload_n hx hb dL_law_792 rfl (lv_at hl 3 rfl) ?_
  refine lv_iconst (v := (3)) hx hb dL_law_793 (by decide) ?_
  refine lv_iadd hx hb dL_law_794 ?_
  refine va_sld (i := nI i + (3 : Int32)) hx hb hX hbl hbA hS i3 dL_law_795 ?_
  refine law_l (wx := wC cI cS q N V A) (wy := wM cI cZ q' M U B) (va_runV (As := [.int (xs (nI i + (1 : Int32)).toNatClampNeg), .int (xs (nI i + (2 : Int32)).toNatClampNeg), .int (xs (nI i + (3 : Int32)).toNatClampNeg)]) (rest := []) ⟨hx, hb, hml, hown, hts⟩ (c_X4_cell l D cI cZ cS q N V A H.size (xs (nI i + (1 : Int32)).toNatClampNeg) (xs (nI i + (2 : Int32)).toNatClampNeg) (xs (nI i + (3 : Int32)).toNatClampNeg) okv) (cwV 3 hts gL_law_X4_cell rfl rfl rfl (by decide +kernel) ⟨Nat.le_of_ble_eq_true rfl, Nat.le_of_ble_eq_true rfl⟩) (preCm4 hK hN hPc (pair_l hD)) rfl rfl hl.1 rfl (lv_room (Nat.le_of_ble_eq_true rfl)) dL_law_796 ⟨Nat.le_of_ble_eq_true rfl, Nat.le_of_ble_eq_true rfl⟩) (fun t h => h.1) hD hPm hS hA (fun H locs hPc hPm hD hS => ?_)
  refine lv_aload_n hx hb dL_law_799 rfl (lv_at hl 2 rfl) ?_
  refine lv_aload_n hx hb dL_law_800 rfl (lv_at hl 0 rfl) ?_
  refine lv_iload_n hx hb dL_law_801 rfl (lv_at hl 3 rfl) ?_
  refine lv_iconst (v := (1)) hx hb dL_law_802 (by decide) ?_
  refine lv_iadd hx hb dL_law_803 ?_
  refine va_sld (i := nI i + (1 : Int32)) hx hb hX hbl hbA hS i1 dL_law_804 ?_
  refine lv_aload_n hx hb dL_law_805 rfl (lv_at hl 0 rfl) ?_
  refine lv_iload_n hx hb dL_law_806 rfl (lv_at hl 3 rfl) ?_
  refine lv_iconst (v := (2)) hx hb dL_law_807 (by decide) ?_
  refine lv_iadd hx hb dL_law_808 ?_
  refine va_sld (i := nI i + (2 : Int32)) hx hb hX hbl hbA hS i2 dL_law_809 ?_
  refine lv_aload_n hx hb dL_law_810 rfl (lv_at hl 0 rfl) ?_
  refine lv_iload_n hx hb dL_law_811 rfl (lv_at hl 3 rfl) ?_
  refine lv_iconst (v := (3)) hx hb dL_law_812 (by decide) ?_
  refine lv_iadd hx hb dL_law_813 ?_
  refine va_sld (i := nI i + (3 : Int32)) hx hb hX hbl hbA hS i3 dL_law_814 ?_
  refine law_l (wx := wM cI cZ q' M U B) (wy := wC cI cS q (s_X4_cell N V A (xs (nI i + (1 : Int32)).toNatClampNeg) (xs (nI i + (2 : Int32)).toNatClampNeg) (xs (nI i + (3 : Int32)).toNatClampNeg)).2.1 (s_X4_cell N V A (xs (nI i + (1 : Int32)).toNatClampNeg) (xs (nI i + (2 : Int32)).toNatClampNeg) (xs (nI i + (3 : Int32)).toNatClampNeg)).2.2.1 (s_X4_cell N V A (xs (nI i + (1 : Int32)).toNatClampNeg) (xs (nI i + (2 : Int32)).toNatClampNeg) (xs (nI i + (3 : Int32)).toNatClampNeg)).2.2.2) (va_runV (As := [.int (xs (nI i + (1 : Int32)).toNatClampNeg), .int (xs (nI i + (2 : Int32)).toNatClampNeg), .int (xs (nI i + (3 : Int32)).toNatClampNeg)]) (rest := [(.long (s_X4_cell N V A (xs (nI i + (1 : Int32)).toNatClampNeg) (xs (nI i + (2 : Int32)).toNatClampNeg) (xs (nI i + (3 : Int32)).toNatClampNeg)).1)]) ⟨hx, hb, hml, hown, hts⟩ (c_X5_cell l D cI cZ cS q' M U B H.size (xs (nI i + (1 : Int32)).toNatClampNeg) (xs (nI i + (2 : Int32)).toNatClampNeg) (xs (nI i + (3 : Int32)).toNatClampNeg) oks) (cwV 3 hts gL_law_X5_cell rfl rfl rfl (by decide +kernel) ⟨Nat.le_of_ble_eq_true rfl, Nat.le_of_ble_eq_true rfl⟩) (preMm hK hPm (pair_r hD)) rfl rfl hl.1 rfl (lv_room (Nat.le_of_ble_eq_true rfl)) dL_law_815 ⟨Nat.le_of_ble_eq_true rfl, Nat.le_of_ble_eq_true rfl⟩) (fun t h => h.1) (pair_sw hD) hPc hS hA (fun H locs hPm hPc hD hS => ?_)
  have hD := pair_sw hD
  have hs := cell_eq iv (xs (nI i + (1 : Int32)).toNatClampNeg) (xs (nI i + (2 : Int32)).toNatClampNeg) (xs (nI i + (3 : Int32)).toNatClampNeg)
  refine W.lcmp hx hb dL_law_818 ?_
  refine lv_if_eq (tgt := 1015) hx hb dL_law_819 (by decide) (fun _ => ?_) (fun c1 => absurd (lcmp_eq hs.1) c1)
  exact kk _ _ _ _ _ _ _ _ _ hs.2 hPc hPm hD hS hl
