/-! the law's cases 21 to 27 -/
set_option maxHeartbeats 4000000 in
set_option maxRecDepth 100000 in
theorem lc_21 {p : Program} {l : Launch} {e : Env} {s : State} {m : MethodId} {below : List Frame} {meth : Method} {c : Code} {D : va_G} {cI cZ cS : ClassId} {q q' : Nat → Nat} {N M : Nat → Nat} {V U : Nat → Int32} {A B : Nat → Nat → Int32} {H : Heap} {locs : List Loc} {ls : Array Slot} {b L i tG : Nat} {xs : Nat → Int32} (hL : L ≤ 3072) (hi : i + 6 ≤ L) (C0 : lw_At p s m meth c b L xs) (hK : va_K D vwCl (tysA cI cZ cS) s) (hN : nestC s) (hG : gmS s tG) (kk : lawK p l e s m below meth c b D cI cZ cS q q' (nI i)) (iv : Inv N V A M U B) (hPc : va_P D vwCl (wC cI cS q N V A) H) (hPm : va_P D vwCl (wM cI cZ q' M U B) H) (hD : va_D (fun q : Nat => s.heap.size ≤ q) (wC cI cS q N V A ++ wM cI cZ q' M U B)) (hS : va_S (fun q : Nat => s.heap.size ≤ q) s.heap H locs) (hl : lv_has ls 4 [(0, .ref b), (1, .ref (q 0)), (2, .ref (q' 0)), (3, .int (nI i))]) : W p l e room_1 s m #[Value.ref b] below meth c H locs 600000 7302250 (lw_Z below #[Value.ref b] s) (F0 m 824 ls []) := by
  obtain ⟨hx, hb, hr, hml, hown, hts0, hX, hbl, hlocks, hgv⟩ := C0
  have hts : ∀ w ∈ wsL_law, w.before #[Value.ref b] s = true := fun w h => hts0 w (wsL_law_in w h)
  have hown : s.vm.findClass RL = some m.cls := hown
  have hA : ∀ q : Nat, s.heap.size ≤ q → (fun q : Nat => s.heap.size ≤ q) q := fun _ h => h
  have hbA : ¬ (fun q : Nat => s.heap.size ≤ q) b := Nat.not_le.mpr hbl
  obtain ⟨i0, i1, i2, i3, i4, i5⟩ := inS hL hi
  have okc := iv.2.2.2.2.2.2.2.1
  have okm := iv.2.2.2.2.2.2.2.2
  have okv := iv.okV
  have oks := iv.okS
  have hup : M 2 < 2 ^ M 0 := iv.1.2.2.2.2.2
  have hupN : N 2 < 2 ^ N 0 := by rw [iv.1.2.2.1, iv.1.1]; exact hup
  have hw3 : ¬ B 1 3 = 0 := fun h => by have := (iv.2.2.1 3 (by decide)).2.1; rw [h] at this; exact absurd this (by decide)
  refine lv_aload_n hx hb dL_law_824 rfl (lv_at hl 1 rfl) ?_
  refine lv_aload_n hx hb dL_law_825 rfl (lv_at hl 0 rfl) ?_
  refine lv_iload_n hx hb dL_law_826 rfl (lv_at hl 3 rfl) ?_
  refine lv_iconst (v := (1)) hx hb dL_law_827 (by decide) ?_
  refine lv_iadd hx hb dL_law_828 ?_
  refine va_sld (i := nI i + (1 : Int32)) hx hb hX hbl hbA hS i1 dL_law_829 ?_
  refine lv_aload_n hx hb dL_law_830 rfl (lv_at hl 0 rfl) ?_
  refine lv_iload_n hx hb dL_law_831 rfl (lv_at hl 3 rfl) ?_
  refine lv_iconst (v := (2)) hx hb dL_law_832 (by decide) ?_
  refine lv_iadd hx hb dL_law_833 ?_
  refine va_sld (i := nI i + (2 : Int32)) hx hb hX hbl hbA hS i2 dL_law_834 ?_
  refine lv_aload_n hx hb dL_law_835 rfl (lv_at hl 0 rfl) ?_
  refine lv_iload_n hx hb dL_law_836 rfl (lv_at hl 3 rfl) ?_
  refine lv_iconst (v := (3)) hx hb dL_law_837 (by decide) ?_
  refine lv_iadd hx hb dL_law_838 ?_
  refine va_sld (i := nI i + (3 : Int32)) hx hb hX hbl hbA hS i3 dL_law_839 ?_
  refine lv_aload_n hx hb dL_law_840 rfl (lv_at hl 0 rfl) ?_
  refine lv_iload_n hx hb dL_law_841 rfl (lv_at hl 3 rfl) ?_
  refine lv_iconst (v := (4)) hx hb dL_law_842 (by decide) ?_
  refine lv_iadd hx hb dL_law_843 ?_
  refine va_sld (i := nI i + (4 : Int32)) hx hb hX hbl hbA hS i4 dL_law_844 ?_
  refine lv_aload_n hx hb dL_law_845 rfl (lv_at hl 0 rfl) ?_
  refine lv_iload_n hx hb dL_law_846 rfl (lv_at hl 3 rfl) ?_
  refine lv_iconst (v := (5)) hx hb dL_law_847 (by decide) ?_
  refine lv_iadd hx hb dL_law_848 ?_
  refine va_sld (i := nI i + (5 : Int32)) hx hb hX hbl hbA hS i5 dL_law_849 ?_
  refine law_i (wx := wC cI cS q N V A) (wy := wM cI cZ q' M U B) (va_runV (As := [.int (xs (nI i + (1 : Int32)).toNatClampNeg), .int (xs (nI i + (2 : Int32)).toNatClampNeg), .int (xs (nI i + (3 : Int32)).toNatClampNeg), .int (xs (nI i + (4 : Int32)).toNatClampNeg), .int (xs (nI i + (5 : Int32)).toNatClampNeg)]) (rest := []) ⟨hx, hb, hml, hown, hts⟩ (c_X4_copy l D cI cZ cS q N V A H.size (xs (nI i + (1 : Int32)).toNatClampNeg) (xs (nI i + (2 : Int32)).toNatClampNeg) (xs (nI i + (3 : Int32)).toNatClampNeg) (xs (nI i + (4 : Int32)).toNatClampNeg) (xs (nI i + (5 : Int32)).toNatClampNeg) okv) (cwV 5 hts gL_law_X4_copy rfl rfl rfl (by decide +kernel) ⟨Nat.le_of_ble_eq_true rfl, Nat.le_of_ble_eq_true rfl⟩) (preCm4 hK hN hPc (pair_l hD)) rfl rfl hl.1 rfl (lv_room (Nat.le_of_ble_eq_true rfl)) dL_law_850 ⟨Nat.le_of_ble_eq_true rfl, Nat.le_of_ble_eq_true rfl⟩) (fun t h => h.1) hD hPm hS hA (fun H locs hPc hPm hD hS => ?_)
  refine lv_aload_n hx hb dL_law_853 rfl (lv_at hl 2 rfl) ?_
  refine lv_aload_n hx hb dL_law_854 rfl (lv_at hl 0 rfl) ?_
  refine lv_iload_n hx hb dL_law_855 rfl (lv_at hl 3 rfl) ?_
  refine lv_iconst (v := (1)) hx hb dL_law_856 (by decide) ?_
  refine lv_iadd hx hb dL_law_857 ?_
  refine va_sld (i := nI i + (1 : Int32)) hx hb hX hbl hbA hS i1 dL_law_858 ?_
  refine lv_aload_n hx hb dL_law_859 rfl (lv_at hl 0 rfl) ?_
  refine lv_iload_n hx hb dL_law_860 rfl (lv_at hl 3 rfl) ?_
  refine lv_iconst (v := (2)) hx hb dL_law_861 (by decide) ?_
  refine lv_iadd hx hb dL_law_862 ?_
  refine va_sld (i := nI i + (2 : Int32)) hx hb hX hbl hbA hS i2 dL_law_863 ?_
  refine lv_aload_n hx hb dL_law_864 rfl (lv_at hl 0 rfl) ?_
  refine lv_iload_n hx hb dL_law_865 rfl (lv_at hl 3 rfl) ?_
  refine lv_iconst (v := (3)) hx hb dL_law_866 (by decide) ?_
  refine lv_iadd hx hb dL_law_867 ?_
  refine va_sld (i := nI i + (3 : Int32)) hx hb hX hbl hbA hS i3 dL_law_868 ?_
  refine lv_aload_n hx hb dL_law_869 rfl (lv_at hl 0 rfl) ?_
  refine lv_iload_n hx hb dL_law_870 rfl (lv_at hl 3 rfl) ?_
  refine lv_iconst (v := (4)) hx hb dL_law_871 (by decide) ?_
  refine lv_iadd hx hb dL_law_872 ?_
  refine va_sld (i := nI i + (4 : Int32)) hx hb hX hbl hbA hS i4 dL_law_873 ?_
  refine lv_aload_n hx hb dL_law_874 rfl (lv_at hl 0 rfl) ?_
  refine lv_iload_n hx hb dL_law_875 rfl (lv_at hl 3 rfl) ?_
  refine lv_iconst (v := (5)) hx hb dL_law_876 (by decide) ?_
  refine lv_iadd hx hb dL_law_877 ?_
  refine va_sld (i := nI i + (5 : Int32)) hx hb hX hbl hbA hS i5 dL_law_878 ?_
  refine law_i (wx := wM cI cZ q' M U B) (wy := wC cI cS q (s_X4_copy N V A (xs (nI i + (1 : Int32)).toNatClampNeg) (xs (nI i + (2 : Int32)).toNatClampNeg) (xs (nI i + (3 : Int32)).toNatClampNeg) (xs (nI i + (4 : Int32)).toNatClampNeg) (xs (nI i + (5 : Int32)).toNatClampNeg)).2.1 (s_X4_copy N V A (xs (nI i + (1 : Int32)).toNatClampNeg) (xs (nI i + (2 : Int32)).toNatClampNeg) (xs (nI i + (3 : Int32)).toNatClampNeg) (xs (nI i + (4 : Int32)).toNatClampNeg) (xs (nI i + (5 : Int32)).toNatClampNeg)).2.2.1 (s_X4_copy N V A (xs (nI i + (1 : Int32)).toNatClampNeg) (xs (nI i + (2 : Int32)).toNatClampNeg) (xs (nI i + (3 : Int32)).toNatClampNeg) (xs (nI i + (4 : Int32)).toNatClampNeg) (xs (nI i + (5 : Int32)).toNatClampNeg)).2.2.2) (va_runV (As := [.int (xs (nI i + (1 : Int32)).toNatClampNeg), .int (xs (nI i + (2 : Int32)).toNatClampNeg), .int (xs (nI i + (3 : Int32)).toNatClampNeg), .int (xs (nI i + (4 : Int32)).toNatClampNeg), .int (xs (nI i + (5 : Int32)).toNatClampNeg)]) (rest := [(.int (s_X4_copy N V A (xs (nI i + (1 : Int32)).toNatClampNeg) (xs (nI i + (2 : Int32)).toNatClampNeg) (xs (nI i + (3 : Int32)).toNatClampNeg) (xs (nI i + (4 : Int32)).toNatClampNeg) (xs (nI i + (5 : Int32)).toNatClampNeg)).1)]) ⟨hx, hb, hml, hown, hts⟩ (c_X5_copy l D cI cZ cS q' M U B H.size (xs (nI i + (1 : Int32)).toNatClampNeg) (xs (nI i + (2 : Int32)).toNatClampNeg) (xs (nI i + (3 : Int32)).toNatClampNeg) (xs (nI i + (4 : Int32)).toNatClampNeg) (xs (nI i + (5 : Int32)).toNatClampNeg) oks) (cwV 5 hts gL_law_X5_copy rfl rfl rfl (by decide +kernel) ⟨Nat.le_of_ble_eq_true rfl, Nat.le_of_ble_eq_true rfl⟩) (preMm hK hPm (pair_r hD)) rfl rfl hl.1 rfl (lv_room (Nat.le_of_ble_eq_true rfl)) dL_law_879 ⟨Nat.le_of_ble_eq_true rfl, Nat.le_of_ble_eq_true rfl⟩) (fun t h => h.1) (pair_sw hD) hPc hS hA (fun H locs hPm hPc hD hS => ?_)
  have hD := pair_sw hD
  have hs := copy_eq iv (xs (nI i + (1 : Int32)).toNatClampNeg) (xs (nI i + (2 : Int32)).toNatClampNeg) (xs (nI i + (3 : Int32)).toNatClampNeg) (xs (nI i + (4 : Int32)).toNatClampNeg) (xs (nI i + (5 : Int32)).toNatClampNeg)
  refine lv_icmp_eq (tgt := 1015) hx hb dL_law_882 (by decide) (fun _ => ?_) (fun c1 => absurd hs.1 c1)
  exact kk _ _ _ _ _ _ _ _ _ hs.2 hPc hPm hD hS hl
set_option maxHeartbeats 4000000 in
set_option maxRecDepth 100000 in
theorem lc_22 {p : Program} {l : Launch} {e : Env} {s : State} {m : MethodId} {below : List Frame} {meth : Method} {c : Code} {D : va_G} {cI cZ cS : ClassId} {q q' : Nat → Nat} {N M : Nat → Nat} {V U : Nat → Int32} {A B : Nat → Nat → Int32} {H : Heap} {locs : List Loc} {ls : Array Slot} {b L i tG : Nat} {xs : Nat → Int32} (hL : L ≤ 3072) (hi : i + 6 ≤ L) (C0 : lw_At p s m meth c b L xs) (hK : va_K D vwCl (tysA cI cZ cS) s) (hN : nestC s) (hG : gmS s tG) (kk : lawK p l e s m below meth c b D cI cZ cS q q' (nI i)) (iv : Inv N V A M U B) (hPc : va_P D vwCl (wC cI cS q N V A) H) (hPm : va_P D vwCl (wM cI cZ q' M U B) H) (hD : va_D (fun q : Nat => s.heap.size ≤ q) (wC cI cS q N V A ++ wM cI cZ q' M U B)) (hS : va_S (fun q : Nat => s.heap.size ≤ q) s.heap H locs) (hl : lv_has ls 4 [(0, .ref b), (1, .ref (q 0)), (2, .ref (q' 0)), (3, .int (nI i))]) : W p l e room_1 s m #[Value.ref b] below meth c H locs 600000 7302250 (lw_Z below #[Value.ref b] s) (F0 m 887 ls []) := by
  obtain ⟨hx, hb, hr, hml, hown, hts0, hX, hbl, hlocks, hgv⟩ := C0
  have hts : ∀ w ∈ wsL_law, w.before #[Value.ref b] s = true := fun w h => hts0 w (wsL_law_in w h)
  have hown : s.vm.findClass RL = some m.cls := hown
  have hA : ∀ q : Nat, s.heap.size ≤ q → (fun q : Nat => s.heap.size ≤ q) q := fun _ h => h
  have hbA : ¬ (fun q : Nat => s.heap.size ≤ q) b := Nat.not_le.mpr hbl
  obtain ⟨i0, i1, i2, i3, i4, i5⟩ := inS hL hi
  have okc := iv.2.2.2.2.2.2.2.1
  have okm := iv.2.2.2.2.2.2.2.2
  have okv := iv.okV
  have oks := iv.okS
  have hup : M 2 < 2 ^ M 0 := iv.1.2.2.2.2.2
  have hupN : N 2 < 2 ^ N 0 := by rw [iv.1.2.2.1, iv.1.1]; exact hup
  have hw3 : ¬ B 1 3 = 0 := fun h => by have := (iv.2.2.1 3 (by decide)).2.1; rw [h] at this; exact absurd this (by decide)
  refine lv_aload_n hx hb dL_law_887 rfl (lv_at hl 1 rfl) ?_
  refine lv_aload_n hx hb dL_law_888 rfl (lv_at hl 0 rfl) ?_
  refine lv_iload_n hx hb dL_law_889 rfl (lv_at hl 3 rfl) ?_
  refine lv_iconst (v := (1)) hx hb dL_law_890 (by decide) ?_
  refine lv_iadd hx hb dL_law_891 ?_
  refine va_sld (i := nI i + (1 : Int32)) hx hb hX hbl hbA hS i1 dL_law_892 ?_
  refine law_i (wx := wC cI cS q N V A) (wy := wM cI cZ q' M U B) (va_runV (As := [.int (xs (nI i + (1 : Int32)).toNatClampNeg)]) (rest := []) ⟨hx, hb, hml, hown, hts⟩ (c_X4_tell l D cI cZ cS q N V A H.size (xs (nI i + (1 : Int32)).toNatClampNeg) okc) (cwV 1 hts gL_law_X4_tell rfl rfl rfl (by decide +kernel) ⟨Nat.le_of_ble_eq_true rfl, Nat.le_of_ble_eq_true rfl⟩) (preCm4 hK hN hPc (pair_l hD)) rfl rfl hl.1 rfl (lv_room (Nat.le_of_ble_eq_true rfl)) dL_law_893 ⟨Nat.le_of_ble_eq_true rfl, Nat.le_of_ble_eq_true rfl⟩) (fun t h => h.1) hD hPm hS hA (fun H locs hPc hPm hD hS => ?_)
  refine lv_aload_n hx hb dL_law_896 rfl (lv_at hl 2 rfl) ?_
  refine lv_aload_n hx hb dL_law_897 rfl (lv_at hl 0 rfl) ?_
  refine lv_iload_n hx hb dL_law_898 rfl (lv_at hl 3 rfl) ?_
  refine lv_iconst (v := (1)) hx hb dL_law_899 (by decide) ?_
  refine lv_iadd hx hb dL_law_900 ?_
  refine va_sld (i := nI i + (1 : Int32)) hx hb hX hbl hbA hS i1 dL_law_901 ?_
  refine law_i (wx := wM cI cZ q' M U B) (wy := wC cI cS q (s_X4_tell N V A (xs (nI i + (1 : Int32)).toNatClampNeg)).2.1 (s_X4_tell N V A (xs (nI i + (1 : Int32)).toNatClampNeg)).2.2.1 (s_X4_tell N V A (xs (nI i + (1 : Int32)).toNatClampNeg)).2.2.2) (va_runV (As := [.int (xs (nI i + (1 : Int32)).toNatClampNeg)]) (rest := [(.int (s_X4_tell N V A (xs (nI i + (1 : Int32)).toNatClampNeg)).1)]) ⟨hx, hb, hml, hown, hts⟩ (c_X5_tell l D cI cZ cS q' M U B H.size (xs (nI i + (1 : Int32)).toNatClampNeg) okm) (cwV 1 hts gL_law_X5_tell rfl rfl rfl (by decide +kernel) ⟨Nat.le_of_ble_eq_true rfl, Nat.le_of_ble_eq_true rfl⟩) (preMm hK hPm (pair_r hD)) rfl rfl hl.1 rfl (lv_room (Nat.le_of_ble_eq_true rfl)) dL_law_902 ⟨Nat.le_of_ble_eq_true rfl, Nat.le_of_ble_eq_true rfl⟩) (fun t h => h.1) (pair_sw hD) hPc hS hA (fun H locs hPm hPc hD hS => ?_)
  have hD := pair_sw hD
  have hs := tell_eq iv (xs (nI i + (1 : Int32)).toNatClampNeg)
  refine lv_icmp_eq (tgt := 1015) hx hb dL_law_905 (by decide) (fun _ => ?_) (fun c1 => absurd hs.1 c1)
  exact kk _ _ _ _ _ _ _ _ _ hs.2 hPc hPm hD hS hl
set_option maxHeartbeats 4000000 in
set_option maxRecDepth 100000 in
theorem lc_23 {p : Program} {l : Launch} {e : Env} {s : State} {m : MethodId} {below : List Frame} {meth : Method} {c : Code} {D : va_G} {cI cZ cS : ClassId} {q q' : Nat → Nat} {N M : Nat → Nat} {V U : Nat → Int32} {A B : Nat → Nat → Int32} {H : Heap} {locs : List Loc} {ls : Array Slot} {b L i tG : Nat} {xs : Nat → Int32} (hL : L ≤ 3072) (hi : i + 6 ≤ L) (C0 : lw_At p s m meth c b L xs) (hK : va_K D vwCl (tysA cI cZ cS) s) (hN : nestC s) (hG : gmS s tG) (kk : lawK p l e s m below meth c b D cI cZ cS q q' (nI i)) (iv : Inv N V A M U B) (hPc : va_P D vwCl (wC cI cS q N V A) H) (hPm : va_P D vwCl (wM cI cZ q' M U B) H) (hD : va_D (fun q : Nat => s.heap.size ≤ q) (wC cI cS q N V A ++ wM cI cZ q' M U B)) (hS : va_S (fun q : Nat => s.heap.size ≤ q) s.heap H locs) (hl : lv_has ls 4 [(0, .ref b), (1, .ref (q 0)), (2, .ref (q' 0)), (3, .int (nI i))]) : W p l e room_1 s m #[Value.ref b] below meth c H locs 600000 7302250 (lw_Z below #[Value.ref b] s) (F0 m 910 ls []) := by
  obtain ⟨hx, hb, hr, hml, hown, hts0, hX, hbl, hlocks, hgv⟩ := C0
  have hts : ∀ w ∈ wsL_law, w.before #[Value.ref b] s = true := fun w h => hts0 w (wsL_law_in w h)
  have hown : s.vm.findClass RL = some m.cls := hown
  have hA : ∀ q : Nat, s.heap.size ≤ q → (fun q : Nat => s.heap.size ≤ q) q := fun _ h => h
  have hbA : ¬ (fun q : Nat => s.heap.size ≤ q) b := Nat.not_le.mpr hbl
  obtain ⟨i0, i1, i2, i3, i4, i5⟩ := inS hL hi
  have okc := iv.2.2.2.2.2.2.2.1
  have okm := iv.2.2.2.2.2.2.2.2
  have okv := iv.okV
  have oks := iv.okS
  have hup : M 2 < 2 ^ M 0 := iv.1.2.2.2.2.2
  have hupN : N 2 < 2 ^ N 0 := by rw [iv.1.2.2.1, iv.1.1]; exact hup
  have hw3 : ¬ B 1 3 = 0 := fun h => by have := (iv.2.2.1 3 (by decide)).2.1; rw [h] at this; exact absurd this (by decide)
  refine lv_aload_n hx hb dL_law_910 rfl (lv_at hl 1 rfl) ?_
  refine lv_aload_n hx hb dL_law_911 rfl (lv_at hl 0 rfl) ?_
  refine lv_iload_n hx hb dL_law_912 rfl (lv_at hl 3 rfl) ?_
  refine lv_iconst (v := (1)) hx hb dL_law_913 (by decide) ?_
  refine lv_iadd hx hb dL_law_914 ?_
  refine va_sld (i := nI i + (1 : Int32)) hx hb hX hbl hbA hS i1 dL_law_915 ?_
  refine law_i (wx := wC cI cS q N V A) (wy := wM cI cZ q' M U B) (va_runV (As := [.int (xs (nI i + (1 : Int32)).toNatClampNeg)]) (rest := []) ⟨hx, hb, hml, hown, hts⟩ (c_X4_name l D cI cZ cS q N V A H.size (xs (nI i + (1 : Int32)).toNatClampNeg) okc) (cwV 1 hts gL_law_X4_name rfl rfl rfl (by decide +kernel) ⟨Nat.le_of_ble_eq_true rfl, Nat.le_of_ble_eq_true rfl⟩) (preCm4 hK hN hPc (pair_l hD)) rfl rfl hl.1 rfl (lv_room (Nat.le_of_ble_eq_true rfl)) dL_law_916 ⟨Nat.le_of_ble_eq_true rfl, Nat.le_of_ble_eq_true rfl⟩) (fun t h => h.1) hD hPm hS hA (fun H locs hPc hPm hD hS => ?_)
  refine lv_aload_n hx hb dL_law_919 rfl (lv_at hl 2 rfl) ?_
  refine lv_aload_n hx hb dL_law_920 rfl (lv_at hl 0 rfl) ?_
  refine lv_iload_n hx hb dL_law_921 rfl (lv_at hl 3 rfl) ?_
  refine lv_iconst (v := (1)) hx hb dL_law_922 (by decide) ?_
  refine lv_iadd hx hb dL_law_923 ?_
  refine va_sld (i := nI i + (1 : Int32)) hx hb hX hbl hbA hS i1 dL_law_924 ?_
  refine law_i (wx := wM cI cZ q' M U B) (wy := wC cI cS q (s_X4_name N V A (xs (nI i + (1 : Int32)).toNatClampNeg)).2.1 (s_X4_name N V A (xs (nI i + (1 : Int32)).toNatClampNeg)).2.2.1 (s_X4_name N V A (xs (nI i + (1 : Int32)).toNatClampNeg)).2.2.2) (va_runV (As := [.int (xs (nI i + (1 : Int32)).toNatClampNeg)]) (rest := [(.int (s_X4_name N V A (xs (nI i + (1 : Int32)).toNatClampNeg)).1)]) ⟨hx, hb, hml, hown, hts⟩ (c_X5_name l D cI cZ cS q' M U B H.size (xs (nI i + (1 : Int32)).toNatClampNeg) okm) (cwV 1 hts gL_law_X5_name rfl rfl rfl (by decide +kernel) ⟨Nat.le_of_ble_eq_true rfl, Nat.le_of_ble_eq_true rfl⟩) (preMm hK hPm (pair_r hD)) rfl rfl hl.1 rfl (lv_room (Nat.le_of_ble_eq_true rfl)) dL_law_925 ⟨Nat.le_of_ble_eq_true rfl, Nat.le_of_ble_eq_true rfl⟩) (fun t h => h.1) (pair_sw hD) hPc hS hA (fun H locs hPm hPc hD hS => ?_)
  have hD := pair_sw hD
  have hs := name_eq iv (xs (nI i + (1 : Int32)).toNatClampNeg)
  refine lv_icmp_eq (tgt := 1015) hx hb dL_law_928 (by decide) (fun _ => ?_) (fun c1 => absurd hs.1 c1)
  exact kk _ _ _ _ _ _ _ _ _ hs.2 hPc hPm hD hS hl
set_option maxHeartbeats 4000000 in
set_option maxRecDepth 100000 in
theorem lc_24 {p : Program} {l : Launch} {e : Env} {s : State} {m : MethodId} {below : List Frame} {meth : Method} {c : Code} {D : va_G} {cI cZ cS : ClassId} {q q' : Nat → Nat} {N M : Nat → Nat} {V U : Nat → Int32} {A B : Nat → Nat → Int32} {H : Heap} {locs : List Loc} {ls : Array Slot} {b L i tG : Nat} {xs : Nat → Int32} (hL : L ≤ 3072) (hi : i + 6 ≤ L) (C0 : lw_At p s m meth c b L xs) (hK : va_K D vwCl (tysA cI cZ cS) s) (hN : nestC s) (hG : gmS s tG) (kk : lawK p l e s m below meth c b D cI cZ cS q q' (nI i)) (iv : Inv N V A M U B) (hPc : va_P D vwCl (wC cI cS q N V A) H) (hPm : va_P D vwCl (wM cI cZ q' M U B) H) (hD : va_D (fun q : Nat => s.heap.size ≤ q) (wC cI cS q N V A ++ wM cI cZ q' M U B)) (hS : va_S (fun q : Nat => s.heap.size ≤ q) s.heap H locs) (hl : lv_has ls 4 [(0, .ref b), (1, .ref (q 0)), (2, .ref (q' 0)), (3, .int (nI i))]) : W p l e room_1 s m #[Value.ref b] below meth c H locs 600000 7302250 (lw_Z below #[Value.ref b] s) (F0 m 933 ls []) := by
  obtain ⟨hx, hb, hr, hml, hown, hts0, hX, hbl, hlocks, hgv⟩ := C0
  have hts : ∀ w ∈ wsL_law, w.before #[Value.ref b] s = true := fun w h => hts0 w (wsL_law_in w h)
  have hown : s.vm.findClass RL = some m.cls := hown
  have hA : ∀ q : Nat, s.heap.size ≤ q → (fun q : Nat => s.heap.size ≤ q) q := fun _ h => h
  have hbA : ¬ (fun q : Nat => s.heap.size ≤ q) b := Nat.not_le.mpr hbl
  obtain ⟨i0, i1, i2, i3, i4, i5⟩ := inS hL hi
  have okc := iv.2.2.2.2.2.2.2.1
  have okm := iv.2.2.2.2.2.2.2.2
  have okv := iv.okV
  have oks := iv.okS
  have hup : M 2 < 2 ^ M 0 := iv.1.2.2.2.2.2
  have hupN : N 2 < 2 ^ N 0 := by rw [iv.1.2.2.1, iv.1.1]; exact hup
  have hw3 : ¬ B 1 3 = 0 := fun h => by have := (iv.2.2.1 3 (by decide)).2.1; rw [h] at this; exact absurd this (by decide)
  refine lv_aload_n hx hb dL_law_933 rfl (lv_at hl 1 rfl) ?_
  refine lv_aload_n hx hb dL_law_934 rfl (lv_at hl 0 rfl) ?_
  refine lv_iload_n hx hb dL_law_935 rfl (lv_at hl 3 rfl) ?_
  refine lv_iconst (v := (1)) hx hb dL_law_936 (by decide) ?_
  refine lv_iadd hx hb dL_law_937 ?_
  refine va_sld (i := nI i + (1 : Int32)) hx hb hX hbl hbA hS i1 dL_law_938 ?_
  refine lv_aload_n hx hb dL_law_939 rfl (lv_at hl 0 rfl) ?_
  refine lv_iload_n hx hb dL_law_940 rfl (lv_at hl 3 rfl) ?_
  refine lv_iconst (v := (2)) hx hb dL_law_941 (by decide) ?_
  refine lv_iadd hx hb dL_law_942 ?_
  refine va_sld (i := nI i + (2 : Int32)) hx hb hX hbl hbA hS i2 dL_law_943 ?_
  refine law_i (wx := wC cI cS q N V A) (wy := wM cI cZ q' M U B) (va_runV (As := [.int (xs (nI i + (1 : Int32)).toNatClampNeg), .int (xs (nI i + (2 : Int32)).toNatClampNeg)]) (rest := []) ⟨hx, hb, hml, hown, hts⟩ (c_X4_as l D cI cZ cS q N V A H.size (xs (nI i + (1 : Int32)).toNatClampNeg) (xs (nI i + (2 : Int32)).toNatClampNeg) okc) (cwV 2 hts gL_law_X4_as rfl rfl rfl (by decide +kernel) ⟨Nat.le_of_ble_eq_true rfl, Nat.le_of_ble_eq_true rfl⟩) (preCm4 hK hN hPc (pair_l hD)) rfl rfl hl.1 rfl (lv_room (Nat.le_of_ble_eq_true rfl)) dL_law_944 ⟨Nat.le_of_ble_eq_true rfl, Nat.le_of_ble_eq_true rfl⟩) (fun t h => h.1) hD hPm hS hA (fun H locs hPc hPm hD hS => ?_)
  refine lv_aload_n hx hb dL_law_947 rfl (lv_at hl 2 rfl) ?_
  refine lv_aload_n hx hb dL_law_948 rfl (lv_at hl 0 rfl) ?_
  refine lv_iload_n hx hb dL_law_949 rfl (lv_at hl 3 rfl) ?_
  refine lv_iconst (v := (1)) hx hb dL_law_950 (by decide) ?_
  refine lv_iadd hx hb dL_law_951 ?_
  refine va_sld (i := nI i + (1 : Int32)) hx hb hX hbl hbA hS i1 dL_law_952 ?_
  refine lv_aload_n hx hb dL_law_953 rfl (lv_at hl 0 rfl) ?_
  refine lv_iload_n hx hb dL_law_954 rfl (lv_at hl 3 rfl) ?_
  refine lv_iconst (v := (2)) hx hb dL_law_955 (by decide) ?_
  refine lv_iadd hx hb dL_law_956 ?_
  refine va_sld (i := nI i + (2 : Int32)) hx hb hX hbl hbA hS i2 dL_law_957 ?_
  refine law_i (wx := wM cI cZ q' M U B) (wy := wC cI cS q (s_X4_as N V A (xs (nI i + (1 : Int32)).toNatClampNeg) (xs (nI i + (2 : Int32)).toNatClampNeg)).2.1 (s_X4_as N V A (xs (nI i + (1 : Int32)).toNatClampNeg) (xs (nI i + (2 : Int32)).toNatClampNeg)).2.2.1 (s_X4_as N V A (xs (nI i + (1 : Int32)).toNatClampNeg) (xs (nI i + (2 : Int32)).toNatClampNeg)).2.2.2) (va_runV (As := [.int (xs (nI i + (1 : Int32)).toNatClampNeg), .int (xs (nI i + (2 : Int32)).toNatClampNeg)]) (rest := [(.int (s_X4_as N V A (xs (nI i + (1 : Int32)).toNatClampNeg) (xs (nI i + (2 : Int32)).toNatClampNeg)).1)]) ⟨hx, hb, hml, hown, hts⟩ (c_X5_as l D cI cZ cS q' M U B H.size (xs (nI i + (1 : Int32)).toNatClampNeg) (xs (nI i + (2 : Int32)).toNatClampNeg) okm) (cwV 2 hts gL_law_X5_as rfl rfl rfl (by decide +kernel) ⟨Nat.le_of_ble_eq_true rfl, Nat.le_of_ble_eq_true rfl⟩) (preMm hK hPm (pair_r hD)) rfl rfl hl.1 rfl (lv_room (Nat.le_of_ble_eq_true rfl)) dL_law_958 ⟨Nat.le_of_ble_eq_true rfl, Nat.le_of_ble_eq_true rfl⟩) (fun t h => h.1) (pair_sw hD) hPc hS hA (fun H locs hPm hPc hD hS => ?_)
  have hD := pair_sw hD
  have hs := as_eq iv (xs (nI i + (1 : Int32)).toNatClampNeg) (xs (nI i + (2 : Int32)).toNatClampNeg)
  refine lv_icmp_eq (tgt := 1015) hx hb dL_law_961 (by decide) (fun _ => ?_) (fun c1 => absurd hs.1 c1)
  exact kk _ _ _ _ _ _ _ _ _ hs.2 hPc hPm hD hS hl
set_option maxHeartbeats 4000000 in
set_option maxRecDepth 100000 in
theorem lc_25 {p : Program} {l : Launch} {e : Env} {s : State} {m : MethodId} {below : List Frame} {meth : Method} {c : Code} {D : va_G} {cI cZ cS : ClassId} {q q' : Nat → Nat} {N M : Nat → Nat} {V U : Nat → Int32} {A B : Nat → Nat → Int32} {H : Heap} {locs : List Loc} {ls : Array Slot} {b L i tG : Nat} {xs : Nat → Int32} (hL : L ≤ 3072) (hi : i + 6 ≤ L) (C0 : lw_At p s m meth c b L xs) (hK : va_K D vwCl (tysA cI cZ cS) s) (hN : nestC s) (hG : gmS s tG) (kk : lawK p l e s m below meth c b D cI cZ cS q q' (nI i)) (iv : Inv N V A M U B) (hPc : va_P D vwCl (wC cI cS q N V A) H) (hPm : va_P D vwCl (wM cI cZ q' M U B) H) (hD : va_D (fun q : Nat => s.heap.size ≤ q) (wC cI cS q N V A ++ wM cI cZ q' M U B)) (hS : va_S (fun q : Nat => s.heap.size ≤ q) s.heap H locs) (hl : lv_has ls 4 [(0, .ref b), (1, .ref (q 0)), (2, .ref (q' 0)), (3, .int (nI i))]) : W p l e room_1 s m #[Value.ref b] below meth c H locs 600000 7302250 (lw_Z below #[Value.ref b] s) (F0 m 966 ls []) := by
  obtain ⟨hx, hb, hr, hml, hown, hts0, hX, hbl, hlocks, hgv⟩ := C0
  have hts : ∀ w ∈ wsL_law, w.before #[Value.ref b] s = true := fun w h => hts0 w (wsL_law_in w h)
  have hown : s.vm.findClass RL = some m.cls := hown
  have hA : ∀ q : Nat, s.heap.size ≤ q → (fun q : Nat => s.heap.size ≤ q) q := fun _ h => h
  have hbA : ¬ (fun q : Nat => s.heap.size ≤ q) b := Nat.not_le.mpr hbl
  obtain ⟨i0, i1, i2, i3, i4, i5⟩ := inS hL hi
  have okc := iv.2.2.2.2.2.2.2.1
  have okm := iv.2.2.2.2.2.2.2.2
  have okv := iv.okV
  have oks := iv.okS
  have hup : M 2 < 2 ^ M 0 := iv.1.2.2.2.2.2
  have hupN : N 2 < 2 ^ N 0 := by rw [iv.1.2.2.1, iv.1.1]; exact hup
  have hw3 : ¬ B 1 3 = 0 := fun h => by have := (iv.2.2.1 3 (by decide)).2.1; rw [h] at this; exact absurd this (by decide)
  refine lv_aload_n hx hb dL_law_966 rfl (lv_at hl 1 rfl) ?_
  refine vp_callSi (W.runV (As := []) (rest := []) ⟨hx, hb, hml, hown, hts⟩ (c_X4_trace l D cI cZ cS q N V A  ) (cwV 0 hts gL_law_X4_trace rfl rfl rfl (by decide +kernel) ⟨Nat.le_of_ble_eq_true rfl, Nat.le_of_ble_eq_true rfl⟩) (preC4 hK hN hPc) rfl rfl hl.1 rfl (lv_room (Nat.le_of_ble_eq_true rfl)) dL_law_967 ⟨Nat.le_of_ble_eq_true rfl, Nat.le_of_ble_eq_true rfl⟩) (fun r1 er1 => ?_)
  subst er1
  refine lv_aload_n hx hb dL_law_970 rfl (lv_at hl 2 rfl) ?_
  refine vp_callSi (W.runV (As := []) (rest := [(.int (s_X4_trace N V A ))]) ⟨hx, hb, hml, hown, hts⟩ (c_X5_trace l D cI cZ cS q' M U B  ) (cwV 0 hts gL_law_X5_trace rfl rfl rfl (by decide +kernel) ⟨Nat.le_of_ble_eq_true rfl, Nat.le_of_ble_eq_true rfl⟩) (preM hK hPm) rfl rfl hl.1 rfl (lv_room (Nat.le_of_ble_eq_true rfl)) dL_law_971 ⟨Nat.le_of_ble_eq_true rfl, Nat.le_of_ble_eq_true rfl⟩) (fun r2 er2 => ?_)
  subst er2
  have hs : s_X4_trace N V A = s_X5_trace M U B := iv.2.1.2
  refine lv_icmp_eq (tgt := 1015) hx hb dL_law_974 (by decide) (fun _ => ?_) (fun c1 => absurd hs c1)
  exact kk _ _ _ _ _ _ _ _ _ iv hPc hPm hD hS hl
set_option maxHeartbeats 4000000 in
set_option maxRecDepth 100000 in
theorem lc_26 {p : Program} {l : Launch} {e : Env} {s : State} {m : MethodId} {below : List Frame} {meth : Method} {c : Code} {D : va_G} {cI cZ cS : ClassId} {q q' : Nat → Nat} {N M : Nat → Nat} {V U : Nat → Int32} {A B : Nat → Nat → Int32} {H : Heap} {locs : List Loc} {ls : Array Slot} {b L i tG : Nat} {xs : Nat → Int32} (hL : L ≤ 3072) (hi : i + 6 ≤ L) (C0 : lw_At p s m meth c b L xs) (hK : va_K D vwCl (tysA cI cZ cS) s) (hN : nestC s) (hG : gmS s tG) (kk : lawK p l e s m below meth c b D cI cZ cS q q' (nI i)) (iv : Inv N V A M U B) (hPc : va_P D vwCl (wC cI cS q N V A) H) (hPm : va_P D vwCl (wM cI cZ q' M U B) H) (hD : va_D (fun q : Nat => s.heap.size ≤ q) (wC cI cS q N V A ++ wM cI cZ q' M U B)) (hS : va_S (fun q : Nat => s.heap.size ≤ q) s.heap H locs) (hl : lv_has ls 4 [(0, .ref b), (1, .ref (q 0)), (2, .ref (q' 0)), (3, .int (nI i))]) : W p l e room_1 s m #[Value.ref b] below meth c H locs 600000 7302250 (lw_Z below #[Value.ref b] s) (F0 m 979 ls []) := by
  obtain ⟨hx, hb, hr, hml, hown, hts0, hX, hbl, hlocks, hgv⟩ := C0
  have hts : ∀ w ∈ wsL_law, w.before #[Value.ref b] s = true := fun w h => hts0 w (wsL_law_in w h)
  have hown : s.vm.findClass RL = some m.cls := hown
  have hA : ∀ q : Nat, s.heap.size ≤ q → (fun q : Nat => s.heap.size ≤ q) q := fun _ h => h
  have hbA : ¬ (fun q : Nat => s.heap.size ≤ q) b := Nat.not_le.mpr hbl
  obtain ⟨i0, i1, i2, i3, i4, i5⟩ := inS hL hi
  have okc := iv.2.2.2.2.2.2.2.1
  have okm := iv.2.2.2.2.2.2.2.2
  have okv := iv.okV
  have oks := iv.okS
  have hup : M 2 < 2 ^ M 0 := iv.1.2.2.2.2.2
  have hupN : N 2 < 2 ^ N 0 := by rw [iv.1.2.2.1, iv.1.1]; exact hup
  have hw3 : ¬ B 1 3 = 0 := fun h => by have := (iv.2.2.1 3 (by decide)).2.1; rw [h] at this; exact absurd this (by decide)
  refine lv_aload_n hx hb dL_law_979 rfl (lv_at hl 1 rfl) ?_
  refine vp_callSi (W.runV (As := []) (rest := []) ⟨hx, hb, hml, hown, hts⟩ (c_X4_fault l D cI cZ cS q N V A  ) (cwV 0 hts gL_law_X4_fault rfl rfl rfl (by decide +kernel) ⟨Nat.le_of_ble_eq_true rfl, Nat.le_of_ble_eq_true rfl⟩) (preC4 hK hN hPc) rfl rfl hl.1 rfl (lv_room (Nat.le_of_ble_eq_true rfl)) dL_law_980 ⟨Nat.le_of_ble_eq_true rfl, Nat.le_of_ble_eq_true rfl⟩) (fun r1 er1 => ?_)
  subst er1
  refine lv_aload_n hx hb dL_law_983 rfl (lv_at hl 2 rfl) ?_
  refine vp_callSi (W.runV (As := []) (rest := [(.int (s_X4_fault N V A ))]) ⟨hx, hb, hml, hown, hts⟩ (c_X5_fault l D cI cZ cS q' M U B  ) (cwV 0 hts gL_law_X5_fault rfl rfl rfl (by decide +kernel) ⟨Nat.le_of_ble_eq_true rfl, Nat.le_of_ble_eq_true rfl⟩) (preM hK hPm) rfl rfl hl.1 rfl (lv_room (Nat.le_of_ble_eq_true rfl)) dL_law_984 ⟨Nat.le_of_ble_eq_true rfl, Nat.le_of_ble_eq_true rfl⟩) (fun r2 er2 => ?_)
  subst er2
  have hs : s_X4_fault N V A = s_X5_fault M U B := iv.2.1.1
  refine lv_icmp_eq (tgt := 1015) hx hb dL_law_987 (by decide) (fun _ => ?_) (fun c1 => absurd hs c1)
  exact kk _ _ _ _ _ _ _ _ _ iv hPc hPm hD hS hl
set_option maxHeartbeats 4000000 in
set_option maxRecDepth 100000 in
theorem lc_27 {p : Program} {l : Launch} {e : Env} {s : State} {m : MethodId} {below : List Frame} {meth : Method} {c : Code} {D : va_G} {cI cZ cS : ClassId} {q q' : Nat → Nat} {N M : Nat → Nat} {V U : Nat → Int32} {A B : Nat → Nat → Int32} {H : Heap} {locs : List Loc} {ls : Array Slot} {b L i tG : Nat} {xs : Nat → Int32} (hL : L ≤ 3072) (hi : i + 6 ≤ L) (C0 : lw_At p s m meth c b L xs) (hK : va_K D vwCl (tysA cI cZ cS) s) (hN : nestC s) (hG : gmS s tG) (kk : lawK p l e s m below meth c b D cI cZ cS q q' (nI i)) (iv : Inv N V A M U B) (hPc : va_P D vwCl (wC cI cS q N V A) H) (hPm : va_P D vwCl (wM cI cZ q' M U B) H) (hD : va_D (fun q : Nat => s.heap.size ≤ q) (wC cI cS q N V A ++ wM cI cZ q' M U B)) (hS : va_S (fun q : Nat => s.heap.size ≤ q) s.heap H locs) (hl : lv_has ls 4 [(0, .ref b), (1, .ref (q 0)), (2, .ref (q' 0)), (3, .int (nI i))]) : W p l e room_1 s m #[Value.ref b] below meth c H locs 600000 7302250 (lw_Z below #[Value.ref b] s) (F0 m 992 ls []) := by
  obtain ⟨hx, hb, hr, hml, hown, hts0, hX, hbl, hlocks, hgv⟩ := C0
  have hts : ∀ w ∈ wsL_law, w.before #[Value.ref b] s = true := fun w h => hts0 w (wsL_law_in w h)
  have hown : s.vm.findClass RL = some m.cls := hown
  have hA : ∀ q : Nat, s.heap.size ≤ q → (fun q : Nat => s.heap.size ≤ q) q := fun _ h => h
  have hbA : ¬ (fun q : Nat => s.heap.size ≤ q) b := Nat.not_le.mpr hbl
  obtain ⟨i0, i1, i2, i3, i4, i5⟩ := inS hL hi
  have okc := iv.2.2.2.2.2.2.2.1
  have okm := iv.2.2.2.2.2.2.2.2
  have okv := iv.okV
  have oks := iv.okS
  have hup : M 2 < 2 ^ M 0 := iv.1.2.2.2.2.2
  have hupN : N 2 < 2 ^ N 0 := by rw [iv.1.2.2.1, iv.1.1]; exact hup
  have hw3 : ¬ B 1 3 = 0 := fun h => by have := (iv.2.2.1 3 (by decide)).2.1; rw [h] at this; exact absurd this (by decide)
  refine lv_aload_n hx hb dL_law_992 rfl (lv_at hl 1 rfl) ?_
  refine lv_aload_n hx hb dL_law_993 rfl (lv_at hl 0 rfl) ?_
  refine lv_iload_n hx hb dL_law_994 rfl (lv_at hl 3 rfl) ?_
  refine lv_iconst (v := (1)) hx hb dL_law_995 (by decide) ?_
  refine lv_iadd hx hb dL_law_996 ?_
  refine va_sld (i := nI i + (1 : Int32)) hx hb hX hbl hbA hS i1 dL_law_997 ?_
  refine vp_callSi (W.runV (As := [.int (xs (nI i + (1 : Int32)).toNatClampNeg)]) (rest := []) ⟨hx, hb, hml, hown, hts⟩ (c_X4_told l D cI cZ cS q N V A (xs (nI i + (1 : Int32)).toNatClampNeg) okc) (cwV 1 hts gL_law_X4_told rfl rfl rfl (by decide +kernel) ⟨Nat.le_of_ble_eq_true rfl, Nat.le_of_ble_eq_true rfl⟩) (preC4 hK hN hPc) rfl rfl hl.1 rfl (lv_room (Nat.le_of_ble_eq_true rfl)) dL_law_998 ⟨Nat.le_of_ble_eq_true rfl, Nat.le_of_ble_eq_true rfl⟩) (fun r1 er1 => ?_)
  subst er1
  refine lv_aload_n hx hb dL_law_1001 rfl (lv_at hl 2 rfl) ?_
  refine lv_aload_n hx hb dL_law_1002 rfl (lv_at hl 0 rfl) ?_
  refine lv_iload_n hx hb dL_law_1003 rfl (lv_at hl 3 rfl) ?_
  refine lv_iconst (v := (1)) hx hb dL_law_1004 (by decide) ?_
  refine lv_iadd hx hb dL_law_1005 ?_
  refine va_sld (i := nI i + (1 : Int32)) hx hb hX hbl hbA hS i1 dL_law_1006 ?_
  refine vp_callSi (W.runV (As := [.int (xs (nI i + (1 : Int32)).toNatClampNeg)]) (rest := [(.int (s_X4_told N V A (xs (nI i + (1 : Int32)).toNatClampNeg)))]) ⟨hx, hb, hml, hown, hts⟩ (c_X5_told l D cI cZ cS q' M U B (xs (nI i + (1 : Int32)).toNatClampNeg) okm) (cwV 1 hts gL_law_X5_told rfl rfl rfl (by decide +kernel) ⟨Nat.le_of_ble_eq_true rfl, Nat.le_of_ble_eq_true rfl⟩) (preM hK hPm) rfl rfl hl.1 rfl (lv_room (Nat.le_of_ble_eq_true rfl)) dL_law_1007 ⟨Nat.le_of_ble_eq_true rfl, Nat.le_of_ble_eq_true rfl⟩) (fun r2 er2 => ?_)
  subst er2
  have hs := told_eq iv (xs (nI i + (1 : Int32)).toNatClampNeg)
  refine lv_icmp_eq (tgt := 1015) hx hb dL_law_1010 (by decide) (fun _ => ?_) (fun c1 => absurd hs c1)
  exact kk _ _ _ _ _ _ _ _ _ iv hPc hPm hD hS hl
