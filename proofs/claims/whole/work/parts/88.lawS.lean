/-! the law's start -/
set_option maxHeartbeats 4000000 in
set_option maxRecDepth 100000 in
theorem whole_start {p : Program} {e : Env} {s : State} {m : MethodId} {below : List Frame} {meth : Method} {c : Code} (l : Launch) {b L : Nat} {xs : Nat → Int32} (hL : L ≤ 3072) (C0 : lw_At p s m meth c b L xs) : W p l e room_1 s m #[Value.ref b] below meth c s.heap [] 0 0 (lw_Z below #[Value.ref b] s) (entryFrame m ([Value.ref b] : List Value).toArray 4) := by
  obtain ⟨hx, hb, hr, hml, hown0, hts0, hX, hbl, hlocks, hgv⟩ := id C0
  have hts : ∀ w ∈ wsL_law, w.before #[Value.ref b] s = true := fun w h => hts0 w (wsL_law_in w h)
  have hown : s.vm.findClass RL = some m.cls := hown0
  have hA : ∀ q : Nat, s.heap.size ≤ q → (fun q : Nat => s.heap.size ≤ q) q := fun _ h => h
  have hbA : ¬ (fun q : Nat => s.heap.size ≤ q) b := Nat.not_le.mpr hbl
  obtain ⟨d0, iS0, hKn0⟩ := u_known (C := RX0) (T := TX0) (N := 4) (n := 4) hts0 inX0 (hts0 (.instantiable RX0 4) (by decide +kernel))
  obtain ⟨d1, iS1, hKn1⟩ := u_known (C := RX1) (T := TX1) (N := 3) (n := 3) hts0 inX1 (hts0 (.instantiable RX1 3) (by decide +kernel))
  obtain ⟨d2, iS2, hKn2⟩ := u_known (C := RX2) (T := TX2) (N := 9) (n := 9) hts0 inX2 (hts0 (.instantiable RX2 9) (by decide +kernel))
  obtain ⟨d3, iS3, hKn3⟩ := u_known (C := RX3) (T := TX3) (N := 8) (n := 8) hts0 inX3 (hts0 (.instantiable RX3 8) (by decide +kernel))
  obtain ⟨d4, iS4, hKn4⟩ := u_known (C := RX4) (T := TX4) (N := 7) (n := 7) hts0 inX4 (hts0 (.instantiable RX4 7) (by decide +kernel))
  obtain ⟨d5, iS5, hKn5⟩ := u_known (C := RX5) (T := TX5) (N := 22) (n := 22) hts0 inX5 (hts0 (.instantiable RX5 22) (by decide +kernel))
  obtain ⟨D, hKc⟩ : ∃ D : va_G, ∀ (k : Nat) (q : vw_C), vwCl[k]? = some q → u_Kn s q.1 q.2.1 q.2.2 (D.1 k) (D.2 k) := by
    refine ⟨(fun k => match k with | 0 => d0 | 1 => d1 | 2 => d2 | 3 => d3 | 4 => d4 | _ => d5, fun k => match k with | 0 => iS0 | 1 => iS1 | 2 => iS2 | 3 => iS3 | 4 => iS4 | _ => iS5), ?_⟩
    intro k q hq
    match k, hq with
    | 0, hq => cases hq; exact hKn0
    | 1, hq => cases hq; exact hKn1
    | 2, hq => cases hq; exact hKn2
    | 3, hq => cases hq; exact hKn3
    | 4, hq => cases hq; exact hKn4
    | 5, hq => cases hq; exact hKn5
    | k + 6, hq => simp [vwCl] at hq
  obtain ⟨cI, kI, pI, aI1, aI2, aI3⟩ := Cond.arrayClass_spec (hts0 (.arrayClass .int) (by decide +kernel))
  obtain ⟨cZ, kZ, pZ, aZ1, aZ2, aZ3⟩ := Cond.arrayClass_spec (hts0 (.arrayClass .boolean) (by decide +kernel))
  have hAO : va_AO "NeckShip$Sheet" s := va_AO.of (hts0 (.arrayOver (.object "NeckShip$Sheet")) (by decide +kernel))
  obtain ⟨pS, cS, kS, aS1, -, aS2, aS3, aS4⟩ := Cond.arrayOver_spec (hts0 (.arrayOver (.object "NeckShip$Sheet")) (by decide +kernel))
  have hK : va_K D vwCl (tysA cI cZ cS) s := by
    refine ⟨hKc, fun k q h => ?_⟩
    match k, h with
    | 0, h => cases h; exact ⟨fun n z => ⟨fun k h => (by cases h), kI, aI2, pI, aI3⟩, aI1⟩
    | 1, h => cases h; exact ⟨fun n z => ⟨fun k h => (by cases h), kZ, aZ2, pZ, aZ3⟩, aZ1⟩
    | 2, h => cases h; exact ⟨fun n z => ⟨fun k h => (by cases h), kS, aS2, pS, aS3⟩, ⟨kS, pS, aS2, aS3, aS1, aS4⟩⟩
    | k + 3, h => simp [tysA] at h
  have hN : nestC s := ⟨va_Nw.of rfl (hts0 (.methodLinkNest RX1 22 yX4_isWithin "NeckShip") (by decide +kernel)), va_Nw.of rfl (hts0 (.methodLinkNest RX2 64 yX4_isIn "NeckShip") (by decide +kernel)), va_Nw.of rfl (hts0 (.methodLinkNest RX3 52 yX4_isIn "NeckShip") (by decide +kernel)), va_Nw.of rfl (hts0 (.methodLinkNest RX0 67 yX4_isIn "NeckShip") (by decide +kernel))⟩
  have hn0 : va_Nw (.methodLinkNest RX4 17 yX2_init "NeckShip") s := va_Nw.of rfl (hts0 (.methodLinkNest RX4 17 yX2_init "NeckShip") (by decide +kernel))
  have hn1 : va_Nw (.methodLinkNest RX4 24 yX3_init "NeckShip") s := va_Nw.of rfl (hts0 (.methodLinkNest RX4 24 yX3_init "NeckShip") (by decide +kernel))
  have hn2 : va_Nw (.methodLinkNest RX4 31 yX1_init "NeckShip") s := va_Nw.of rfl (hts0 (.methodLinkNest RX4 31 yX1_init "NeckShip") (by decide +kernel))
  have hn3 : va_Nw (.methodLinkNest RX4 38 yX0_init "NeckShip") s := va_Nw.of rfl (hts0 (.methodLinkNest RX4 38 yX0_init "NeckShip") (by decide +kernel))
  have hfl := flat_of_before _ hgv
  obtain ⟨tG, hvG, hTG⟩ := va_Tof (args := #[Value.ref b]) (s := s) (tm := (.static "NeckShip" "GREATEST_MEASURE" "[I")) (ty := .int) (N := 5) (f := fun j => .int (gmV j)) (A := (fun q : Nat => s.heap.size ≤ q)) (by decide) (hfl (.arrayOf (.static "NeckShip" "GREATEST_MEASURE" "[I") .int) (by decide +kernel)) (va_eqt (hfl (.eq (.length (.static "NeckShip" "GREATEST_MEASURE" "[I")) (.int 5)) (by decide +kernel))) (fun j hj => by
    rcases (show j = 0 ∨ j = 1 ∨ j = 2 ∨ j = 3 ∨ j = 4 by omega) with rfl | rfl | rfl | rfl | rfl
    · exact va_eqt (hfl (.eq (.elem (.static "NeckShip" "GREATEST_MEASURE" "[I") (.int 0)) (.int 100)) (by decide +kernel))
    · exact va_eqt (hfl (.eq (.elem (.static "NeckShip" "GREATEST_MEASURE" "[I") (.int 1)) (.int 60)) (by decide +kernel))
    · exact va_eqt (hfl (.eq (.elem (.static "NeckShip" "GREATEST_MEASURE" "[I") (.int 2)) (.int 60)) (by decide +kernel))
    · exact va_eqt (hfl (.eq (.elem (.static "NeckShip" "GREATEST_MEASURE" "[I") (.int 3)) (.int 60)) (by decide +kernel))
    · exact va_eqt (hfl (.eq (.elem (.static "NeckShip" "GREATEST_MEASURE" "[I") (.int 4)) (.int 60)) (by decide +kernel))) (fun a h => Nat.not_le.mpr h)
  have hG : gmS s tG := ⟨va_Zof (hts0 (.laysStatic "NeckShip" "GREATEST_MEASURE" "[I") (by decide +kernel)) (hts0 (.initialized "NeckShip") (by decide +kernel)) hvG (fun a h => Nat.not_le.mpr h), hTG⟩
  have hS : va_S (fun q : Nat => s.heap.size ≤ q) s.heap s.heap [] := va_S.rf
  have hP : va_P D vwCl [] s.heap := fun k q h => by simp at h
  have hD : va_D (fun q : Nat => s.heap.size ≤ q) [] := ⟨fun i j p q h => by simp at h, fun k q h => by simp at h⟩
  have hl := lv_entry ([.ref b]) (n := 4) (Nat.le_of_ble_eq_true rfl)
  rw [lg_entry_eq]
  generalize (lg_sl ([.ref b]) ++ List.replicate (4 - (lg_sl ([.ref b])).length) Slot.unset).toArray = ls at hl ⊢
  have hl : lv_has ls 4 [(0, .ref b)] := hl
  refine va_new (ci := 4) (fs := [.null, .null, .null, .null, .null, .int (0), .int (0)]) (C := RX4) (T := TX4) (N := 7) hx hb hts0 inX4 tyX4 tyX4_ok hown (hts0 (.classLink RL 7 RX4) (by decide +kernel)) (hts0 (.instantiable RX4 7) (by decide +kernel)) (hts0 (.initialized RX4) (by decide +kernel)) hK hP hD hS hA rfl (fun j hj => by rcases (show j = 0 ∨ j = 1 ∨ j = 2 ∨ j = 3 ∨ j = 4 ∨ j = 5 ∨ j = 6 by omega) with rfl | rfl | rfl | rfl | rfl | rfl | rfl <;> rfl) (Nat.le_of_ble_eq_true rfl) (Nat.le_of_ble_eq_true rfl) dL_law_0 (fun h0 H hP hD hS => ?_)
  have hP : va_P D vwCl [(h0, .inr (4, [.null, .null, .null, .null, .null, .int (0), .int (0)]))] H := hP
  have hD : va_D (fun q : Nat => s.heap.size ≤ q) [(h0, .inr (4, [.null, .null, .null, .null, .null, .int (0), .int (0)]))] := hD
  refine lv_dup hx hb dL_law_3 rfl ?_
  have hFc := free_of hD hS hA
  refine va_callv (va_runI (As := []) (rest := [.ref h0]) ⟨hx, hb, hml, hown, hts⟩ (c_X4_init l D cI cZ cS h0 H.size) (cwI 0 hts gL_law_X4_init rfl rfl rfl (hts0 (.initialized RX4) (by decide +kernel)) (hts0 (.methodLink RL 9 yX4_init) (by decide +kernel)) (hts0 (.instanceMethod yX4_init) (by decide +kernel)) rfl (by decide +kernel) ⟨Nat.le_of_ble_eq_true rfl, Nat.le_of_ble_eq_true rfl⟩) ⟨fun a U g mk h => ⟨h.1, h.2.1, h.2.2.1, va_K.moved (u := U) (U := U.calling g mk a) (Vm.Alike.refl U.vm) h.2.2.2.1, h.2.2.2.2.1, va_Nw.same (u := U) rfl rfl h.2.2.2.2.2.1, va_Nw.same (u := U) rfl rfl h.2.2.2.2.2.2.1, va_Nw.same (u := U) rfl rfl h.2.2.2.2.2.2.2.1, va_Nw.same (u := U) rfl rfl h.2.2.2.2.2.2.2.2.1, va_AO.moved (u := U) (U := U.calling g mk a) (Vm.Alike.refl U.vm) h.2.2.2.2.2.2.2.2.2⟩, fun U hU hW => ⟨rfl, by rw [hU], by rw [hU]; exact hP, va_K.moved hW.alike hK, hD.weaken (fun _ _ _ _ => trivial), va_Nw.warmM hW hn0, va_Nw.warmM hW hn1, va_Nw.warmM hW hn2, va_Nw.warmM hW hn3, va_AO.moved hW.alike hAO⟩⟩ rfl rfl hl.1 rfl (lv_room (Nat.le_of_ble_eq_true rfl)) dL_law_4 ⟨Nat.le_of_ble_eq_true rfl, Nat.le_of_ble_eq_true rfl⟩) hS (fun q _ h => hFc q h) hFc (fun u t H1 locs ht hvm hw hB hz1 hk1 hS => ?_)
  subst hw
  have hP1 := hB.1
  rw [ht] at hP1
  have hD1 : va_D (fun q : Nat => s.heap.size ≤ q) (wC cI cS u (fun _ => 0) V0C A0C) := hB.2.weaken (fun _ q _ h => hFc q.1 h)
  refine lv_astore_n (lv' := [(1, .ref (u 0)), (0, .ref b)]) hx hb dL_law_7 rfl hl (by decide) rfl (fun ls hl => ?_)
  refine va_new (ci := 5) (fs := [.int (0), .null, .int (0), .null, .null, .null, .null, .null, .int (0), .int (0), .null, .null, .null, .null, .null, .null, .null, .null, .null, .null, .null, .int (0)]) (C := RX5) (T := TX5) (N := 22) hx hb hts0 inX5 tyX5 tyX5_ok hown (hts0 (.classLink RL 10 RX5) (by decide +kernel)) (hts0 (.instantiable RX5 22) (by decide +kernel)) (hts0 (.initialized RX5) (by decide +kernel)) hK hP1 hD1 hS hA rfl (fun j hj => by rcases (show j = 0 ∨ j = 1 ∨ j = 2 ∨ j = 3 ∨ j = 4 ∨ j = 5 ∨ j = 6 ∨ j = 7 ∨ j = 8 ∨ j = 9 ∨ j = 10 ∨ j = 11 ∨ j = 12 ∨ j = 13 ∨ j = 14 ∨ j = 15 ∨ j = 16 ∨ j = 17 ∨ j = 18 ∨ j = 19 ∨ j = 20 ∨ j = 21 by omega) with rfl | rfl | rfl | rfl | rfl | rfl | rfl | rfl | rfl | rfl | rfl | rfl | rfl | rfl | rfl | rfl | rfl | rfl | rfl | rfl | rfl | rfl <;> rfl) (Nat.le_of_ble_eq_true rfl) (Nat.le_of_ble_eq_true rfl) dL_law_8 (fun h1 H hP hD hS => ?_)
  have hPc : va_P D vwCl (wC cI cS u (fun _ => 0) V0C A0C) H := fun k q h => hP k q (ap_l h)
  have hPn : va_P D vwCl [(h1, .inr (5, [.int (0), .null, .int (0), .null, .null, .null, .null, .null, .int (0), .int (0), .null, .null, .null, .null, .null, .null, .null, .null, .null, .null, .null, .int (0)]))] H := fun k q h => hP _ q (ap_r h)
  have hD := pair_sw hD
  have hDn := pair_l hD
  refine lv_dup hx hb dL_law_11 rfl ?_
  have hFc := free_of hDn hS hA
  refine va_callv (va_runI (As := []) (rest := [.ref h1]) ⟨hx, hb, hml, hown, hts⟩ (c_X5_init l D cI cZ cS h1 H.size) (cwI 0 hts gL_law_X5_init rfl rfl rfl (hts0 (.initialized RX5) (by decide +kernel)) (hts0 (.methodLink RL 12 yX5_init) (by decide +kernel)) (hts0 (.instanceMethod yX5_init) (by decide +kernel)) rfl (by decide +kernel) ⟨Nat.le_of_ble_eq_true rfl, Nat.le_of_ble_eq_true rfl⟩) ⟨fun a U g mk h => ⟨h.1, h.2.1, h.2.2.1, va_K.moved (u := U) (U := U.calling g mk a) (Vm.Alike.refl U.vm) h.2.2.2.1, h.2.2.2.2⟩, fun U hU hW => ⟨rfl, by rw [hU], by rw [hU]; exact hPn, va_K.moved hW.alike hK, hDn.weaken (fun _ _ _ _ => trivial)⟩⟩ rfl rfl hl.1 rfl (lv_room (Nat.le_of_ble_eq_true rfl)) dL_law_12 ⟨Nat.le_of_ble_eq_true rfl, Nat.le_of_ble_eq_true rfl⟩) hS (fun q _ h => hFc q h) hFc (fun u1 t1 H2 locs ht1 hvm1 hw1 hB1 hz2 hk2 hS => ?_)
  subst hw1
  obtain ⟨hPc, hD⟩ := keepY hD hPc hFc hk2 hB1.2
  have hPm := hB1.1
  rw [ht1] at hPm
  have hD := pair_sw hD
  refine W.widen (k := 600000) (n := 7302250) (by decide) (by decide) ?_
  refine lv_astore_n (lv' := [(2, .ref (u1 0)), (1, .ref (u 0)), (0, .ref b)]) hx hb dL_law_15 rfl hl (by decide) rfl (fun ls hl => ?_)
  refine lv_iconst (v := (0)) hx hb dL_law_16 (by decide) ?_
  refine lv_istore_n (lv' := [(3, .int (0)), (2, .ref (u1 0)), (1, .ref (u 0)), (0, .ref b)]) hx hb dL_law_17 rfl hl (by decide) rfl (fun ls hl => ?_)
  exact law_loop hL C0 hK hN hG (L + 1) 0 (Nat.zero_le L) (by omega) _ _ _ _ _ _ _ _ _ Inv_new hPc hPm hD hS (lv_sub hl [3, 2, 1, 0] rfl)
