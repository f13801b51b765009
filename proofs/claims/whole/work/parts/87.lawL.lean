/-! the law's loop, and its start -/
theorem lw_6 (i : Nat) : nI i + Int32.ofInt 6 = nI (i + 6) := nI_add i 6
set_option maxHeartbeats 4000000 in
set_option maxRecDepth 100000 in
theorem law_loop {p : Program} {l : Launch} {e : Env} {s : State} {m : MethodId} {below : List Frame} {meth : Method} {c : Code} {D : va_G} {cI cZ cS : ClassId} {q q' : Nat → Nat} {b L tG : Nat} {xs : Nat → Int32} (hL : L ≤ 3072) (C0 : lw_At p s m meth c b L xs) (hK : va_K D vwCl (tysA cI cZ cS) s) (hN : nestC s) (hG : gmS s tG) : ∀ (n i : Nat), i ≤ L → L + 1 ≤ i + n → ∀ (N : Nat → Nat) (V : Nat → Int32) (A : Nat → Nat → Int32) (M : Nat → Nat) (U : Nat → Int32) (B : Nat → Nat → Int32) (H : Heap) (locs : List Loc) (ls : Array Slot), Inv N V A M U B → va_P D vwCl (wC cI cS q N V A) H → va_P D vwCl (wM cI cZ q' M U B) H → va_D (fun q : Nat => s.heap.size ≤ q) (wC cI cS q N V A ++ wM cI cZ q' M U B) → va_S (fun q : Nat => s.heap.size ≤ q) s.heap H locs → lv_has ls 4 [(0, .ref b), (1, .ref (q 0)), (2, .ref (q' 0)), (3, .int (nI i))] → W p l e room_1 s m #[Value.ref b] below meth c H locs 600000 7302250 (lw_Z below #[Value.ref b] s) (F0 m 18 ls [])
  | 0, i, h1, h2 => absurd h2 (by omega)
  | n + 1, i, hi, hin => by
    intro N V A M U B H locs ls iv hPc hPm hD hS hl
    obtain ⟨hx, hb, hr, hml, hown, hts0, hX, hbl, hlocks, hgv⟩ := id C0
    have hbA : ¬ (fun q : Nat => s.heap.size ≤ q) b := Nat.not_le.mpr hbl
    refine lv_iload_n hx hb dL_law_18 rfl (lv_at hl 3 rfl) ?_
    refine lv_aload_n hx hb dL_law_19 rfl (lv_at hl 0 rfl) ?_
    refine va_slen hx hb hX hbl hbA hS dL_law_20 ?_
    refine lv_bipush (v := (6)) hx hb dL_law_21 (by decide) ?_
    refine lv_isub hx hb dL_law_23 ?_
    have e6 : (Int32.ofNat L - (6 : Int32)).toInt = (L : Int) - 6 := pk_sub_toInt (a := L) (b := 6) (by omega) (by decide)
    refine lv_icmp_gt (tgt := 1021) hx hb dL_law_24 (by decide) (fun c1 => ?_) (fun c1 => ?_)
    · refine lv_iconst (v := (1)) hx hb dL_law_1021 (by decide) ?_
      refine va_forget (fun q hq => hS.2.2 q hq) ?_
      exact lw_ret hx hb hr hlocks dL_law_1022
    · have hi6 : i + 6 ≤ L := by
        rw [Int32.lt_iff_toInt_lt, e6, nI_toInt (by omega)] at c1; omega
      obtain ⟨i0, -⟩ := inS hL hi6
      have kk : lawK p l e s m below meth c b D cI cZ cS q q' (nI i) := fun N V A M U B H locs ls iv hPc hPm hD hS hl => by
        refine lv_iinc (v := nI (i + 6)) (lv' := [(3, .int (nI (i + 6))), (0, .ref b), (1, .ref (q 0)), (2, .ref (q' 0))]) hx hb dL_law_1015 hl (k := 3) rfl (lw_6 i) (by decide) rfl (fun ls hl => ?_)
        refine lv_goto (tgt := 18) hx hb dL_law_1018 (by decide) ?_
        exact law_loop hL C0 hK hN hG n (i + 6) (by omega) (by omega) N V A M U B H locs ls iv hPc hPm hD hS (lv_sub hl [1, 2, 3, 0] rfl)
      refine lv_aload_n hx hb dL_law_27 rfl (lv_at hl 0 rfl) ?_
      refine lv_iload_n hx hb dL_law_28 rfl (lv_at hl 3 rfl) ?_
      refine va_sld (i := nI i) hx hb hX hbl hbA hS i0 dL_law_29 ?_
      refine lv_bipush (v := (31)) hx hb dL_law_30 (by decide) ?_
      refine lv_iand hx hb dL_law_32 ?_
      generalize xs (nI i).toNatClampNeg &&& (31 : Int32) = x
      by_cases c_0 : x = (0)
      · exact lv_tableIn (off := 127) (tgt := 160) hx hb dL_law_33 (by rw [c_0]; decide) (by rw [c_0]; decide) (by rw [c_0]; rfl) (by decide) (lc_0 hL hi6 C0 hK hN hG kk iv hPc hPm hD hS hl)
      by_cases c_1 : x = (1)
      · exact lv_tableIn (off := 160) (tgt := 193) hx hb dL_law_33 (by rw [c_1]; decide) (by rw [c_1]; decide) (by rw [c_1]; rfl) (by decide) (lc_1 hL hi6 C0 hK hN hG kk iv hPc hPm hD hS hl)
      by_cases c_2 : x = (2)
      · exact lv_tableIn (off := 223) (tgt := 256) hx hb dL_law_33 (by rw [c_2]; decide) (by rw [c_2]; decide) (by rw [c_2]; rfl) (by decide) (lc_2 hL hi6 C0 hK hN hG kk iv hPc hPm hD hS hl)
      by_cases c_3 : x = (3)
      · exact lv_tableIn (off := 276) (tgt := 309) hx hb dL_law_33 (by rw [c_3]; decide) (by rw [c_3]; decide) (by rw [c_3]; rfl) (by decide) (lc_3 hL hi6 C0 hK hN hG kk iv hPc hPm hD hS hl)
      by_cases c_4 : x = (4)
      · exact lv_tableIn (off := 309) (tgt := 342) hx hb dL_law_33 (by rw [c_4]; decide) (by rw [c_4]; decide) (by rw [c_4]; rfl) (by decide) (lc_4 hL hi6 C0 hK hN hG kk iv hPc hPm hD hS hl)
      by_cases c_5 : x = (5)
      · exact lv_tableIn (off := 342) (tgt := 375) hx hb dL_law_33 (by rw [c_5]; decide) (by rw [c_5]; decide) (by rw [c_5]; rfl) (by decide) (lc_5 hL hi6 C0 hK hN hG kk iv hPc hPm hD hS hl)
      by_cases c_6 : x = (6)
      · exact lv_tableIn (off := 365) (tgt := 398) hx hb dL_law_33 (by rw [c_6]; decide) (by rw [c_6]; decide) (by rw [c_6]; rfl) (by decide) (lc_6 hL hi6 C0 hK hN hG kk iv hPc hPm hD hS hl)
      by_cases c_7 : x = (7)
      · exact lv_tableIn (off := 388) (tgt := 421) hx hb dL_law_33 (by rw [c_7]; decide) (by rw [c_7]; decide) (by rw [c_7]; rfl) (by decide) (lc_7 hL hi6 C0 hK hN hG kk iv hPc hPm hD hS hl)
      by_cases c_8 : x = (8)
      · exact lv_tableIn (off := 431) (tgt := 464) hx hb dL_law_33 (by rw [c_8]; decide) (by rw [c_8]; decide) (by rw [c_8]; rfl) (by decide) (lc_8 hL hi6 C0 hK hN hG kk iv hPc hPm hD hS hl)
      by_cases c_9 : x = (9)
      · exact lv_tableIn (off := 454) (tgt := 487) hx hb dL_law_33 (by rw [c_9]; decide) (by rw [c_9]; decide) (by rw [c_9]; rfl) (by decide) (lc_9 hL hi6 C0 hK hN hG kk iv hPc hPm hD hS hl)
      by_cases c_10 : x = (10)
      · exact lv_tableIn (off := 487) (tgt := 520) hx hb dL_law_33 (by rw [c_10]; decide) (by rw [c_10]; decide) (by rw [c_10]; rfl) (by decide) (lc_10 hL hi6 C0 hK hN hG kk iv hPc hPm hD hS hl)
      by_cases c_11 : x = (11)
      · exact lv_tableIn (off := 520) (tgt := 553) hx hb dL_law_33 (by rw [c_11]; decide) (by rw [c_11]; decide) (by rw [c_11]; rfl) (by decide) (lc_11 hL hi6 C0 hK hN hG kk iv hPc hPm hD hS hl)
      by_cases c_12 : x = (12)
      · exact lv_tableIn (off := 543) (tgt := 576) hx hb dL_law_33 (by rw [c_12]; decide) (by rw [c_12]; decide) (by rw [c_12]; rfl) (by decide) (lc_12 hL hi6 C0 hK hN hG kk iv hPc hPm hD hS hl)
      by_cases c_13 : x = (13)
      · exact lv_tableIn (off := 566) (tgt := 599) hx hb dL_law_33 (by rw [c_13]; decide) (by rw [c_13]; decide) (by rw [c_13]; rfl) (by decide) (lc_13 hL hi6 C0 hK hN hG kk iv hPc hPm hD hS hl)
      by_cases c_14 : x = (14)
      · exact lv_tableIn (off := 579) (tgt := 612) hx hb dL_law_33 (by rw [c_14]; decide) (by rw [c_14]; decide) (by rw [c_14]; rfl) (by decide) (lc_14 hL hi6 C0 hK hN hG kk iv hPc hPm hD hS hl)
      by_cases c_15 : x = (15)
      · exact lv_tableIn (off := 602) (tgt := 635) hx hb dL_law_33 (by rw [c_15]; decide) (by rw [c_15]; decide) (by rw [c_15]; rfl) (by decide) (lc_15 hL hi6 C0 hK hN hG kk iv hPc hPm hD hS hl)
      by_cases c_16 : x = (16)
      · exact lv_tableIn (off := 625) (tgt := 658) hx hb dL_law_33 (by rw [c_16]; decide) (by rw [c_16]; decide) (by rw [c_16]; rfl) (by decide) (lc_16 hL hi6 C0 hK hN hG kk iv hPc hPm hD hS hl)
      by_cases c_17 : x = (17)
      · exact lv_tableIn (off := 638) (tgt := 671) hx hb dL_law_33 (by rw [c_17]; decide) (by rw [c_17]; decide) (by rw [c_17]; rfl) (by decide) (lc_17 hL hi6 C0 hK hN hG kk iv hPc hPm hD hS hl)
      by_cases c_18 : x = (18)
      · exact lv_tableIn (off := 681) (tgt := 714) hx hb dL_law_33 (by rw [c_18]; decide) (by rw [c_18]; decide) (by rw [c_18]; rfl) (by decide) (lc_18 hL hi6 C0 hK hN hG kk iv hPc hPm hD hS hl)
      by_cases c_19 : x = (19)
      · exact lv_tableIn (off := 704) (tgt := 737) hx hb dL_law_33 (by rw [c_19]; decide) (by rw [c_19]; decide) (by rw [c_19]; rfl) (by decide) (lc_19 hL hi6 C0 hK hN hG kk iv hPc hPm hD hS hl)
      by_cases c_20 : x = (20)
      · exact lv_tableIn (off := 747) (tgt := 780) hx hb dL_law_33 (by rw [c_20]; decide) (by rw [c_20]; decide) (by rw [c_20]; rfl) (by decide) (lc_20 hL hi6 C0 hK hN hG kk iv hPc hPm hD hS hl)
      by_cases c_21 : x = (21)
      · exact lv_tableIn (off := 791) (tgt := 824) hx hb dL_law_33 (by rw [c_21]; decide) (by rw [c_21]; decide) (by rw [c_21]; rfl) (by decide) (lc_21 hL hi6 C0 hK hN hG kk iv hPc hPm hD hS hl)
      by_cases c_22 : x = (22)
      · exact lv_tableIn (off := 854) (tgt := 887) hx hb dL_law_33 (by rw [c_22]; decide) (by rw [c_22]; decide) (by rw [c_22]; rfl) (by decide) (lc_22 hL hi6 C0 hK hN hG kk iv hPc hPm hD hS hl)
      by_cases c_23 : x = (23)
      · exact lv_tableIn (off := 877) (tgt := 910) hx hb dL_law_33 (by rw [c_23]; decide) (by rw [c_23]; decide) (by rw [c_23]; rfl) (by decide) (lc_23 hL hi6 C0 hK hN hG kk iv hPc hPm hD hS hl)
      by_cases c_24 : x = (24)
      · exact lv_tableIn (off := 900) (tgt := 933) hx hb dL_law_33 (by rw [c_24]; decide) (by rw [c_24]; decide) (by rw [c_24]; rfl) (by decide) (lc_24 hL hi6 C0 hK hN hG kk iv hPc hPm hD hS hl)
      by_cases c_25 : x = (25)
      · exact lv_tableIn (off := 933) (tgt := 966) hx hb dL_law_33 (by rw [c_25]; decide) (by rw [c_25]; decide) (by rw [c_25]; rfl) (by decide) (lc_25 hL hi6 C0 hK hN hG kk iv hPc hPm hD hS hl)
      by_cases c_26 : x = (26)
      · exact lv_tableIn (off := 946) (tgt := 979) hx hb dL_law_33 (by rw [c_26]; decide) (by rw [c_26]; decide) (by rw [c_26]; rfl) (by decide) (lc_26 hL hi6 C0 hK hN hG kk iv hPc hPm hD hS hl)
      by_cases c_27 : x = (27)
      · exact lv_tableIn (off := 959) (tgt := 992) hx hb dL_law_33 (by rw [c_27]; decide) (by rw [c_27]; decide) (by rw [c_27]; rfl) (by decide) (lc_27 hL hi6 C0 hK hN hG kk iv hPc hPm hD hS hl)
      refine lv_tableOut (tgt := 1015) hx hb dL_law_33 (tsw_out x (by decide) [0, 1, 2, 3, 4, 5, 6, 7, 8, 9, 10, 11, 12, 13, 14, 15, 16, 17, 18, 19, 20, 21, 22, 23, 24, 25, 26, 27] rfl (by simp only [List.forall_mem_cons]; exact ⟨c_0, c_1, c_2, c_3, c_4, c_5, c_6, c_7, c_8, c_9, c_10, c_11, c_12, c_13, c_14, c_15, c_16, c_17, c_18, c_19, c_20, c_21, c_22, c_23, c_24, c_25, c_26, c_27, fun _ h => absurd h List.not_mem_nil⟩)) (by decide) ?_
      exact kk N V A M U B H locs ls iv hPc hPm hD hS hl
