/-! the contract of the model's order -/
theorem cnt_zer {n S : Nat} (hS : S < 2 ^ n) (hn : n ≤ 10) : nI n - s_X5_count (nI S) = nI (zer n S) := by
  have hp : 2 ^ n ≤ 1024 := Nat.le_trans (Nat.pow_le_pow_right (by omega) hn) (by decide)
  have h1 : nclr (2 ^ n - 1) S < 2 ^ n := Nat.lt_of_le_of_lt (nclr_le _ _) (by have := Nat.two_pow_pos n; omega)
  rw [count_pop (by omega), ← lying_cnt hS hn, pop_ct h1 (by omega)]
  exact congrArg nI (fb_ct_cong (fun k hk => by rw [nclr_bit, tb_all, decide_eq_true hk]; rfl))
theorem findLeads_eq (N : Nat → Nat) (V : Nat → Int32) (A : Nat → Nat → Int32) : s_X5_findLeads N V A = (N, V, ldA N V A) := rfl
set_option maxHeartbeats 4000000 in
set_option maxRecDepth 100000 in
theorem c_X5_order (l : Launch) (D : va_G) (cI cZ cS : ClassId) (q : Nat → Nat) (N : Nat → Nat) (V : Nat → Int32) (A : Nat → Nat → Int32) (sz : Nat) (i0 : Int32) (h_1 : okM N A) (h_2 : N 2 < 2 ^ N 0) : Met l yX5_order wsX5_order ({ frames := 5, cells := 0, slots := 0, locals := 130 }) (va_Pc [.ref (q 0), .int i0] (fun U => U.heap.size = sz ∧ PM D cI cZ cS q N V A U ∧ va_D (fun _ => True) (wM cI cZ q N V A))) (va_Qi (fun r (_ : Unit) => r = (s_X5_order N V A i0).1) (fun _ t => PM D cI cZ cS q (s_X5_order N V A i0).2.1 (s_X5_order N V A i0).2.2.1 (s_X5_order N V A i0).2.2.2 t ∧ va_D (va_A (wM cI cZ q N V A) sz) (wM cI cZ q (s_X5_order N V A i0).2.1 (s_X5_order N V A i0).2.2.1 (s_X5_order N V A i0).2.2.2)) (va_A (wM cI cZ q N V A) sz)) 0 0 (va_A (wM cI cZ q N V A) sz) := by
  refine Met.ofW (cc := cX5_order) (maxL := 5) (ret := (some .int)) (by decide) rfl ?_
  intro p e s m args below meth c s₁ B hml hv
  obtain ⟨rfl, hsz, ⟨hP, hK⟩, hD0⟩ := hv
  have hx := B.exec
  have hb := B.bytes
  have hr := B.returns
  have hts := atoms_spec (ws := wsX5_order) B.pre
  have hown : s.vm.findClass RX5 = some m.cls := findClass_of_methodNamed B.named
  have hlocks := B.notSynchronized
  have hin5 : ∀ w ∈ u_ws RX5 TX5 22, w ∈ wsX5_order := by decide +kernel
  subst hsz
  have hD := hD0.self (sz := s.heap.size)
  generalize hAe : va_A (wM cI cZ q N V A) s.heap.size = Ar at hD ⊢
  have hA : ∀ q : Nat, s.heap.size ≤ q → Ar q := fun q h => by rw [← hAe]; exact Or.inr h
  have hS : va_S Ar s.heap s.heap [] := va_S.rf
  obtain ⟨o1, o2, o3, o4, o5, o6, o7⟩ := id h_1
  have hp : 2 ^ N 0 ≤ 2 ^ 10 := Nat.pow_le_pow_right (by omega) o1
  have hp1 : 1 ≤ 2 ^ N 0 := Nat.one_le_two_pow
  have hp2 : (2 : Nat) ^ 10 = 1024 := rfl
  have hl := lv_entry ([.ref (q 0), .int i0]) (n := 5) (Nat.le_of_ble_eq_true rfl)
  rw [lg_entry_eq]
  generalize (lg_sl ([.ref (q 0), .int i0]) ++ List.replicate (5 - (lg_sl ([.ref (q 0), .int i0])).length) Slot.unset).toArray = ls at hl ⊢
  have hl : lv_has ls 5 [(0, .ref (q 0)), (1, .int i0)] := hl
  refine lv_iload_n hx hb dX5_order_0 rfl (lv_at hl 1 rfl) ?_
  refine lv_i2l (v := (i0).toInt64) hx hb dX5_order_1 rfl ?_
  refine lv_lconst (v := (0)) hx hb dX5_order_2 (by decide) ?_
  refine lv_aload_n hx hb dX5_order_3 rfl (lv_at hl 0 rfl) ?_
  refine va_get (D := D) (ci := 5) (v := .int (nI (N 0))) (C := RX5) (T := TX5) (N := 22) hx hb hts hin5 hown hK hP 0 rfl rfl 2 (by decide) (hts (.fieldLink RX5 72 "NeckShipModel" "spars" "I") (by decide +kernel)) (fun _ h9 => h9) rfl dX5_order_4 ?_
  refine lv_aload_n hx hb dX5_order_7 rfl (lv_at hl 0 rfl) ?_
  refine va_get (D := D) (ci := 5) (v := .int (nI (N 2))) (C := RX5) (T := TX5) (N := 22) hx hb hts hin5 hown hK hP 0 rfl rfl 8 (by decide) (hts (.fieldLink RX5 125 "NeckShipModel" "up" "I") (by decide +kernel)) (fun _ h9 => h9) rfl dX5_order_8 ?_
  refine vp_callSi (W.runS (As := [.int (nI (N 2))]) (rest := [.int (nI (N 0)), .long (0 : Int64), .long (i0.toInt64)]) ⟨hx, hb, hml, hown, hts⟩ (c_X5_count l (nI (N 2))) (cwS 1 hts gX5_order_X5_count rfl rfl rfl (by decide +kernel) ⟨Nat.le_of_ble_eq_true rfl, Nat.le_of_ble_eq_true rfl⟩) (preEq) rfl rfl hl.1 rfl (lv_room (Nat.le_of_ble_eq_true rfl)) dX5_order_11 ⟨Nat.zero_le _, Nat.zero_le _⟩) (fun r_5 er_5 => ?_)
  subst er_5
  refine lv_isub hx hb dX5_order_14 ?_
  refine lv_i2l (v := (nI (N 0) - s_X5_count (nI (N 2))).toInt64) hx hb dX5_order_15 rfl ?_
  refine lv_lconst (v := (1)) hx hb dX5_order_16 (by decide) ?_
  refine lv_lsub hx hb dX5_order_17 ?_
  refine vp_callSi (W.runS (As := [.long ((i0).toInt64), .long (0 : Int64), .long ((nI (N 0) - s_X5_count (nI (N 2))).toInt64 - (1 : Int64))]) (rest := []) ⟨hx, hb, hml, hown, hts⟩ (c_X5_in l ((i0).toInt64) (0 : Int64) ((nI (N 0) - s_X5_count (nI (N 2))).toInt64 - (1 : Int64))) (cwS 3 hts gX5_order_X5_in rfl rfl rfl (by decide +kernel) ⟨Nat.le_of_ble_eq_true rfl, Nat.le_of_ble_eq_true rfl⟩) (preEq) rfl rfl hl.1 rfl (lv_room (Nat.le_of_ble_eq_true rfl)) dX5_order_18 ⟨Nat.zero_le _, Nat.zero_le _⟩) (fun r_1 er_1 => ?_)
  subst er_1
  refine lz_if_ne (tgt := 26) hx hb dX5_order_21 (by decide) (fun c_1 => ?_) (fun c_1 => ?_)
  · refine lv_aload_n hx hb dX5_order_26 rfl (lv_at hl 0 rfl) ?_
    refine callMv (va_runV (As := []) (rest := []) ⟨hx, hb, hml, hown, hts⟩ (c_X5_findLeads l D cI cZ cS q N V A s.heap.size h_1) (cwV 0 hts gX5_order_X5_findLeads rfl rfl rfl (by decide +kernel) ⟨Nat.le_of_ble_eq_true rfl, Nat.le_of_ble_eq_true rfl⟩) (preMm hK hP hD) rfl rfl hl.1 rfl (lv_room (Nat.le_of_ble_eq_true rfl)) dX5_order_27 ⟨Nat.zero_le _, Nat.zero_le _⟩) hD hS hA (fun H locs hP hD hS => ?_)
    have hP : va_P D vwCl (wM cI cZ q N V (ldA N V A)) H := hP
    have hD : va_D Ar (wM cI cZ q N V (ldA N V A)) := hD
    obtain ⟨l1, l2, l3⟩ := ldA_spec (U := V) h_1
    have hI : okM N (ldA N V A) := ⟨o1, o2, o3, by rw [l1 8 (by decide)]; exact o4, by rw [l1 10 (by decide)]; exact o5, l2, by rw [l1 12 (by decide)]; exact o7⟩
    refine lv_aload_n hx hb dX5_order_30 rfl (lv_at hl 0 rfl) ?_
    refine va_get (D := D) (ci := 5) (v := .ref (q 11)) (C := RX5) (T := TX5) (N := 22) hx hb hts hin5 hown hK hP 0 rfl rfl 14 (by decide) (hts (.fieldLink RX5 41 "NeckShipModel" "leads" "[Z") (by decide +kernel)) (fun _ h9 => h9) rfl dX5_order_31 ?_
    refine lv_aload_n hx hb dX5_order_34 rfl (lv_at hl 0 rfl) ?_
    refine va_get (D := D) (ci := 5) (v := .int (nI (N 2))) (C := RX5) (T := TX5) (N := 22) hx hb hts hin5 hown hK hP 0 rfl rfl 8 (by decide) (hts (.fieldLink RX5 125 "NeckShipModel" "up" "I") (by decide +kernel)) (fun _ h9 => h9) rfl dX5_order_35 ?_
    refine va_zaldB (i := N 2) (x := bz (ldA N V A 11 (N 2))) hx hb hK hP 11 1 rfl rfl (l2 _) (by decide) (by omega) dX5_order_38 ?_
    refine lz_if_ne (tgt := 45) hx hb dX5_order_39 (by decide) (fun c_2 => ?_) (fun c_2 => ?_)
    · -- how many steps
      have hc1 := c_1
      rw [cnt_zer h_2 o1, inI i0 _ (nL1 (by have : zer (N 0) (N 2) ≤ N 0 := fb_ct_le _ _; omega)), decide_eq_true_iff] at hc1
      have hz10 : zer (N 0) (N 2) ≤ 10 := Nat.le_trans (fb_ct_le _ _) o1
      obtain ⟨t1, t2⟩ := nI_tn (x := i0) (n := 1000) (by omega) (by omega) (by decide)
      have t3 : (i0.toNatClampNeg : Int) = i0.toInt := by rw [← nI_toInt (n := i0.toNatClampNeg) (by omega), t2]
      have hEE : s_X5_order N V A i0 = (s_X5_order_L1 N V (ldA N V A) (i0.toNatClampNeg + 1) (N 2) (-1 : Int32), N, V, ldA N V A) := by
        unfold s_X5_order; rw [if_pos c_1, if_pos c_2]
      refine lv_aload_n hx hb dX5_order_45 rfl (lv_at hl 0 rfl) ?_
      refine va_get (D := D) (ci := 5) (v := .int (nI (N 2))) (C := RX5) (T := TX5) (N := 22) hx hb hts hin5 hown hK hP 0 rfl rfl 8 (by decide) (hts (.fieldLink RX5 125 "NeckShipModel" "up" "I") (by decide +kernel)) (fun _ h9 => h9) rfl dX5_order_46 ?_
      refine lv_istore_n (lv' := [(2, .int (nI (N 2))), (0, .ref (q 0)), (1, .int i0)]) hx hb dX5_order_49 rfl hl (by decide) rfl (fun ls hl => ?_)
      refine lv_iconst (v := (-1)) hx hb dX5_order_50 (by decide) ?_
      refine lv_istore_n (lv' := [(3, .int (-1)), (2, .int (nI (N 2))), (0, .ref (q 0)), (1, .int i0)]) hx hb dX5_order_51 rfl hl (by decide) rfl (fun ls hl => ?_)
      refine lv_iconst (v := (0)) hx hb dX5_order_52 (by decide) ?_
      refine lv_istore (lv' := [(4, .int (0)), (3, .int (-1)), (2, .int (nI (N 2))), (0, .ref (q 0)), (1, .int i0)]) hx hb dX5_order_53 hl (by decide) rfl (fun ls hl => ?_)
      have LL1 : ∀ (n k S : Nat) (sv : Int32) (ls : Array Slot), k + n = i0.toNatClampNeg + 1 → S < 2 ^ N 0 → bz (ldA N V A 11 S) = true → zer (N 0) S + k = zer (N 0) (N 2) → s_X5_order N V A i0 = (s_X5_order_L1 N V (ldA N V A) n S sv, N, V, ldA N V A) → lv_has ls 5 [(4, .int (nI k)), (3, .int sv), (2, .int (nI S)), (0, .ref (q 0)), (1, .int i0)] → W p l e (headSpec wsX5_order ({ frames := 5, cells := 0, slots := 0, locals := 130 })).room s m ([.ref (q 0), .int i0] : List Value).toArray below meth c H locs 0 0 (MQ below (va_Qi (fun r (_ : Unit) => r = (s_X5_order N V A i0).1) (fun _ t => PM D cI cZ cS q (s_X5_order N V A i0).2.1 (s_X5_order N V A i0).2.2.1 (s_X5_order N V A i0).2.2.2 t ∧ va_D Ar (wM cI cZ q (s_X5_order N V A i0).2.1 (s_X5_order N V A i0).2.2.1 (s_X5_order N V A i0).2.2.2)) Ar) ([.ref (q 0), .int i0] : List Value).toArray s 0 0 Ar) (F0 m 55 ls []) := by
        intro n
        induction n with
        | zero =>
          intro k S sv ls hk hSl hld hz hF hl
          refine lv_iload hx hb dX5_order_55 (lv_at hl 0 rfl) ?_
          refine lv_iload_n hx hb dX5_order_57 rfl (lv_at hl 4 rfl) ?_
          refine lv_icmp_gt (tgt := 103) hx hb dX5_order_58 (by decide) (fun _ => ?_) (fun c_3 => absurd (by rw [← t2]; exact nI_lt (by omega) (by omega)) c_3)
          refine lv_iload_n hx hb dX5_order_103 rfl (lv_at hl 1 rfl) ?_
          rw [hF, s_X5_order_L1]
          exact W.iret (v := sv) hx hb hr (fun t ht hW => ⟨⟨_, (), rfl, rfl, ⟨by rw [ht]; exact hP, va_K.moved hW.alike hK⟩, hD⟩, hS.F ht⟩) hS.2.2 dX5_order_104
        | succ n ih =>
          intro k S sv ls hk hSl hld hz hF hl
          have hne : S ≠ 2 ^ N 0 - 1 := fun e => by
            have := (zer_0 hSl).mpr e; omega
          obtain ⟨j1, j2, j3, j4⟩ := ordJ_spec (M := N) (U := V) (L := ldA N V A) (S := S) (N 0) 0 (ord_ex h_1 hSl hld hne)
          rw [s_X5_order_L1] at hF
          generalize hJ : ordJ N V (ldA N V A) S (N 0) 0 = J at j1 j2 j3 j4 hF
          have j3' := j3
          unfold ordT at j3'
          rw [Bool.and_eq_true] at j3'
          have hup : S.testBit J = false := mr_up (by omega) (by omega) j3'.1
          refine lv_iload hx hb dX5_order_55 (lv_at hl 0 rfl) ?_
          refine lv_iload_n hx hb dX5_order_57 rfl (lv_at hl 4 rfl) ?_
          refine lv_icmp_gt (tgt := 103) hx hb dX5_order_58 (by decide) (fun c_3 => absurd c_3 (by rw [← t2]; exact fun h => by have := (nI_ltI (by omega) (by omega)).mp h; omega)) (fun _ => ?_)
          refine lv_iconst (v := (0)) hx hb dX5_order_61 (by decide) ?_
          refine lv_istore_n (lv' := [(3, .int (0)), (4, .int (nI k)), (2, .int (nI S)), (0, .ref (q 0)), (1, .int i0)]) hx hb dX5_order_62 rfl hl (by decide) rfl (fun ls hl => ?_)
          have LL2 : ∀ (r j : Nat) (ls : Array Slot), j + r = J → lv_has ls 5 [(3, .int (nI j)), (4, .int (nI k)), (2, .int (nI S)), (0, .ref (q 0)), (1, .int i0)] → W p l e (headSpec wsX5_order ({ frames := 5, cells := 0, slots := 0, locals := 130 })).room s m ([.ref (q 0), .int i0] : List Value).toArray below meth c H locs 0 0 (MQ below (va_Qi (fun r (_ : Unit) => r = (s_X5_order N V A i0).1) (fun _ t => PM D cI cZ cS q (s_X5_order N V A i0).2.1 (s_X5_order N V A i0).2.2.1 (s_X5_order N V A i0).2.2.2 t ∧ va_D Ar (wM cI cZ q (s_X5_order N V A i0).2.1 (s_X5_order N V A i0).2.2.1 (s_X5_order N V A i0).2.2.2)) Ar) ([.ref (q 0), .int i0] : List Value).toArray s 0 0 Ar) (F0 m 63 ls []) := by
            intro r
            induction r with
            | zero =>
              intro j ls hj hl
              have hjJ : j = J := by omega
              subst hjJ
              refine lv_aload_n hx hb dX5_order_63 rfl (lv_at hl 3 rfl) ?_
              refine lv_iload_n hx hb dX5_order_64 rfl (lv_at hl 2 rfl) ?_
              refine lv_iload_n hx hb dX5_order_65 rfl (lv_at hl 0 rfl) ?_
              refine vp_callSi (W.runV (As := [.int (nI S), .int (nI j)]) (rest := []) ⟨hx, hb, hml, hown, hts⟩ (c_X5_mayRise l D cI cZ cS q N V (ldA N V A) (nI S) j hI (by omega)) (cwV 2 hts gX5_order_X5_mayRise rfl rfl rfl (by decide +kernel) ⟨Nat.le_of_ble_eq_true rfl, Nat.le_of_ble_eq_true rfl⟩) (preM hK hP) rfl rfl hl.1 rfl (lv_room (Nat.le_of_ble_eq_true rfl)) dX5_order_66 ⟨Nat.zero_le _, Nat.zero_le _⟩) (fun r_7 er_7 => ?_)
              subst er_7
              refine lz_if_eq (tgt := 85) hx hb dX5_order_69 (by decide) (fun c_4 => absurd j3'.1 (nb c_4)) (fun _ => ?_)
              refine lv_aload_n hx hb dX5_order_72 rfl (lv_at hl 3 rfl) ?_
              refine va_get (D := D) (ci := 5) (v := .ref (q 11)) (C := RX5) (T := TX5) (N := 22) hx hb hts hin5 hown hK hP 0 rfl rfl 14 (by decide) (hts (.fieldLink RX5 41 "NeckShipModel" "leads" "[Z") (by decide +kernel)) (fun _ h9 => h9) rfl dX5_order_73 ?_
              refine lv_iload_n hx hb dX5_order_76 rfl (lv_at hl 2 rfl) ?_
              refine lv_iconst (v := (1)) hx hb dX5_order_77 (by decide) ?_
              refine lv_iload_n hx hb dX5_order_78 rfl (lv_at hl 0 rfl) ?_
              refine lv_ishl hx hb dX5_order_79 ?_
              rw [sh1 (k := j) (by omega)]
              refine lv_ior hx hb dX5_order_80 ?_
              rw [fa_or S (2 ^ j)]
              refine va_zaldB (i := (S ||| (2 ^ j))) (x := bz (ldA N V A 11 (S ||| (2 ^ j)))) hx hb hK hP 11 1 rfl rfl (l2 _) (by decide) (or1024 (by omega) (by omega)) dX5_order_81 ?_
              refine lz_if_ne (tgt := 91) hx hb dX5_order_82 (by decide) (fun _ => ?_) (fun c_5 => absurd j3'.2 (nb c_5))
              refine lv_iload_n hx hb dX5_order_91 rfl (lv_at hl 2 rfl) ?_
              refine lv_iconst (v := (1)) hx hb dX5_order_92 (by decide) ?_
              refine lv_iload_n hx hb dX5_order_93 rfl (lv_at hl 0 rfl) ?_
              refine lv_ishl hx hb dX5_order_94 ?_
              rw [sh1 (k := j) (by omega)]
              refine lv_ior hx hb dX5_order_95 ?_
              rw [fa_or S (2 ^ j)]
              refine lv_istore_n (lv' := [(2, .int (nI (S ||| 2 ^ j))), (3, .int (nI j)), (4, .int (nI k)), (0, .ref (q 0)), (1, .int i0)]) hx hb dX5_order_96 rfl hl (by decide) rfl (fun ls hl => ?_)
              refine lv_iinc (v := nI (k + 1)) (lv' := [(4, .int (nI (k + 1))), (2, .int (nI (S ||| 2 ^ j))), (3, .int (nI j)), (0, .ref (q 0)), (1, .int i0)]) hx hb dX5_order_97 hl (k := 2) rfl (nI_1 k) (by decide) rfl (fun ls hl => ?_)
              refine lv_goto (tgt := 55) hx hb dX5_order_100 (by decide) ?_
              have hz1 := zer_or (n := N 0) (j := j) (by omega) hup
              exact ih (k + 1) (S ||| 2 ^ j) (nI j) _ (by omega) (or_lt hSl (Nat.pow_lt_pow_right (by omega) (by omega))) j3'.2 (by omega) hF (lv_sub hl [0, 2, 1, 3, 4] rfl)
            | succ r ih2 =>
              intro j ls hj hl
              have hno := j4 j (by omega) (by omega)
              unfold ordT at hno
              refine lv_aload_n hx hb dX5_order_63 rfl (lv_at hl 3 rfl) ?_
              refine lv_iload_n hx hb dX5_order_64 rfl (lv_at hl 2 rfl) ?_
              refine lv_iload_n hx hb dX5_order_65 rfl (lv_at hl 0 rfl) ?_
              refine vp_callSi (W.runV (As := [.int (nI S), .int (nI j)]) (rest := []) ⟨hx, hb, hml, hown, hts⟩ (c_X5_mayRise l D cI cZ cS q N V (ldA N V A) (nI S) j hI (by omega)) (cwV 2 hts gX5_order_X5_mayRise rfl rfl rfl (by decide +kernel) ⟨Nat.le_of_ble_eq_true rfl, Nat.le_of_ble_eq_true rfl⟩) (preM hK hP) rfl rfl hl.1 rfl (lv_room (Nat.le_of_ble_eq_true rfl)) dX5_order_66 ⟨Nat.zero_le _, Nat.zero_le _⟩) (fun r_7 er_7 => ?_)
              subst er_7
              refine lz_if_eq (tgt := 85) hx hb dX5_order_69 (by decide) (fun c_4 => ?_) (fun c_4 => ?_)
              · refine lv_iinc (v := nI (j + 1)) (lv' := [(3, .int (nI (j + 1))), (4, .int (nI k)), (2, .int (nI S)), (0, .ref (q 0)), (1, .int i0)]) hx hb dX5_order_85 hl (k := 0) rfl (nI_1 j) (by decide) rfl (fun ls hl => ?_)
                refine lv_goto (tgt := 63) hx hb dX5_order_88 (by decide) ?_
                exact ih2 (j + 1) _ (by omega) hl
              · refine lv_aload_n hx hb dX5_order_72 rfl (lv_at hl 3 rfl) ?_
                refine va_get (D := D) (ci := 5) (v := .ref (q 11)) (C := RX5) (T := TX5) (N := 22) hx hb hts hin5 hown hK hP 0 rfl rfl 14 (by decide) (hts (.fieldLink RX5 41 "NeckShipModel" "leads" "[Z") (by decide +kernel)) (fun _ h9 => h9) rfl dX5_order_73 ?_
                refine lv_iload_n hx hb dX5_order_76 rfl (lv_at hl 2 rfl) ?_
                refine lv_iconst (v := (1)) hx hb dX5_order_77 (by decide) ?_
                refine lv_iload_n hx hb dX5_order_78 rfl (lv_at hl 0 rfl) ?_
                refine lv_ishl hx hb dX5_order_79 ?_
                rw [sh1 (k := j) (by omega)]
                refine lv_ior hx hb dX5_order_80 ?_
                rw [fa_or S (2 ^ j)]
                refine va_zaldB (i := (S ||| (2 ^ j))) (x := bz (ldA N V A 11 (S ||| (2 ^ j)))) hx hb hK hP 11 1 rfl rfl (l2 _) (by decide) (or1024 (by omega) (by omega)) dX5_order_81 ?_
                rw [c_4, Bool.true_and] at hno
                refine lz_if_ne (tgt := 91) hx hb dX5_order_82 (by decide) (fun c_5 => absurd c_5 (nb hno)) (fun _ => ?_)
                refine lv_iinc (v := nI (j + 1)) (lv' := [(3, .int (nI (j + 1))), (4, .int (nI k)), (2, .int (nI S)), (0, .ref (q 0)), (1, .int i0)]) hx hb dX5_order_85 hl (k := 0) rfl (nI_1 j) (by decide) rfl (fun ls hl => ?_)
                refine lv_goto (tgt := 63) hx hb dX5_order_88 (by decide) ?_
                exact ih2 (j + 1) _ (by omega) hl
          exact LL2 J 0 _ (by omega) hl
      exact LL1 (i0.toNatClampNeg + 1) 0 (N 2) (-1) _ (by omega) h_2 c_2 (by omega) hEE hl
    · refine lv_bipush (v := (-9)) hx hb dX5_order_42 (by decide) ?_
      have hEE : s_X5_order N V A i0 = ((-9 : Int32), N, V, ldA N V A) := by
        unfold s_X5_order; rw [if_pos c_1, if_neg (nb c_2)]
      rw [hEE]
      exact W.iret (v := (-9 : Int32)) hx hb hr (fun t ht hW => ⟨⟨_, (), rfl, rfl, ⟨by rw [ht]; exact hP, va_K.moved hW.alike hK⟩, hD⟩, hS.F ht⟩) hS.2.2 dX5_order_44
  · refine lv_iconst (v := (-1)) hx hb dX5_order_24 (by decide) ?_
    have hEE : s_X5_order N V A i0 = ((-1 : Int32), N, V, A) := by
      unfold s_X5_order; rw [if_neg (nb c_1)]
    rw [hEE]
    exact W.iret (v := (-1 : Int32)) hx hb hr (fun t ht hW => ⟨⟨_, (), rfl, rfl, ⟨by rw [ht]; exact hP, va_K.moved hW.alike hK⟩, hD⟩, hS.F ht⟩) hS.2.2 dX5_order_25
