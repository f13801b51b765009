def s_X5_isBarred_L1 (N : Nat → Nat) (V : Nat → Int32) (A : Nat → Nat → Int32) (set0 : Int32) (s0 : Nat) : Nat → Nat → Bool → Bool
  | 0, k, a =>
    a
  | n + 1, k, a =>
    if a = true then
      s_X5_isBarred_L1 N V A set0 s0 n (k + 1) true
    else
      if (s_X5_isUp N V A set0 (nI k)) = true then
        if A 3 k ≤ (s_X5_from N V A s0) then
          s_X5_isBarred_L1 N V A set0 s0 n (k + 1) false
        else
          if (s_X5_to N V A s0) ≤ A 3 k then
            s_X5_isBarred_L1 N V A set0 s0 n (k + 1) false
          else
            s_X5_isBarred_L1 N V A set0 s0 n (k + 1) true
      else
        s_X5_isBarred_L1 N V A set0 s0 n (k + 1) false
def s_X5_isBarred (N : Nat → Nat) (V : Nat → Int32) (A : Nat → Nat → Int32)  (set0 : Int32) (s0 : Nat) : Bool :=
  (s_X5_isBarred_L1 N V A set0 s0 (N 0) 0 false)
set_option maxHeartbeats 4000000 in
set_option maxRecDepth 100000 in
theorem c_X5_isBarred (l : Launch) (D : va_G) (cI cZ cS : ClassId) (q : Nat → Nat) (N : Nat → Nat) (V : Nat → Int32) (A : Nat → Nat → Int32) (set0 : Int32) (s0 : Nat) (h_1 : okM N A) (h_2 : s0 < 10) : Met l yX5_isBarred wsX5_isBarred ({ frames := 1, cells := 0, slots := 0, locals := 22 }) (va_Pc [.ref (q 0), .int set0, .int (nI s0)] (PM D cI cZ cS q N V A)) (vp_Si (fun r => r = b2i (s_X5_isBarred N V A set0 s0))) 0 0 (fun _ => False) := by
  refine Met.ofW (cc := cX5_isBarred) (maxL := 5) (ret := (some .boolean)) (by decide) rfl ?_
  intro p e s m args below meth c s₁ B hml hv
  obtain ⟨rfl, hP, hK⟩ := hv
  have hx := B.exec
  have hb := B.bytes
  have hr := B.returns
  have hts := atoms_spec (ws := wsX5_isBarred) B.pre
  have hown : s.vm.findClass RX5 = some m.cls := findClass_of_methodNamed B.named
  have hlocks := B.notSynchronized
  have hin5 : ∀ w ∈ u_ws RX5 TX5 22, w ∈ wsX5_isBarred := by decide +kernel
  obtain ⟨o1, o2, o3, o4, o5, o6, o7⟩ := id h_1
  have hl := lv_entry ([.ref (q 0), .int set0, .int (nI s0)]) (n := 5) (Nat.le_of_ble_eq_true rfl)
  rw [lg_entry_eq]
  generalize (lg_sl ([.ref (q 0), .int set0, .int (nI s0)]) ++ List.replicate (5 - (lg_sl ([.ref (q 0), .int set0, .int (nI s0)])).length) Slot.unset).toArray = ls at hl ⊢
  have hl : lv_has ls 5 [(0, .ref (q 0)), (1, .int set0), (2, .int (nI s0))] := hl
  refine lv_iconst (v := (0)) hx hb dX5_isBarred_0 (by decide) ?_
  refine lv_istore_n (lv' := [(3, .int (0)), (0, .ref (q 0)), (1, .int set0), (2, .int (nI s0))]) hx hb dX5_isBarred_1 rfl hl (by decide) rfl (fun ls hl => ?_)
  refine lv_iconst (v := (0)) hx hb dX5_isBarred_2 (by decide) ?_
  refine lv_istore (lv' := [(4, .int (0)), (3, .int (0)), (0, .ref (q 0)), (1, .int set0), (2, .int (nI s0))]) hx hb dX5_isBarred_3 hl (by decide) rfl (fun ls hl => ?_)
  have KL1 : ∀ (ls : Array Slot), lv_has ls 5 [(3, .int (b2i (s_X5_isBarred_L1 N V A set0 s0 (N 0) 0 false))), (0, .ref (q 0)), (1, .int set0), (2, .int (nI s0))] → W p l e (headSpec wsX5_isBarred ({ frames := 1, cells := 0, slots := 0, locals := 22 })).room s m ([.ref (q 0), .int set0, .int (nI s0)] : List Value).toArray below meth c s.heap [] 0 0 (MQ below (vp_Si (fun r => r = b2i (s_X5_isBarred N V A set0 s0))) ([.ref (q 0), .int set0, .int (nI s0)] : List Value).toArray s 0 0 (fun _ => False)) (F0 m 70 ls []) := by
    intro ls hl
    refine lv_iload_n hx hb dX5_isBarred_70 rfl (lv_at hl 0 rfl) ?_
    exact W.zret (v := b2i (s_X5_isBarred_L1 N V A set0 s0 (N 0) 0 false)) hx hb hr (b2i_nar _) (fun t ht hW => ⟨_, rfl, (by rw [s_X5_isBarred]), ht⟩) (fun _ h => by cases h) dX5_isBarred_71
  have LL1 : ∀ (n k : Nat) (a : Bool) (ls : Array Slot), k + n = N 0 → s_X5_isBarred_L1 N V A set0 s0 (N 0) 0 false = s_X5_isBarred_L1 N V A set0 s0 n k a → lv_has ls 5 [(4, .int (nI k)), (3, .int (b2i a)), (0, .ref (q 0)), (1, .int set0), (2, .int (nI s0))] → W p l e (headSpec wsX5_isBarred ({ frames := 1, cells := 0, slots := 0, locals := 22 })).room s m ([.ref (q 0), .int set0, .int (nI s0)] : List Value).toArray below meth c s.heap [] 0 0 (MQ below (vp_Si (fun r => r = b2i (s_X5_isBarred N V A set0 s0))) ([.ref (q 0), .int set0, .int (nI s0)] : List Value).toArray s 0 0 (fun _ => False)) (F0 m 5 ls []) := by
    intro n
    induction n with
    | zero =>
      intro k a ls hk hF hl
      refine lv_iload hx hb dX5_isBarred_5 (lv_at hl 0 rfl) ?_
      refine lv_aload_n hx hb dX5_isBarred_7 rfl (lv_at hl 2 rfl) ?_
      refine va_get (D := D) (ci := 5) (v := .int (nI (N 0))) (C := RX5) (T := TX5) (N := 22) hx hb hts hin5 hown hK hP 0 rfl rfl 2 (by decide) (hts (.fieldLink RX5 72 "NeckShipModel" "spars" "I") (by decide +kernel)) (fun _ h9 => h9) rfl dX5_isBarred_8 ?_
      refine lv_icmp_ge (tgt := 70) hx hb dX5_isBarred_11 (by decide) (fun _ => ?_) (fun c_1 => absurd (nI_le (by omega) (by omega)) c_1)
      have hF : s_X5_isBarred_L1 N V A set0 s0 (N 0) 0 false = a := hF.trans (by rw [s_X5_isBarred_L1])
      exact KL1 _ (by (try rw [hF]); exact lv_sub hl [1, 2, 3, 4] rfl)
    | succ n ih =>
      intro k a ls hk hF hl
      refine lv_iload hx hb dX5_isBarred_5 (lv_at hl 0 rfl) ?_
      refine lv_aload_n hx hb dX5_isBarred_7 rfl (lv_at hl 2 rfl) ?_
      refine va_get (D := D) (ci := 5) (v := .int (nI (N 0))) (C := RX5) (T := TX5) (N := 22) hx hb hts hin5 hown hK hP 0 rfl rfl 2 (by decide) (hts (.fieldLink RX5 72 "NeckShipModel" "spars" "I") (by decide +kernel)) (fun _ h9 => h9) rfl dX5_isBarred_8 ?_
      refine lv_icmp_ge (tgt := 70) hx hb dX5_isBarred_11 (by decide) (fun c_2 => absurd c_2 (nI_ge (by omega) (by omega))) (fun _ => ?_)
      refine lv_iload_n hx hb dX5_isBarred_14 rfl (lv_at hl 1 rfl) ?_
      refine lz_if_ne (tgt := 58) hx hb dX5_isBarred_15 (by decide) (fun c_3 => ?_) (fun c_3 => ?_)
      · refine lv_iconst (v := (1)) hx hb dX5_isBarred_58 (by decide) ?_
        refine lv_goto (tgt := 63) hx hb dX5_isBarred_59 (by decide) ?_
        refine lv_istore_n (lv' := [(3, .int (1)), (4, .int (nI k)), (0, .ref (q 0)), (1, .int set0), (2, .int (nI s0))]) hx hb dX5_isBarred_63 rfl hl (by decide) rfl (fun ls hl => ?_)
        refine lv_iinc (v := nI (k + 1)) (lv' := [(4, .int (nI (k + 1))), (3, .int (1)), (0, .ref (q 0)), (1, .int set0), (2, .int (nI s0))]) hx hb dX5_isBarred_64 hl (k := 1) rfl (nI_1 k) (by decide) rfl (fun ls hl => ?_)
        refine lv_goto (tgt := 5) hx hb dX5_isBarred_67 (by decide) ?_
        exact ih (k + 1) true _ (by omega) (hF.trans (by rw [s_X5_isBarred_L1, if_pos c_3])) (lv_sub hl [0, 1, 2, 3, 4] rfl)
      · refine lv_aload_n hx hb dX5_isBarred_18 rfl (lv_at hl 2 rfl) ?_
        refine lv_iload_n hx hb dX5_isBarred_19 rfl (lv_at hl 3 rfl) ?_
        refine lv_iload hx hb dX5_isBarred_20 (lv_at hl 0 rfl) ?_
        refine vp_callSi (W.runV (As := [.int set0, .int (nI k)]) (rest := []) ⟨hx, hb, hml, hown, hts⟩ (c_X5_isUp l D cI cZ cS q N V A set0 (nI k)) (cwV 2 hts gX5_isBarred_X5_isUp rfl rfl rfl (by decide +kernel) ⟨Nat.le_of_ble_eq_true rfl, Nat.le_of_ble_eq_true rfl⟩) (preM hK hP) rfl rfl hl.1 rfl (lv_room (Nat.le_of_ble_eq_true rfl)) dX5_isBarred_22 ⟨Nat.zero_le _, Nat.zero_le _⟩) (fun r_4 er_4 => ?_)
        subst er_4
        refine lz_if_eq (tgt := 62) hx hb dX5_isBarred_25 (by decide) (fun c_5 => ?_) (fun c_5 => ?_)
        · refine lv_iconst (v := (0)) hx hb dX5_isBarred_62 (by decide) ?_
          refine lv_istore_n (lv' := [(3, .int (0)), (4, .int (nI k)), (0, .ref (q 0)), (1, .int set0), (2, .int (nI s0))]) hx hb dX5_isBarred_63 rfl hl (by decide) rfl (fun ls hl => ?_)
          refine lv_iinc (v := nI (k + 1)) (lv' := [(4, .int (nI (k + 1))), (3, .int (0)), (0, .ref (q 0)), (1, .int set0), (2, .int (nI s0))]) hx hb dX5_isBarred_64 hl (k := 1) rfl (nI_1 k) (by decide) rfl (fun ls hl => ?_)
          refine lv_goto (tgt := 5) hx hb dX5_isBarred_67 (by decide) ?_
          exact ih (k + 1) false _ (by omega) (hF.trans (by rw [s_X5_isBarred_L1, if_neg (nb c_3), if_neg (nb c_5)])) (lv_sub hl [0, 1, 2, 3, 4] rfl)
        · refine lv_aload_n hx hb dX5_isBarred_28 rfl (lv_at hl 2 rfl) ?_
          refine va_get (D := D) (ci := 5) (v := .ref (q 3)) (C := RX5) (T := TX5) (N := 22) hx hb hts hin5 hown hK hP 0 rfl rfl 4 (by decide) (hts (.fieldLink RX5 16 "NeckShipModel" "foot" "[I") (by decide +kernel)) (fun _ h9 => h9) rfl dX5_isBarred_29 ?_
          refine lv_iload hx hb dX5_isBarred_32 (lv_at hl 0 rfl) ?_
          refine va_ialdN (i := k) hx hb hK hP 3 0 rfl rfl (by decide) (by omega) dX5_isBarred_34 ?_
          refine lv_aload_n hx hb dX5_isBarred_35 rfl (lv_at hl 2 rfl) ?_
          refine lv_iload_n hx hb dX5_isBarred_36 rfl (lv_at hl 4 rfl) ?_
          refine vp_callSi (W.runV (As := [.int (nI s0)]) (rest := [.int (A 3 k)]) ⟨hx, hb, hml, hown, hts⟩ (c_X5_from l D cI cZ cS q N V A s0 (by omega)) (cwV 1 hts gX5_isBarred_X5_from rfl rfl rfl (by decide +kernel) ⟨Nat.le_of_ble_eq_true rfl, Nat.le_of_ble_eq_true rfl⟩) (preM hK hP) rfl rfl hl.1 rfl (lv_room (Nat.le_of_ble_eq_true rfl)) dX5_isBarred_37 ⟨Nat.zero_le _, Nat.zero_le _⟩) (fun r_6 er_6 => ?_)
          subst er_6
          refine lv_icmp_le (tgt := 62) hx hb dX5_isBarred_40 (by decide) (fun c_7 => ?_) (fun c_7 => ?_)
          · refine lv_iconst (v := (0)) hx hb dX5_isBarred_62 (by decide) ?_
            refine lv_istore_n (lv' := [(3, .int (0)), (4, .int (nI k)), (0, .ref (q 0)), (1, .int set0), (2, .int (nI s0))]) hx hb dX5_isBarred_63 rfl hl (by decide) rfl (fun ls hl => ?_)
            refine lv_iinc (v := nI (k + 1)) (lv' := [(4, .int (nI (k + 1))), (3, .int (0)), (0, .ref (q 0)), (1, .int set0), (2, .int (nI s0))]) hx hb dX5_isBarred_64 hl (k := 1) rfl (nI_1 k) (by decide) rfl (fun ls hl => ?_)
            refine lv_goto (tgt := 5) hx hb dX5_isBarred_67 (by decide) ?_
            exact ih (k + 1) false _ (by omega) (hF.trans (by rw [s_X5_isBarred_L1, if_neg (nb c_3), if_pos c_5, if_pos c_7])) (lv_sub hl [0, 1, 2, 3, 4] rfl)
          · refine lv_aload_n hx hb dX5_isBarred_43 rfl (lv_at hl 2 rfl) ?_
            refine va_get (D := D) (ci := 5) (v := .ref (q 3)) (C := RX5) (T := TX5) (N := 22) hx hb hts hin5 hown hK hP 0 rfl rfl 4 (by decide) (hts (.fieldLink RX5 16 "NeckShipModel" "foot" "[I") (by decide +kernel)) (fun _ h9 => h9) rfl dX5_isBarred_44 ?_
            refine lv_iload hx hb dX5_isBarred_47 (lv_at hl 0 rfl) ?_
            refine va_ialdN (i := k) hx hb hK hP 3 0 rfl rfl (by decide) (by omega) dX5_isBarred_49 ?_
            refine lv_aload_n hx hb dX5_isBarred_50 rfl (lv_at hl 2 rfl) ?_
            refine lv_iload_n hx hb dX5_isBarred_51 rfl (lv_at hl 4 rfl) ?_
            refine vp_callSi (W.runV (As := [.int (nI s0)]) (rest := [.int (A 3 k)]) ⟨hx, hb, hml, hown, hts⟩ (c_X5_to l D cI cZ cS q N V A s0 (by omega)) (cwV 1 hts gX5_isBarred_X5_to rfl rfl rfl (by decide +kernel) ⟨Nat.le_of_ble_eq_true rfl, Nat.le_of_ble_eq_true rfl⟩) (preM hK hP) rfl rfl hl.1 rfl (lv_room (Nat.le_of_ble_eq_true rfl)) dX5_isBarred_52 ⟨Nat.zero_le _, Nat.zero_le _⟩) (fun r_8 er_8 => ?_)
            subst er_8
            refine lv_icmp_ge (tgt := 62) hx hb dX5_isBarred_55 (by decide) (fun c_9 => ?_) (fun c_9 => ?_)
            · refine lv_iconst (v := (0)) hx hb dX5_isBarred_62 (by decide) ?_
              refine lv_istore_n (lv' := [(3, .int (0)), (4, .int (nI k)), (0, .ref (q 0)), (1, .int set0), (2, .int (nI s0))]) hx hb dX5_isBarred_63 rfl hl (by decide) rfl (fun ls hl => ?_)
              refine lv_iinc (v := nI (k + 1)) (lv' := [(4, .int (nI (k + 1))), (3, .int (0)), (0, .ref (q 0)), (1, .int set0), (2, .int (nI s0))]) hx hb dX5_isBarred_64 hl (k := 1) rfl (nI_1 k) (by decide) rfl (fun ls hl => ?_)
              refine lv_goto (tgt := 5) hx hb dX5_isBarred_67 (by decide) ?_
              exact ih (k + 1) false _ (by omega) (hF.trans (by rw [s_X5_isBarred_L1, if_neg (nb c_3), if_pos c_5, if_neg c_7, if_pos c_9])) (lv_sub hl [0, 1, 2, 3, 4] rfl)
            · refine lv_iconst (v := (1)) hx hb dX5_isBarred_58 (by decide) ?_
              refine lv_goto (tgt := 63) hx hb dX5_isBarred_59 (by decide) ?_
              refine lv_istore_n (lv' := [(3, .int (1)), (4, .int (nI k)), (0, .ref (q 0)), (1, .int set0), (2, .int (nI s0))]) hx hb dX5_isBarred_63 rfl hl (by decide) rfl (fun ls hl => ?_)
              refine lv_iinc (v := nI (k + 1)) (lv' := [(4, .int (nI (k + 1))), (3, .int (1)), (0, .ref (q 0)), (1, .int set0), (2, .int (nI s0))]) hx hb dX5_isBarred_64 hl (k := 1) rfl (nI_1 k) (by decide) rfl (fun ls hl => ?_)
              refine lv_goto (tgt := 5) hx hb dX5_isBarred_67 (by decide) ?_
              exact ih (k + 1) true _ (by omega) (hF.trans (by rw [s_X5_isBarred_L1, if_neg (nb c_3), if_pos c_5, if_neg c_7, if_neg c_9])) (lv_sub hl [0, 1, 2, 3, 4] rfl)
  exact LL1 (N 0) 0 false _ (by omega) rfl (lv_sub hl [0, 1, 2, 3, 4] rfl)
def s_X5_overThatLie_L1 (N : Nat → Nat) (V : Nat → Int32) (A : Nat → Nat → Int32) (set0 : Int32) (s0 : Nat) : Nat → Nat → Int32 → Int32
  | 0, k, a =>
    a
  | n + 1, k, a =>
    if (s_X5_isUp N V A set0 (nI k)) = true then
      s_X5_overThatLie_L1 N V A set0 s0 n (k + 1) (a + (0 : Int32))
    else
      if (s_X5_isOver N V A s0 k) = true then
        s_X5_overThatLie_L1 N V A set0 s0 n (k + 1) (a + (1 : Int32))
      else
        s_X5_overThatLie_L1 N V A set0 s0 n (k + 1) (a + (0 : Int32))
def s_X5_overThatLie (N : Nat → Nat) (V : Nat → Int32) (A : Nat → Nat → Int32)  (set0 : Int32) (s0 : Nat) : Int32 :=
  (s_X5_overThatLie_L1 N V A set0 s0 (N 0) 0 (0 : Int32))
set_option maxHeartbeats 4000000 in
set_option maxRecDepth 100000 in
theorem c_X5_overThatLie (l : Launch) (D : va_G) (cI cZ cS : ClassId) (q : Nat → Nat) (N : Nat → Nat) (V : Nat → Int32) (A : Nat → Nat → Int32) (set0 : Int32) (s0 : Nat) (h_1 : okM N A) (h_2 : s0 < 10) : Met l yX5_overThatLie wsX5_overThatLie ({ frames := 2, cells := 0, slots := 0, locals := 43 }) (va_Pc [.ref (q 0), .int set0, .int (nI s0)] (PM D cI cZ cS q N V A)) (vp_Si (fun r => r = (s_X5_overThatLie N V A set0 s0))) 0 0 (fun _ => False) := by
  refine Met.ofW (cc := cX5_overThatLie) (maxL := 5) (ret := (some .int)) (by decide) rfl ?_
  intro p e s m args below meth c s₁ B hml hv
  obtain ⟨rfl, hP, hK⟩ := hv
  have hx := B.exec
  have hb := B.bytes
  have hr := B.returns
  have hts := atoms_spec (ws := wsX5_overThatLie) B.pre
  have hown : s.vm.findClass RX5 = some m.cls := findClass_of_methodNamed B.named
  have hlocks := B.notSynchronized
  have hin5 : ∀ w ∈ u_ws RX5 TX5 22, w ∈ wsX5_overThatLie := by decide +kernel
  obtain ⟨o1, o2, o3, o4, o5, o6, o7⟩ := id h_1
  have hl := lv_entry ([.ref (q 0), .int set0, .int (nI s0)]) (n := 5) (Nat.le_of_ble_eq_true rfl)
  rw [lg_entry_eq]
  generalize (lg_sl ([.ref (q 0), .int set0, .int (nI s0)]) ++ List.replicate (5 - (lg_sl ([.ref (q 0), .int set0, .int (nI s0)])).length) Slot.unset).toArray = ls at hl ⊢
  have hl : lv_has ls 5 [(0, .ref (q 0)), (1, .int set0), (2, .int (nI s0))] := hl
  refine lv_iconst (v := (0)) hx hb dX5_overThatLie_0 (by decide) ?_
  refine lv_istore_n (lv' := [(3, .int (0)), (0, .ref (q 0)), (1, .int set0), (2, .int (nI s0))]) hx hb dX5_overThatLie_1 rfl hl (by decide) rfl (fun ls hl => ?_)
  refine lv_iconst (v := (0)) hx hb dX5_overThatLie_2 (by decide) ?_
  refine lv_istore (lv' := [(4, .int (0)), (3, .int (0)), (0, .ref (q 0)), (1, .int set0), (2, .int (nI s0))]) hx hb dX5_overThatLie_3 hl (by decide) rfl (fun ls hl => ?_)
  have KL1 : ∀ (ls : Array Slot), lv_has ls 5 [(3, .int (s_X5_overThatLie_L1 N V A set0 s0 (N 0) 0 (0 : Int32))), (0, .ref (q 0)), (1, .int set0), (2, .int (nI s0))] → W p l e (headSpec wsX5_overThatLie ({ frames := 2, cells := 0, slots := 0, locals := 43 })).room s m ([.ref (q 0), .int set0, .int (nI s0)] : List Value).toArray below meth c s.heap [] 0 0 (MQ below (vp_Si (fun r => r = (s_X5_overThatLie N V A set0 s0))) ([.ref (q 0), .int set0, .int (nI s0)] : List Value).toArray s 0 0 (fun _ => False)) (F0 m 48 ls []) := by
    intro ls hl
    refine lv_iload_n hx hb dX5_overThatLie_48 rfl (lv_at hl 0 rfl) ?_
    exact W.iret (v := (s_X5_overThatLie_L1 N V A set0 s0 (N 0) 0 (0 : Int32))) hx hb hr (fun t ht hW => ⟨_, rfl, (by rw [s_X5_overThatLie]), ht⟩) (fun _ h => by cases h) dX5_overThatLie_49
  have LL1 : ∀ (n k : Nat) (a : Int32) (ls : Array Slot), k + n = N 0 → s_X5_overThatLie_L1 N V A set0 s0 (N 0) 0 (0 : Int32) = s_X5_overThatLie_L1 N V A set0 s0 n k a → lv_has ls 5 [(4, .int (nI k)), (3, .int a), (0, .ref (q 0)), (1, .int set0), (2, .int (nI s0))] → W p l e (headSpec wsX5_overThatLie ({ frames := 2, cells := 0, slots := 0, locals := 43 })).room s m ([.ref (q 0), .int set0, .int (nI s0)] : List Value).toArray below meth c s.heap [] 0 0 (MQ below (vp_Si (fun r => r = (s_X5_overThatLie N V A set0 s0))) ([.ref (q 0), .int set0, .int (nI s0)] : List Value).toArray s 0 0 (fun _ => False)) (F0 m 5 ls []) := by
    intro n
    induction n with
    | zero =>
      intro k a ls hk hF hl
      refine lv_iload hx hb dX5_overThatLie_5 (lv_at hl 0 rfl) ?_
      refine lv_aload_n hx hb dX5_overThatLie_7 rfl (lv_at hl 2 rfl) ?_
      refine va_get (D := D) (ci := 5) (v := .int (nI (N 0))) (C := RX5) (T := TX5) (N := 22) hx hb hts hin5 hown hK hP 0 rfl rfl 2 (by decide) (hts (.fieldLink RX5 72 "NeckShipModel" "spars" "I") (by decide +kernel)) (fun _ h9 => h9) rfl dX5_overThatLie_8 ?_
      refine lv_icmp_ge (tgt := 48) hx hb dX5_overThatLie_11 (by decide) (fun _ => ?_) (fun c_1 => absurd (nI_le (by omega) (by omega)) c_1)
      have hF : s_X5_overThatLie_L1 N V A set0 s0 (N 0) 0 (0 : Int32) = a := hF.trans (by rw [s_X5_overThatLie_L1])
      exact KL1 _ (by (try rw [hF]); exact lv_sub hl [1, 2, 3, 4] rfl)
    | succ n ih =>
      intro k a ls hk hF hl
      refine lv_iload hx hb dX5_overThatLie_5 (lv_at hl 0 rfl) ?_
      refine lv_aload_n hx hb dX5_overThatLie_7 rfl (lv_at hl 2 rfl) ?_
      refine va_get (D := D) (ci := 5) (v := .int (nI (N 0))) (C := RX5) (T := TX5) (N := 22) hx hb hts hin5 hown hK hP 0 rfl rfl 2 (by decide) (hts (.fieldLink RX5 72 "NeckShipModel" "spars" "I") (by decide +kernel)) (fun _ h9 => h9) rfl dX5_overThatLie_8 ?_
      refine lv_icmp_ge (tgt := 48) hx hb dX5_overThatLie_11 (by decide) (fun c_2 => absurd c_2 (nI_ge (by omega) (by omega))) (fun _ => ?_)
      refine lv_iload_n hx hb dX5_overThatLie_14 rfl (lv_at hl 1 rfl) ?_
      refine lv_aload_n hx hb dX5_overThatLie_15 rfl (lv_at hl 2 rfl) ?_
      refine lv_iload_n hx hb dX5_overThatLie_16 rfl (lv_at hl 3 rfl) ?_
      refine lv_iload hx hb dX5_overThatLie_17 (lv_at hl 0 rfl) ?_
      refine vp_callSi (W.runV (As := [.int set0, .int (nI k)]) (rest := [.int a]) ⟨hx, hb, hml, hown, hts⟩ (c_X5_isUp l D cI cZ cS q N V A set0 (nI k)) (cwV 2 hts gX5_overThatLie_X5_isUp rfl rfl rfl (by decide +kernel) ⟨Nat.le_of_ble_eq_true rfl, Nat.le_of_ble_eq_true rfl⟩) (preM hK hP) rfl rfl hl.1 rfl (lv_room (Nat.le_of_ble_eq_true rfl)) dX5_overThatLie_19 ⟨Nat.zero_le _, Nat.zero_le _⟩) (fun r_3 er_3 => ?_)
      subst er_3
      refine lz_if_ne (tgt := 39) hx hb dX5_overThatLie_22 (by decide) (fun c_4 => ?_) (fun c_4 => ?_)
      · refine lv_iconst (v := (0)) hx hb dX5_overThatLie_39 (by decide) ?_
        refine lv_iadd hx hb dX5_overThatLie_40 ?_
        refine lv_istore_n (lv' := [(3, .int (a + (0 : Int32))), (4, .int (nI k)), (0, .ref (q 0)), (1, .int set0), (2, .int (nI s0))]) hx hb dX5_overThatLie_41 rfl hl (by decide) rfl (fun ls hl => ?_)
        refine lv_iinc (v := nI (k + 1)) (lv' := [(4, .int (nI (k + 1))), (3, .int (a + (0 : Int32))), (0, .ref (q 0)), (1, .int set0), (2, .int (nI s0))]) hx hb dX5_overThatLie_42 hl (k := 1) rfl (nI_1 k) (by decide) rfl (fun ls hl => ?_)
        refine lv_goto (tgt := 5) hx hb dX5_overThatLie_45 (by decide) ?_
        exact ih (k + 1) (a + (0 : Int32)) _ (by omega) (hF.trans (by rw [s_X5_overThatLie_L1, if_pos c_4])) (lv_sub hl [0, 1, 2, 3, 4] rfl)
      · refine lv_aload_n hx hb dX5_overThatLie_25 rfl (lv_at hl 2 rfl) ?_
        refine lv_iload_n hx hb dX5_overThatLie_26 rfl (lv_at hl 4 rfl) ?_
        refine lv_iload hx hb dX5_overThatLie_27 (lv_at hl 0 rfl) ?_
        refine vp_callSi (W.runV (As := [.int (nI s0), .int (nI k)]) (rest := [.int a]) ⟨hx, hb, hml, hown, hts⟩ (c_X5_isOver l D cI cZ cS q N V A s0 k (by omega) (by omega)) (cwV 2 hts gX5_overThatLie_X5_isOver rfl rfl rfl (by decide +kernel) ⟨Nat.le_of_ble_eq_true rfl, Nat.le_of_ble_eq_true rfl⟩) (preM hK hP) rfl rfl hl.1 rfl (lv_room (Nat.le_of_ble_eq_true rfl)) dX5_overThatLie_29 ⟨Nat.zero_le _, Nat.zero_le _⟩) (fun r_5 er_5 => ?_)
        subst er_5
        refine lz_if_eq (tgt := 39) hx hb dX5_overThatLie_32 (by decide) (fun c_6 => ?_) (fun c_6 => ?_)
        · refine lv_iconst (v := (0)) hx hb dX5_overThatLie_39 (by decide) ?_
          refine lv_iadd hx hb dX5_overThatLie_40 ?_
          refine lv_istore_n (lv' := [(3, .int (a + (0 : Int32))), (4, .int (nI k)), (0, .ref (q 0)), (1, .int set0), (2, .int (nI s0))]) hx hb dX5_overThatLie_41 rfl hl (by decide) rfl (fun ls hl => ?_)
          refine lv_iinc (v := nI (k + 1)) (lv' := [(4, .int (nI (k + 1))), (3, .int (a + (0 : Int32))), (0, .ref (q 0)), (1, .int set0), (2, .int (nI s0))]) hx hb dX5_overThatLie_42 hl (k := 1) rfl (nI_1 k) (by decide) rfl (fun ls hl => ?_)
          refine lv_goto (tgt := 5) hx hb dX5_overThatLie_45 (by decide) ?_
          exact ih (k + 1) (a + (0 : Int32)) _ (by omega) (hF.trans (by rw [s_X5_overThatLie_L1, if_neg (nb c_4), if_neg (nb c_6)])) (lv_sub hl [0, 1, 2, 3, 4] rfl)
        · refine lv_iconst (v := (1)) hx hb dX5_overThatLie_35 (by decide) ?_
          refine lv_goto (tgt := 40) hx hb dX5_overThatLie_36 (by decide) ?_
          refine lv_iadd hx hb dX5_overThatLie_40 ?_
          refine lv_istore_n (lv' := [(3, .int (a + (1 : Int32))), (4, .int (nI k)), (0, .ref (q 0)), (1, .int set0), (2, .int (nI s0))]) hx hb dX5_overThatLie_41 rfl hl (by decide) rfl (fun ls hl => ?_)
          refine lv_iinc (v := nI (k + 1)) (lv' := [(4, .int (nI (k + 1))), (3, .int (a + (1 : Int32))), (0, .ref (q 0)), (1, .int set0), (2, .int (nI s0))]) hx hb dX5_overThatLie_42 hl (k := 1) rfl (nI_1 k) (by decide) rfl (fun ls hl => ?_)
          refine lv_goto (tgt := 5) hx hb dX5_overThatLie_45 (by decide) ?_
          exact ih (k + 1) (a + (1 : Int32)) _ (by omega) (hF.trans (by rw [s_X5_overThatLie_L1, if_neg (nb c_4), if_pos c_6])) (lv_sub hl [0, 1, 2, 3, 4] rfl)
  exact LL1 (N 0) 0 (0 : Int32) _ (by omega) rfl (lv_sub hl [0, 1, 2, 3, 4] rfl)
def s_X5_mayRise (N : Nat → Nat) (V : Nat → Int32) (A : Nat → Nat → Int32)  (set0 : Int32) (s0 : Nat) : Bool :=
  if (s_X5_isUp N V A set0 (nI s0)) = true then
    false
  else
    if (s_X5_raisers N V A s0) ≤ 0 then
      false
    else
      if (s_X5_overThatLie N V A set0 s0) = 0 then
        if (s_X5_isBarred N V A set0 s0) = true then
          false
        else
          true
      else
        false
set_option maxHeartbeats 4000000 in
set_option maxRecDepth 100000 in
theorem c_X5_mayRise (l : Launch) (D : va_G) (cI cZ cS : ClassId) (q : Nat → Nat) (N : Nat → Nat) (V : Nat → Int32) (A : Nat → Nat → Int32) (set0 : Int32) (s0 : Nat) (h_1 : okM N A) (h_2 : s0 < 10) : Met l yX5_mayRise wsX5_mayRise ({ frames := 3, cells := 0, slots := 0, locals := 67 }) (va_Pc [.ref (q 0), .int set0, .int (nI s0)] (PM D cI cZ cS q N V A)) (vp_Si (fun r => r = b2i (s_X5_mayRise N V A set0 s0))) 0 0 (fun _ => False) := by
  refine Met.ofW (cc := cX5_mayRise) (maxL := 3) (ret := (some .boolean)) (by decide) rfl ?_
  intro p e s m args below meth c s₁ B hml hv
  obtain ⟨rfl, hP, hK⟩ := hv
  have hx := B.exec
  have hb := B.bytes
  have hr := B.returns
  have hts := atoms_spec (ws := wsX5_mayRise) B.pre
  have hown : s.vm.findClass RX5 = some m.cls := findClass_of_methodNamed B.named
  have hlocks := B.notSynchronized
  obtain ⟨o1, o2, o3, o4, o5, o6, o7⟩ := id h_1
  have hl := lv_entry ([.ref (q 0), .int set0, .int (nI s0)]) (n := 3) (Nat.le_of_ble_eq_true rfl)
  rw [lg_entry_eq]
  generalize (lg_sl ([.ref (q 0), .int set0, .int (nI s0)]) ++ List.replicate (3 - (lg_sl ([.ref (q 0), .int set0, .int (nI s0)])).length) Slot.unset).toArray = ls at hl ⊢
  have hl : lv_has ls 3 [(0, .ref (q 0)), (1, .int set0), (2, .int (nI s0))] := hl
  refine lv_aload_n hx hb dX5_mayRise_0 rfl (lv_at hl 0 rfl) ?_
  refine lv_iload_n hx hb dX5_mayRise_1 rfl (lv_at hl 1 rfl) ?_
  refine lv_iload_n hx hb dX5_mayRise_2 rfl (lv_at hl 2 rfl) ?_
  refine vp_callSi (W.runV (As := [.int set0, .int (nI s0)]) (rest := []) ⟨hx, hb, hml, hown, hts⟩ (c_X5_isUp l D cI cZ cS q N V A set0 (nI s0)) (cwV 2 hts gX5_mayRise_X5_isUp rfl rfl rfl (by decide +kernel) ⟨Nat.le_of_ble_eq_true rfl, Nat.le_of_ble_eq_true rfl⟩) (preM hK hP) rfl rfl hl.1 rfl (lv_room (Nat.le_of_ble_eq_true rfl)) dX5_mayRise_3 ⟨Nat.zero_le _, Nat.zero_le _⟩) (fun r_1 er_1 => ?_)
  subst er_1
  refine lz_if_ne (tgt := 39) hx hb dX5_mayRise_6 (by decide) (fun c_2 => ?_) (fun c_2 => ?_)
  · refine lv_iconst (v := (0)) hx hb dX5_mayRise_39 (by decide) ?_
    exact W.zret (v := b2i false) hx hb hr (b2i_nar _) (fun t ht hW => ⟨_, rfl, (by rw [s_X5_mayRise, if_pos c_2]), ht⟩) (fun _ h => by cases h) dX5_mayRise_40
  · refine lv_aload_n hx hb dX5_mayRise_9 rfl (lv_at hl 0 rfl) ?_
    refine lv_iload_n hx hb dX5_mayRise_10 rfl (lv_at hl 2 rfl) ?_
    refine vp_callSi (W.runV (As := [.int (nI s0)]) (rest := []) ⟨hx, hb, hml, hown, hts⟩ (c_X5_raisers l D cI cZ cS q N V A s0 h_1) (cwV 1 hts gX5_mayRise_X5_raisers rfl rfl rfl (by decide +kernel) ⟨Nat.le_of_ble_eq_true rfl, Nat.le_of_ble_eq_true rfl⟩) (preM hK hP) rfl rfl hl.1 rfl (lv_room (Nat.le_of_ble_eq_true rfl)) dX5_mayRise_11 ⟨Nat.zero_le _, Nat.zero_le _⟩) (fun r_3 er_3 => ?_)
    subst er_3
    refine lv_if_le (tgt := 39) hx hb dX5_mayRise_14 (by decide) (fun c_4 => ?_) (fun c_4 => ?_)
    · refine lv_iconst (v := (0)) hx hb dX5_mayRise_39 (by decide) ?_
      exact W.zret (v := b2i false) hx hb hr (b2i_nar _) (fun t ht hW => ⟨_, rfl, (by rw [s_X5_mayRise, if_neg (nb c_2), if_pos c_4]), ht⟩) (fun _ h => by cases h) dX5_mayRise_40
    · refine lv_aload_n hx hb dX5_mayRise_17 rfl (lv_at hl 0 rfl) ?_
      refine lv_iload_n hx hb dX5_mayRise_18 rfl (lv_at hl 1 rfl) ?_
      refine lv_iload_n hx hb dX5_mayRise_19 rfl (lv_at hl 2 rfl) ?_
      refine vp_callSi (W.runV (As := [.int set0, .int (nI s0)]) (rest := []) ⟨hx, hb, hml, hown, hts⟩ (c_X5_overThatLie l D cI cZ cS q N V A set0 s0 h_1 (by omega)) (cwV 2 hts gX5_mayRise_X5_overThatLie rfl rfl rfl (by decide +kernel) ⟨Nat.le_of_ble_eq_true rfl, Nat.le_of_ble_eq_true rfl⟩) (preM hK hP) rfl rfl hl.1 rfl (lv_room (Nat.le_of_ble_eq_true rfl)) dX5_mayRise_20 ⟨Nat.zero_le _, Nat.zero_le _⟩) (fun r_5 er_5 => ?_)
      subst er_5
      refine lv_if_ne (tgt := 39) hx hb dX5_mayRise_23 (by decide) (fun c_6 => ?_) (fun c_6 => ?_)
      · refine lv_iconst (v := (0)) hx hb dX5_mayRise_39 (by decide) ?_
        exact W.zret (v := b2i false) hx hb hr (b2i_nar _) (fun t ht hW => ⟨_, rfl, (by rw [s_X5_mayRise, if_neg (nb c_2), if_neg c_4, if_neg c_6]), ht⟩) (fun _ h => by cases h) dX5_mayRise_40
      · refine lv_aload_n hx hb dX5_mayRise_26 rfl (lv_at hl 0 rfl) ?_
        refine lv_iload_n hx hb dX5_mayRise_27 rfl (lv_at hl 1 rfl) ?_
        refine lv_iload_n hx hb dX5_mayRise_28 rfl (lv_at hl 2 rfl) ?_
        refine vp_callSi (W.runV (As := [.int set0, .int (nI s0)]) (rest := []) ⟨hx, hb, hml, hown, hts⟩ (c_X5_isBarred l D cI cZ cS q N V A set0 s0 h_1 (by omega)) (cwV 2 hts gX5_mayRise_X5_isBarred rfl rfl rfl (by decide +kernel) ⟨Nat.le_of_ble_eq_true rfl, Nat.le_of_ble_eq_true rfl⟩) (preM hK hP) rfl rfl hl.1 rfl (lv_room (Nat.le_of_ble_eq_true rfl)) dX5_mayRise_29 ⟨Nat.zero_le _, Nat.zero_le _⟩) (fun r_7 er_7 => ?_)
        subst er_7
        refine lz_if_ne (tgt := 39) hx hb dX5_mayRise_32 (by decide) (fun c_8 => ?_) (fun c_8 => ?_)
        · refine lv_iconst (v := (0)) hx hb dX5_mayRise_39 (by decide) ?_
          exact W.zret (v := b2i false) hx hb hr (b2i_nar _) (fun t ht hW => ⟨_, rfl, (by rw [s_X5_mayRise, if_neg (nb c_2), if_neg c_4, if_pos c_6, if_pos c_8]), ht⟩) (fun _ h => by cases h) dX5_mayRise_40
        · refine lv_iconst (v := (1)) hx hb dX5_mayRise_35 (by decide) ?_
          refine lv_goto (tgt := 40) hx hb dX5_mayRise_36 (by decide) ?_
          exact W.zret (v := b2i true) hx hb hr (b2i_nar _) (fun t ht hW => ⟨_, rfl, (by rw [s_X5_mayRise, if_neg (nb c_2), if_neg c_4, if_pos c_6, if_neg (nb c_8)]), ht⟩) (fun _ h => by cases h) dX5_mayRise_40
def s_X5_isRig_L1 (N : Nat → Nat) (V : Nat → Int32) (A : Nat → Nat → Int32) (set0 : Int32) : Nat → Nat → Int32 → Bool
  | 0, k, a =>
    if a = (((1 : Int32) <<< (nI (N 0) &&& 31)) - (1 : Int32)) then
      true
    else
      false
  | n + 1, k, a =>
    if ((set0 >>> (nI k &&& 31)) &&& (1 : Int32)) = (1 : Int32) then
      if (s_X5_raises N V A k) = true then
        if (A 13 k &&& set0) = 0 then
          if ((a >>> (A 8 k &&& 31)) &&& (1 : Int32)) = (1 : Int32) then
            false
          else
            s_X5_isRig_L1 N V A set0 n (k + 1) (a ||| ((1 : Int32) <<< (A 8 k &&& 31)))
        else
          false
      else
        false
    else
      s_X5_isRig_L1 N V A set0 n (k + 1) a
def s_X5_isRig (N : Nat → Nat) (V : Nat → Int32) (A : Nat → Nat → Int32)  (set0 : Int32) : Bool :=
  s_X5_isRig_L1 N V A set0 (N 1) 0 (0 : Int32)
set_option maxHeartbeats 4000000 in
set_option maxRecDepth 100000 in
theorem c_X5_isRig (l : Launch) (D : va_G) (cI cZ cS : ClassId) (q : Nat → Nat) (N : Nat → Nat) (V : Nat → Int32) (A : Nat → Nat → Int32) (set0 : Int32) (h_1 : okM N A) : Met l yX5_isRig wsX5_isRig ({ frames := 1, cells := 0, slots := 0, locals := 22 }) (va_Pc [.ref (q 0), .int set0] (PM D cI cZ cS q N V A)) (vp_Si (fun r => r = b2i (s_X5_isRig N V A set0))) 0 0 (fun _ => False) := by
  refine Met.ofW (cc := cX5_isRig) (maxL := 4) (ret := (some .boolean)) (by decide) rfl ?_
  intro p e s m args below meth c s₁ B hml hv
  obtain ⟨rfl, hP, hK⟩ := hv
  have hx := B.exec
  have hb := B.bytes
  have hr := B.returns
  have hts := atoms_spec (ws := wsX5_isRig) B.pre
  have hown : s.vm.findClass RX5 = some m.cls := findClass_of_methodNamed B.named
  have hlocks := B.notSynchronized
  have hin5 : ∀ w ∈ u_ws RX5 TX5 22, w ∈ wsX5_isRig := by decide +kernel
  obtain ⟨o1, o2, o3, o4, o5, o6, o7⟩ := id h_1
  have hl := lv_entry ([.ref (q 0), .int set0]) (n := 4) (Nat.le_of_ble_eq_true rfl)
  rw [lg_entry_eq]
  generalize (lg_sl ([.ref (q 0), .int set0]) ++ List.replicate (4 - (lg_sl ([.ref (q 0), .int set0])).length) Slot.unset).toArray = ls at hl ⊢
  have hl : lv_has ls 4 [(0, .ref (q 0)), (1, .int set0)] := hl
  refine lv_iconst (v := (0)) hx hb dX5_isRig_0 (by decide) ?_
  refine lv_istore_n (lv' := [(2, .int (0)), (0, .ref (q 0)), (1, .int set0)]) hx hb dX5_isRig_1 rfl hl (by decide) rfl (fun ls hl => ?_)
  refine lv_iconst (v := (0)) hx hb dX5_isRig_2 (by decide) ?_
  refine lv_istore_n (lv' := [(3, .int (0)), (2, .int (0)), (0, .ref (q 0)), (1, .int set0)]) hx hb dX5_isRig_3 rfl hl (by decide) rfl (fun ls hl => ?_)
  have LL1 : ∀ (n k : Nat) (a : Int32) (ls : Array Slot), k + n = N 1 → s_X5_isRig N V A set0 = s_X5_isRig_L1 N V A set0 n k a → lv_has ls 4 [(3, .int (nI k)), (2, .int a), (0, .ref (q 0)), (1, .int set0)] → W p l e (headSpec wsX5_isRig ({ frames := 1, cells := 0, slots := 0, locals := 22 })).room s m ([.ref (q 0), .int set0] : List Value).toArray below meth c s.heap [] 0 0 (MQ below (vp_Si (fun r => r = b2i (s_X5_isRig N V A set0))) ([.ref (q 0), .int set0] : List Value).toArray s 0 0 (fun _ => False)) (F0 m 4 ls []) := by
    intro n
    induction n with
    | zero =>
      intro k a ls hk hF hl
      refine lv_iload_n hx hb dX5_isRig_4 rfl (lv_at hl 0 rfl) ?_
      refine lv_aload_n hx hb dX5_isRig_5 rfl (lv_at hl 2 rfl) ?_
      refine va_get (D := D) (ci := 5) (v := .int (nI (N 1))) (C := RX5) (T := TX5) (N := 22) hx hb hts hin5 hown hK hP 0 rfl rfl 9 (by decide) (hts (.fieldLink RX5 79 "NeckShipModel" "threads" "I") (by decide +kernel)) (fun _ h9 => h9) rfl dX5_isRig_6 ?_
      refine lv_icmp_ge (tgt := 73) hx hb dX5_isRig_9 (by decide) (fun _ => ?_) (fun c_1 => absurd (nI_le (by omega) (by omega)) c_1)
      refine lv_iload_n hx hb dX5_isRig_73 rfl (lv_at hl 1 rfl) ?_
      refine lv_iconst (v := (1)) hx hb dX5_isRig_74 (by decide) ?_
      refine lv_aload_n hx hb dX5_isRig_75 rfl (lv_at hl 2 rfl) ?_
      refine va_get (D := D) (ci := 5) (v := .int (nI (N 0))) (C := RX5) (T := TX5) (N := 22) hx hb hts hin5 hown hK hP 0 rfl rfl 2 (by decide) (hts (.fieldLink RX5 72 "NeckShipModel" "spars" "I") (by decide +kernel)) (fun _ h9 => h9) rfl dX5_isRig_76 ?_
      refine lv_ishl hx hb dX5_isRig_79 ?_
      refine lv_iconst (v := (1)) hx hb dX5_isRig_80 (by decide) ?_
      refine lv_isub hx hb dX5_isRig_81 ?_
      refine lv_icmp_ne (tgt := 89) hx hb dX5_isRig_82 (by decide) (fun c_2 => ?_) (fun c_2 => ?_)
      · refine lv_iconst (v := (0)) hx hb dX5_isRig_89 (by decide) ?_
        exact W.zret (v := b2i false) hx hb hr (b2i_nar _) (fun t ht hW => ⟨_, rfl, (by rw [hF, s_X5_isRig_L1, if_neg c_2]), ht⟩) (fun _ h => by cases h) dX5_isRig_90
      · refine lv_iconst (v := (1)) hx hb dX5_isRig_85 (by decide) ?_
        refine lv_goto (tgt := 90) hx hb dX5_isRig_86 (by decide) ?_
        exact W.zret (v := b2i true) hx hb hr (b2i_nar _) (fun t ht hW => ⟨_, rfl, (by rw [hF, s_X5_isRig_L1, if_pos c_2]), ht⟩) (fun _ h => by cases h) dX5_isRig_90
    | succ n ih =>
      intro k a ls hk hF hl
      refine lv_iload_n hx hb dX5_isRig_4 rfl (lv_at hl 0 rfl) ?_
      refine lv_aload_n hx hb dX5_isRig_5 rfl (lv_at hl 2 rfl) ?_
      refine va_get (D := D) (ci := 5) (v := .int (nI (N 1))) (C := RX5) (T := TX5) (N := 22) hx hb hts hin5 hown hK hP 0 rfl rfl 9 (by decide) (hts (.fieldLink RX5 79 "NeckShipModel" "threads" "I") (by decide +kernel)) (fun _ h9 => h9) rfl dX5_isRig_6 ?_
      refine lv_icmp_ge (tgt := 73) hx hb dX5_isRig_9 (by decide) (fun c_3 => absurd c_3 (nI_ge (by omega) (by omega))) (fun _ => ?_)
      refine lv_iload_n hx hb dX5_isRig_12 rfl (lv_at hl 3 rfl) ?_
      refine lv_iload_n hx hb dX5_isRig_13 rfl (lv_at hl 0 rfl) ?_
      refine lv_ishr hx hb dX5_isRig_14 ?_
      refine lv_iconst (v := (1)) hx hb dX5_isRig_15 (by decide) ?_
      refine lv_iand hx hb dX5_isRig_16 ?_
      refine lv_iconst (v := (1)) hx hb dX5_isRig_17 (by decide) ?_
      refine lv_icmp_ne (tgt := 67) hx hb dX5_isRig_18 (by decide) (fun c_4 => ?_) (fun c_4 => ?_)
      · refine lv_iinc (v := nI (k + 1)) (lv' := [(3, .int (nI (k + 1))), (2, .int a), (0, .ref (q 0)), (1, .int set0)]) hx hb dX5_isRig_67 hl (k := 0) rfl (nI_1 k) (by decide) rfl (fun ls hl => ?_)
        refine lv_goto (tgt := 4) hx hb dX5_isRig_70 (by decide) ?_
        exact ih (k + 1) a _ (by omega) (hF.trans (by rw [s_X5_isRig_L1, if_neg c_4])) (lv_sub hl [0, 1, 2, 3] rfl)
      · refine lv_aload_n hx hb dX5_isRig_21 rfl (lv_at hl 2 rfl) ?_
        refine lv_iload_n hx hb dX5_isRig_22 rfl (lv_at hl 0 rfl) ?_
        refine vp_callSi (W.runV (As := [.int (nI k)]) (rest := []) ⟨hx, hb, hml, hown, hts⟩ (c_X5_raises l D cI cZ cS q N V A k h_1 (by omega)) (cwV 1 hts gX5_isRig_X5_raises rfl rfl rfl (by decide +kernel) ⟨Nat.le_of_ble_eq_true rfl, Nat.le_of_ble_eq_true rfl⟩) (preM hK hP) rfl rfl hl.1 rfl (lv_room (Nat.le_of_ble_eq_true rfl)) dX5_isRig_23 ⟨Nat.zero_le _, Nat.zero_le _⟩) (fun r_5 er_5 => ?_)
        subst er_5
        refine lz_if_eq (tgt := 54) hx hb dX5_isRig_26 (by decide) (fun c_6 => ?_) (fun c_6 => ?_)
        · refine lv_iconst (v := (0)) hx hb dX5_isRig_54 (by decide) ?_
          exact W.zret (v := b2i false) hx hb hr (b2i_nar _) (fun t ht hW => ⟨_, rfl, (by rw [hF, s_X5_isRig_L1, if_pos c_4, if_neg (nb c_6)]), ht⟩) (fun _ h => by cases h) dX5_isRig_55
        · refine lv_aload_n hx hb dX5_isRig_29 rfl (lv_at hl 2 rfl) ?_
          refine va_get (D := D) (ci := 5) (v := .ref (q 13)) (C := RX5) (T := TX5) (N := 22) hx hb hts hin5 hown hK hP 0 rfl rfl 16 (by decide) (hts (.fieldLink RX5 47 "NeckShipModel" "crossing" "[I") (by decide +kernel)) (fun _ h9 => h9) rfl dX5_isRig_30 ?_
          refine lv_iload_n hx hb dX5_isRig_33 rfl (lv_at hl 0 rfl) ?_
          refine va_ialdN (i := k) hx hb hK hP 13 0 rfl rfl (by decide) (by omega) dX5_isRig_34 ?_
          refine lv_iload_n hx hb dX5_isRig_35 rfl (lv_at hl 3 rfl) ?_
          refine lv_iand hx hb dX5_isRig_36 ?_
          refine lv_if_ne (tgt := 54) hx hb dX5_isRig_37 (by decide) (fun c_7 => ?_) (fun c_7 => ?_)
          · refine lv_iconst (v := (0)) hx hb dX5_isRig_54 (by decide) ?_
            exact W.zret (v := b2i false) hx hb hr (b2i_nar _) (fun t ht hW => ⟨_, rfl, (by rw [hF, s_X5_isRig_L1, if_pos c_4, if_pos c_6, if_neg c_7]), ht⟩) (fun _ h => by cases h) dX5_isRig_55
          · refine lv_iload_n hx hb dX5_isRig_40 rfl (lv_at hl 1 rfl) ?_
            refine lv_aload_n hx hb dX5_isRig_41 rfl (lv_at hl 2 rfl) ?_
            refine va_get (D := D) (ci := 5) (v := .ref (q 8)) (C := RX5) (T := TX5) (N := 22) hx hb hts hin5 hown hK hP 0 rfl rfl 11 (by decide) (hts (.fieldLink RX5 31 "NeckShipModel" "sparOf" "[I") (by decide +kernel)) (fun _ h9 => h9) rfl dX5_isRig_42 ?_
            refine lv_iload_n hx hb dX5_isRig_45 rfl (lv_at hl 0 rfl) ?_
            refine va_ialdN (i := k) hx hb hK hP 8 0 rfl rfl (by decide) (by omega) dX5_isRig_46 ?_
            refine lv_ishr hx hb dX5_isRig_47 ?_
            refine lv_iconst (v := (1)) hx hb dX5_isRig_48 (by decide) ?_
            refine lv_iand hx hb dX5_isRig_49 ?_
            refine lv_iconst (v := (1)) hx hb dX5_isRig_50 (by decide) ?_
            refine lv_icmp_ne (tgt := 56) hx hb dX5_isRig_51 (by decide) (fun c_8 => ?_) (fun c_8 => ?_)
            · refine lv_iload_n hx hb dX5_isRig_56 rfl (lv_at hl 1 rfl) ?_
              refine lv_iconst (v := (1)) hx hb dX5_isRig_57 (by decide) ?_
              refine lv_aload_n hx hb dX5_isRig_58 rfl (lv_at hl 2 rfl) ?_
              refine va_get (D := D) (ci := 5) (v := .ref (q 8)) (C := RX5) (T := TX5) (N := 22) hx hb hts hin5 hown hK hP 0 rfl rfl 11 (by decide) (hts (.fieldLink RX5 31 "NeckShipModel" "sparOf" "[I") (by decide +kernel)) (fun _ h9 => h9) rfl dX5_isRig_59 ?_
              refine lv_iload_n hx hb dX5_isRig_62 rfl (lv_at hl 0 rfl) ?_
              refine va_ialdN (i := k) hx hb hK hP 8 0 rfl rfl (by decide) (by omega) dX5_isRig_63 ?_
              refine lv_ishl hx hb dX5_isRig_64 ?_
              refine lv_ior hx hb dX5_isRig_65 ?_
              refine lv_istore_n (lv' := [(2, .int (a ||| ((1 : Int32) <<< (A 8 k &&& 31)))), (3, .int (nI k)), (0, .ref (q 0)), (1, .int set0)]) hx hb dX5_isRig_66 rfl hl (by decide) rfl (fun ls hl => ?_)
              refine lv_iinc (v := nI (k + 1)) (lv' := [(3, .int (nI (k + 1))), (2, .int (a ||| ((1 : Int32) <<< (A 8 k &&& 31)))), (0, .ref (q 0)), (1, .int set0)]) hx hb dX5_isRig_67 hl (k := 1) rfl (nI_1 k) (by decide) rfl (fun ls hl => ?_)
              refine lv_goto (tgt := 4) hx hb dX5_isRig_70 (by decide) ?_
              exact ih (k + 1) (a ||| ((1 : Int32) <<< (A 8 k &&& 31))) _ (by omega) (hF.trans (by rw [s_X5_isRig_L1, if_pos c_4, if_pos c_6, if_pos c_7, if_neg c_8])) (lv_sub hl [0, 1, 2, 3] rfl)
            · refine lv_iconst (v := (0)) hx hb dX5_isRig_54 (by decide) ?_
              exact W.zret (v := b2i false) hx hb hr (b2i_nar _) (fun t ht hW => ⟨_, rfl, (by rw [hF, s_X5_isRig_L1, if_pos c_4, if_pos c_6, if_pos c_7, if_pos c_8]), ht⟩) (fun _ h => by cases h) dX5_isRig_55
  exact LL1 (N 1) 0 (0 : Int32) _ (by omega) (by rw [s_X5_isRig]) (lv_sub hl [0, 1, 2, 3] rfl)
theorem fit_inc (k : Nat) : nI k - 100 + Int32.ofInt 1 = nI (k + 1) - 100 := by
  rw [← nI_1 k, show Int32.ofInt 1 = 1 from rfl, Int32.sub_eq_add_neg, Int32.sub_eq_add_neg, Int32.add_assoc, Int32.add_assoc, Int32.add_comm 1]
theorem fit_gt {k : Nat} (h : k = 301) : (200 : Int32) < nI k - 100 := by subst h; decide
theorem fit_ngt {k : Nat} (h : k < 301) : ¬ (200 : Int32) < nI k - 100 := by
  rw [Int32.lt_iff_toInt_lt, show (200 : Int32).toInt = 200 from rfl, show (100 : Int32) = nI 100 from rfl, pk_sub_toInt (by omega) (by omega)]
  omega
def s_X5_stack (N : Nat → Nat) (V : Nat → Int32) (A : Nat → Nat → Int32)  (u0 : Int32) : Int32 :=
  if (s_X5_in ((u0).toInt64) (-100 : Int64) (200 : Int64)) = true then
    (s_X5_stackAt N V A u0)
  else
    (-2 : Int32)
set_option maxHeartbeats 4000000 in
set_option maxRecDepth 100000 in
theorem c_X5_stack (l : Launch) (D : va_G) (cI cZ cS : ClassId) (q : Nat → Nat) (N : Nat → Nat) (V : Nat → Int32) (A : Nat → Nat → Int32) (u0 : Int32) (h_1 : okM N A) : Met l yX5_stack wsX5_stack ({ frames := 2, cells := 0, slots := 0, locals := 45 }) (va_Pc [.ref (q 0), .int u0] (PM D cI cZ cS q N V A)) (vp_Si (fun r => r = (s_X5_stack N V A u0))) 0 0 (fun _ => False) := by
  refine Met.ofW (cc := cX5_stack) (maxL := 2) (ret := (some .int)) (by decide) rfl ?_
  intro p e s m args below meth c s₁ B hml hv
  obtain ⟨rfl, hP, hK⟩ := hv
  have hx := B.exec
  have hb := B.bytes
  have hr := B.returns
  have hts := atoms_spec (ws := wsX5_stack) B.pre
  have hown : s.vm.findClass RX5 = some m.cls := findClass_of_methodNamed B.named
  have hlocks := B.notSynchronized
  obtain ⟨o1, o2, o3, o4, o5, o6, o7⟩ := id h_1
  have hl := lv_entry ([.ref (q 0), .int u0]) (n := 2) (Nat.le_of_ble_eq_true rfl)
  rw [lg_entry_eq]
  generalize (lg_sl ([.ref (q 0), .int u0]) ++ List.replicate (2 - (lg_sl ([.ref (q 0), .int u0])).length) Slot.unset).toArray = ls at hl ⊢
  have hl : lv_has ls 2 [(0, .ref (q 0)), (1, .int u0)] := hl
  refine lv_iload_n hx hb dX5_stack_0 rfl (lv_at hl 1 rfl) ?_
  refine lv_i2l (v := (u0).toInt64) hx hb dX5_stack_1 rfl ?_
  refine lv_ldc2 (v := (-100)) hx hb hown (hts (.constantLong RX5 131 (-100)) (by decide +kernel)) dX5_stack_2 ?_
  refine lv_ldc2 (v := (200)) hx hb hown (hts (.constantLong RX5 133 (200)) (by decide +kernel)) dX5_stack_5 ?_
  refine vp_callSi (W.runS (As := [.long ((u0).toInt64), .long (-100 : Int64), .long (200 : Int64)]) (rest := []) ⟨hx, hb, hml, hown, hts⟩ (c_X5_in l ((u0).toInt64) (-100 : Int64) (200 : Int64)) (cwS 3 hts gX5_stack_X5_in rfl rfl rfl (by decide +kernel) ⟨Nat.le_of_ble_eq_true rfl, Nat.le_of_ble_eq_true rfl⟩) (preEq) rfl rfl hl.1 rfl (lv_room (Nat.le_of_ble_eq_true rfl)) dX5_stack_8 ⟨Nat.zero_le _, Nat.zero_le _⟩) (fun r_1 er_1 => ?_)
  subst er_1
  refine lz_if_eq (tgt := 22) hx hb dX5_stack_11 (by decide) (fun c_2 => ?_) (fun c_2 => ?_)
  · refine lv_bipush (v := (-2)) hx hb dX5_stack_22 (by decide) ?_
    exact W.iret (v := (-2 : Int32)) hx hb hr (fun t ht hW => ⟨_, rfl, (by rw [s_X5_stack, if_neg (nb c_2)]), ht⟩) (fun _ h => by cases h) dX5_stack_24
  · refine lv_aload_n hx hb dX5_stack_14 rfl (lv_at hl 0 rfl) ?_
    refine lv_iload_n hx hb dX5_stack_15 rfl (lv_at hl 1 rfl) ?_
    refine vp_callSi (W.runV (As := [.int u0]) (rest := []) ⟨hx, hb, hml, hown, hts⟩ (c_X5_stackAt l D cI cZ cS q N V A u0 (by omega)) (cwV 1 hts gX5_stack_X5_stackAt rfl rfl rfl (by decide +kernel) ⟨Nat.le_of_ble_eq_true rfl, Nat.le_of_ble_eq_true rfl⟩) (preM hK hP) rfl rfl hl.1 rfl (lv_room (Nat.le_of_ble_eq_true rfl)) dX5_stack_16 ⟨Nat.zero_le _, Nat.zero_le _⟩) (fun r_3 er_3 => ?_)
    subst er_3
    refine lv_goto (tgt := 24) hx hb dX5_stack_19 (by decide) ?_
    exact W.iret (v := (s_X5_stackAt N V A u0)) hx hb hr (fun t ht hW => ⟨_, rfl, (by rw [s_X5_stack, if_pos c_2]), ht⟩) (fun _ h => by cases h) dX5_stack_24
def s_X5_fits_L1 (N : Nat → Nat) (V : Nat → Int32) (A : Nat → Nat → Int32) (w0 : Int32) : Nat → Nat → Int32 → Int32
  | 0, k, a =>
    a
  | n + 1, k, a =>
    s_X5_fits_L1 N V A w0 n (k + 1) (s_X5_greater a (s_X5_stackAt N V A (nI k - 100)))
def s_X5_fits (N : Nat → Nat) (V : Nat → Int32) (A : Nat → Nat → Int32)  (w0 : Int32) : Int32 :=
  if w0 = (0) then
    if A 1 4 < (s_X5_fits_L1 N V A w0 301 0 (0 : Int32)) then
      (0 : Int32)
    else
      if A 1 3 < A 1 1 then
        (0 : Int32)
      else
        (1 : Int32)
  else
    if w0 = (1) then
      (s_X5_fits_L1 N V A w0 301 0 (0 : Int32))
    else
      if w0 = (2) then
        (((A 1 1 + A 1 3) - (1 : Int32)) / A 1 3)
      else
        (-2 : Int32)
set_option maxHeartbeats 4000000 in
set_option maxRecDepth 100000 in
theorem c_X5_fits (l : Launch) (D : va_G) (cI cZ cS : ClassId) (q : Nat → Nat) (N : Nat → Nat) (V : Nat → Int32) (A : Nat → Nat → Int32) (w0 : Int32) (h_1 : okM N A) (h_2 : ¬ A 1 3 = 0) : Met l yX5_fits wsX5_fits ({ frames := 2, cells := 0, slots := 0, locals := 45 }) (va_Pc [.ref (q 0), .int w0] (PM D cI cZ cS q N V A)) (vp_Si (fun r => r = (s_X5_fits N V A w0))) 0 0 (fun _ => False) := by
  refine Met.ofW (cc := cX5_fits) (maxL := 4) (ret := (some .int)) (by decide) rfl ?_
  intro p e s m args below meth c s₁ B hml hv
  obtain ⟨rfl, hP, hK⟩ := hv
  have hx := B.exec
  have hb := B.bytes
  have hr := B.returns
  have hts := atoms_spec (ws := wsX5_fits) B.pre
  have hown : s.vm.findClass RX5 = some m.cls := findClass_of_methodNamed B.named
  have hlocks := B.notSynchronized
  have hin5 : ∀ w ∈ u_ws RX5 TX5 22, w ∈ wsX5_fits := by decide +kernel
  obtain ⟨o1, o2, o3, o4, o5, o6, o7⟩ := id h_1
  have hl := lv_entry ([.ref (q 0), .int w0]) (n := 4) (Nat.le_of_ble_eq_true rfl)
  rw [lg_entry_eq]
  generalize (lg_sl ([.ref (q 0), .int w0]) ++ List.replicate (4 - (lg_sl ([.ref (q 0), .int w0])).length) Slot.unset).toArray = ls at hl ⊢
  have hl : lv_has ls 4 [(0, .ref (q 0)), (1, .int w0)] := hl
  refine lv_iconst (v := (0)) hx hb dX5_fits_0 (by decide) ?_
  refine lv_istore_n (lv' := [(2, .int (0)), (0, .ref (q 0)), (1, .int w0)]) hx hb dX5_fits_1 rfl hl (by decide) rfl (fun ls hl => ?_)
  refine lv_bipush (v := (-100)) hx hb dX5_fits_2 (by decide) ?_
  refine lv_istore_n (lv' := [(3, .int (-100)), (2, .int (0)), (0, .ref (q 0)), (1, .int w0)]) hx hb dX5_fits_4 rfl hl (by decide) rfl (fun ls hl => ?_)
  have KL1 : ∀ (ls : Array Slot), lv_has ls 4 [(2, .int (s_X5_fits_L1 N V A w0 301 0 (0 : Int32))), (0, .ref (q 0)), (1, .int w0)] → W p l e (headSpec wsX5_fits ({ frames := 2, cells := 0, slots := 0, locals := 45 })).room s m ([.ref (q 0), .int w0] : List Value).toArray below meth c s.heap [] 0 0 (MQ below (vp_Si (fun r => r = (s_X5_fits N V A w0))) ([.ref (q 0), .int w0] : List Value).toArray s 0 0 (fun _ => False)) (F0 m 28 ls []) := by
    intro ls hl
    refine lv_iload_n hx hb dX5_fits_28 rfl (lv_at hl 2 rfl) ?_
    by_cases c_1 : w0 = (0)
    · refine lv_tableIn (off := 27) (tgt := 56) hx hb dX5_fits_29 (by rw [c_1]; decide) (by rw [c_1]; decide) (by rw [c_1]; rfl) (by decide) ?_
      refine lv_iload_n hx hb dX5_fits_56 rfl (lv_at hl 0 rfl) ?_
      refine lv_aload_n hx hb dX5_fits_57 rfl (lv_at hl 1 rfl) ?_
      refine va_get (D := D) (ci := 5) (v := .ref (q 1)) (C := RX5) (T := TX5) (N := 22) hx hb hts hin5 hown hK hP 0 rfl rfl 1 (by decide) (hts (.fieldLink RX5 7 "NeckShipModel" "rules" "[I") (by decide +kernel)) (fun _ h9 => h9) rfl dX5_fits_58 ?_
      refine lv_iconst (v := (4)) hx hb dX5_fits_61 (by decide) ?_
      refine va_ialdN (i := 4) hx hb hK hP 1 0 rfl rfl (by decide) (by omega) dX5_fits_62 ?_
      refine lv_icmp_gt (tgt := 85) hx hb dX5_fits_63 (by decide) (fun c_2 => ?_) (fun c_2 => ?_)
      · refine lv_iconst (v := (0)) hx hb dX5_fits_85 (by decide) ?_
        exact W.iret (v := (0 : Int32)) hx hb hr (fun t ht hW => ⟨_, rfl, (by rw [s_X5_fits, if_pos c_1, if_pos c_2]), ht⟩) (fun _ h => by cases h) dX5_fits_86
      · refine lv_aload_n hx hb dX5_fits_66 rfl (lv_at hl 1 rfl) ?_
        refine va_get (D := D) (ci := 5) (v := .ref (q 1)) (C := RX5) (T := TX5) (N := 22) hx hb hts hin5 hown hK hP 0 rfl rfl 1 (by decide) (hts (.fieldLink RX5 7 "NeckShipModel" "rules" "[I") (by decide +kernel)) (fun _ h9 => h9) rfl dX5_fits_67 ?_
        refine lv_iconst (v := (1)) hx hb dX5_fits_70 (by decide) ?_
        refine va_ialdN (i := 1) hx hb hK hP 1 0 rfl rfl (by decide) (by omega) dX5_fits_71 ?_
        refine lv_aload_n hx hb dX5_fits_72 rfl (lv_at hl 1 rfl) ?_
        refine va_get (D := D) (ci := 5) (v := .ref (q 1)) (C := RX5) (T := TX5) (N := 22) hx hb hts hin5 hown hK hP 0 rfl rfl 1 (by decide) (hts (.fieldLink RX5 7 "NeckShipModel" "rules" "[I") (by decide +kernel)) (fun _ h9 => h9) rfl dX5_fits_73 ?_
        refine lv_iconst (v := (3)) hx hb dX5_fits_76 (by decide) ?_
        refine va_ialdN (i := 3) hx hb hK hP 1 0 rfl rfl (by decide) (by omega) dX5_fits_77 ?_
        refine lv_icmp_gt (tgt := 85) hx hb dX5_fits_78 (by decide) (fun c_3 => ?_) (fun c_3 => ?_)
        · refine lv_iconst (v := (0)) hx hb dX5_fits_85 (by decide) ?_
          exact W.iret (v := (0 : Int32)) hx hb hr (fun t ht hW => ⟨_, rfl, (by rw [s_X5_fits, if_pos c_1, if_neg c_2, if_pos c_3]), ht⟩) (fun _ h => by cases h) dX5_fits_86
        · refine lv_iconst (v := (1)) hx hb dX5_fits_81 (by decide) ?_
          refine lv_goto (tgt := 86) hx hb dX5_fits_82 (by decide) ?_
          exact W.iret (v := (1 : Int32)) hx hb hr (fun t ht hW => ⟨_, rfl, (by rw [s_X5_fits, if_pos c_1, if_neg c_2, if_neg c_3]), ht⟩) (fun _ h => by cases h) dX5_fits_86
    · by_cases c_4 : w0 = (1)
      · refine lv_tableIn (off := 58) (tgt := 87) hx hb dX5_fits_29 (by rw [c_4]; decide) (by rw [c_4]; decide) (by rw [c_4]; rfl) (by decide) ?_
        refine lv_iload_n hx hb dX5_fits_87 rfl (lv_at hl 0 rfl) ?_
        exact W.iret (v := (s_X5_fits_L1 N V A w0 301 0 (0 : Int32))) hx hb hr (fun t ht hW => ⟨_, rfl, (by rw [s_X5_fits, if_neg c_1, if_pos c_4]), ht⟩) (fun _ h => by cases h) dX5_fits_88
      · by_cases c_5 : w0 = (2)
        · refine lv_tableIn (off := 60) (tgt := 89) hx hb dX5_fits_29 (by rw [c_5]; decide) (by rw [c_5]; decide) (by rw [c_5]; rfl) (by decide) ?_
          refine lv_aload_n hx hb dX5_fits_89 rfl (lv_at hl 1 rfl) ?_
          refine va_get (D := D) (ci := 5) (v := .ref (q 1)) (C := RX5) (T := TX5) (N := 22) hx hb hts hin5 hown hK hP 0 rfl rfl 1 (by decide) (hts (.fieldLink RX5 7 "NeckShipModel" "rules" "[I") (by decide +kernel)) (fun _ h9 => h9) rfl dX5_fits_90 ?_
          refine lv_iconst (v := (1)) hx hb dX5_fits_93 (by decide) ?_
          refine va_ialdN (i := 1) hx hb hK hP 1 0 rfl rfl (by decide) (by omega) dX5_fits_94 ?_
          refine lv_aload_n hx hb dX5_fits_95 rfl (lv_at hl 1 rfl) ?_
          refine va_get (D := D) (ci := 5) (v := .ref (q 1)) (C := RX5) (T := TX5) (N := 22) hx hb hts hin5 hown hK hP 0 rfl rfl 1 (by decide) (hts (.fieldLink RX5 7 "NeckShipModel" "rules" "[I") (by decide +kernel)) (fun _ h9 => h9) rfl dX5_fits_96 ?_
          refine lv_iconst (v := (3)) hx hb dX5_fits_99 (by decide) ?_
          refine va_ialdN (i := 3) hx hb hK hP 1 0 rfl rfl (by decide) (by omega) dX5_fits_100 ?_
          refine lv_iadd hx hb dX5_fits_101 ?_
          refine lv_iconst (v := (1)) hx hb dX5_fits_102 (by decide) ?_
          refine lv_isub hx hb dX5_fits_103 ?_
          refine lv_aload_n hx hb dX5_fits_104 rfl (lv_at hl 1 rfl) ?_
          refine va_get (D := D) (ci := 5) (v := .ref (q 1)) (C := RX5) (T := TX5) (N := 22) hx hb hts hin5 hown hK hP 0 rfl rfl 1 (by decide) (hts (.fieldLink RX5 7 "NeckShipModel" "rules" "[I") (by decide +kernel)) (fun _ h9 => h9) rfl dX5_fits_105 ?_
          refine lv_iconst (v := (3)) hx hb dX5_fits_108 (by decide) ?_
          refine va_ialdN (i := 3) hx hb hK hP 1 0 rfl rfl (by decide) (by omega) dX5_fits_109 ?_
          refine lv_idiv hx hb dX5_fits_110 h_2 ?_
          exact W.iret (v := (((A 1 1 + A 1 3) - (1 : Int32)) / A 1 3)) hx hb hr (fun t ht hW => ⟨_, rfl, (by rw [s_X5_fits, if_neg c_1, if_neg c_4, if_pos c_5]), ht⟩) (fun _ h => by cases h) dX5_fits_111
        · refine lv_tableOut (tgt := 112) hx hb dX5_fits_29 (tsw_out w0 (by decide) [0, 1, 2] rfl (by simp only [List.forall_mem_cons]; exact ⟨c_1, c_4, c_5, fun _ h => absurd h List.not_mem_nil⟩)) (by decide) ?_
          refine lv_bipush (v := (-2)) hx hb dX5_fits_112 (by decide) ?_
          exact W.iret (v := (-2 : Int32)) hx hb hr (fun t ht hW => ⟨_, rfl, (by rw [s_X5_fits, if_neg c_1, if_neg c_4, if_neg c_5]), ht⟩) (fun _ h => by cases h) dX5_fits_114
  have LL1 : ∀ (n k : Nat) (a : Int32) (ls : Array Slot), k + n = 301 → s_X5_fits_L1 N V A w0 301 0 (0 : Int32) = s_X5_fits_L1 N V A w0 n k a → lv_has ls 4 [(3, .int (nI k - 100)), (2, .int a), (0, .ref (q 0)), (1, .int w0)] → W p l e (headSpec wsX5_fits ({ frames := 2, cells := 0, slots := 0, locals := 45 })).room s m ([.ref (q 0), .int w0] : List Value).toArray below meth c s.heap [] 0 0 (MQ below (vp_Si (fun r => r = (s_X5_fits N V A w0))) ([.ref (q 0), .int w0] : List Value).toArray s 0 0 (fun _ => False)) (F0 m 5 ls []) := by
    intro n
    induction n with
    | zero =>
      intro k a ls hk hF hl
      refine lv_iload_n hx hb dX5_fits_5 rfl (lv_at hl 0 rfl) ?_
      refine lv_sipush (v := (200)) hx hb dX5_fits_6 (by decide) ?_
      refine lv_icmp_gt (tgt := 28) hx hb dX5_fits_9 (by decide) (fun _ => ?_) (fun c_6 => absurd (fit_gt (by omega)) c_6)
      have hF : s_X5_fits_L1 N V A w0 301 0 (0 : Int32) = a := hF.trans (by rw [s_X5_fits_L1])
      exact KL1 _ (by (try rw [hF]); exact lv_sub hl [1, 2, 3] rfl)
    | succ n ih =>
      intro k a ls hk hF hl
      refine lv_iload_n hx hb dX5_fits_5 rfl (lv_at hl 0 rfl) ?_
      refine lv_sipush (v := (200)) hx hb dX5_fits_6 (by decide) ?_
      refine lv_icmp_gt (tgt := 28) hx hb dX5_fits_9 (by decide) (fun c_7 => absurd c_7 (fit_ngt (by omega))) (fun _ => ?_)
      refine lv_iload_n hx hb dX5_fits_12 rfl (lv_at hl 1 rfl) ?_
      refine lv_aload_n hx hb dX5_fits_13 rfl (lv_at hl 2 rfl) ?_
      refine lv_iload_n hx hb dX5_fits_14 rfl (lv_at hl 0 rfl) ?_
      refine vp_callSi (W.runV (As := [.int (nI k - 100)]) (rest := [.int a]) ⟨hx, hb, hml, hown, hts⟩ (c_X5_stackAt l D cI cZ cS q N V A (nI k - 100) (by omega)) (cwV 1 hts gX5_fits_X5_stackAt rfl rfl rfl (by decide +kernel) ⟨Nat.le_of_ble_eq_true rfl, Nat.le_of_ble_eq_true rfl⟩) (preM hK hP) rfl rfl hl.1 rfl (lv_room (Nat.le_of_ble_eq_true rfl)) dX5_fits_15 ⟨Nat.zero_le _, Nat.zero_le _⟩) (fun r_8 er_8 => ?_)
      subst er_8
      refine vp_callSi (W.runS (As := [.int a, .int (s_X5_stackAt N V A (nI k - 100))]) (rest := []) ⟨hx, hb, hml, hown, hts⟩ (c_X5_greater l a (s_X5_stackAt N V A (nI k - 100))) (cwS 2 hts gX5_fits_X5_greater rfl rfl rfl (by decide +kernel) ⟨Nat.le_of_ble_eq_true rfl, Nat.le_of_ble_eq_true rfl⟩) (preEq) rfl rfl hl.1 rfl (lv_room (Nat.le_of_ble_eq_true rfl)) dX5_fits_18 ⟨Nat.zero_le _, Nat.zero_le _⟩) (fun r_9 er_9 => ?_)
      subst er_9
      refine lv_istore_n (lv' := [(2, .int (s_X5_greater a (s_X5_stackAt N V A (nI k - 100)))), (3, .int (nI k - 100)), (0, .ref (q 0)), (1, .int w0)]) hx hb dX5_fits_21 rfl hl (by decide) rfl (fun ls hl => ?_)
      refine lv_iinc (v := (nI (k + 1) - 100)) (lv' := [(3, .int (nI (k + 1) - 100)), (2, .int (s_X5_greater a (s_X5_stackAt N V A (nI k - 100)))), (0, .ref (q 0)), (1, .int w0)]) hx hb dX5_fits_22 hl (k := 1) rfl (fit_inc k) (by decide) rfl (fun ls hl => ?_)
      refine lv_goto (tgt := 5) hx hb dX5_fits_25 (by decide) ?_
      exact ih (k + 1) (s_X5_greater a (s_X5_stackAt N V A (nI k - 100))) _ (by omega) (hF.trans (by rw [s_X5_fits_L1])) (lv_sub hl [0, 1, 2, 3] rfl)
  exact LL1 301 0 (0 : Int32) _ (by omega) rfl (lv_sub hl [0, 1, 2, 3] rfl)
def s_X5_told_L1 (N : Nat → Nat) (V : Nat → Int32) (A : Nat → Nat → Int32) (w0 : Int32) : Nat → Nat → Int32 → Int32
  | 0, k, a =>
    a
  | n + 1, k, a =>
    if (s_X5_isUp N V A (nI (N 2)) (nI k)) = true then
      if (s_X5_raisers N V A k) ≤ 0 then
        s_X5_told_L1 N V A w0 n (k + 1) (a + (0 : Int32))
      else
        s_X5_told_L1 N V A w0 n (k + 1) (a + (1 : Int32))
    else
      s_X5_told_L1 N V A w0 n (k + 1) (a + (0 : Int32))
def s_X5_told_L2 (N : Nat → Nat) (V : Nat → Int32) (A : Nat → Nat → Int32) (w0 : Int32) : Nat → Nat → Int32 → Int32 → Int32 × Int32
  | 0, k, b, d =>
    (b, d)
  | n + 1, k, b, d =>
    if (bz (A 10 k)) = true then
      if (bz (A 10 k)) = true then
        s_X5_told_L2 N V A w0 n (k + 1) (b + (0 : Int32)) (d + (0 : Int32))
      else
        s_X5_told_L2 N V A w0 n (k + 1) (b + (0 : Int32)) (d + (s_X5_crossers N V A k))
    else
      if (bz (A 10 k)) = true then
        s_X5_told_L2 N V A w0 n (k + 1) (b + (1 : Int32)) (d + (0 : Int32))
      else
        s_X5_told_L2 N V A w0 n (k + 1) (b + (1 : Int32)) (d + (s_X5_crossers N V A k))
def s_X5_told (N : Nat → Nat) (V : Nat → Int32) (A : Nat → Nat → Int32)  (w0 : Int32) : Int32 :=
  if w0 = (0) then
    nI (N 0)
  else
    if w0 = (1) then
      nI (N 1)
    else
      if w0 = (2) then
        (s_X5_count (nI (N 2)))
      else
        if w0 = (3) then
          (s_X5_told_L1 N V A w0 (N 0) 0 (0 : Int32))
        else
          if w0 = (4) then
            (s_X5_told_L2 N V A w0 (N 1) 0 (0 : Int32) (0 : Int32)).1
          else
            if w0 = (5) then
              ((s_X5_told_L2 N V A w0 (N 1) 0 (0 : Int32) (0 : Int32)).2 / (2 : Int32))
            else
              (-2 : Int32)
set_option maxHeartbeats 4000000 in
set_option maxRecDepth 100000 in
theorem c_X5_told (l : Launch) (D : va_G) (cI cZ cS : ClassId) (q : Nat → Nat) (N : Nat → Nat) (V : Nat → Int32) (A : Nat → Nat → Int32) (w0 : Int32) (h_1 : okM N A) : Met l yX5_told wsX5_told ({ frames := 3, cells := 0, slots := 0, locals := 73 }) (va_Pc [.ref (q 0), .int w0] (PM D cI cZ cS q N V A)) (vp_Si (fun r => r = (s_X5_told N V A w0))) 0 0 (fun _ => False) := by
  refine Met.ofW (cc := cX5_told) (maxL := 6) (ret := (some .int)) (by decide) rfl ?_
  intro p e s m args below meth c s₁ B hml hv
  obtain ⟨rfl, hP, hK⟩ := hv
  have hx := B.exec
  have hb := B.bytes
  have hr := B.returns
  have hts := atoms_spec (ws := wsX5_told) B.pre
  have hown : s.vm.findClass RX5 = some m.cls := findClass_of_methodNamed B.named
  have hlocks := B.notSynchronized
  have hin5 : ∀ w ∈ u_ws RX5 TX5 22, w ∈ wsX5_told := by decide +kernel
  obtain ⟨o1, o2, o3, o4, o5, o6, o7⟩ := id h_1
  have hl := lv_entry ([.ref (q 0), .int w0]) (n := 6) (Nat.le_of_ble_eq_true rfl)
  rw [lg_entry_eq]
  generalize (lg_sl ([.ref (q 0), .int w0]) ++ List.replicate (6 - (lg_sl ([.ref (q 0), .int w0])).length) Slot.unset).toArray = ls at hl ⊢
  have hl : lv_has ls 6 [(0, .ref (q 0)), (1, .int w0)] := hl
  refine lv_iconst (v := (0)) hx hb dX5_told_0 (by decide) ?_
  refine lv_istore_n (lv' := [(2, .int (0)), (0, .ref (q 0)), (1, .int w0)]) hx hb dX5_told_1 rfl hl (by decide) rfl (fun ls hl => ?_)
  refine lv_iconst (v := (0)) hx hb dX5_told_2 (by decide) ?_
  refine lv_istore_n (lv' := [(3, .int (0)), (2, .int (0)), (0, .ref (q 0)), (1, .int w0)]) hx hb dX5_told_3 rfl hl (by decide) rfl (fun ls hl => ?_)
  refine lv_iconst (v := (0)) hx hb dX5_told_4 (by decide) ?_
  refine lv_istore (lv' := [(4, .int (0)), (3, .int (0)), (2, .int (0)), (0, .ref (q 0)), (1, .int w0)]) hx hb dX5_told_5 hl (by decide) rfl (fun ls hl => ?_)
  refine lv_iconst (v := (0)) hx hb dX5_told_7 (by decide) ?_
  refine lv_istore (lv' := [(5, .int (0)), (4, .int (0)), (3, .int (0)), (2, .int (0)), (0, .ref (q 0)), (1, .int w0)]) hx hb dX5_told_8 hl (by decide) rfl (fun ls hl => ?_)
  have KL1 : ∀ (ls : Array Slot), lv_has ls 6 [(4, .int (0)), (3, .int (0)), (2, .int (s_X5_told_L1 N V A w0 (N 0) 0 (0 : Int32))), (0, .ref (q 0)), (1, .int w0)] → W p l e (headSpec wsX5_told ({ frames := 3, cells := 0, slots := 0, locals := 73 })).room s m ([.ref (q 0), .int w0] : List Value).toArray below meth c s.heap [] 0 0 (MQ below (vp_Si (fun r => r = (s_X5_told N V A w0))) ([.ref (q 0), .int w0] : List Value).toArray s 0 0 (fun _ => False)) (F0 m 55 ls []) := by
    intro ls hl
    refine lv_iconst (v := (0)) hx hb dX5_told_55 (by decide) ?_
    refine lv_istore (lv' := [(5, .int (0)), (4, .int (0)), (3, .int (0)), (2, .int (s_X5_told_L1 N V A w0 (N 0) 0 (0 : Int32))), (0, .ref (q 0)), (1, .int w0)]) hx hb dX5_told_56 hl (by decide) rfl (fun ls hl => ?_)
    have KL2 : ∀ (ls : Array Slot), lv_has ls 6 [(4, .int ((s_X5_told_L2 N V A w0 (N 1) 0 (0 : Int32) (0 : Int32)).2)), (3, .int ((s_X5_told_L2 N V A w0 (N 1) 0 (0 : Int32) (0 : Int32)).1)), (2, .int (s_X5_told_L1 N V A w0 (N 0) 0 (0 : Int32))), (0, .ref (q 0)), (1, .int w0)] → W p l e (headSpec wsX5_told ({ frames := 3, cells := 0, slots := 0, locals := 73 })).room s m ([.ref (q 0), .int w0] : List Value).toArray below meth c s.heap [] 0 0 (MQ below (vp_Si (fun r => r = (s_X5_told N V A w0))) ([.ref (q 0), .int w0] : List Value).toArray s 0 0 (fun _ => False)) (F0 m 116 ls []) := by
      intro ls hl
      refine lv_iload_n hx hb dX5_told_116 rfl (lv_at hl 4 rfl) ?_
      by_cases c_1 : w0 = (0)
      · refine lv_tableIn (off := 39) (tgt := 156) hx hb dX5_told_117 (by rw [c_1]; decide) (by rw [c_1]; decide) (by rw [c_1]; rfl) (by decide) ?_
        refine lv_aload_n hx hb dX5_told_156 rfl (lv_at hl 3 rfl) ?_
        refine va_get (D := D) (ci := 5) (v := .int (nI (N 0))) (C := RX5) (T := TX5) (N := 22) hx hb hts hin5 hown hK hP 0 rfl rfl 2 (by decide) (hts (.fieldLink RX5 72 "NeckShipModel" "spars" "I") (by decide +kernel)) (fun _ h9 => h9) rfl dX5_told_157 ?_
        exact W.iret (v := nI (N 0)) hx hb hr (fun t ht hW => ⟨_, rfl, (by rw [s_X5_told, if_pos c_1]), ht⟩) (fun _ h => by cases h) dX5_told_160
      · by_cases c_2 : w0 = (1)
        · refine lv_tableIn (off := 44) (tgt := 161) hx hb dX5_told_117 (by rw [c_2]; decide) (by rw [c_2]; decide) (by rw [c_2]; rfl) (by decide) ?_
          refine lv_aload_n hx hb dX5_told_161 rfl (lv_at hl 3 rfl) ?_
          refine va_get (D := D) (ci := 5) (v := .int (nI (N 1))) (C := RX5) (T := TX5) (N := 22) hx hb hts hin5 hown hK hP 0 rfl rfl 9 (by decide) (hts (.fieldLink RX5 79 "NeckShipModel" "threads" "I") (by decide +kernel)) (fun _ h9 => h9) rfl dX5_told_162 ?_
          exact W.iret (v := nI (N 1)) hx hb hr (fun t ht hW => ⟨_, rfl, (by rw [s_X5_told, if_neg c_1, if_pos c_2]), ht⟩) (fun _ h => by cases h) dX5_told_165
        · by_cases c_3 : w0 = (2)
          · refine lv_tableIn (off := 49) (tgt := 166) hx hb dX5_told_117 (by rw [c_3]; decide) (by rw [c_3]; decide) (by rw [c_3]; rfl) (by decide) ?_
            refine lv_aload_n hx hb dX5_told_166 rfl (lv_at hl 3 rfl) ?_
            refine va_get (D := D) (ci := 5) (v := .int (nI (N 2))) (C := RX5) (T := TX5) (N := 22) hx hb hts hin5 hown hK hP 0 rfl rfl 8 (by decide) (hts (.fieldLink RX5 125 "NeckShipModel" "up" "I") (by decide +kernel)) (fun _ h9 => h9) rfl dX5_told_167 ?_
            refine vp_callSi (W.runS (As := [.int (nI (N 2))]) (rest := []) ⟨hx, hb, hml, hown, hts⟩ (c_X5_count l (nI (N 2))) (cwS 1 hts gX5_told_X5_count rfl rfl rfl (by decide +kernel) ⟨Nat.le_of_ble_eq_true rfl, Nat.le_of_ble_eq_true rfl⟩) (preEq) rfl rfl hl.1 rfl (lv_room (Nat.le_of_ble_eq_true rfl)) dX5_told_170 ⟨Nat.zero_le _, Nat.zero_le _⟩) (fun r_4 er_4 => ?_)
            subst er_4
            exact W.iret (v := (s_X5_count (nI (N 2)))) hx hb hr (fun t ht hW => ⟨_, rfl, (by rw [s_X5_told, if_neg c_1, if_neg c_2, if_pos c_3]), ht⟩) (fun _ h => by cases h) dX5_told_173
          · by_cases c_5 : w0 = (3)
            · refine lv_tableIn (off := 57) (tgt := 174) hx hb dX5_told_117 (by rw [c_5]; decide) (by rw [c_5]; decide) (by rw [c_5]; rfl) (by decide) ?_
              refine lv_iload_n hx hb dX5_told_174 rfl (lv_at hl 2 rfl) ?_
              exact W.iret (v := (s_X5_told_L1 N V A w0 (N 0) 0 (0 : Int32))) hx hb hr (fun t ht hW => ⟨_, rfl, (by rw [s_X5_told, if_neg c_1, if_neg c_2, if_neg c_3, if_pos c_5]), ht⟩) (fun _ h => by cases h) dX5_told_175
            · by_cases c_6 : w0 = (4)
              · refine lv_tableIn (off := 59) (tgt := 176) hx hb dX5_told_117 (by rw [c_6]; decide) (by rw [c_6]; decide) (by rw [c_6]; rfl) (by decide) ?_
                refine lv_iload_n hx hb dX5_told_176 rfl (lv_at hl 1 rfl) ?_
                exact W.iret (v := (s_X5_told_L2 N V A w0 (N 1) 0 (0 : Int32) (0 : Int32)).1) hx hb hr (fun t ht hW => ⟨_, rfl, (by rw [s_X5_told, if_neg c_1, if_neg c_2, if_neg c_3, if_neg c_5, if_pos c_6]), ht⟩) (fun _ h => by cases h) dX5_told_177
              · by_cases c_7 : w0 = (5)
                · refine lv_tableIn (off := 61) (tgt := 178) hx hb dX5_told_117 (by rw [c_7]; decide) (by rw [c_7]; decide) (by rw [c_7]; rfl) (by decide) ?_
                  refine lv_iload hx hb dX5_told_178 (lv_at hl 0 rfl) ?_
                  refine lv_iconst (v := (2)) hx hb dX5_told_180 (by decide) ?_
                  refine lv_idiv hx hb dX5_told_181 (by decide) ?_
                  exact W.iret (v := ((s_X5_told_L2 N V A w0 (N 1) 0 (0 : Int32) (0 : Int32)).2 / (2 : Int32))) hx hb hr (fun t ht hW => ⟨_, rfl, (by rw [s_X5_told, if_neg c_1, if_neg c_2, if_neg c_3, if_neg c_5, if_neg c_6, if_pos c_7]), ht⟩) (fun _ h => by cases h) dX5_told_182
                · refine lv_tableOut (tgt := 183) hx hb dX5_told_117 (tsw_out w0 (by decide) [0, 1, 2, 3, 4, 5] rfl (by simp only [List.forall_mem_cons]; exact ⟨c_1, c_2, c_3, c_5, c_6, c_7, fun _ h => absurd h List.not_mem_nil⟩)) (by decide) ?_
                  refine lv_bipush (v := (-2)) hx hb dX5_told_183 (by decide) ?_
                  exact W.iret (v := (-2 : Int32)) hx hb hr (fun t ht hW => ⟨_, rfl, (by rw [s_X5_told, if_neg c_1, if_neg c_2, if_neg c_3, if_neg c_5, if_neg c_6, if_neg c_7]), ht⟩) (fun _ h => by cases h) dX5_told_185
    have LL2 : ∀ (n k : Nat) (b : Int32) (d : Int32) (ls : Array Slot), k + n = N 1 → s_X5_told_L2 N V A w0 (N 1) 0 (0 : Int32) (0 : Int32) = s_X5_told_L2 N V A w0 n k b d → lv_has ls 6 [(5, .int (nI k)), (4, .int d), (3, .int b), (2, .int (s_X5_told_L1 N V A w0 (N 0) 0 (0 : Int32))), (0, .ref (q 0)), (1, .int w0)] → W p l e (headSpec wsX5_told ({ frames := 3, cells := 0, slots := 0, locals := 73 })).room s m ([.ref (q 0), .int w0] : List Value).toArray below meth c s.heap [] 0 0 (MQ below (vp_Si (fun r => r = (s_X5_told N V A w0))) ([.ref (q 0), .int w0] : List Value).toArray s 0 0 (fun _ => False)) (F0 m 58 ls []) := by
      intro n
      induction n with
      | zero =>
        intro k b d ls hk hF hl
        refine lv_iload hx hb dX5_told_58 (lv_at hl 0 rfl) ?_
        refine lv_aload_n hx hb dX5_told_60 rfl (lv_at hl 4 rfl) ?_
        refine va_get (D := D) (ci := 5) (v := .int (nI (N 1))) (C := RX5) (T := TX5) (N := 22) hx hb hts hin5 hown hK hP 0 rfl rfl 9 (by decide) (hts (.fieldLink RX5 79 "NeckShipModel" "threads" "I") (by decide +kernel)) (fun _ h9 => h9) rfl dX5_told_61 ?_
        refine lv_icmp_ge (tgt := 116) hx hb dX5_told_64 (by decide) (fun _ => ?_) (fun c_8 => absurd (nI_le (by omega) (by omega)) c_8)
        have hF : s_X5_told_L2 N V A w0 (N 1) 0 (0 : Int32) (0 : Int32) = (b, d) := hF.trans (by rw [s_X5_told_L2])
        have hF0 := congrArg (fun z => z.1) hF
        have hF1 := congrArg (fun z => z.2) hF
        dsimp only at hF0 hF1
        exact KL2 _ (by (try rw [hF0]); (try rw [hF1]); exact lv_sub hl [1, 2, 3, 4, 5] rfl)
      | succ n ih =>
        intro k b d ls hk hF hl
        refine lv_iload hx hb dX5_told_58 (lv_at hl 0 rfl) ?_
        refine lv_aload_n hx hb dX5_told_60 rfl (lv_at hl 4 rfl) ?_
        refine va_get (D := D) (ci := 5) (v := .int (nI (N 1))) (C := RX5) (T := TX5) (N := 22) hx hb hts hin5 hown hK hP 0 rfl rfl 9 (by decide) (hts (.fieldLink RX5 79 "NeckShipModel" "threads" "I") (by decide +kernel)) (fun _ h9 => h9) rfl dX5_told_61 ?_
        refine lv_icmp_ge (tgt := 116) hx hb dX5_told_64 (by decide) (fun c_9 => absurd c_9 (nI_ge (by omega) (by omega))) (fun _ => ?_)
        refine lv_iload_n hx hb dX5_told_67 rfl (lv_at hl 2 rfl) ?_
        refine lv_aload_n hx hb dX5_told_68 rfl (lv_at hl 4 rfl) ?_
        refine va_get (D := D) (ci := 5) (v := .ref (q 10)) (C := RX5) (T := TX5) (N := 22) hx hb hts hin5 hown hK hP 0 rfl rfl 13 (by decide) (hts (.fieldLink RX5 37 "NeckShipModel" "isCut" "[Z") (by decide +kernel)) (fun _ h9 => h9) rfl dX5_told_69 ?_
        refine lv_iload hx hb dX5_told_72 (lv_at hl 0 rfl) ?_
        refine va_zaldB (i := k) (x := bz (A 10 k)) hx hb hK hP 10 1 rfl rfl (o5 _) (by decide) (by omega) dX5_told_74 ?_
        refine lz_if_eq (tgt := 82) hx hb dX5_told_75 (by decide) (fun c_10 => ?_) (fun c_10 => ?_)
        · refine lv_iconst (v := (1)) hx hb dX5_told_82 (by decide) ?_
          refine lv_iadd hx hb dX5_told_83 ?_
          refine lv_istore_n (lv' := [(3, .int (b + (1 : Int32))), (5, .int (nI k)), (4, .int d), (2, .int (s_X5_told_L1 N V A w0 (N 0) 0 (0 : Int32))), (0, .ref (q 0)), (1, .int w0)]) hx hb dX5_told_84 rfl hl (by decide) rfl (fun ls hl => ?_)
          refine lv_iload hx hb dX5_told_85 (lv_at hl 2 rfl) ?_
          refine lv_aload_n hx hb dX5_told_87 rfl (lv_at hl 4 rfl) ?_
          refine va_get (D := D) (ci := 5) (v := .ref (q 10)) (C := RX5) (T := TX5) (N := 22) hx hb hts hin5 hown hK hP 0 rfl rfl 13 (by decide) (hts (.fieldLink RX5 37 "NeckShipModel" "isCut" "[Z") (by decide +kernel)) (fun _ h9 => h9) rfl dX5_told_88 ?_
          refine lv_iload hx hb dX5_told_91 (lv_at hl 1 rfl) ?_
          refine va_zaldB (i := k) (x := bz (A 10 k)) hx hb hK hP 10 1 rfl rfl (o5 _) (by decide) (by omega) dX5_told_93 ?_
          refine lz_if_eq (tgt := 101) hx hb dX5_told_94 (by decide) (fun c_11 => ?_) (fun c_11 => ?_)
          · refine lv_aload_n hx hb dX5_told_101 rfl (lv_at hl 4 rfl) ?_
            refine lv_iload hx hb dX5_told_102 (lv_at hl 1 rfl) ?_
            refine vp_callSi (W.runV (As := [.int (nI k)]) (rest := [.int d]) ⟨hx, hb, hml, hown, hts⟩ (c_X5_crossers l D cI cZ cS q N V A k h_1 (by omega)) (cwV 1 hts gX5_told_X5_crossers rfl rfl rfl (by decide +kernel) ⟨Nat.le_of_ble_eq_true rfl, Nat.le_of_ble_eq_true rfl⟩) (preM hK hP) rfl rfl hl.1 rfl (lv_room (Nat.le_of_ble_eq_true rfl)) dX5_told_104 ⟨Nat.zero_le _, Nat.zero_le _⟩) (fun r_12 er_12 => ?_)
            subst er_12
            refine lv_iadd hx hb dX5_told_107 ?_
            refine lv_istore (lv' := [(4, .int (d + (s_X5_crossers N V A k))), (3, .int (b + (1 : Int32))), (5, .int (nI k)), (2, .int (s_X5_told_L1 N V A w0 (N 0) 0 (0 : Int32))), (0, .ref (q 0)), (1, .int w0)]) hx hb dX5_told_108 hl (by decide) rfl (fun ls hl => ?_)
            refine lv_iinc (v := nI (k + 1)) (lv' := [(5, .int (nI (k + 1))), (4, .int (d + (s_X5_crossers N V A k))), (3, .int (b + (1 : Int32))), (2, .int (s_X5_told_L1 N V A w0 (N 0) 0 (0 : Int32))), (0, .ref (q 0)), (1, .int w0)]) hx hb dX5_told_110 hl (k := 2) rfl (nI_1 k) (by decide) rfl (fun ls hl => ?_)
            refine lv_goto (tgt := 58) hx hb dX5_told_113 (by decide) ?_
            exact ih (k + 1) (b + (1 : Int32)) (d + (s_X5_crossers N V A k)) _ (by omega) (hF.trans (by rw [s_X5_told_L2, if_neg (nb c_10), if_neg (nb c_11)])) (lv_sub hl [0, 1, 2, 3, 4, 5] rfl)
          · refine lv_iconst (v := (0)) hx hb dX5_told_97 (by decide) ?_
            refine lv_goto (tgt := 107) hx hb dX5_told_98 (by decide) ?_
            refine lv_iadd hx hb dX5_told_107 ?_
            refine lv_istore (lv' := [(4, .int (d + (0 : Int32))), (3, .int (b + (1 : Int32))), (5, .int (nI k)), (2, .int (s_X5_told_L1 N V A w0 (N 0) 0 (0 : Int32))), (0, .ref (q 0)), (1, .int w0)]) hx hb dX5_told_108 hl (by decide) rfl (fun ls hl => ?_)
            refine lv_iinc (v := nI (k + 1)) (lv' := [(5, .int (nI (k + 1))), (4, .int (d + (0 : Int32))), (3, .int (b + (1 : Int32))), (2, .int (s_X5_told_L1 N V A w0 (N 0) 0 (0 : Int32))), (0, .ref (q 0)), (1, .int w0)]) hx hb dX5_told_110 hl (k := 2) rfl (nI_1 k) (by decide) rfl (fun ls hl => ?_)
            refine lv_goto (tgt := 58) hx hb dX5_told_113 (by decide) ?_
            exact ih (k + 1) (b + (1 : Int32)) (d + (0 : Int32)) _ (by omega) (hF.trans (by rw [s_X5_told_L2, if_neg (nb c_10), if_pos c_11])) (lv_sub hl [0, 1, 2, 3, 4, 5] rfl)
        · refine lv_iconst (v := (0)) hx hb dX5_told_78 (by decide) ?_
          refine lv_goto (tgt := 83) hx hb dX5_told_79 (by decide) ?_
          refine lv_iadd hx hb dX5_told_83 ?_
          refine lv_istore_n (lv' := [(3, .int (b + (0 : Int32))), (5, .int (nI k)), (4, .int d), (2, .int (s_X5_told_L1 N V A w0 (N 0) 0 (0 : Int32))), (0, .ref (q 0)), (1, .int w0)]) hx hb dX5_told_84 rfl hl (by decide) rfl (fun ls hl => ?_)
          refine lv_iload hx hb dX5_told_85 (lv_at hl 2 rfl) ?_
          refine lv_aload_n hx hb dX5_told_87 rfl (lv_at hl 4 rfl) ?_
          refine va_get (D := D) (ci := 5) (v := .ref (q 10)) (C := RX5) (T := TX5) (N := 22) hx hb hts hin5 hown hK hP 0 rfl rfl 13 (by decide) (hts (.fieldLink RX5 37 "NeckShipModel" "isCut" "[Z") (by decide +kernel)) (fun _ h9 => h9) rfl dX5_told_88 ?_
          refine lv_iload hx hb dX5_told_91 (lv_at hl 1 rfl) ?_
          refine va_zaldB (i := k) (x := bz (A 10 k)) hx hb hK hP 10 1 rfl rfl (o5 _) (by decide) (by omega) dX5_told_93 ?_
          refine lz_if_eq (tgt := 101) hx hb dX5_told_94 (by decide) (fun c_13 => ?_) (fun c_13 => ?_)
          · refine lv_aload_n hx hb dX5_told_101 rfl (lv_at hl 4 rfl) ?_
            refine lv_iload hx hb dX5_told_102 (lv_at hl 1 rfl) ?_
            refine vp_callSi (W.runV (As := [.int (nI k)]) (rest := [.int d]) ⟨hx, hb, hml, hown, hts⟩ (c_X5_crossers l D cI cZ cS q N V A k h_1 (by omega)) (cwV 1 hts gX5_told_X5_crossers rfl rfl rfl (by decide +kernel) ⟨Nat.le_of_ble_eq_true rfl, Nat.le_of_ble_eq_true rfl⟩) (preM hK hP) rfl rfl hl.1 rfl (lv_room (Nat.le_of_ble_eq_true rfl)) dX5_told_104 ⟨Nat.zero_le _, Nat.zero_le _⟩) (fun r_14 er_14 => ?_)
            subst er_14
            refine lv_iadd hx hb dX5_told_107 ?_
            refine lv_istore (lv' := [(4, .int (d + (s_X5_crossers N V A k))), (3, .int (b + (0 : Int32))), (5, .int (nI k)), (2, .int (s_X5_told_L1 N V A w0 (N 0) 0 (0 : Int32))), (0, .ref (q 0)), (1, .int w0)]) hx hb dX5_told_108 hl (by decide) rfl (fun ls hl => ?_)
            refine lv_iinc (v := nI (k + 1)) (lv' := [(5, .int (nI (k + 1))), (4, .int (d + (s_X5_crossers N V A k))), (3, .int (b + (0 : Int32))), (2, .int (s_X5_told_L1 N V A w0 (N 0) 0 (0 : Int32))), (0, .ref (q 0)), (1, .int w0)]) hx hb dX5_told_110 hl (k := 2) rfl (nI_1 k) (by decide) rfl (fun ls hl => ?_)
            refine lv_goto (tgt := 58) hx hb dX5_told_113 (by decide) ?_
            exact ih (k + 1) (b + (0 : Int32)) (d + (s_X5_crossers N V A k)) _ (by omega) (hF.trans (by rw [s_X5_told_L2, if_pos c_10, if_neg (nb c_13)])) (lv_sub hl [0, 1, 2, 3, 4, 5] rfl)
          · refine lv_iconst (v := (0)) hx hb dX5_told_97 (by decide) ?_
            refine lv_goto (tgt := 107) hx hb dX5_told_98 (by decide) ?_
            refine lv_iadd hx hb dX5_told_107 ?_
            refine lv_istore (lv' := [(4, .int (d + (0 : Int32))), (3, .int (b + (0 : Int32))), (5, .int (nI k)), (2, .int (s_X5_told_L1 N V A w0 (N 0) 0 (0 : Int32))), (0, .ref (q 0)), (1, .int w0)]) hx hb dX5_told_108 hl (by decide) rfl (fun ls hl => ?_)
            refine lv_iinc (v := nI (k + 1)) (lv' := [(5, .int (nI (k + 1))), (4, .int (d + (0 : Int32))), (3, .int (b + (0 : Int32))), (2, .int (s_X5_told_L1 N V A w0 (N 0) 0 (0 : Int32))), (0, .ref (q 0)), (1, .int w0)]) hx hb dX5_told_110 hl (k := 2) rfl (nI_1 k) (by decide) rfl (fun ls hl => ?_)
            refine lv_goto (tgt := 58) hx hb dX5_told_113 (by decide) ?_
            exact ih (k + 1) (b + (0 : Int32)) (d + (0 : Int32)) _ (by omega) (hF.trans (by rw [s_X5_told_L2, if_pos c_10, if_pos c_13])) (lv_sub hl [0, 1, 2, 3, 4, 5] rfl)
    exact LL2 (N 1) 0 (0 : Int32) (0 : Int32) _ (by omega) rfl (lv_sub hl [0, 1, 2, 3, 4, 5] rfl)
  have LL1 : ∀ (n k : Nat) (a : Int32) (ls : Array Slot), k + n = N 0 → s_X5_told_L1 N V A w0 (N 0) 0 (0 : Int32) = s_X5_told_L1 N V A w0 n k a → lv_has ls 6 [(5, .int (nI k)), (4, .int (0)), (3, .int (0)), (2, .int a), (0, .ref (q 0)), (1, .int w0)] → W p l e (headSpec wsX5_told ({ frames := 3, cells := 0, slots := 0, locals := 73 })).room s m ([.ref (q 0), .int w0] : List Value).toArray below meth c s.heap [] 0 0 (MQ below (vp_Si (fun r => r = (s_X5_told N V A w0))) ([.ref (q 0), .int w0] : List Value).toArray s 0 0 (fun _ => False)) (F0 m 10 ls []) := by
    intro n
    induction n with
    | zero =>
      intro k a ls hk hF hl
      refine lv_iload hx hb dX5_told_10 (lv_at hl 0 rfl) ?_
      refine lv_aload_n hx hb dX5_told_12 rfl (lv_at hl 4 rfl) ?_
      refine va_get (D := D) (ci := 5) (v := .int (nI (N 0))) (C := RX5) (T := TX5) (N := 22) hx hb hts hin5 hown hK hP 0 rfl rfl 2 (by decide) (hts (.fieldLink RX5 72 "NeckShipModel" "spars" "I") (by decide +kernel)) (fun _ h9 => h9) rfl dX5_told_13 ?_
      refine lv_icmp_ge (tgt := 55) hx hb dX5_told_16 (by decide) (fun _ => ?_) (fun c_15 => absurd (nI_le (by omega) (by omega)) c_15)
      have hF : s_X5_told_L1 N V A w0 (N 0) 0 (0 : Int32) = a := hF.trans (by rw [s_X5_told_L1])
      exact KL1 _ (by (try rw [hF]); exact lv_sub hl [1, 2, 3, 4, 5] rfl)
    | succ n ih =>
      intro k a ls hk hF hl
      refine lv_iload hx hb dX5_told_10 (lv_at hl 0 rfl) ?_
      refine lv_aload_n hx hb dX5_told_12 rfl (lv_at hl 4 rfl) ?_
      refine va_get (D := D) (ci := 5) (v := .int (nI (N 0))) (C := RX5) (T := TX5) (N := 22) hx hb hts hin5 hown hK hP 0 rfl rfl 2 (by decide) (hts (.fieldLink RX5 72 "NeckShipModel" "spars" "I") (by decide +kernel)) (fun _ h9 => h9) rfl dX5_told_13 ?_
      refine lv_icmp_ge (tgt := 55) hx hb dX5_told_16 (by decide) (fun c_16 => absurd c_16 (nI_ge (by omega) (by omega))) (fun _ => ?_)
      refine lv_iload_n hx hb dX5_told_19 rfl (lv_at hl 3 rfl) ?_
      refine lv_aload_n hx hb dX5_told_20 rfl (lv_at hl 4 rfl) ?_
      refine lv_aload_n hx hb dX5_told_21 rfl (lv_at hl 4 rfl) ?_
      refine va_get (D := D) (ci := 5) (v := .int (nI (N 2))) (C := RX5) (T := TX5) (N := 22) hx hb hts hin5 hown hK hP 0 rfl rfl 8 (by decide) (hts (.fieldLink RX5 125 "NeckShipModel" "up" "I") (by decide +kernel)) (fun _ h9 => h9) rfl dX5_told_22 ?_
      refine lv_iload hx hb dX5_told_25 (lv_at hl 0 rfl) ?_
      refine vp_callSi (W.runV (As := [.int (nI (N 2)), .int (nI k)]) (rest := [.int a]) ⟨hx, hb, hml, hown, hts⟩ (c_X5_isUp l D cI cZ cS q N V A (nI (N 2)) (nI k)) (cwV 2 hts gX5_told_X5_isUp rfl rfl rfl (by decide +kernel) ⟨Nat.le_of_ble_eq_true rfl, Nat.le_of_ble_eq_true rfl⟩) (preM hK hP) rfl rfl hl.1 rfl (lv_room (Nat.le_of_ble_eq_true rfl)) dX5_told_27 ⟨Nat.zero_le _, Nat.zero_le _⟩) (fun r_17 er_17 => ?_)
      subst er_17
      refine lz_if_eq (tgt := 46) hx hb dX5_told_30 (by decide) (fun c_18 => ?_) (fun c_18 => ?_)
      · refine lv_iconst (v := (0)) hx hb dX5_told_46 (by decide) ?_
        refine lv_iadd hx hb dX5_told_47 ?_
        refine lv_istore_n (lv' := [(2, .int (a + (0 : Int32))), (5, .int (nI k)), (4, .int (0)), (3, .int (0)), (0, .ref (q 0)), (1, .int w0)]) hx hb dX5_told_48 rfl hl (by decide) rfl (fun ls hl => ?_)
        refine lv_iinc (v := nI (k + 1)) (lv' := [(5, .int (nI (k + 1))), (2, .int (a + (0 : Int32))), (4, .int (0)), (3, .int (0)), (0, .ref (q 0)), (1, .int w0)]) hx hb dX5_told_49 hl (k := 1) rfl (nI_1 k) (by decide) rfl (fun ls hl => ?_)
        refine lv_goto (tgt := 10) hx hb dX5_told_52 (by decide) ?_
        exact ih (k + 1) (a + (0 : Int32)) _ (by omega) (hF.trans (by rw [s_X5_told_L1, if_neg (nb c_18)])) (lv_sub hl [0, 2, 3, 1, 4, 5] rfl)
      · refine lv_aload_n hx hb dX5_told_33 rfl (lv_at hl 4 rfl) ?_
        refine lv_iload hx hb dX5_told_34 (lv_at hl 0 rfl) ?_
        refine vp_callSi (W.runV (As := [.int (nI k)]) (rest := [.int a]) ⟨hx, hb, hml, hown, hts⟩ (c_X5_raisers l D cI cZ cS q N V A k h_1) (cwV 1 hts gX5_told_X5_raisers rfl rfl rfl (by decide +kernel) ⟨Nat.le_of_ble_eq_true rfl, Nat.le_of_ble_eq_true rfl⟩) (preM hK hP) rfl rfl hl.1 rfl (lv_room (Nat.le_of_ble_eq_true rfl)) dX5_told_36 ⟨Nat.zero_le _, Nat.zero_le _⟩) (fun r_19 er_19 => ?_)
        subst er_19
        refine lv_if_le (tgt := 46) hx hb dX5_told_39 (by decide) (fun c_20 => ?_) (fun c_20 => ?_)
        · refine lv_iconst (v := (0)) hx hb dX5_told_46 (by decide) ?_
          refine lv_iadd hx hb dX5_told_47 ?_
          refine lv_istore_n (lv' := [(2, .int (a + (0 : Int32))), (5, .int (nI k)), (4, .int (0)), (3, .int (0)), (0, .ref (q 0)), (1, .int w0)]) hx hb dX5_told_48 rfl hl (by decide) rfl (fun ls hl => ?_)
          refine lv_iinc (v := nI (k + 1)) (lv' := [(5, .int (nI (k + 1))), (2, .int (a + (0 : Int32))), (4, .int (0)), (3, .int (0)), (0, .ref (q 0)), (1, .int w0)]) hx hb dX5_told_49 hl (k := 1) rfl (nI_1 k) (by decide) rfl (fun ls hl => ?_)
          refine lv_goto (tgt := 10) hx hb dX5_told_52 (by decide) ?_
          exact ih (k + 1) (a + (0 : Int32)) _ (by omega) (hF.trans (by rw [s_X5_told_L1, if_pos c_18, if_pos c_20])) (lv_sub hl [0, 2, 3, 1, 4, 5] rfl)
        · refine lv_iconst (v := (1)) hx hb dX5_told_42 (by decide) ?_
          refine lv_goto (tgt := 47) hx hb dX5_told_43 (by decide) ?_
          refine lv_iadd hx hb dX5_told_47 ?_
          refine lv_istore_n (lv' := [(2, .int (a + (1 : Int32))), (5, .int (nI k)), (4, .int (0)), (3, .int (0)), (0, .ref (q 0)), (1, .int w0)]) hx hb dX5_told_48 rfl hl (by decide) rfl (fun ls hl => ?_)
          refine lv_iinc (v := nI (k + 1)) (lv' := [(5, .int (nI (k + 1))), (2, .int (a + (1 : Int32))), (4, .int (0)), (3, .int (0)), (0, .ref (q 0)), (1, .int w0)]) hx hb dX5_told_49 hl (k := 1) rfl (nI_1 k) (by decide) rfl (fun ls hl => ?_)
          refine lv_goto (tgt := 10) hx hb dX5_told_52 (by decide) ?_
          exact ih (k + 1) (a + (1 : Int32)) _ (by omega) (hF.trans (by rw [s_X5_told_L1, if_pos c_18, if_neg c_20])) (lv_sub hl [0, 2, 3, 1, 4, 5] rfl)
  exact LL1 (N 0) 0 (0 : Int32) _ (by omega) rfl (lv_sub hl [0, 1, 2, 3, 4, 5] rfl)
def s_X5_trace (N : Nat → Nat) (V : Nat → Int32) (A : Nat → Nat → Int32)  : Int32 :=
  V 1
set_option maxHeartbeats 4000000 in
set_option maxRecDepth 100000 in
theorem c_X5_trace (l : Launch) (D : va_G) (cI cZ cS : ClassId) (q : Nat → Nat) (N : Nat → Nat) (V : Nat → Int32) (A : Nat → Nat → Int32) : Met l yX5_trace wsX5_trace ({ frames := 0, cells := 0, slots := 0, locals := 0 }) (va_Pc [.ref (q 0)] (PM D cI cZ cS q N V A)) (vp_Si (fun r => r = (s_X5_trace N V A))) 0 0 (fun _ => False) := by
  refine Met.ofW (cc := cX5_trace) (maxL := 1) (ret := (some .int)) (by decide) rfl ?_
  intro p e s m args below meth c s₁ B hml hv
  obtain ⟨rfl, hP, hK⟩ := hv
  have hx := B.exec
  have hb := B.bytes
  have hr := B.returns
  have hts := atoms_spec (ws := wsX5_trace) B.pre
  have hown : s.vm.findClass RX5 = some m.cls := findClass_of_methodNamed B.named
  have hlocks := B.notSynchronized
  have hin5 : ∀ w ∈ u_ws RX5 TX5 22, w ∈ wsX5_trace := by decide +kernel
  have hl := lv_entry ([.ref (q 0)]) (n := 1) (Nat.le_of_ble_eq_true rfl)
  rw [lg_entry_eq]
  generalize (lg_sl ([.ref (q 0)]) ++ List.replicate (1 - (lg_sl ([.ref (q 0)])).length) Slot.unset).toArray = ls at hl ⊢
  have hl : lv_has ls 1 [(0, .ref (q 0))] := hl
  refine lv_aload_n hx hb dX5_trace_0 rfl (lv_at hl 0 rfl) ?_
  refine va_get (D := D) (ci := 5) (v := .int (V 1)) (C := RX5) (T := TX5) (N := 22) hx hb hts hin5 hown hK hP 0 rfl rfl 21 (by decide) (hts (.fieldLink RX5 199 "NeckShipModel" "trace" "I") (by decide +kernel)) (fun _ h9 => h9) rfl dX5_trace_1 ?_
  exact W.iret (v := V 1) hx hb hr (fun t ht hW => ⟨_, rfl, (by rw [s_X5_trace]), ht⟩) (fun _ h => by cases h) dX5_trace_4
def s_X5_fault (N : Nat → Nat) (V : Nat → Int32) (A : Nat → Nat → Int32)  : Int32 :=
  V 0
set_option maxHeartbeats 4000000 in
set_option maxRecDepth 100000 in
theorem c_X5_fault (l : Launch) (D : va_G) (cI cZ cS : ClassId) (q : Nat → Nat) (N : Nat → Nat) (V : Nat → Int32) (A : Nat → Nat → Int32) : Met l yX5_fault wsX5_fault ({ frames := 0, cells := 0, slots := 0, locals := 0 }) (va_Pc [.ref (q 0)] (PM D cI cZ cS q N V A)) (vp_Si (fun r => r = (s_X5_fault N V A))) 0 0 (fun _ => False) := by
  refine Met.ofW (cc := cX5_fault) (maxL := 1) (ret := (some .int)) (by decide) rfl ?_
  intro p e s m args below meth c s₁ B hml hv
  obtain ⟨rfl, hP, hK⟩ := hv
  have hx := B.exec
  have hb := B.bytes
  have hr := B.returns
  have hts := atoms_spec (ws := wsX5_fault) B.pre
  have hown : s.vm.findClass RX5 = some m.cls := findClass_of_methodNamed B.named
  have hlocks := B.notSynchronized
  have hin5 : ∀ w ∈ u_ws RX5 TX5 22, w ∈ wsX5_fault := by decide +kernel
  have hl := lv_entry ([.ref (q 0)]) (n := 1) (Nat.le_of_ble_eq_true rfl)
  rw [lg_entry_eq]
  generalize (lg_sl ([.ref (q 0)]) ++ List.replicate (1 - (lg_sl ([.ref (q 0)])).length) Slot.unset).toArray = ls at hl ⊢
  have hl : lv_has ls 1 [(0, .ref (q 0))] := hl
  refine lv_aload_n hx hb dX5_fault_0 rfl (lv_at hl 0 rfl) ?_
  refine va_get (D := D) (ci := 5) (v := .int (V 0)) (C := RX5) (T := TX5) (N := 22) hx hb hts hin5 hown hK hP 0 rfl rfl 0 (by decide) (hts (.fieldLink RX5 64 "NeckShipModel" "fault" "I") (by decide +kernel)) (fun _ h9 => h9) rfl dX5_fault_1 ?_
  exact W.iret (v := V 0) hx hb hr (fun t ht hW => ⟨_, rfl, (by rw [s_X5_fault]), ht⟩) (fun _ h => by cases h) dX5_fault_4
