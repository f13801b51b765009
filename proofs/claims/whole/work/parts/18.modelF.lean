def s_X5_findLeads_L2 (N : Nat → Nat) (V : Nat → Int32) (A : Nat → Nat → Int32) (n : Nat) (k : Nat) (A1 : Nat → Nat → Int32) : Nat → Nat → (Nat → Nat → Int32) → (Nat → Nat → Int32)
  | 0, j, A2 =>
    A2
  | r + 1, j, A2 =>
    if (bz (A2 11 n)) = true then
      A2
    else
      s_X5_findLeads_L2 N V A n k A1 r (j + 1) (va_up A2 11 (upd (A2 11) n (b2i (if (s_X5_mayRise N V A2 (nI n) j) = true then if (bz (A2 11 (n ||| (2 ^ j)))) = true then true else false else false))))
def s_X5_findLeads_L1 (N : Nat → Nat) (V : Nat → Int32) (A : Nat → Nat → Int32) : Nat → Nat → (Nat → Nat → Int32) → (Nat → Nat → Int32)
  | 0, k, A1 =>
    A1
  | n + 1, k, A1 =>
    s_X5_findLeads_L1 N V A n (k + 1) (s_X5_findLeads_L2 N V A n k A1 (N 0) 0 (va_up A1 11 (upd (A1 11) n (b2i (if nI n = (nI (2 ^ (N 0)) - (1 : Int32)) then true else false)))))
def s_X5_findLeads (N : Nat → Nat) (V : Nat → Int32) (A : Nat → Nat → Int32)  : St :=
  (N, V, (s_X5_findLeads_L1 N V A (2 ^ N 0) 0 A))
set_option maxHeartbeats 4000000 in
set_option maxRecDepth 100000 in
theorem c_X5_findLeads (l : Launch) (D : va_G) (cI cZ cS : ClassId) (q : Nat → Nat) (N : Nat → Nat) (V : Nat → Int32) (A : Nat → Nat → Int32) (sz : Nat) (h_1 : okM N A) : Met l yX5_findLeads wsX5_findLeads ({ frames := 4, cells := 0, slots := 0, locals := 89 }) (va_Pc [.ref (q 0)] (fun U => U.heap.size = sz ∧ PM D cI cZ cS q N V A U ∧ va_D (fun _ => True) (wM cI cZ q N V A))) (va_Qv (fun (_ : Unit) => True) (fun _ t => PM D cI cZ cS q (s_X5_findLeads N V A).1 (s_X5_findLeads N V A).2.1 (s_X5_findLeads N V A).2.2 t ∧ va_D (va_A (wM cI cZ q N V A) sz) (wM cI cZ q (s_X5_findLeads N V A).1 (s_X5_findLeads N V A).2.1 (s_X5_findLeads N V A).2.2)) (va_A (wM cI cZ q N V A) sz)) 0 0 (va_A (wM cI cZ q N V A) sz) := by
  refine Met.ofW (cc := cX5_findLeads) (maxL := 4) (ret := none) (by decide) rfl ?_
  intro p e s m args below meth c s₁ B hml hv
  obtain ⟨rfl, hsz, ⟨hP, hK⟩, hD0⟩ := hv
  have hx := B.exec
  have hb := B.bytes
  have hr := B.returns
  have hts := atoms_spec (ws := wsX5_findLeads) B.pre
  have hown : s.vm.findClass RX5 = some m.cls := findClass_of_methodNamed B.named
  have hlocks := B.notSynchronized
  have hin5 : ∀ w ∈ u_ws RX5 TX5 22, w ∈ wsX5_findLeads := by decide +kernel
  subst hsz
  have hD := hD0.self (sz := s.heap.size)
  generalize hAe : va_A (wM cI cZ q N V A) s.heap.size = Ar at hD ⊢
  have hA : ∀ q : Nat, s.heap.size ≤ q → Ar q := fun q h => by rw [← hAe]; exact Or.inr h
  have hS : va_S Ar s.heap s.heap [] := va_S.rf
  obtain ⟨o1, o2, o3, o4, o5, o6, o7⟩ := id h_1
  have hp : 2 ^ N 0 ≤ 2 ^ 10 := Nat.pow_le_pow_right (by omega) o1
  have hp1 : 1 ≤ 2 ^ N 0 := Nat.one_le_two_pow
  have hp2 : (2 : Nat) ^ 10 = 1024 := rfl
  have hl := lv_entry ([.ref (q 0)]) (n := 4) (Nat.le_of_ble_eq_true rfl)
  rw [lg_entry_eq]
  generalize (lg_sl ([.ref (q 0)]) ++ List.replicate (4 - (lg_sl ([.ref (q 0)])).length) Slot.unset).toArray = ls at hl ⊢
  have hl : lv_has ls 4 [(0, .ref (q 0))] := hl
  refine lv_iconst (v := (1)) hx hb dX5_findLeads_0 (by decide) ?_
  refine lv_aload_n hx hb dX5_findLeads_1 rfl (lv_at hl 0 rfl) ?_
  refine va_get (D := D) (ci := 5) (v := .int (nI (N 0))) (C := RX5) (T := TX5) (N := 22) hx hb hts hin5 hown hK hP 0 rfl rfl 2 (by decide) (hts (.fieldLink RX5 72 "NeckShipModel" "spars" "I") (by decide +kernel)) (fun _ h9 => h9) rfl dX5_findLeads_2 ?_
  refine lv_ishl hx hb dX5_findLeads_5 ?_
  rw [sh1 (k := N 0) (by omega)]
  refine lv_iconst (v := (1)) hx hb dX5_findLeads_6 (by decide) ?_
  refine lv_isub hx hb dX5_findLeads_7 ?_
  refine lv_istore_n (lv' := [(1, .int (nI (2 ^ (N 0)) - (1 : Int32))), (0, .ref (q 0))]) hx hb dX5_findLeads_8 rfl hl (by decide) rfl (fun ls hl => ?_)
  refine lv_iload_n hx hb dX5_findLeads_9 rfl (lv_at hl 0 rfl) ?_
  refine lv_istore_n (lv' := [(2, .int (nI (2 ^ (N 0)) - (1 : Int32))), (1, .int (nI (2 ^ (N 0)) - (1 : Int32))), (0, .ref (q 0))]) hx hb dX5_findLeads_10 rfl hl (by decide) rfl (fun ls hl => ?_)
  have KL1 : ∀ (H : Heap) (locs : List Loc), va_P D vwCl (wM cI cZ q N V (s_X5_findLeads_L1 N V A (2 ^ N 0) 0 A)) H → va_D Ar (wM cI cZ q N V (s_X5_findLeads_L1 N V A (2 ^ N 0) 0 A)) → va_S Ar s.heap H locs → ∀ (ls : Array Slot), okM N (s_X5_findLeads_L1 N V A (2 ^ N 0) 0 A) → lv_has ls 4 [(1, .int (nI (2 ^ (N 0)) - (1 : Int32))), (0, .ref (q 0))] → W p l e (headSpec wsX5_findLeads ({ frames := 4, cells := 0, slots := 0, locals := 89 })).room s m ([.ref (q 0)] : List Value).toArray below meth c H locs 0 0 (MQ below (va_Qv (fun (_ : Unit) => True) (fun _ t => PM D cI cZ cS q (s_X5_findLeads N V A).1 (s_X5_findLeads N V A).2.1 (s_X5_findLeads N V A).2.2 t ∧ va_D Ar (wM cI cZ q (s_X5_findLeads N V A).1 (s_X5_findLeads N V A).2.1 (s_X5_findLeads N V A).2.2)) Ar) ([.ref (q 0)] : List Value).toArray s 0 0 Ar) (F0 m 95 ls []) := by
    intro H locs hP hD hS ls hI hl
    have hEE : s_X5_findLeads N V A = (N, V, (s_X5_findLeads_L1 N V A (2 ^ N 0) 0 A)) := (by rw [s_X5_findLeads])
    rw [hEE]
    exact W.vret hx hb hr (fun t ht hW => ⟨⟨(), rfl, trivial, ⟨by rw [ht]; exact hP, va_K.moved hW.alike hK⟩, hD⟩, hS.F ht⟩) hS.2.2 dX5_findLeads_95
  have LL1 : ∀ (n k : Nat) (A1 : Nat → Nat → Int32) (H : Heap) (locs : List Loc), va_P D vwCl (wM cI cZ q N V A1) H → va_D Ar (wM cI cZ q N V A1) → va_S Ar s.heap H locs → ∀ (ls : Array Slot), k + n = 2 ^ N 0 → okM N A1 → s_X5_findLeads_L1 N V A (2 ^ N 0) 0 A = s_X5_findLeads_L1 N V A n k A1 → lv_has ls 4 [(2, .int (nI n - 1)), (1, .int (nI (2 ^ (N 0)) - (1 : Int32))), (0, .ref (q 0))] → W p l e (headSpec wsX5_findLeads ({ frames := 4, cells := 0, slots := 0, locals := 89 })).room s m ([.ref (q 0)] : List Value).toArray below meth c H locs 0 0 (MQ below (va_Qv (fun (_ : Unit) => True) (fun _ t => PM D cI cZ cS q (s_X5_findLeads N V A).1 (s_X5_findLeads N V A).2.1 (s_X5_findLeads N V A).2.2 t ∧ va_D Ar (wM cI cZ q (s_X5_findLeads N V A).1 (s_X5_findLeads N V A).2.1 (s_X5_findLeads N V A).2.2)) Ar) ([.ref (q 0)] : List Value).toArray s 0 0 Ar) (F0 m 11 ls []) := by
    intro n
    induction n with
    | zero =>
      intro k A1 H locs hP hD hS ls hk hI hF hl
      refine lv_iload_n hx hb dX5_findLeads_11 rfl (lv_at hl 0 rfl) ?_
      refine lv_if_lt (tgt := 95) hx hb dX5_findLeads_12 (by decide) (fun _ => ?_) (fun c_1 => absurd (by decide) c_1)
      have hF : s_X5_findLeads_L1 N V A (2 ^ N 0) 0 A = A1 := hF.trans (by rw [s_X5_findLeads_L1])
      exact KL1 _ _ (by (try rw [hF]); exact hP) (by (try rw [hF]); exact hD) hS _ (by (try rw [hF]); exact hI) (by (try rw [hF]); exact lv_sub hl [1, 2] rfl)
    | succ n ih =>
      intro k A1 H locs hP hD hS ls hk hI hF hl
      rw [nI_pred] at hl
      refine lv_iload_n hx hb dX5_findLeads_11 rfl (lv_at hl 0 rfl) ?_
      refine lv_if_lt (tgt := 95) hx hb dX5_findLeads_12 (by decide) (fun c_2 => absurd c_2 (nI_pos (by omega))) (fun _ => ?_)
      refine lv_aload_n hx hb dX5_findLeads_15 rfl (lv_at hl 2 rfl) ?_
      refine va_get (D := D) (ci := 5) (v := .ref (q 11)) (C := RX5) (T := TX5) (N := 22) hx hb hts hin5 hown hK hP 0 rfl rfl 14 (by decide) (hts (.fieldLink RX5 41 "NeckShipModel" "leads" "[Z") (by decide +kernel)) (fun _ h9 => h9) rfl dX5_findLeads_16 ?_
      refine lv_iload_n hx hb dX5_findLeads_19 rfl (lv_at hl 0 rfl) ?_
      refine lv_iload_n hx hb dX5_findLeads_20 rfl (lv_at hl 0 rfl) ?_
      refine lv_iload_n hx hb dX5_findLeads_21 rfl (lv_at hl 1 rfl) ?_
      have J22 : ∀ (x : Bool), x = (if nI n = (nI (2 ^ (N 0)) - (1 : Int32)) then true else false) → W p l e (headSpec wsX5_findLeads ({ frames := 4, cells := 0, slots := 0, locals := 89 })).room s m ([.ref (q 0)] : List Value).toArray below meth c H locs 0 0 (MQ below (va_Qv (fun (_ : Unit) => True) (fun _ t => PM D cI cZ cS q (s_X5_findLeads N V A).1 (s_X5_findLeads N V A).2.1 (s_X5_findLeads N V A).2.2 t ∧ va_D Ar (wM cI cZ q (s_X5_findLeads N V A).1 (s_X5_findLeads N V A).2.1 (s_X5_findLeads N V A).2.2)) Ar) ([.ref (q 0)] : List Value).toArray s 0 0 Ar) (F0 m 30 ls [.int (b2i x), .int (nI n), .ref (q 11)]) := by
        intro x ex
        subst ex
        refine va_zastN (x := (if nI n = (nI (2 ^ (N 0)) - (1 : Int32)) then true else false)) (i := n) hx hb hK hP hD hS 11 1 rfl rfl (by decide) (by omega) dX5_findLeads_30 (fun H locs hP hD hS => ?_)
        have hP : va_P D vwCl (wM cI cZ q N V (va_up A1 11 (upd (A1 11) n (b2i (if nI n = (nI (2 ^ (N 0)) - (1 : Int32)) then true else false))))) H := hP
        have hD : va_D Ar (wM cI cZ q N V (va_up A1 11 (upd (A1 11) n (b2i (if nI n = (nI (2 ^ (N 0)) - (1 : Int32)) then true else false))))) := hD
        refine lv_iconst (v := (0)) hx hb dX5_findLeads_31 (by decide) ?_
        refine lv_istore_n (lv' := [(3, .int (0)), (2, .int (nI n)), (1, .int (nI (2 ^ (N 0)) - (1 : Int32))), (0, .ref (q 0))]) hx hb dX5_findLeads_32 rfl hl (by decide) rfl (fun ls hl => ?_)
        have KL2 : ∀ (H : Heap) (locs : List Loc), va_P D vwCl (wM cI cZ q N V (s_X5_findLeads_L2 N V A n k A1 (N 0) 0 (va_up A1 11 (upd (A1 11) n (b2i (if nI n = (nI (2 ^ (N 0)) - (1 : Int32)) then true else false)))))) H → va_D Ar (wM cI cZ q N V (s_X5_findLeads_L2 N V A n k A1 (N 0) 0 (va_up A1 11 (upd (A1 11) n (b2i (if nI n = (nI (2 ^ (N 0)) - (1 : Int32)) then true else false)))))) → va_S Ar s.heap H locs → ∀ (ls : Array Slot), okM N (s_X5_findLeads_L2 N V A n k A1 (N 0) 0 (va_up A1 11 (upd (A1 11) n (b2i (if nI n = (nI (2 ^ (N 0)) - (1 : Int32)) then true else false))))) → lv_has ls 4 [(2, .int (nI n)), (1, .int (nI (2 ^ (N 0)) - (1 : Int32))), (0, .ref (q 0))] → W p l e (headSpec wsX5_findLeads ({ frames := 4, cells := 0, slots := 0, locals := 89 })).room s m ([.ref (q 0)] : List Value).toArray below meth c H locs 0 0 (MQ below (va_Qv (fun (_ : Unit) => True) (fun _ t => PM D cI cZ cS q (s_X5_findLeads N V A).1 (s_X5_findLeads N V A).2.1 (s_X5_findLeads N V A).2.2 t ∧ va_D Ar (wM cI cZ q (s_X5_findLeads N V A).1 (s_X5_findLeads N V A).2.1 (s_X5_findLeads N V A).2.2)) Ar) ([.ref (q 0)] : List Value).toArray s 0 0 Ar) (F0 m 89 ls []) := by
          intro H locs hP hD hS ls hI hl
          refine lv_iinc (v := (nI n - 1)) (lv' := [(2, .int (nI n - 1)), (1, .int (nI (2 ^ (N 0)) - (1 : Int32))), (0, .ref (q 0))]) hx hb dX5_findLeads_89 hl (k := 0) rfl (sub1 n) (by decide) rfl (fun ls hl => ?_)
          refine lv_goto (tgt := 11) hx hb dX5_findLeads_92 (by decide) ?_
          exact ih (k + 1) (s_X5_findLeads_L2 N V A n k A1 (N 0) 0 (va_up A1 11 (upd (A1 11) n (b2i (if nI n = (nI (2 ^ (N 0)) - (1 : Int32)) then true else false))))) _ _ hP hD hS _ (by omega) hI (hF.trans (by rw [s_X5_findLeads_L1])) (lv_sub hl [0, 1, 2] rfl)
        have LL2 : ∀ (r j : Nat) (A2 : Nat → Nat → Int32) (H : Heap) (locs : List Loc), va_P D vwCl (wM cI cZ q N V A2) H → va_D Ar (wM cI cZ q N V A2) → va_S Ar s.heap H locs → ∀ (ls : Array Slot), j + r = N 0 → okM N A2 → s_X5_findLeads_L2 N V A n k A1 (N 0) 0 (va_up A1 11 (upd (A1 11) n (b2i (if nI n = (nI (2 ^ (N 0)) - (1 : Int32)) then true else false)))) = s_X5_findLeads_L2 N V A n k A1 r j A2 → lv_has ls 4 [(3, .int (nI j)), (2, .int (nI n)), (1, .int (nI (2 ^ (N 0)) - (1 : Int32))), (0, .ref (q 0))] → W p l e (headSpec wsX5_findLeads ({ frames := 4, cells := 0, slots := 0, locals := 89 })).room s m ([.ref (q 0)] : List Value).toArray below meth c H locs 0 0 (MQ below (va_Qv (fun (_ : Unit) => True) (fun _ t => PM D cI cZ cS q (s_X5_findLeads N V A).1 (s_X5_findLeads N V A).2.1 (s_X5_findLeads N V A).2.2 t ∧ va_D Ar (wM cI cZ q (s_X5_findLeads N V A).1 (s_X5_findLeads N V A).2.1 (s_X5_findLeads N V A).2.2)) Ar) ([.ref (q 0)] : List Value).toArray s 0 0 Ar) (F0 m 33 ls []) := by
          intro r
          induction r with
          | zero =>
            intro j A2 H locs hP hD hS ls hk hI hF hl
            refine lv_iload_n hx hb dX5_findLeads_33 rfl (lv_at hl 0 rfl) ?_
            refine lv_aload_n hx hb dX5_findLeads_34 rfl (lv_at hl 3 rfl) ?_
            refine va_get (D := D) (ci := 5) (v := .int (nI (N 0))) (C := RX5) (T := TX5) (N := 22) hx hb hts hin5 hown hK hP 0 rfl rfl 2 (by decide) (hts (.fieldLink RX5 72 "NeckShipModel" "spars" "I") (by decide +kernel)) (fun _ h9 => h9) rfl dX5_findLeads_35 ?_
            refine lv_icmp_ge (tgt := 89) hx hb dX5_findLeads_38 (by decide) (fun _ => ?_) (fun c_4 => absurd (nI_le (by omega) (by omega)) c_4)
            have hF : s_X5_findLeads_L2 N V A n k A1 (N 0) 0 (va_up A1 11 (upd (A1 11) n (b2i (if nI n = (nI (2 ^ (N 0)) - (1 : Int32)) then true else false)))) = A2 := hF.trans (by rw [s_X5_findLeads_L2])
            exact KL2 _ _ (by (try rw [hF]); exact hP) (by (try rw [hF]); exact hD) hS _ (by (try rw [hF]); exact hI) (by (try rw [hF]); exact lv_sub hl [1, 2, 3] rfl)
          | succ r ih =>
            intro j A2 H locs hP hD hS ls hk hI hF hl
            refine lv_iload_n hx hb dX5_findLeads_33 rfl (lv_at hl 0 rfl) ?_
            refine lv_aload_n hx hb dX5_findLeads_34 rfl (lv_at hl 3 rfl) ?_
            refine va_get (D := D) (ci := 5) (v := .int (nI (N 0))) (C := RX5) (T := TX5) (N := 22) hx hb hts hin5 hown hK hP 0 rfl rfl 2 (by decide) (hts (.fieldLink RX5 72 "NeckShipModel" "spars" "I") (by decide +kernel)) (fun _ h9 => h9) rfl dX5_findLeads_35 ?_
            refine lv_icmp_ge (tgt := 89) hx hb dX5_findLeads_38 (by decide) (fun c_5 => absurd c_5 (nI_ge (by omega) (by omega))) (fun _ => ?_)
            refine lv_aload_n hx hb dX5_findLeads_41 rfl (lv_at hl 3 rfl) ?_
            refine va_get (D := D) (ci := 5) (v := .ref (q 11)) (C := RX5) (T := TX5) (N := 22) hx hb hts hin5 hown hK hP 0 rfl rfl 14 (by decide) (hts (.fieldLink RX5 41 "NeckShipModel" "leads" "[Z") (by decide +kernel)) (fun _ h9 => h9) rfl dX5_findLeads_42 ?_
            refine lv_iload_n hx hb dX5_findLeads_45 rfl (lv_at hl 1 rfl) ?_
            refine va_zaldB (i := n) (x := bz (A2 11 n)) hx hb hK hP 11 1 rfl rfl (hI.2.2.2.2.2.1 _) (by decide) (by omega) dX5_findLeads_46 ?_
            refine lz_if_ne (tgt := 89) hx hb dX5_findLeads_47 (by decide) (fun c_6 => ?_) (fun c_6 => ?_)
            · have hF : s_X5_findLeads_L2 N V A n k A1 (N 0) 0 (va_up A1 11 (upd (A1 11) n (b2i (if nI n = (nI (2 ^ (N 0)) - (1 : Int32)) then true else false)))) = A2 := hF.trans (by rw [s_X5_findLeads_L2, if_pos c_6])
              exact KL2 _ _ (by (try rw [hF]); exact hP) (by (try rw [hF]); exact hD) hS _ (by (try rw [hF]); exact hI) (by (try rw [hF]); exact lv_sub hl [1, 2, 3] rfl)
            · refine lv_aload_n hx hb dX5_findLeads_50 rfl (lv_at hl 3 rfl) ?_
              refine va_get (D := D) (ci := 5) (v := .ref (q 11)) (C := RX5) (T := TX5) (N := 22) hx hb hts hin5 hown hK hP 0 rfl rfl 14 (by decide) (hts (.fieldLink RX5 41 "NeckShipModel" "leads" "[Z") (by decide +kernel)) (fun _ h9 => h9) rfl dX5_findLeads_51 ?_
              refine lv_iload_n hx hb dX5_findLeads_54 rfl (lv_at hl 1 rfl) ?_
              refine lv_aload_n hx hb dX5_findLeads_55 rfl (lv_at hl 3 rfl) ?_
              refine lv_iload_n hx hb dX5_findLeads_56 rfl (lv_at hl 1 rfl) ?_
              refine lv_iload_n hx hb dX5_findLeads_57 rfl (lv_at hl 0 rfl) ?_
              refine vp_callSi (W.runV (As := [.int (nI n), .int (nI j)]) (rest := [.int (nI n), .ref (q 11)]) ⟨hx, hb, hml, hown, hts⟩ (c_X5_mayRise l D cI cZ cS q N V A2 (nI n) j hI (by omega)) (cwV 2 hts gX5_findLeads_X5_mayRise rfl rfl rfl (by decide +kernel) ⟨Nat.le_of_ble_eq_true rfl, Nat.le_of_ble_eq_true rfl⟩) (preM hK hP) rfl rfl hl.1 rfl (lv_room (Nat.le_of_ble_eq_true rfl)) dX5_findLeads_58 ⟨Nat.zero_le _, Nat.zero_le _⟩) (fun r_7 er_7 => ?_)
              subst er_7
              have J61 : ∀ (x : Bool), x = (if (s_X5_mayRise N V A2 (nI n) j) = true then if (bz (A2 11 (n ||| (2 ^ j)))) = true then true else false else false) → W p l e (headSpec wsX5_findLeads ({ frames := 4, cells := 0, slots := 0, locals := 89 })).room s m ([.ref (q 0)] : List Value).toArray below meth c H locs 0 0 (MQ below (va_Qv (fun (_ : Unit) => True) (fun _ t => PM D cI cZ cS q (s_X5_findLeads N V A).1 (s_X5_findLeads N V A).2.1 (s_X5_findLeads N V A).2.2 t ∧ va_D Ar (wM cI cZ q (s_X5_findLeads N V A).1 (s_X5_findLeads N V A).2.1 (s_X5_findLeads N V A).2.2)) Ar) ([.ref (q 0)] : List Value).toArray s 0 0 Ar) (F0 m 82 ls [.int (b2i x), .int (nI n), .ref (q 11)]) := by
                intro x ex
                subst ex
                refine va_zastN (x := (if (s_X5_mayRise N V A2 (nI n) j) = true then if (bz (A2 11 (n ||| (2 ^ j)))) = true then true else false else false)) (i := n) hx hb hK hP hD hS 11 1 rfl rfl (by decide) (by omega) dX5_findLeads_82 (fun H locs hP hD hS => ?_)
                have hP : va_P D vwCl (wM cI cZ q N V (va_up A2 11 (upd (A2 11) n (b2i (if (s_X5_mayRise N V A2 (nI n) j) = true then if (bz (A2 11 (n ||| (2 ^ j)))) = true then true else false else false))))) H := hP
                have hD : va_D Ar (wM cI cZ q N V (va_up A2 11 (upd (A2 11) n (b2i (if (s_X5_mayRise N V A2 (nI n) j) = true then if (bz (A2 11 (n ||| (2 ^ j)))) = true then true else false else false))))) := hD
                refine lv_iinc (v := nI (j + 1)) (lv' := [(3, .int (nI (j + 1))), (2, .int (nI n)), (1, .int (nI (2 ^ (N 0)) - (1 : Int32))), (0, .ref (q 0))]) hx hb dX5_findLeads_83 hl (k := 0) rfl (nI_1 j) (by decide) rfl (fun ls hl => ?_)
                refine lv_goto (tgt := 33) hx hb dX5_findLeads_86 (by decide) ?_
                exact ih (j + 1) (va_up A2 11 (upd (A2 11) n (b2i (if (s_X5_mayRise N V A2 (nI n) j) = true then if (bz (A2 11 (n ||| (2 ^ j)))) = true then true else false else false)))) _ _ hP hD hS _ (by omega) (ok_putB hI (Or.inr (Or.inl rfl)) _ _) (hF.trans (by rw [s_X5_findLeads_L2, if_neg (nb c_6)])) (lv_sub hl [0, 1, 2, 3] rfl)
              refine lz_if_eq (tgt := 81) hx hb dX5_findLeads_61 (by decide) (fun c_8 => ?_) (fun c_8 => ?_)
              · refine lv_iconst (v := (0)) hx hb dX5_findLeads_81 (by decide) ?_
                exact J61 false (by rw [if_neg (nb c_8)])
              · refine lv_aload_n hx hb dX5_findLeads_64 rfl (lv_at hl 3 rfl) ?_
                refine va_get (D := D) (ci := 5) (v := .ref (q 11)) (C := RX5) (T := TX5) (N := 22) hx hb hts hin5 hown hK hP 0 rfl rfl 14 (by decide) (hts (.fieldLink RX5 41 "NeckShipModel" "leads" "[Z") (by decide +kernel)) (fun _ h9 => h9) rfl dX5_findLeads_65 ?_
                refine lv_iload_n hx hb dX5_findLeads_68 rfl (lv_at hl 1 rfl) ?_
                refine lv_iconst (v := (1)) hx hb dX5_findLeads_69 (by decide) ?_
                refine lv_iload_n hx hb dX5_findLeads_70 rfl (lv_at hl 0 rfl) ?_
                refine lv_ishl hx hb dX5_findLeads_71 ?_
                rw [sh1 (k := j) (by omega)]
                refine lv_ior hx hb dX5_findLeads_72 ?_
                rw [fa_or n (2 ^ j)]
                refine va_zaldB (i := (n ||| (2 ^ j))) (x := bz (A2 11 (n ||| (2 ^ j)))) hx hb hK hP 11 1 rfl rfl (hI.2.2.2.2.2.1 _) (by decide) (or1024 (by omega) (by omega)) dX5_findLeads_73 ?_
                refine lz_if_eq (tgt := 81) hx hb dX5_findLeads_74 (by decide) (fun c_9 => ?_) (fun c_9 => ?_)
                · refine lv_iconst (v := (0)) hx hb dX5_findLeads_81 (by decide) ?_
                  exact J61 false (by rw [if_pos c_8, if_neg (nb c_9)])
                · refine lv_iconst (v := (1)) hx hb dX5_findLeads_77 (by decide) ?_
                  refine lv_goto (tgt := 82) hx hb dX5_findLeads_78 (by decide) ?_
                  exact J61 true (by rw [if_pos c_8, if_pos c_9])
        exact LL2 (N 0) 0 (va_up A1 11 (upd (A1 11) n (b2i (if nI n = (nI (2 ^ (N 0)) - (1 : Int32)) then true else false)))) _ _ hP hD hS _ (by omega) (ok_putB hI (Or.inr (Or.inl rfl)) _ _) rfl (lv_sub hl [0, 1, 2, 3] rfl)
      refine lv_icmp_ne (tgt := 29) hx hb dX5_findLeads_22 (by decide) (fun c_3 => ?_) (fun c_3 => ?_)
      · refine lv_iconst (v := (0)) hx hb dX5_findLeads_29 (by decide) ?_
        exact J22 false (by rw [if_neg c_3])
      · refine lv_iconst (v := (1)) hx hb dX5_findLeads_25 (by decide) ?_
        refine lv_goto (tgt := 30) hx hb dX5_findLeads_26 (by decide) ?_
        exact J22 true (by rw [if_pos c_3])
  exact LL1 (2 ^ N 0) 0 A _ _ hP hD hS _ (by omega) h_1 rfl (lv_sub hl [0, 1, 2] rfl)
def s_X5_rising_L1 (N : Nat → Nat) (V : Nat → Int32) (A : Nat → Nat → Int32) (w0 : Int32) : Nat → Nat → (Nat → Nat → Int32) → (Nat → Nat → Int32)
  | 0, k, A1 =>
    A1
  | n + 1, k, A1 =>
    s_X5_rising_L1 N V A w0 n (k + 1) (va_up A1 12 (upd (A1 12) k (b2i (if nI k = nI (N 2) then true else false))))
def s_X5_rising_L3 (N : Nat → Nat) (V : Nat → Int32) (A : Nat → Nat → Int32) (w0 : Int32) (n : Nat) (k : Nat) (a : Int32) (b : Int32) (d : Int32) (A1 : Nat → Nat → Int32) : Nat → Nat → (Nat → Nat → Int32) → (Nat → Nat → Int32)
  | 0, j, A2 =>
    A2
  | r + 1, j, A2 =>
    if (s_X5_mayRise N V A2 (nI k) j) = true then
      s_X5_rising_L3 N V A w0 n k a b d A1 r (j + 1) (va_up A2 12 (upd (A2 12) (k ||| (2 ^ j)) (b2i true)))
    else
      s_X5_rising_L3 N V A w0 n k a b d A1 r (j + 1) A2
def s_X5_rising_L2 (N : Nat → Nat) (V : Nat → Int32) (A : Nat → Nat → Int32) (w0 : Int32) : Nat → Nat → Int32 → Int32 → Int32 → (Nat → Nat → Int32) → Int32 × Int32 × Int32 × (Nat → Nat → Int32)
  | 0, k, a, b, d, A1 =>
    (a, b, d, A1)
  | n + 1, k, a, b, d, A1 =>
    if (bz (A1 12 k)) = true then
      s_X5_rising_L2 N V A w0 n (k + 1) (a + (1)) (s_X5_greater b (s_X5_count (nI k))) (d ||| nI k) (s_X5_rising_L3 N V A w0 n k a b d A1 (N 0) 0 A1)
    else
      s_X5_rising_L2 N V A w0 n (k + 1) a b d A1
def s_X5_rising (N : Nat → Nat) (V : Nat → Int32) (A : Nat → Nat → Int32)  (w0 : Int32) : Int32 × St :=
  if (s_X5_in ((w0).toInt64) (0 : Int64) (2 : Int64)) = true then
    if w0 = 0 then
      ((s_X5_rising_L2 N V A w0 (2 ^ N 0 - N 2) (N 2) (0 : Int32) (0 : Int32) (0 : Int32) (s_X5_rising_L1 N V A w0 (2 ^ N 0) 0 A)).1, N, V, (s_X5_rising_L2 N V A w0 (2 ^ N 0 - N 2) (N 2) (0 : Int32) (0 : Int32) (0 : Int32) (s_X5_rising_L1 N V A w0 (2 ^ N 0) 0 A)).2.2.2)
    else
      if w0 = (1 : Int32) then
        ((s_X5_rising_L2 N V A w0 (2 ^ N 0 - N 2) (N 2) (0 : Int32) (0 : Int32) (0 : Int32) (s_X5_rising_L1 N V A w0 (2 ^ N 0) 0 A)).2.1, N, V, (s_X5_rising_L2 N V A w0 (2 ^ N 0 - N 2) (N 2) (0 : Int32) (0 : Int32) (0 : Int32) (s_X5_rising_L1 N V A w0 (2 ^ N 0) 0 A)).2.2.2)
      else
        ((s_X5_rising_L2 N V A w0 (2 ^ N 0 - N 2) (N 2) (0 : Int32) (0 : Int32) (0 : Int32) (s_X5_rising_L1 N V A w0 (2 ^ N 0) 0 A)).2.2.1, N, V, (s_X5_rising_L2 N V A w0 (2 ^ N 0 - N 2) (N 2) (0 : Int32) (0 : Int32) (0 : Int32) (s_X5_rising_L1 N V A w0 (2 ^ N 0) 0 A)).2.2.2)
  else
    ((-2 : Int32), N, V, A)
set_option maxHeartbeats 4000000 in
set_option maxRecDepth 100000 in
theorem c_X5_rising (l : Launch) (D : va_G) (cI cZ cS : ClassId) (q : Nat → Nat) (N : Nat → Nat) (V : Nat → Int32) (A : Nat → Nat → Int32) (sz : Nat) (w0 : Int32) (h_1 : okM N A) (h_2 : N 2 < 2 ^ N 0) : Met l yX5_rising wsX5_rising ({ frames := 4, cells := 0, slots := 0, locals := 89 }) (va_Pc [.ref (q 0), .int w0] (fun U => U.heap.size = sz ∧ PM D cI cZ cS q N V A U ∧ va_D (fun _ => True) (wM cI cZ q N V A))) (va_Qi (fun r (_ : Unit) => r = (s_X5_rising N V A w0).1) (fun _ t => PM D cI cZ cS q (s_X5_rising N V A w0).2.1 (s_X5_rising N V A w0).2.2.1 (s_X5_rising N V A w0).2.2.2 t ∧ va_D (va_A (wM cI cZ q N V A) sz) (wM cI cZ q (s_X5_rising N V A w0).2.1 (s_X5_rising N V A w0).2.2.1 (s_X5_rising N V A w0).2.2.2)) (va_A (wM cI cZ q N V A) sz)) 0 0 (va_A (wM cI cZ q N V A) sz) := by
  refine Met.ofW (cc := cX5_rising) (maxL := 8) (ret := (some .int)) (by decide) rfl ?_
  intro p e s m args below meth c s₁ B hml hv
  obtain ⟨rfl, hsz, ⟨hP, hK⟩, hD0⟩ := hv
  have hx := B.exec
  have hb := B.bytes
  have hr := B.returns
  have hts := atoms_spec (ws := wsX5_rising) B.pre
  have hown : s.vm.findClass RX5 = some m.cls := findClass_of_methodNamed B.named
  have hlocks := B.notSynchronized
  have hin5 : ∀ w ∈ u_ws RX5 TX5 22, w ∈ wsX5_rising := by decide +kernel
  subst hsz
  have hD := hD0.self (sz := s.heap.size)
  generalize hAe : va_A (wM cI cZ q N V A) s.heap.size = Ar at hD ⊢
  have hA : ∀ q : Nat, s.heap.size ≤ q → Ar q := fun q h => by rw [← hAe]; exact Or.inr h
  have hS : va_S Ar s.heap s.heap [] := va_S.rf
  obtain ⟨o1, o2, o3, o4, o5, o6, o7⟩ := id h_1
  have hp : 2 ^ N 0 ≤ 2 ^ 10 := Nat.pow_le_pow_right (by omega) o1
  have hp1 : 1 ≤ 2 ^ N 0 := Nat.one_le_two_pow
  have hp2 : (2 : Nat) ^ 10 = 1024 := rfl
  have hl := lv_entry ([.ref (q 0), .int w0]) (n := 8) (Nat.le_of_ble_eq_true rfl)
  rw [lg_entry_eq]
  generalize (lg_sl ([.ref (q 0), .int w0]) ++ List.replicate (8 - (lg_sl ([.ref (q 0), .int w0])).length) Slot.unset).toArray = ls at hl ⊢
  have hl : lv_has ls 8 [(0, .ref (q 0)), (1, .int w0)] := hl
  refine lv_iload_n hx hb dX5_rising_0 rfl (lv_at hl 1 rfl) ?_
  refine lv_i2l (v := (w0).toInt64) hx hb dX5_rising_1 rfl ?_
  refine lv_lconst (v := (0)) hx hb dX5_rising_2 (by decide) ?_
  refine lv_ldc2 (v := (2)) hx hb hown (hts (.constantLong RX5 92 (2)) (by decide +kernel)) dX5_rising_3 ?_
  refine vp_callSi (W.runS (As := [.long ((w0).toInt64), .long (0 : Int64), .long (2 : Int64)]) (rest := []) ⟨hx, hb, hml, hown, hts⟩ (c_X5_in l ((w0).toInt64) (0 : Int64) (2 : Int64)) (cwS 3 hts gX5_rising_X5_in rfl rfl rfl (by decide +kernel) ⟨Nat.le_of_ble_eq_true rfl, Nat.le_of_ble_eq_true rfl⟩) (preEq) rfl rfl hl.1 rfl (lv_room (Nat.le_of_ble_eq_true rfl)) dX5_rising_6 ⟨Nat.zero_le _, Nat.zero_le _⟩) (fun r_1 er_1 => ?_)
  subst er_1
  refine lz_if_ne (tgt := 15) hx hb dX5_rising_9 (by decide) (fun c_2 => ?_) (fun c_2 => ?_)
  · refine lv_iconst (v := (1)) hx hb dX5_rising_15 (by decide) ?_
    refine lv_aload_n hx hb dX5_rising_16 rfl (lv_at hl 0 rfl) ?_
    refine va_get (D := D) (ci := 5) (v := .int (nI (N 0))) (C := RX5) (T := TX5) (N := 22) hx hb hts hin5 hown hK hP 0 rfl rfl 2 (by decide) (hts (.fieldLink RX5 72 "NeckShipModel" "spars" "I") (by decide +kernel)) (fun _ h9 => h9) rfl dX5_rising_17 ?_
    refine lv_ishl hx hb dX5_rising_20 ?_
    rw [sh1 (k := N 0) (by omega)]
    refine lv_iconst (v := (1)) hx hb dX5_rising_21 (by decide) ?_
    refine lv_isub hx hb dX5_rising_22 ?_
    rw [pw1 (N 0)]
    refine lv_istore_n (lv' := [(2, .int (nI (2 ^ (N 0) - 1))), (0, .ref (q 0)), (1, .int w0)]) hx hb dX5_rising_23 rfl hl (by decide) rfl (fun ls hl => ?_)
    refine lv_iconst (v := (0)) hx hb dX5_rising_24 (by decide) ?_
    refine lv_istore_n (lv' := [(3, .int (0)), (2, .int (nI (2 ^ (N 0) - 1))), (0, .ref (q 0)), (1, .int w0)]) hx hb dX5_rising_25 rfl hl (by decide) rfl (fun ls hl => ?_)
    refine lv_iconst (v := (0)) hx hb dX5_rising_26 (by decide) ?_
    refine lv_istore (lv' := [(4, .int (0)), (3, .int (0)), (2, .int (nI (2 ^ (N 0) - 1))), (0, .ref (q 0)), (1, .int w0)]) hx hb dX5_rising_27 hl (by decide) rfl (fun ls hl => ?_)
    refine lv_iconst (v := (0)) hx hb dX5_rising_29 (by decide) ?_
    refine lv_istore (lv' := [(5, .int (0)), (4, .int (0)), (3, .int (0)), (2, .int (nI (2 ^ (N 0) - 1))), (0, .ref (q 0)), (1, .int w0)]) hx hb dX5_rising_30 hl (by decide) rfl (fun ls hl => ?_)
    refine lv_iconst (v := (0)) hx hb dX5_rising_32 (by decide) ?_
    refine lv_istore (lv' := [(6, .int (0)), (5, .int (0)), (4, .int (0)), (3, .int (0)), (2, .int (nI (2 ^ (N 0) - 1))), (0, .ref (q 0)), (1, .int w0)]) hx hb dX5_rising_33 hl (by decide) rfl (fun ls hl => ?_)
    have KL1 : ∀ (H : Heap) (locs : List Loc), va_P D vwCl (wM cI cZ q N V (s_X5_rising_L1 N V A w0 (2 ^ N 0) 0 A)) H → va_D Ar (wM cI cZ q N V (s_X5_rising_L1 N V A w0 (2 ^ N 0) 0 A)) → va_S Ar s.heap H locs → ∀ (ls : Array Slot), okM N (s_X5_rising_L1 N V A w0 (2 ^ N 0) 0 A) → lv_has ls 8 [(5, .int (0)), (4, .int (0)), (3, .int (0)), (2, .int (nI (2 ^ (N 0) - 1))), (0, .ref (q 0)), (1, .int w0)] → W p l e (headSpec wsX5_rising ({ frames := 4, cells := 0, slots := 0, locals := 89 })).room s m ([.ref (q 0), .int w0] : List Value).toArray below meth c H locs 0 0 (MQ below (va_Qi (fun r (_ : Unit) => r = (s_X5_rising N V A w0).1) (fun _ t => PM D cI cZ cS q (s_X5_rising N V A w0).2.1 (s_X5_rising N V A w0).2.2.1 (s_X5_rising N V A w0).2.2.2 t ∧ va_D Ar (wM cI cZ q (s_X5_rising N V A w0).2.1 (s_X5_rising N V A w0).2.2.1 (s_X5_rising N V A w0).2.2.2)) Ar) ([.ref (q 0), .int w0] : List Value).toArray s 0 0 Ar) (F0 m 68 ls []) := by
      intro H locs hP hD hS ls hI hl
      refine lv_aload_n hx hb dX5_rising_68 rfl (lv_at hl 4 rfl) ?_
      refine va_get (D := D) (ci := 5) (v := .int (nI (N 2))) (C := RX5) (T := TX5) (N := 22) hx hb hts hin5 hown hK hP 0 rfl rfl 8 (by decide) (hts (.fieldLink RX5 125 "NeckShipModel" "up" "I") (by decide +kernel)) (fun _ h9 => h9) rfl dX5_rising_69 ?_
      refine lv_istore (lv' := [(6, .int (nI (N 2))), (5, .int (0)), (4, .int (0)), (3, .int (0)), (2, .int (nI (2 ^ (N 0) - 1))), (0, .ref (q 0)), (1, .int w0)]) hx hb dX5_rising_72 hl (by decide) rfl (fun ls hl => ?_)
      have KL2 : ∀ (H : Heap) (locs : List Loc), va_P D vwCl (wM cI cZ q N V ((s_X5_rising_L2 N V A w0 (2 ^ N 0 - N 2) (N 2) (0 : Int32) (0 : Int32) (0 : Int32) (s_X5_rising_L1 N V A w0 (2 ^ N 0) 0 A)).2.2.2)) H → va_D Ar (wM cI cZ q N V ((s_X5_rising_L2 N V A w0 (2 ^ N 0 - N 2) (N 2) (0 : Int32) (0 : Int32) (0 : Int32) (s_X5_rising_L1 N V A w0 (2 ^ N 0) 0 A)).2.2.2)) → va_S Ar s.heap H locs → ∀ (ls : Array Slot), okM N ((s_X5_rising_L2 N V A w0 (2 ^ N 0 - N 2) (N 2) (0 : Int32) (0 : Int32) (0 : Int32) (s_X5_rising_L1 N V A w0 (2 ^ N 0) 0 A)).2.2.2) → lv_has ls 8 [(5, .int ((s_X5_rising_L2 N V A w0 (2 ^ N 0 - N 2) (N 2) (0 : Int32) (0 : Int32) (0 : Int32) (s_X5_rising_L1 N V A w0 (2 ^ N 0) 0 A)).2.2.1)), (4, .int ((s_X5_rising_L2 N V A w0 (2 ^ N 0 - N 2) (N 2) (0 : Int32) (0 : Int32) (0 : Int32) (s_X5_rising_L1 N V A w0 (2 ^ N 0) 0 A)).2.1)), (3, .int ((s_X5_rising_L2 N V A w0 (2 ^ N 0 - N 2) (N 2) (0 : Int32) (0 : Int32) (0 : Int32) (s_X5_rising_L1 N V A w0 (2 ^ N 0) 0 A)).1)), (2, .int (nI (2 ^ (N 0) - 1))), (0, .ref (q 0)), (1, .int w0)] → W p l e (headSpec wsX5_rising ({ frames := 4, cells := 0, slots := 0, locals := 89 })).room s m ([.ref (q 0), .int w0] : List Value).toArray below meth c H locs 0 0 (MQ below (va_Qi (fun r (_ : Unit) => r = (s_X5_rising N V A w0).1) (fun _ t => PM D cI cZ cS q (s_X5_rising N V A w0).2.1 (s_X5_rising N V A w0).2.2.1 (s_X5_rising N V A w0).2.2.2 t ∧ va_D Ar (wM cI cZ q (s_X5_rising N V A w0).2.1 (s_X5_rising N V A w0).2.2.1 (s_X5_rising N V A w0).2.2.2)) Ar) ([.ref (q 0), .int w0] : List Value).toArray s 0 0 Ar) (F0 m 160 ls []) := by
        intro H locs hP hD hS ls hI hl
        refine lv_iload_n hx hb dX5_rising_160 rfl (lv_at hl 5 rfl) ?_
        refine lv_if_ne (tgt := 168) hx hb dX5_rising_161 (by decide) (fun c_3 => ?_) (fun c_3 => ?_)
        · refine lv_iload_n hx hb dX5_rising_168 rfl (lv_at hl 5 rfl) ?_
          refine lv_iconst (v := (1)) hx hb dX5_rising_169 (by decide) ?_
          refine lv_icmp_ne (tgt := 178) hx hb dX5_rising_170 (by decide) (fun c_4 => ?_) (fun c_4 => ?_)
          · refine lv_iload hx hb dX5_rising_178 (lv_at hl 0 rfl) ?_
            have hEE : s_X5_rising N V A w0 = ((s_X5_rising_L2 N V A w0 (2 ^ N 0 - N 2) (N 2) (0 : Int32) (0 : Int32) (0 : Int32) (s_X5_rising_L1 N V A w0 (2 ^ N 0) 0 A)).2.2.1, N, V, (s_X5_rising_L2 N V A w0 (2 ^ N 0 - N 2) (N 2) (0 : Int32) (0 : Int32) (0 : Int32) (s_X5_rising_L1 N V A w0 (2 ^ N 0) 0 A)).2.2.2) := (by rw [s_X5_rising, if_pos c_2, if_neg c_3, if_neg c_4])
            rw [hEE]
            exact W.iret (v := (s_X5_rising_L2 N V A w0 (2 ^ N 0 - N 2) (N 2) (0 : Int32) (0 : Int32) (0 : Int32) (s_X5_rising_L1 N V A w0 (2 ^ N 0) 0 A)).2.2.1) hx hb hr (fun t ht hW => ⟨⟨_, (), rfl, rfl, ⟨by rw [ht]; exact hP, va_K.moved hW.alike hK⟩, hD⟩, hS.F ht⟩) hS.2.2 dX5_rising_180
          · refine lv_iload hx hb dX5_rising_173 (lv_at hl 1 rfl) ?_
            refine lv_goto (tgt := 180) hx hb dX5_rising_175 (by decide) ?_
            have hEE : s_X5_rising N V A w0 = ((s_X5_rising_L2 N V A w0 (2 ^ N 0 - N 2) (N 2) (0 : Int32) (0 : Int32) (0 : Int32) (s_X5_rising_L1 N V A w0 (2 ^ N 0) 0 A)).2.1, N, V, (s_X5_rising_L2 N V A w0 (2 ^ N 0 - N 2) (N 2) (0 : Int32) (0 : Int32) (0 : Int32) (s_X5_rising_L1 N V A w0 (2 ^ N 0) 0 A)).2.2.2) := (by rw [s_X5_rising, if_pos c_2, if_neg c_3, if_pos c_4])
            rw [hEE]
            exact W.iret (v := (s_X5_rising_L2 N V A w0 (2 ^ N 0 - N 2) (N 2) (0 : Int32) (0 : Int32) (0 : Int32) (s_X5_rising_L1 N V A w0 (2 ^ N 0) 0 A)).2.1) hx hb hr (fun t ht hW => ⟨⟨_, (), rfl, rfl, ⟨by rw [ht]; exact hP, va_K.moved hW.alike hK⟩, hD⟩, hS.F ht⟩) hS.2.2 dX5_rising_180
        · refine lv_iload_n hx hb dX5_rising_164 rfl (lv_at hl 2 rfl) ?_
          refine lv_goto (tgt := 180) hx hb dX5_rising_165 (by decide) ?_
          have hEE : s_X5_rising N V A w0 = ((s_X5_rising_L2 N V A w0 (2 ^ N 0 - N 2) (N 2) (0 : Int32) (0 : Int32) (0 : Int32) (s_X5_rising_L1 N V A w0 (2 ^ N 0) 0 A)).1, N, V, (s_X5_rising_L2 N V A w0 (2 ^ N 0 - N 2) (N 2) (0 : Int32) (0 : Int32) (0 : Int32) (s_X5_rising_L1 N V A w0 (2 ^ N 0) 0 A)).2.2.2) := (by rw [s_X5_rising, if_pos c_2, if_pos c_3])
          rw [hEE]
          exact W.iret (v := (s_X5_rising_L2 N V A w0 (2 ^ N 0 - N 2) (N 2) (0 : Int32) (0 : Int32) (0 : Int32) (s_X5_rising_L1 N V A w0 (2 ^ N 0) 0 A)).1) hx hb hr (fun t ht hW => ⟨⟨_, (), rfl, rfl, ⟨by rw [ht]; exact hP, va_K.moved hW.alike hK⟩, hD⟩, hS.F ht⟩) hS.2.2 dX5_rising_180
      have LL2 : ∀ (n k : Nat) (a : Int32) (b : Int32) (d : Int32) (A1 : Nat → Nat → Int32) (H : Heap) (locs : List Loc), va_P D vwCl (wM cI cZ q N V A1) H → va_D Ar (wM cI cZ q N V A1) → va_S Ar s.heap H locs → ∀ (ls : Array Slot), k + n = 2 ^ N 0 → okM N A1 → s_X5_rising_L2 N V A w0 (2 ^ N 0 - N 2) (N 2) (0 : Int32) (0 : Int32) (0 : Int32) (s_X5_rising_L1 N V A w0 (2 ^ N 0) 0 A) = s_X5_rising_L2 N V A w0 n k a b d A1 → lv_has ls 8 [(6, .int (nI k)), (5, .int d), (4, .int b), (3, .int a), (2, .int (nI (2 ^ (N 0) - 1))), (0, .ref (q 0)), (1, .int w0)] → W p l e (headSpec wsX5_rising ({ frames := 4, cells := 0, slots := 0, locals := 89 })).room s m ([.ref (q 0), .int w0] : List Value).toArray below meth c H locs 0 0 (MQ below (va_Qi (fun r (_ : Unit) => r = (s_X5_rising N V A w0).1) (fun _ t => PM D cI cZ cS q (s_X5_rising N V A w0).2.1 (s_X5_rising N V A w0).2.2.1 (s_X5_rising N V A w0).2.2.2 t ∧ va_D Ar (wM cI cZ q (s_X5_rising N V A w0).2.1 (s_X5_rising N V A w0).2.2.1 (s_X5_rising N V A w0).2.2.2)) Ar) ([.ref (q 0), .int w0] : List Value).toArray s 0 0 Ar) (F0 m 74 ls []) := by
        intro n
        induction n with
        | zero =>
          intro k a b d A1 H locs hP hD hS ls hk hI hF hl
          refine lv_iload hx hb dX5_rising_74 (lv_at hl 0 rfl) ?_
          refine lv_iload_n hx hb dX5_rising_76 rfl (lv_at hl 4 rfl) ?_
          refine lv_icmp_gt (tgt := 160) hx hb dX5_rising_77 (by decide) (fun _ => ?_) (fun c_5 => absurd (nI_lt (by omega) (by omega)) c_5)
          have hF : s_X5_rising_L2 N V A w0 (2 ^ N 0 - N 2) (N 2) (0 : Int32) (0 : Int32) (0 : Int32) (s_X5_rising_L1 N V A w0 (2 ^ N 0) 0 A) = (a, b, d, A1) := hF.trans (by rw [s_X5_rising_L2])
          have hF0 := congrArg (fun z => z.1) hF
          have hF1 := congrArg (fun z => z.2.1) hF
          have hF2 := congrArg (fun z => z.2.2.1) hF
          have hF3 := congrArg (fun z => z.2.2.2) hF
          dsimp only at hF0 hF1 hF2 hF3
          exact KL2 _ _ (by (try rw [hF0]); (try rw [hF1]); (try rw [hF2]); (try rw [hF3]); exact hP) (by (try rw [hF0]); (try rw [hF1]); (try rw [hF2]); (try rw [hF3]); exact hD) hS _ (by (try rw [hF0]); (try rw [hF1]); (try rw [hF2]); (try rw [hF3]); exact hI) (by (try rw [hF0]); (try rw [hF1]); (try rw [hF2]); (try rw [hF3]); exact lv_sub hl [1, 2, 3, 4, 5, 6] rfl)
        | succ n ih =>
          intro k a b d A1 H locs hP hD hS ls hk hI hF hl
          refine lv_iload hx hb dX5_rising_74 (lv_at hl 0 rfl) ?_
          refine lv_iload_n hx hb dX5_rising_76 rfl (lv_at hl 4 rfl) ?_
          refine lv_icmp_gt (tgt := 160) hx hb dX5_rising_77 (by decide) (fun c_6 => absurd c_6 (nI_nlt (by omega) (by omega))) (fun _ => ?_)
          refine lv_aload_n hx hb dX5_rising_80 rfl (lv_at hl 5 rfl) ?_
          refine va_get (D := D) (ci := 5) (v := .ref (q 12)) (C := RX5) (T := TX5) (N := 22) hx hb hts hin5 hown hK hP 0 rfl rfl 15 (by decide) (hts (.fieldLink RX5 44 "NeckShipModel" "isCome" "[Z") (by decide +kernel)) (fun _ h9 => h9) rfl dX5_rising_81 ?_
          refine lv_iload hx hb dX5_rising_84 (lv_at hl 0 rfl) ?_
          refine va_zaldB (i := k) (x := bz (A1 12 k)) hx hb hK hP 12 1 rfl rfl (hI.2.2.2.2.2.2 _) (by decide) (by omega) dX5_rising_86 ?_
          refine lz_if_eq (tgt := 154) hx hb dX5_rising_87 (by decide) (fun c_7 => ?_) (fun c_7 => ?_)
          · refine lv_iinc (v := nI (k + 1)) (lv' := [(6, .int (nI (k + 1))), (5, .int d), (4, .int b), (3, .int a), (2, .int (nI (2 ^ (N 0) - 1))), (0, .ref (q 0)), (1, .int w0)]) hx hb dX5_rising_154 hl (k := 0) rfl (nI_1 k) (by decide) rfl (fun ls hl => ?_)
            refine lv_goto (tgt := 74) hx hb dX5_rising_157 (by decide) ?_
            exact ih (k + 1) a b d A1 _ _ hP hD hS _ (by omega) hI (hF.trans (by rw [s_X5_rising_L2, if_neg (nb c_7)])) (lv_sub hl [0, 1, 2, 3, 4, 5, 6] rfl)
          · refine lv_iinc (v := (a + (1))) (lv' := [(3, .int (a + (1))), (6, .int (nI k)), (5, .int d), (4, .int b), (2, .int (nI (2 ^ (N 0) - 1))), (0, .ref (q 0)), (1, .int w0)]) hx hb dX5_rising_90 hl (k := 3) rfl rfl (by decide) rfl (fun ls hl => ?_)
            refine lv_iload hx hb dX5_rising_93 (lv_at hl 3 rfl) ?_
            refine lv_iload hx hb dX5_rising_95 (lv_at hl 1 rfl) ?_
            refine vp_callSi (W.runS (As := [.int (nI k)]) (rest := [.int b]) ⟨hx, hb, hml, hown, hts⟩ (c_X5_count l (nI k)) (cwS 1 hts gX5_rising_X5_count rfl rfl rfl (by decide +kernel) ⟨Nat.le_of_ble_eq_true rfl, Nat.le_of_ble_eq_true rfl⟩) (preEq) rfl rfl hl.1 rfl (lv_room (Nat.le_of_ble_eq_true rfl)) dX5_rising_97 ⟨Nat.zero_le _, Nat.zero_le _⟩) (fun r_8 er_8 => ?_)
            subst er_8
            refine vp_callSi (W.runS (As := [.int b, .int (s_X5_count (nI k))]) (rest := []) ⟨hx, hb, hml, hown, hts⟩ (c_X5_greater l b (s_X5_count (nI k))) (cwS 2 hts gX5_rising_X5_greater rfl rfl rfl (by decide +kernel) ⟨Nat.le_of_ble_eq_true rfl, Nat.le_of_ble_eq_true rfl⟩) (preEq) rfl rfl hl.1 rfl (lv_room (Nat.le_of_ble_eq_true rfl)) dX5_rising_100 ⟨Nat.zero_le _, Nat.zero_le _⟩) (fun r_9 er_9 => ?_)
            subst er_9
            refine lv_istore (lv' := [(4, .int (s_X5_greater b (s_X5_count (nI k)))), (3, .int (a + (1))), (6, .int (nI k)), (5, .int d), (2, .int (nI (2 ^ (N 0) - 1))), (0, .ref (q 0)), (1, .int w0)]) hx hb dX5_rising_103 hl (by decide) rfl (fun ls hl => ?_)
            refine lv_iload hx hb dX5_rising_105 (lv_at hl 3 rfl) ?_
            refine lv_iload hx hb dX5_rising_107 (lv_at hl 2 rfl) ?_
            refine lv_ior hx hb dX5_rising_109 ?_
            refine lv_istore (lv' := [(5, .int (d ||| nI k)), (4, .int (s_X5_greater b (s_X5_count (nI k)))), (3, .int (a + (1))), (6, .int (nI k)), (2, .int (nI (2 ^ (N 0) - 1))), (0, .ref (q 0)), (1, .int w0)]) hx hb dX5_rising_110 hl (by decide) rfl (fun ls hl => ?_)
            refine lv_iconst (v := (0)) hx hb dX5_rising_112 (by decide) ?_
            refine lv_istore (lv' := [(7, .int (0)), (5, .int (d ||| nI k)), (4, .int (s_X5_greater b (s_X5_count (nI k)))), (3, .int (a + (1))), (6, .int (nI k)), (2, .int (nI (2 ^ (N 0) - 1))), (0, .ref (q 0)), (1, .int w0)]) hx hb dX5_rising_113 hl (by decide) rfl (fun ls hl => ?_)
            have KL3 : ∀ (H : Heap) (locs : List Loc), va_P D vwCl (wM cI cZ q N V (s_X5_rising_L3 N V A w0 n k a b d A1 (N 0) 0 A1)) H → va_D Ar (wM cI cZ q N V (s_X5_rising_L3 N V A w0 n k a b d A1 (N 0) 0 A1)) → va_S Ar s.heap H locs → ∀ (ls : Array Slot), okM N (s_X5_rising_L3 N V A w0 n k a b d A1 (N 0) 0 A1) → lv_has ls 8 [(5, .int (d ||| nI k)), (4, .int (s_X5_greater b (s_X5_count (nI k)))), (3, .int (a + (1))), (6, .int (nI k)), (2, .int (nI (2 ^ (N 0) - 1))), (0, .ref (q 0)), (1, .int w0)] → W p l e (headSpec wsX5_rising ({ frames := 4, cells := 0, slots := 0, locals := 89 })).room s m ([.ref (q 0), .int w0] : List Value).toArray below meth c H locs 0 0 (MQ below (va_Qi (fun r (_ : Unit) => r = (s_X5_rising N V A w0).1) (fun _ t => PM D cI cZ cS q (s_X5_rising N V A w0).2.1 (s_X5_rising N V A w0).2.2.1 (s_X5_rising N V A w0).2.2.2 t ∧ va_D Ar (wM cI cZ q (s_X5_rising N V A w0).2.1 (s_X5_rising N V A w0).2.2.1 (s_X5_rising N V A w0).2.2.2)) Ar) ([.ref (q 0), .int w0] : List Value).toArray s 0 0 Ar) (F0 m 154 ls []) := by
              intro H locs hP hD hS ls hI hl
              refine lv_iinc (v := nI (k + 1)) (lv' := [(6, .int (nI (k + 1))), (5, .int (d ||| nI k)), (4, .int (s_X5_greater b (s_X5_count (nI k)))), (3, .int (a + (1))), (2, .int (nI (2 ^ (N 0) - 1))), (0, .ref (q 0)), (1, .int w0)]) hx hb dX5_rising_154 hl (k := 3) rfl (nI_1 k) (by decide) rfl (fun ls hl => ?_)
              refine lv_goto (tgt := 74) hx hb dX5_rising_157 (by decide) ?_
              exact ih (k + 1) (a + (1)) (s_X5_greater b (s_X5_count (nI k))) (d ||| nI k) (s_X5_rising_L3 N V A w0 n k a b d A1 (N 0) 0 A1) _ _ hP hD hS _ (by omega) hI (hF.trans (by rw [s_X5_rising_L2, if_pos c_7])) (lv_sub hl [0, 1, 2, 3, 4, 5, 6] rfl)
            have LL3 : ∀ (r j : Nat) (A2 : Nat → Nat → Int32) (H : Heap) (locs : List Loc), va_P D vwCl (wM cI cZ q N V A2) H → va_D Ar (wM cI cZ q N V A2) → va_S Ar s.heap H locs → ∀ (ls : Array Slot), j + r = N 0 → okM N A2 → s_X5_rising_L3 N V A w0 n k a b d A1 (N 0) 0 A1 = s_X5_rising_L3 N V A w0 n k a b d A1 r j A2 → lv_has ls 8 [(7, .int (nI j)), (5, .int (d ||| nI k)), (4, .int (s_X5_greater b (s_X5_count (nI k)))), (3, .int (a + (1))), (6, .int (nI k)), (2, .int (nI (2 ^ (N 0) - 1))), (0, .ref (q 0)), (1, .int w0)] → W p l e (headSpec wsX5_rising ({ frames := 4, cells := 0, slots := 0, locals := 89 })).room s m ([.ref (q 0), .int w0] : List Value).toArray below meth c H locs 0 0 (MQ below (va_Qi (fun r (_ : Unit) => r = (s_X5_rising N V A w0).1) (fun _ t => PM D cI cZ cS q (s_X5_rising N V A w0).2.1 (s_X5_rising N V A w0).2.2.1 (s_X5_rising N V A w0).2.2.2 t ∧ va_D Ar (wM cI cZ q (s_X5_rising N V A w0).2.1 (s_X5_rising N V A w0).2.2.1 (s_X5_rising N V A w0).2.2.2)) Ar) ([.ref (q 0), .int w0] : List Value).toArray s 0 0 Ar) (F0 m 115 ls []) := by
              intro r
              induction r with
              | zero =>
                intro j A2 H locs hP hD hS ls hk hI hF hl
                refine lv_iload hx hb dX5_rising_115 (lv_at hl 0 rfl) ?_
                refine lv_aload_n hx hb dX5_rising_117 rfl (lv_at hl 6 rfl) ?_
                refine va_get (D := D) (ci := 5) (v := .int (nI (N 0))) (C := RX5) (T := TX5) (N := 22) hx hb hts hin5 hown hK hP 0 rfl rfl 2 (by decide) (hts (.fieldLink RX5 72 "NeckShipModel" "spars" "I") (by decide +kernel)) (fun _ h9 => h9) rfl dX5_rising_118 ?_
                refine lv_icmp_ge (tgt := 154) hx hb dX5_rising_121 (by decide) (fun _ => ?_) (fun c_10 => absurd (nI_le (by omega) (by omega)) c_10)
                have hF : s_X5_rising_L3 N V A w0 n k a b d A1 (N 0) 0 A1 = A2 := hF.trans (by rw [s_X5_rising_L3])
                exact KL3 _ _ (by (try rw [hF]); exact hP) (by (try rw [hF]); exact hD) hS _ (by (try rw [hF]); exact hI) (by (try rw [hF]); exact lv_sub hl [1, 2, 3, 4, 5, 6, 7] rfl)
              | succ r ih =>
                intro j A2 H locs hP hD hS ls hk hI hF hl
                refine lv_iload hx hb dX5_rising_115 (lv_at hl 0 rfl) ?_
                refine lv_aload_n hx hb dX5_rising_117 rfl (lv_at hl 6 rfl) ?_
                refine va_get (D := D) (ci := 5) (v := .int (nI (N 0))) (C := RX5) (T := TX5) (N := 22) hx hb hts hin5 hown hK hP 0 rfl rfl 2 (by decide) (hts (.fieldLink RX5 72 "NeckShipModel" "spars" "I") (by decide +kernel)) (fun _ h9 => h9) rfl dX5_rising_118 ?_
                refine lv_icmp_ge (tgt := 154) hx hb dX5_rising_121 (by decide) (fun c_11 => absurd c_11 (nI_ge (by omega) (by omega))) (fun _ => ?_)
                refine lv_aload_n hx hb dX5_rising_124 rfl (lv_at hl 6 rfl) ?_
                refine lv_iload hx hb dX5_rising_125 (lv_at hl 4 rfl) ?_
                refine lv_iload hx hb dX5_rising_127 (lv_at hl 0 rfl) ?_
                refine vp_callSi (W.runV (As := [.int (nI k), .int (nI j)]) (rest := []) ⟨hx, hb, hml, hown, hts⟩ (c_X5_mayRise l D cI cZ cS q N V A2 (nI k) j hI (by omega)) (cwV 2 hts gX5_rising_X5_mayRise rfl rfl rfl (by decide +kernel) ⟨Nat.le_of_ble_eq_true rfl, Nat.le_of_ble_eq_true rfl⟩) (preM hK hP) rfl rfl hl.1 rfl (lv_room (Nat.le_of_ble_eq_true rfl)) dX5_rising_129 ⟨Nat.zero_le _, Nat.zero_le _⟩) (fun r_12 er_12 => ?_)
                subst er_12
                refine lz_if_eq (tgt := 148) hx hb dX5_rising_132 (by decide) (fun c_13 => ?_) (fun c_13 => ?_)
                · refine lv_iinc (v := nI (j + 1)) (lv' := [(7, .int (nI (j + 1))), (5, .int (d ||| nI k)), (4, .int (s_X5_greater b (s_X5_count (nI k)))), (3, .int (a + (1))), (6, .int (nI k)), (2, .int (nI (2 ^ (N 0) - 1))), (0, .ref (q 0)), (1, .int w0)]) hx hb dX5_rising_148 hl (k := 0) rfl (nI_1 j) (by decide) rfl (fun ls hl => ?_)
                  refine lv_goto (tgt := 115) hx hb dX5_rising_151 (by decide) ?_
                  exact ih (j + 1) A2 _ _ hP hD hS _ (by omega) (by first | exact hI | exact ok_putB hI (Or.inr (Or.inr rfl)) _ true) (hF.trans (by rw [s_X5_rising_L3, if_neg (nb c_13)])) (lv_sub hl [0, 1, 2, 3, 4, 5, 6, 7] rfl)
                · refine lv_aload_n hx hb dX5_rising_135 rfl (lv_at hl 6 rfl) ?_
                  refine va_get (D := D) (ci := 5) (v := .ref (q 12)) (C := RX5) (T := TX5) (N := 22) hx hb hts hin5 hown hK hP 0 rfl rfl 15 (by decide) (hts (.fieldLink RX5 44 "NeckShipModel" "isCome" "[Z") (by decide +kernel)) (fun _ h9 => h9) rfl dX5_rising_136 ?_
                  refine lv_iload hx hb dX5_rising_139 (lv_at hl 4 rfl) ?_
                  refine lv_iconst (v := (1)) hx hb dX5_rising_141 (by decide) ?_
                  refine lv_iload hx hb dX5_rising_142 (lv_at hl 0 rfl) ?_
                  refine lv_ishl hx hb dX5_rising_144 ?_
                  rw [sh1 (k := j) (by omega)]
                  refine lv_ior hx hb dX5_rising_145 ?_
                  rw [fa_or k (2 ^ j)]
                  refine lv_iconst (v := (1)) hx hb dX5_rising_146 (by decide) ?_
                  refine va_zastN (x := true) (i := (k ||| (2 ^ j))) hx hb hK hP hD hS 12 1 rfl rfl (by decide) (or1024 (by omega) (by omega)) dX5_rising_147 (fun H locs hP hD hS => ?_)
                  have hP : va_P D vwCl (wM cI cZ q N V (va_up A2 12 (upd (A2 12) (k ||| (2 ^ j)) (b2i true)))) H := hP
                  have hD : va_D Ar (wM cI cZ q N V (va_up A2 12 (upd (A2 12) (k ||| (2 ^ j)) (b2i true)))) := hD
                  refine lv_iinc (v := nI (j + 1)) (lv' := [(7, .int (nI (j + 1))), (5, .int (d ||| nI k)), (4, .int (s_X5_greater b (s_X5_count (nI k)))), (3, .int (a + (1))), (6, .int (nI k)), (2, .int (nI (2 ^ (N 0) - 1))), (0, .ref (q 0)), (1, .int w0)]) hx hb dX5_rising_148 hl (k := 0) rfl (nI_1 j) (by decide) rfl (fun ls hl => ?_)
                  refine lv_goto (tgt := 115) hx hb dX5_rising_151 (by decide) ?_
                  exact ih (j + 1) (va_up A2 12 (upd (A2 12) (k ||| (2 ^ j)) (b2i true))) _ _ hP hD hS _ (by omega) (by first | exact hI | exact ok_putB hI (Or.inr (Or.inr rfl)) _ true) (hF.trans (by rw [s_X5_rising_L3, if_pos c_13])) (lv_sub hl [0, 1, 2, 3, 4, 5, 6, 7] rfl)
            exact LL3 (N 0) 0 A1 _ _ hP hD hS _ (by omega) hI rfl (lv_sub hl [0, 1, 2, 3, 4, 5, 6, 7] rfl)
      exact LL2 (2 ^ N 0 - N 2) (N 2) (0 : Int32) (0 : Int32) (0 : Int32) (s_X5_rising_L1 N V A w0 (2 ^ N 0) 0 A) _ _ hP hD hS _ (by omega) hI rfl (lv_sub hl [0, 1, 2, 3, 4, 5, 6] rfl)
    have LL1 : ∀ (n k : Nat) (A1 : Nat → Nat → Int32) (H : Heap) (locs : List Loc), va_P D vwCl (wM cI cZ q N V A1) H → va_D Ar (wM cI cZ q N V A1) → va_S Ar s.heap H locs → ∀ (ls : Array Slot), k + n = 2 ^ N 0 → okM N A1 → s_X5_rising_L1 N V A w0 (2 ^ N 0) 0 A = s_X5_rising_L1 N V A w0 n k A1 → lv_has ls 8 [(6, .int (nI k)), (5, .int (0)), (4, .int (0)), (3, .int (0)), (2, .int (nI (2 ^ (N 0) - 1))), (0, .ref (q 0)), (1, .int w0)] → W p l e (headSpec wsX5_rising ({ frames := 4, cells := 0, slots := 0, locals := 89 })).room s m ([.ref (q 0), .int w0] : List Value).toArray below meth c H locs 0 0 (MQ below (va_Qi (fun r (_ : Unit) => r = (s_X5_rising N V A w0).1) (fun _ t => PM D cI cZ cS q (s_X5_rising N V A w0).2.1 (s_X5_rising N V A w0).2.2.1 (s_X5_rising N V A w0).2.2.2 t ∧ va_D Ar (wM cI cZ q (s_X5_rising N V A w0).2.1 (s_X5_rising N V A w0).2.2.1 (s_X5_rising N V A w0).2.2.2)) Ar) ([.ref (q 0), .int w0] : List Value).toArray s 0 0 Ar) (F0 m 35 ls []) := by
      intro n
      induction n with
      | zero =>
        intro k A1 H locs hP hD hS ls hk hI hF hl
        refine lv_iload hx hb dX5_rising_35 (lv_at hl 0 rfl) ?_
        refine lv_iload_n hx hb dX5_rising_37 rfl (lv_at hl 4 rfl) ?_
        refine lv_icmp_gt (tgt := 68) hx hb dX5_rising_38 (by decide) (fun _ => ?_) (fun c_14 => absurd (nI_lt (by omega) (by omega)) c_14)
        have hF : s_X5_rising_L1 N V A w0 (2 ^ N 0) 0 A = A1 := hF.trans (by rw [s_X5_rising_L1])
        exact KL1 _ _ (by (try rw [hF]); exact hP) (by (try rw [hF]); exact hD) hS _ (by (try rw [hF]); exact hI) (by (try rw [hF]); exact lv_sub hl [1, 2, 3, 4, 5, 6] rfl)
      | succ n ih =>
        intro k A1 H locs hP hD hS ls hk hI hF hl
        refine lv_iload hx hb dX5_rising_35 (lv_at hl 0 rfl) ?_
        refine lv_iload_n hx hb dX5_rising_37 rfl (lv_at hl 4 rfl) ?_
        refine lv_icmp_gt (tgt := 68) hx hb dX5_rising_38 (by decide) (fun c_15 => absurd c_15 (nI_nlt (by omega) (by omega))) (fun _ => ?_)
        refine lv_aload_n hx hb dX5_rising_41 rfl (lv_at hl 5 rfl) ?_
        refine va_get (D := D) (ci := 5) (v := .ref (q 12)) (C := RX5) (T := TX5) (N := 22) hx hb hts hin5 hown hK hP 0 rfl rfl 15 (by decide) (hts (.fieldLink RX5 44 "NeckShipModel" "isCome" "[Z") (by decide +kernel)) (fun _ h9 => h9) rfl dX5_rising_42 ?_
        refine lv_iload hx hb dX5_rising_45 (lv_at hl 0 rfl) ?_
        refine lv_iload hx hb dX5_rising_47 (lv_at hl 0 rfl) ?_
        refine lv_aload_n hx hb dX5_rising_49 rfl (lv_at hl 5 rfl) ?_
        refine va_get (D := D) (ci := 5) (v := .int (nI (N 2))) (C := RX5) (T := TX5) (N := 22) hx hb hts hin5 hown hK hP 0 rfl rfl 8 (by decide) (hts (.fieldLink RX5 125 "NeckShipModel" "up" "I") (by decide +kernel)) (fun _ h9 => h9) rfl dX5_rising_50 ?_
        have J53 : ∀ (x : Bool), x = (if nI k = nI (N 2) then true else false) → W p l e (headSpec wsX5_rising ({ frames := 4, cells := 0, slots := 0, locals := 89 })).room s m ([.ref (q 0), .int w0] : List Value).toArray below meth c H locs 0 0 (MQ below (va_Qi (fun r (_ : Unit) => r = (s_X5_rising N V A w0).1) (fun _ t => PM D cI cZ cS q (s_X5_rising N V A w0).2.1 (s_X5_rising N V A w0).2.2.1 (s_X5_rising N V A w0).2.2.2 t ∧ va_D Ar (wM cI cZ q (s_X5_rising N V A w0).2.1 (s_X5_rising N V A w0).2.2.1 (s_X5_rising N V A w0).2.2.2)) Ar) ([.ref (q 0), .int w0] : List Value).toArray s 0 0 Ar) (F0 m 61 ls [.int (b2i x), .int (nI k), .ref (q 12)]) := by
          intro x ex
          subst ex
          refine va_zastN (x := (if nI k = nI (N 2) then true else false)) (i := k) hx hb hK hP hD hS 12 1 rfl rfl (by decide) (by omega) dX5_rising_61 (fun H locs hP hD hS => ?_)
          have hP : va_P D vwCl (wM cI cZ q N V (va_up A1 12 (upd (A1 12) k (b2i (if nI k = nI (N 2) then true else false))))) H := hP
          have hD : va_D Ar (wM cI cZ q N V (va_up A1 12 (upd (A1 12) k (b2i (if nI k = nI (N 2) then true else false))))) := hD
          refine lv_iinc (v := nI (k + 1)) (lv' := [(6, .int (nI (k + 1))), (5, .int (0)), (4, .int (0)), (3, .int (0)), (2, .int (nI (2 ^ (N 0) - 1))), (0, .ref (q 0)), (1, .int w0)]) hx hb dX5_rising_62 hl (k := 0) rfl (nI_1 k) (by decide) rfl (fun ls hl => ?_)
          refine lv_goto (tgt := 35) hx hb dX5_rising_65 (by decide) ?_
          exact ih (k + 1) (va_up A1 12 (upd (A1 12) k (b2i (if nI k = nI (N 2) then true else false)))) _ _ hP hD hS _ (by omega) (ok_putB hI (Or.inr (Or.inr rfl)) _ _) (hF.trans (by rw [s_X5_rising_L1])) (lv_sub hl [0, 1, 2, 3, 4, 5, 6] rfl)
        refine lv_icmp_ne (tgt := 60) hx hb dX5_rising_53 (by decide) (fun c_16 => ?_) (fun c_16 => ?_)
        · refine lv_iconst (v := (0)) hx hb dX5_rising_60 (by decide) ?_
          exact J53 false (by rw [if_neg c_16])
        · refine lv_iconst (v := (1)) hx hb dX5_rising_56 (by decide) ?_
          refine lv_goto (tgt := 61) hx hb dX5_rising_57 (by decide) ?_
          exact J53 true (by rw [if_pos c_16])
    exact LL1 (2 ^ N 0) 0 A _ _ hP hD hS _ (by omega) h_1 rfl (lv_sub hl [0, 1, 2, 3, 4, 5, 6] rfl)
  · refine lv_bipush (v := (-2)) hx hb dX5_rising_12 (by decide) ?_
    have hEE : s_X5_rising N V A w0 = ((-2 : Int32), N, V, A) := (by rw [s_X5_rising, if_neg (nb c_2)])
    rw [hEE]
    exact W.iret (v := (-2 : Int32)) hx hb hr (fun t ht hW => ⟨⟨_, (), rfl, rfl, ⟨by rw [ht]; exact hP, va_K.moved hW.alike hK⟩, hD⟩, hS.F ht⟩) hS.2.2 dX5_rising_14
def s_X5_rig_L2 (N : Nat → Nat) (V : Nat → Int32) (A : Nat → Nat → Int32) (n : Nat) (k : Nat) (A1 : Nat → Nat → Int32) : Nat → Nat → (Nat → Nat → Int32) → (Nat → Nat → Int32)
  | 0, j, A2 =>
    A2
  | r + 1, j, A2 =>
    if (s_X5_doCross N V A2 k j) = true then
      s_X5_rig_L2 N V A n k A1 r (j + 1) (va_up A2 13 (upd (A2 13) k (A2 13 k ||| nI (2 ^ j))))
    else
      s_X5_rig_L2 N V A n k A1 r (j + 1) (va_up A2 13 (upd (A2 13) k (A2 13 k ||| (0 : Int32))))
def s_X5_rig_L1 (N : Nat → Nat) (V : Nat → Int32) (A : Nat → Nat → Int32) : Nat → Nat → (Nat → Nat → Int32) → (Nat → Nat → Int32)
  | 0, k, A1 =>
    A1
  | n + 1, k, A1 =>
    s_X5_rig_L1 N V A n (k + 1) (s_X5_rig_L2 N V A n k A1 (N 1) 0 (va_up A1 13 (upd (A1 13) k (0 : Int32))))
def s_X5_rig_L3 (N : Nat → Nat) (V : Nat → Int32) (A : Nat → Nat → Int32) : Nat → Nat → Int32 × St
  | 0, k =>
    ((-9 : Int32), N, V, (s_X5_rig_L1 N V A (N 1) 0 A))
  | n + 1, k =>
    if (s_X5_isRig N V (s_X5_rig_L1 N V A (N 1) 0 A) (nI k)) = true then
      (nI k, N, V, (s_X5_rig_L1 N V A (N 1) 0 A))
    else
      s_X5_rig_L3 N V A n (k + 1)
def s_X5_rig (N : Nat → Nat) (V : Nat → Int32) (A : Nat → Nat → Int32)  : Int32 × St :=
  if nI (N 0) = 0 then
    ((-3 : Int32), N, V, A)
  else
    s_X5_rig_L3 N V A (2 ^ N 1) 0
set_option maxHeartbeats 4000000 in
set_option maxRecDepth 100000 in
theorem c_X5_rig (l : Launch) (D : va_G) (cI cZ cS : ClassId) (q : Nat → Nat) (N : Nat → Nat) (V : Nat → Int32) (A : Nat → Nat → Int32) (sz : Nat) (h_1 : okM N A) : Met l yX5_rig wsX5_rig ({ frames := 2, cells := 0, slots := 0, locals := 50 }) (va_Pc [.ref (q 0)] (fun U => U.heap.size = sz ∧ PM D cI cZ cS q N V A U ∧ va_D (fun _ => True) (wM cI cZ q N V A))) (va_Qi (fun r (_ : Unit) => r = (s_X5_rig N V A).1) (fun _ t => PM D cI cZ cS q (s_X5_rig N V A).2.1 (s_X5_rig N V A).2.2.1 (s_X5_rig N V A).2.2.2 t ∧ va_D (va_A (wM cI cZ q N V A) sz) (wM cI cZ q (s_X5_rig N V A).2.1 (s_X5_rig N V A).2.2.1 (s_X5_rig N V A).2.2.2)) (va_A (wM cI cZ q N V A) sz)) 0 0 (va_A (wM cI cZ q N V A) sz) := by
  refine Met.ofW (cc := cX5_rig) (maxL := 3) (ret := (some .int)) (by decide) rfl ?_
  intro p e s m args below meth c s₁ B hml hv
  obtain ⟨rfl, hsz, ⟨hP, hK⟩, hD0⟩ := hv
  have hx := B.exec
  have hb := B.bytes
  have hr := B.returns
  have hts := atoms_spec (ws := wsX5_rig) B.pre
  have hown : s.vm.findClass RX5 = some m.cls := findClass_of_methodNamed B.named
  have hlocks := B.notSynchronized
  have hin5 : ∀ w ∈ u_ws RX5 TX5 22, w ∈ wsX5_rig := by decide +kernel
  subst hsz
  have hD := hD0.self (sz := s.heap.size)
  generalize hAe : va_A (wM cI cZ q N V A) s.heap.size = Ar at hD ⊢
  have hA : ∀ q : Nat, s.heap.size ≤ q → Ar q := fun q h => by rw [← hAe]; exact Or.inr h
  have hS : va_S Ar s.heap s.heap [] := va_S.rf
  obtain ⟨o1, o2, o3, o4, o5, o6, o7⟩ := id h_1
  have hp : 2 ^ N 1 ≤ 2 ^ 16 := Nat.pow_le_pow_right (by omega) o2
  have hp2 : (2 : Nat) ^ 16 = 65536 := rfl
  have hl := lv_entry ([.ref (q 0)]) (n := 3) (Nat.le_of_ble_eq_true rfl)
  rw [lg_entry_eq]
  generalize (lg_sl ([.ref (q 0)]) ++ List.replicate (3 - (lg_sl ([.ref (q 0)])).length) Slot.unset).toArray = ls at hl ⊢
  have hl : lv_has ls 3 [(0, .ref (q 0))] := hl
  refine lv_aload_n hx hb dX5_rig_0 rfl (lv_at hl 0 rfl) ?_
  refine va_get (D := D) (ci := 5) (v := .int (nI (N 0))) (C := RX5) (T := TX5) (N := 22) hx hb hts hin5 hown hK hP 0 rfl rfl 2 (by decide) (hts (.fieldLink RX5 72 "NeckShipModel" "spars" "I") (by decide +kernel)) (fun _ h9 => h9) rfl dX5_rig_1 ?_
  refine lv_if_ne (tgt := 10) hx hb dX5_rig_4 (by decide) (fun c_1 => ?_) (fun c_1 => ?_)
  · refine lv_iconst (v := (0)) hx hb dX5_rig_10 (by decide) ?_
    refine lv_istore_n (lv' := [(1, .int (0)), (0, .ref (q 0))]) hx hb dX5_rig_11 rfl hl (by decide) rfl (fun ls hl => ?_)
    have KL1 : ∀ (H : Heap) (locs : List Loc), va_P D vwCl (wM cI cZ q N V (s_X5_rig_L1 N V A (N 1) 0 A)) H → va_D Ar (wM cI cZ q N V (s_X5_rig_L1 N V A (N 1) 0 A)) → va_S Ar s.heap H locs → ∀ (ls : Array Slot), okM N (s_X5_rig_L1 N V A (N 1) 0 A) → lv_has ls 3 [(0, .ref (q 0))] → W p l e (headSpec wsX5_rig ({ frames := 2, cells := 0, slots := 0, locals := 50 })).room s m ([.ref (q 0)] : List Value).toArray below meth c H locs 0 0 (MQ below (va_Qi (fun r (_ : Unit) => r = (s_X5_rig N V A).1) (fun _ t => PM D cI cZ cS q (s_X5_rig N V A).2.1 (s_X5_rig N V A).2.2.1 (s_X5_rig N V A).2.2.2 t ∧ va_D Ar (wM cI cZ q (s_X5_rig N V A).2.1 (s_X5_rig N V A).2.2.1 (s_X5_rig N V A).2.2.2)) Ar) ([.ref (q 0)] : List Value).toArray s 0 0 Ar) (F0 m 74 ls []) := by
      intro H locs hP hD hS ls hI hl
      refine lv_iconst (v := (0)) hx hb dX5_rig_74 (by decide) ?_
      refine lv_istore_n (lv' := [(1, .int (0)), (0, .ref (q 0))]) hx hb dX5_rig_75 rfl hl (by decide) rfl (fun ls hl => ?_)
      have LL3 : ∀ (n k : Nat)  (H : Heap) (locs : List Loc), va_P D vwCl (wM cI cZ q N V (s_X5_rig_L1 N V A (N 1) 0 A)) H → va_D Ar (wM cI cZ q N V (s_X5_rig_L1 N V A (N 1) 0 A)) → va_S Ar s.heap H locs → ∀ (ls : Array Slot), k + n = 2 ^ N 1 → s_X5_rig N V A = s_X5_rig_L3 N V A n k → lv_has ls 3 [(1, .int (nI k)), (0, .ref (q 0))] → W p l e (headSpec wsX5_rig ({ frames := 2, cells := 0, slots := 0, locals := 50 })).room s m ([.ref (q 0)] : List Value).toArray below meth c H locs 0 0 (MQ below (va_Qi (fun r (_ : Unit) => r = (s_X5_rig N V A).1) (fun _ t => PM D cI cZ cS q (s_X5_rig N V A).2.1 (s_X5_rig N V A).2.2.1 (s_X5_rig N V A).2.2.2 t ∧ va_D Ar (wM cI cZ q (s_X5_rig N V A).2.1 (s_X5_rig N V A).2.2.1 (s_X5_rig N V A).2.2.2)) Ar) ([.ref (q 0)] : List Value).toArray s 0 0 Ar) (F0 m 76 ls []) := by
        intro n
        induction n with
        | zero =>
          intro k H locs hP hD hS ls hk hF hl
          refine lv_iload_n hx hb dX5_rig_76 rfl (lv_at hl 0 rfl) ?_
          refine lv_iconst (v := (1)) hx hb dX5_rig_77 (by decide) ?_
          refine lv_aload_n hx hb dX5_rig_78 rfl (lv_at hl 1 rfl) ?_
          refine va_get (D := D) (ci := 5) (v := .int (nI (N 1))) (C := RX5) (T := TX5) (N := 22) hx hb hts hin5 hown hK hP 0 rfl rfl 9 (by decide) (hts (.fieldLink RX5 79 "NeckShipModel" "threads" "I") (by decide +kernel)) (fun _ h9 => h9) rfl dX5_rig_79 ?_
          refine lv_ishl hx hb dX5_rig_82 ?_
          rw [sh1 (k := N 1) (by omega)]
          refine lv_icmp_ge (tgt := 102) hx hb dX5_rig_83 (by decide) (fun _ => ?_) (fun c_2 => absurd (nI_le (by omega) (by omega)) c_2)
          refine lv_bipush (v := (-9)) hx hb dX5_rig_102 (by decide) ?_
          have hEE : s_X5_rig N V A = ((-9 : Int32), N, V, (s_X5_rig_L1 N V A (N 1) 0 A)) := (by rw [hF, s_X5_rig_L3])
          rw [hEE]
          exact W.iret (v := (-9 : Int32)) hx hb hr (fun t ht hW => ⟨⟨_, (), rfl, rfl, ⟨by rw [ht]; exact hP, va_K.moved hW.alike hK⟩, hD⟩, hS.F ht⟩) hS.2.2 dX5_rig_104
        | succ n ih =>
          intro k H locs hP hD hS ls hk hF hl
          refine lv_iload_n hx hb dX5_rig_76 rfl (lv_at hl 0 rfl) ?_
          refine lv_iconst (v := (1)) hx hb dX5_rig_77 (by decide) ?_
          refine lv_aload_n hx hb dX5_rig_78 rfl (lv_at hl 1 rfl) ?_
          refine va_get (D := D) (ci := 5) (v := .int (nI (N 1))) (C := RX5) (T := TX5) (N := 22) hx hb hts hin5 hown hK hP 0 rfl rfl 9 (by decide) (hts (.fieldLink RX5 79 "NeckShipModel" "threads" "I") (by decide +kernel)) (fun _ h9 => h9) rfl dX5_rig_79 ?_
          refine lv_ishl hx hb dX5_rig_82 ?_
          rw [sh1 (k := N 1) (by omega)]
          refine lv_icmp_ge (tgt := 102) hx hb dX5_rig_83 (by decide) (fun c_3 => absurd c_3 (nI_ge (by omega) (by omega))) (fun _ => ?_)
          refine lv_aload_n hx hb dX5_rig_86 rfl (lv_at hl 1 rfl) ?_
          refine lv_iload_n hx hb dX5_rig_87 rfl (lv_at hl 0 rfl) ?_
          refine vp_callSi (W.runV (As := [.int (nI k)]) (rest := []) ⟨hx, hb, hml, hown, hts⟩ (c_X5_isRig l D cI cZ cS q N V (s_X5_rig_L1 N V A (N 1) 0 A) (nI k) hI) (cwV 1 hts gX5_rig_X5_isRig rfl rfl rfl (by decide +kernel) ⟨Nat.le_of_ble_eq_true rfl, Nat.le_of_ble_eq_true rfl⟩) (preM hK hP) rfl rfl hl.1 rfl (lv_room (Nat.le_of_ble_eq_true rfl)) dX5_rig_88 ⟨Nat.zero_le _, Nat.zero_le _⟩) (fun r_4 er_4 => ?_)
          subst er_4
          refine lz_if_eq (tgt := 96) hx hb dX5_rig_91 (by decide) (fun c_5 => ?_) (fun c_5 => ?_)
          · refine lv_iinc (v := nI (k + 1)) (lv' := [(1, .int (nI (k + 1))), (0, .ref (q 0))]) hx hb dX5_rig_96 hl (k := 0) rfl (nI_1 k) (by decide) rfl (fun ls hl => ?_)
            refine lv_goto (tgt := 76) hx hb dX5_rig_99 (by decide) ?_
            exact ih (k + 1) _ _ hP hD hS _ (by omega) (hF.trans (by rw [s_X5_rig_L3, if_neg (nb c_5)])) (lv_sub hl [0, 1] rfl)
          · refine lv_iload_n hx hb dX5_rig_94 rfl (lv_at hl 0 rfl) ?_
            have hEE : s_X5_rig N V A = (nI k, N, V, (s_X5_rig_L1 N V A (N 1) 0 A)) := (by rw [hF, s_X5_rig_L3, if_pos c_5])
            rw [hEE]
            exact W.iret (v := nI k) hx hb hr (fun t ht hW => ⟨⟨_, (), rfl, rfl, ⟨by rw [ht]; exact hP, va_K.moved hW.alike hK⟩, hD⟩, hS.F ht⟩) hS.2.2 dX5_rig_95
      exact LL3 (2 ^ N 1) 0  _ _ hP hD hS _ (by omega) (by rw [s_X5_rig, if_neg c_1]) (lv_sub hl [0, 1] rfl)
    have LL1 : ∀ (n k : Nat) (A1 : Nat → Nat → Int32) (H : Heap) (locs : List Loc), va_P D vwCl (wM cI cZ q N V A1) H → va_D Ar (wM cI cZ q N V A1) → va_S Ar s.heap H locs → ∀ (ls : Array Slot), k + n = N 1 → okM N A1 → s_X5_rig_L1 N V A (N 1) 0 A = s_X5_rig_L1 N V A n k A1 → lv_has ls 3 [(1, .int (nI k)), (0, .ref (q 0))] → W p l e (headSpec wsX5_rig ({ frames := 2, cells := 0, slots := 0, locals := 50 })).room s m ([.ref (q 0)] : List Value).toArray below meth c H locs 0 0 (MQ below (va_Qi (fun r (_ : Unit) => r = (s_X5_rig N V A).1) (fun _ t => PM D cI cZ cS q (s_X5_rig N V A).2.1 (s_X5_rig N V A).2.2.1 (s_X5_rig N V A).2.2.2 t ∧ va_D Ar (wM cI cZ q (s_X5_rig N V A).2.1 (s_X5_rig N V A).2.2.1 (s_X5_rig N V A).2.2.2)) Ar) ([.ref (q 0)] : List Value).toArray s 0 0 Ar) (F0 m 12 ls []) := by
      intro n
      induction n with
      | zero =>
        intro k A1 H locs hP hD hS ls hk hI hF hl
        refine lv_iload_n hx hb dX5_rig_12 rfl (lv_at hl 0 rfl) ?_
        refine lv_aload_n hx hb dX5_rig_13 rfl (lv_at hl 1 rfl) ?_
        refine va_get (D := D) (ci := 5) (v := .int (nI (N 1))) (C := RX5) (T := TX5) (N := 22) hx hb hts hin5 hown hK hP 0 rfl rfl 9 (by decide) (hts (.fieldLink RX5 79 "NeckShipModel" "threads" "I") (by decide +kernel)) (fun _ h9 => h9) rfl dX5_rig_14 ?_
        refine lv_icmp_ge (tgt := 74) hx hb dX5_rig_17 (by decide) (fun _ => ?_) (fun c_6 => absurd (nI_le (by omega) (by omega)) c_6)
        have hF : s_X5_rig_L1 N V A (N 1) 0 A = A1 := hF.trans (by rw [s_X5_rig_L1])
        exact KL1 _ _ (by (try rw [hF]); exact hP) (by (try rw [hF]); exact hD) hS _ (by (try rw [hF]); exact hI) (by (try rw [hF]); exact lv_sub hl [1] rfl)
      | succ n ih =>
        intro k A1 H locs hP hD hS ls hk hI hF hl
        refine lv_iload_n hx hb dX5_rig_12 rfl (lv_at hl 0 rfl) ?_
        refine lv_aload_n hx hb dX5_rig_13 rfl (lv_at hl 1 rfl) ?_
        refine va_get (D := D) (ci := 5) (v := .int (nI (N 1))) (C := RX5) (T := TX5) (N := 22) hx hb hts hin5 hown hK hP 0 rfl rfl 9 (by decide) (hts (.fieldLink RX5 79 "NeckShipModel" "threads" "I") (by decide +kernel)) (fun _ h9 => h9) rfl dX5_rig_14 ?_
        refine lv_icmp_ge (tgt := 74) hx hb dX5_rig_17 (by decide) (fun c_7 => absurd c_7 (nI_ge (by omega) (by omega))) (fun _ => ?_)
        refine lv_aload_n hx hb dX5_rig_20 rfl (lv_at hl 1 rfl) ?_
        refine va_get (D := D) (ci := 5) (v := .ref (q 13)) (C := RX5) (T := TX5) (N := 22) hx hb hts hin5 hown hK hP 0 rfl rfl 16 (by decide) (hts (.fieldLink RX5 47 "NeckShipModel" "crossing" "[I") (by decide +kernel)) (fun _ h9 => h9) rfl dX5_rig_21 ?_
        refine lv_iload_n hx hb dX5_rig_24 rfl (lv_at hl 0 rfl) ?_
        refine lv_iconst (v := (0)) hx hb dX5_rig_25 (by decide) ?_
        refine va_iastN (i := k) hx hb hK hP hD hS 13 0 rfl rfl (by decide) (by omega) dX5_rig_26 (fun H locs hP hD hS => ?_)
        have hP : va_P D vwCl (wM cI cZ q N V (va_up A1 13 (upd (A1 13) k (0 : Int32)))) H := hP
        have hD : va_D Ar (wM cI cZ q N V (va_up A1 13 (upd (A1 13) k (0 : Int32)))) := hD
        refine lv_iconst (v := (0)) hx hb dX5_rig_27 (by decide) ?_
        refine lv_istore_n (lv' := [(2, .int (0)), (1, .int (nI k)), (0, .ref (q 0))]) hx hb dX5_rig_28 rfl hl (by decide) rfl (fun ls hl => ?_)
        have KL2 : ∀ (H : Heap) (locs : List Loc), va_P D vwCl (wM cI cZ q N V (s_X5_rig_L2 N V A n k A1 (N 1) 0 (va_up A1 13 (upd (A1 13) k (0 : Int32))))) H → va_D Ar (wM cI cZ q N V (s_X5_rig_L2 N V A n k A1 (N 1) 0 (va_up A1 13 (upd (A1 13) k (0 : Int32))))) → va_S Ar s.heap H locs → ∀ (ls : Array Slot), okM N (s_X5_rig_L2 N V A n k A1 (N 1) 0 (va_up A1 13 (upd (A1 13) k (0 : Int32)))) → lv_has ls 3 [(1, .int (nI k)), (0, .ref (q 0))] → W p l e (headSpec wsX5_rig ({ frames := 2, cells := 0, slots := 0, locals := 50 })).room s m ([.ref (q 0)] : List Value).toArray below meth c H locs 0 0 (MQ below (va_Qi (fun r (_ : Unit) => r = (s_X5_rig N V A).1) (fun _ t => PM D cI cZ cS q (s_X5_rig N V A).2.1 (s_X5_rig N V A).2.2.1 (s_X5_rig N V A).2.2.2 t ∧ va_D Ar (wM cI cZ q (s_X5_rig N V A).2.1 (s_X5_rig N V A).2.2.1 (s_X5_rig N V A).2.2.2)) Ar) ([.ref (q 0)] : List Value).toArray s 0 0 Ar) (F0 m 68 ls []) := by
          intro H locs hP hD hS ls hI hl
          refine lv_iinc (v := nI (k + 1)) (lv' := [(1, .int (nI (k + 1))), (0, .ref (q 0))]) hx hb dX5_rig_68 hl (k := 0) rfl (nI_1 k) (by decide) rfl (fun ls hl => ?_)
          refine lv_goto (tgt := 12) hx hb dX5_rig_71 (by decide) ?_
          exact ih (k + 1) (s_X5_rig_L2 N V A n k A1 (N 1) 0 (va_up A1 13 (upd (A1 13) k (0 : Int32)))) _ _ hP hD hS _ (by omega) hI (hF.trans (by rw [s_X5_rig_L1])) (lv_sub hl [0, 1] rfl)
        have LL2 : ∀ (r j : Nat) (A2 : Nat → Nat → Int32) (H : Heap) (locs : List Loc), va_P D vwCl (wM cI cZ q N V A2) H → va_D Ar (wM cI cZ q N V A2) → va_S Ar s.heap H locs → ∀ (ls : Array Slot), j + r = N 1 → okM N A2 → s_X5_rig_L2 N V A n k A1 (N 1) 0 (va_up A1 13 (upd (A1 13) k (0 : Int32))) = s_X5_rig_L2 N V A n k A1 r j A2 → lv_has ls 3 [(2, .int (nI j)), (1, .int (nI k)), (0, .ref (q 0))] → W p l e (headSpec wsX5_rig ({ frames := 2, cells := 0, slots := 0, locals := 50 })).room s m ([.ref (q 0)] : List Value).toArray below meth c H locs 0 0 (MQ below (va_Qi (fun r (_ : Unit) => r = (s_X5_rig N V A).1) (fun _ t => PM D cI cZ cS q (s_X5_rig N V A).2.1 (s_X5_rig N V A).2.2.1 (s_X5_rig N V A).2.2.2 t ∧ va_D Ar (wM cI cZ q (s_X5_rig N V A).2.1 (s_X5_rig N V A).2.2.1 (s_X5_rig N V A).2.2.2)) Ar) ([.ref (q 0)] : List Value).toArray s 0 0 Ar) (F0 m 29 ls []) := by
          intro r
          induction r with
          | zero =>
            intro j A2 H locs hP hD hS ls hk hI hF hl
            refine lv_iload_n hx hb dX5_rig_29 rfl (lv_at hl 0 rfl) ?_
            refine lv_aload_n hx hb dX5_rig_30 rfl (lv_at hl 2 rfl) ?_
            refine va_get (D := D) (ci := 5) (v := .int (nI (N 1))) (C := RX5) (T := TX5) (N := 22) hx hb hts hin5 hown hK hP 0 rfl rfl 9 (by decide) (hts (.fieldLink RX5 79 "NeckShipModel" "threads" "I") (by decide +kernel)) (fun _ h9 => h9) rfl dX5_rig_31 ?_
            refine lv_icmp_ge (tgt := 68) hx hb dX5_rig_34 (by decide) (fun _ => ?_) (fun c_8 => absurd (nI_le (by omega) (by omega)) c_8)
            have hF : s_X5_rig_L2 N V A n k A1 (N 1) 0 (va_up A1 13 (upd (A1 13) k (0 : Int32))) = A2 := hF.trans (by rw [s_X5_rig_L2])
            exact KL2 _ _ (by (try rw [hF]); exact hP) (by (try rw [hF]); exact hD) hS _ (by (try rw [hF]); exact hI) (by (try rw [hF]); exact lv_sub hl [1, 2] rfl)
          | succ r ih =>
            intro j A2 H locs hP hD hS ls hk hI hF hl
            refine lv_iload_n hx hb dX5_rig_29 rfl (lv_at hl 0 rfl) ?_
            refine lv_aload_n hx hb dX5_rig_30 rfl (lv_at hl 2 rfl) ?_
            refine va_get (D := D) (ci := 5) (v := .int (nI (N 1))) (C := RX5) (T := TX5) (N := 22) hx hb hts hin5 hown hK hP 0 rfl rfl 9 (by decide) (hts (.fieldLink RX5 79 "NeckShipModel" "threads" "I") (by decide +kernel)) (fun _ h9 => h9) rfl dX5_rig_31 ?_
            refine lv_icmp_ge (tgt := 68) hx hb dX5_rig_34 (by decide) (fun c_9 => absurd c_9 (nI_ge (by omega) (by omega))) (fun _ => ?_)
            refine lv_aload_n hx hb dX5_rig_37 rfl (lv_at hl 2 rfl) ?_
            refine va_get (D := D) (ci := 5) (v := .ref (q 13)) (C := RX5) (T := TX5) (N := 22) hx hb hts hin5 hown hK hP 0 rfl rfl 16 (by decide) (hts (.fieldLink RX5 47 "NeckShipModel" "crossing" "[I") (by decide +kernel)) (fun _ h9 => h9) rfl dX5_rig_38 ?_
            refine lv_iload_n hx hb dX5_rig_41 rfl (lv_at hl 1 rfl) ?_
            refine lv_dup2_11 hx hb dX5_rig_42 rfl rfl ?_
            refine va_ialdN (i := k) hx hb hK hP 13 0 rfl rfl (by decide) (by omega) dX5_rig_43 ?_
            refine lv_aload_n hx hb dX5_rig_44 rfl (lv_at hl 2 rfl) ?_
            refine lv_iload_n hx hb dX5_rig_45 rfl (lv_at hl 1 rfl) ?_
            refine lv_iload_n hx hb dX5_rig_46 rfl (lv_at hl 0 rfl) ?_
            refine vp_callSi (W.runV (As := [.int (nI k), .int (nI j)]) (rest := [.int (A2 13 k), .int (nI k), .ref (q 13)]) ⟨hx, hb, hml, hown, hts⟩ (c_X5_doCross l D cI cZ cS q N V A2 k j hI (by omega) (by omega)) (cwV 2 hts gX5_rig_X5_doCross rfl rfl rfl (by decide +kernel) ⟨Nat.le_of_ble_eq_true rfl, Nat.le_of_ble_eq_true rfl⟩) (preM hK hP) rfl rfl hl.1 rfl (lv_room (Nat.le_of_ble_eq_true rfl)) dX5_rig_47 ⟨Nat.zero_le _, Nat.zero_le _⟩) (fun r_10 er_10 => ?_)
            subst er_10
            refine lz_if_eq (tgt := 59) hx hb dX5_rig_50 (by decide) (fun c_11 => ?_) (fun c_11 => ?_)
            · refine lv_iconst (v := (0)) hx hb dX5_rig_59 (by decide) ?_
              refine lv_ior hx hb dX5_rig_60 ?_
              refine va_iastN (i := k) hx hb hK hP hD hS 13 0 rfl rfl (by decide) (by omega) dX5_rig_61 (fun H locs hP hD hS => ?_)
              have hP : va_P D vwCl (wM cI cZ q N V (va_up A2 13 (upd (A2 13) k (A2 13 k ||| (0 : Int32))))) H := hP
              have hD : va_D Ar (wM cI cZ q N V (va_up A2 13 (upd (A2 13) k (A2 13 k ||| (0 : Int32))))) := hD
              refine lv_iinc (v := nI (j + 1)) (lv' := [(2, .int (nI (j + 1))), (1, .int (nI k)), (0, .ref (q 0))]) hx hb dX5_rig_62 hl (k := 0) rfl (nI_1 j) (by decide) rfl (fun ls hl => ?_)
              refine lv_goto (tgt := 29) hx hb dX5_rig_65 (by decide) ?_
              exact ih (j + 1) (va_up A2 13 (upd (A2 13) k (A2 13 k ||| (0 : Int32)))) _ _ hP hD hS _ (by omega) (ok_put hI (by decide) (by decide) (by decide) (by decide) _) (hF.trans (by rw [s_X5_rig_L2, if_neg (nb c_11)])) (lv_sub hl [0, 1, 2] rfl)
            · refine lv_iconst (v := (1)) hx hb dX5_rig_53 (by decide) ?_
              refine lv_iload_n hx hb dX5_rig_54 rfl (lv_at hl 0 rfl) ?_
              refine lv_ishl hx hb dX5_rig_55 ?_
              rw [sh1 (k := j) (by omega)]
              refine lv_goto (tgt := 60) hx hb dX5_rig_56 (by decide) ?_
              refine lv_ior hx hb dX5_rig_60 ?_
              refine va_iastN (i := k) hx hb hK hP hD hS 13 0 rfl rfl (by decide) (by omega) dX5_rig_61 (fun H locs hP hD hS => ?_)
              have hP : va_P D vwCl (wM cI cZ q N V (va_up A2 13 (upd (A2 13) k (A2 13 k ||| nI (2 ^ j))))) H := hP
              have hD : va_D Ar (wM cI cZ q N V (va_up A2 13 (upd (A2 13) k (A2 13 k ||| nI (2 ^ j))))) := hD
              refine lv_iinc (v := nI (j + 1)) (lv' := [(2, .int (nI (j + 1))), (1, .int (nI k)), (0, .ref (q 0))]) hx hb dX5_rig_62 hl (k := 0) rfl (nI_1 j) (by decide) rfl (fun ls hl => ?_)
              refine lv_goto (tgt := 29) hx hb dX5_rig_65 (by decide) ?_
              exact ih (j + 1) (va_up A2 13 (upd (A2 13) k (A2 13 k ||| nI (2 ^ j)))) _ _ hP hD hS _ (by omega) (ok_put hI (by decide) (by decide) (by decide) (by decide) _) (hF.trans (by rw [s_X5_rig_L2, if_pos c_11])) (lv_sub hl [0, 1, 2] rfl)
        exact LL2 (N 1) 0 (va_up A1 13 (upd (A1 13) k (0 : Int32))) _ _ hP hD hS _ (by omega) (ok_put hI (by decide) (by decide) (by decide) (by decide) _) rfl (lv_sub hl [0, 1, 2] rfl)
    exact LL1 (N 1) 0 A _ _ hP hD hS _ (by omega) h_1 rfl (lv_sub hl [0, 1] rfl)
  · refine lv_bipush (v := (-3)) hx hb dX5_rig_7 (by decide) ?_
    have hEE : s_X5_rig N V A = ((-3 : Int32), N, V, A) := (by rw [s_X5_rig, if_pos c_1])
    rw [hEE]
    exact W.iret (v := (-3 : Int32)) hx hb hr (fun t ht hW => ⟨⟨_, (), rfl, rfl, ⟨by rw [ht]; exact hP, va_K.moved hW.alike hK⟩, hD⟩, hS.F ht⟩) hS.2.2 dX5_rig_9
