/-! calls that change the cells: words and rows -/
section RW4
variable {p : Program} {l : Launch} {e : Env} {R : Room} {s : State} {m : MethodId} {args : Array Value} {below : List Frame} {meth : Method} {c : Code} {H : Heap} {locs : List Loc} {cells slots : Nat} {Qq : State → Prop}
variable {pc : Nat} {ls : Array Slot} {rest st0 : List Value} {a : Array Value} {Ar : Nat → Prop} {D : va_G} {cI cZ cS : ClassId} {q : Nat → Nat} {N N' : Nat → Nat} {V V' : Nat → Int32} {A A' : Nat → Nat → Int32} {As : List Value}
theorem free_of {ws : va_W} {H0 : Heap} (hD : va_D Ar ws) (hS : va_S Ar H0 H locs) (hA : ∀ q : Nat, H0.size ≤ q → Ar q) : ∀ q, va_A ws H.size q → Ar q := by
  intro q h
  rcases h with ⟨k, e, h⟩ | h
  · exact hD.2 k (q, e) h
  · exact hA q (Nat.le_trans hS.1 h)
theorem callMi {x : Int32} (hr : va_Run p l e R s m args below meth c H locs cells slots 0 0 (F0 m pc ls st0) rest (va_Qi (fun r (_ : Unit) => r = x) (fun _ t => PM D cI cZ cS q N' V' A' t ∧ va_D (va_A (wM cI cZ q N V A) H.size) (wM cI cZ q N' V' A')) (va_A (wM cI cZ q N V A) H.size) a) (va_A (wM cI cZ q N V A) H.size)) (hD : va_D Ar (wM cI cZ q N V A)) (hS : va_S Ar s.heap H locs) (hA : ∀ q : Nat, s.heap.size ≤ q → Ar q)
    (kk : ∀ (H1 : Heap) (locs1 : List Loc), va_P D vwCl (wM cI cZ q N' V' A') H1 → va_D Ar (wM cI cZ q N' V' A') → va_S Ar s.heap H1 locs1 → W p l e R s m args below meth c H1 locs1 cells slots Qq (F0 m (pc + 3) ls (.int x :: rest))) : W p l e R s m args below meth c H locs cells slots Qq (F0 m pc ls st0) :=
  va_calli hr hS (fun q _ h => free_of hD hS hA q h) (free_of hD hS hA) (fun r u t H1 locs1 ht hvm hw hB hz hk hS1 => by
    subst hw
    have hP1 := hB.1.1
    rw [ht] at hP1
    exact kk H1 locs1 hP1 (hB.2.weaken (fun _ q _ h => free_of hD hS hA q.1 h)) hS1)
theorem callMl {x : Int64} (hr : va_Run p l e R s m args below meth c H locs cells slots 0 0 (F0 m pc ls st0) rest (va_Ql (fun r (_ : Unit) => r = x) (fun _ t => PM D cI cZ cS q N' V' A' t ∧ va_D (va_A (wM cI cZ q N V A) H.size) (wM cI cZ q N' V' A')) (va_A (wM cI cZ q N V A) H.size) a) (va_A (wM cI cZ q N V A) H.size)) (hD : va_D Ar (wM cI cZ q N V A)) (hS : va_S Ar s.heap H locs) (hA : ∀ q : Nat, s.heap.size ≤ q → Ar q)
    (kk : ∀ (H1 : Heap) (locs1 : List Loc), va_P D vwCl (wM cI cZ q N' V' A') H1 → va_D Ar (wM cI cZ q N' V' A') → va_S Ar s.heap H1 locs1 → W p l e R s m args below meth c H1 locs1 cells slots Qq (F0 m (pc + 3) ls (.long x :: rest))) : W p l e R s m args below meth c H locs cells slots Qq (F0 m pc ls st0) :=
  va_calll hr hS (fun q _ h => free_of hD hS hA q h) (free_of hD hS hA) (fun r u t H1 locs1 ht hvm hw hB hz hk hS1 => by
    subst hw
    have hP1 := hB.1.1
    rw [ht] at hP1
    exact kk H1 locs1 hP1 (hB.2.weaken (fun _ q _ h => free_of hD hS hA q.1 h)) hS1)
theorem callMv (hr : va_Run p l e R s m args below meth c H locs cells slots 0 0 (F0 m pc ls st0) rest (va_Qv (fun (_ : Unit) => True) (fun _ t => PM D cI cZ cS q N' V' A' t ∧ va_D (va_A (wM cI cZ q N V A) H.size) (wM cI cZ q N' V' A')) (va_A (wM cI cZ q N V A) H.size) a) (va_A (wM cI cZ q N V A) H.size)) (hD : va_D Ar (wM cI cZ q N V A)) (hS : va_S Ar s.heap H locs) (hA : ∀ q : Nat, s.heap.size ≤ q → Ar q)
    (kk : ∀ (H1 : Heap) (locs1 : List Loc), va_P D vwCl (wM cI cZ q N' V' A') H1 → va_D Ar (wM cI cZ q N' V' A') → va_S Ar s.heap H1 locs1 → W p l e R s m args below meth c H1 locs1 cells slots Qq (F0 m (pc + 3) ls rest)) : W p l e R s m args below meth c H locs cells slots Qq (F0 m pc ls st0) :=
  va_callv hr hS (fun q _ h => free_of hD hS hA q h) (free_of hD hS hA) (fun u t H1 locs1 ht hvm hw hB hz hk hS1 => by
    have hP1 := hB.1.1
    rw [ht] at hP1
    exact kk H1 locs1 hP1 (hB.2.weaken (fun _ q _ h => free_of hD hS hA q.1 h)) hS1)
theorem callCi {x : Int32} (hr : va_Run p l e R s m args below meth c H locs cells slots 0 0 (F0 m pc ls st0) rest (va_Qi (fun r (_ : Unit) => r = x) (fun _ t => PC D cI cZ cS q N' V' A' t ∧ va_D (va_A (wC cI cS q N V A) H.size) (wC cI cS q N' V' A')) (va_A (wC cI cS q N V A) H.size) a) (va_A (wC cI cS q N V A) H.size)) (hD : va_D Ar (wC cI cS q N V A)) (hS : va_S Ar s.heap H locs) (hA : ∀ q : Nat, s.heap.size ≤ q → Ar q)
    (kk : ∀ (H1 : Heap) (locs1 : List Loc), va_P D vwCl (wC cI cS q N' V' A') H1 → va_D Ar (wC cI cS q N' V' A') → va_S Ar s.heap H1 locs1 → W p l e R s m args below meth c H1 locs1 cells slots Qq (F0 m (pc + 3) ls (.int x :: rest))) : W p l e R s m args below meth c H locs cells slots Qq (F0 m pc ls st0) :=
  va_calli hr hS (fun q _ h => free_of hD hS hA q h) (free_of hD hS hA) (fun r u t H1 locs1 ht hvm hw hB hz hk hS1 => by
    subst hw
    have hP1 := hB.1.1
    rw [ht] at hP1
    exact kk H1 locs1 hP1 (hB.2.weaken (fun _ q _ h => free_of hD hS hA q.1 h)) hS1)
theorem callCl {x : Int64} (hr : va_Run p l e R s m args below meth c H locs cells slots 0 0 (F0 m pc ls st0) rest (va_Ql (fun r (_ : Unit) => r = x) (fun _ t => PC D cI cZ cS q N' V' A' t ∧ va_D (va_A (wC cI cS q N V A) H.size) (wC cI cS q N' V' A')) (va_A (wC cI cS q N V A) H.size) a) (va_A (wC cI cS q N V A) H.size)) (hD : va_D Ar (wC cI cS q N V A)) (hS : va_S Ar s.heap H locs) (hA : ∀ q : Nat, s.heap.size ≤ q → Ar q)
    (kk : ∀ (H1 : Heap) (locs1 : List Loc), va_P D vwCl (wC cI cS q N' V' A') H1 → va_D Ar (wC cI cS q N' V' A') → va_S Ar s.heap H1 locs1 → W p l e R s m args below meth c H1 locs1 cells slots Qq (F0 m (pc + 3) ls (.long x :: rest))) : W p l e R s m args below meth c H locs cells slots Qq (F0 m pc ls st0) :=
  va_calll hr hS (fun q _ h => free_of hD hS hA q h) (free_of hD hS hA) (fun r u t H1 locs1 ht hvm hw hB hz hk hS1 => by
    subst hw
    have hP1 := hB.1.1
    rw [ht] at hP1
    exact kk H1 locs1 hP1 (hB.2.weaken (fun _ q _ h => free_of hD hS hA q.1 h)) hS1)
theorem callCv (hr : va_Run p l e R s m args below meth c H locs cells slots 0 0 (F0 m pc ls st0) rest (va_Qv (fun (_ : Unit) => True) (fun _ t => PC D cI cZ cS q N' V' A' t ∧ va_D (va_A (wC cI cS q N V A) H.size) (wC cI cS q N' V' A')) (va_A (wC cI cS q N V A) H.size) a) (va_A (wC cI cS q N V A) H.size)) (hD : va_D Ar (wC cI cS q N V A)) (hS : va_S Ar s.heap H locs) (hA : ∀ q : Nat, s.heap.size ≤ q → Ar q)
    (kk : ∀ (H1 : Heap) (locs1 : List Loc), va_P D vwCl (wC cI cS q N' V' A') H1 → va_D Ar (wC cI cS q N' V' A') → va_S Ar s.heap H1 locs1 → W p l e R s m args below meth c H1 locs1 cells slots Qq (F0 m (pc + 3) ls rest)) : W p l e R s m args below meth c H locs cells slots Qq (F0 m pc ls st0) :=
  va_callv hr hS (fun q _ h => free_of hD hS hA q h) (free_of hD hS hA) (fun u t H1 locs1 ht hvm hw hB hz hk hS1 => by
    have hP1 := hB.1.1
    rw [ht] at hP1
    exact kk H1 locs1 hP1 (hB.2.weaken (fun _ q _ h => free_of hD hS hA q.1 h)) hS1)
theorem preMm (hK : va_K D vwCl (tysA cI cZ cS) s) (hP : va_P D vwCl (wM cI cZ q N V A) H) (hD : va_D Ar (wM cI cZ q N V A)) : PreV s H RX5 (q 0) (va_Pc (.ref (q 0) :: As) (fun U => U.heap.size = H.size ∧ PM D cI cZ cS q N V A U ∧ va_D (fun _ => True) (wM cI cZ q N V A))) As :=
  ⟨fun a U g mk h => ⟨h.1, h.2.1, ⟨h.2.2.1.1, va_K.moved (u := U) (U := U.calling g mk a) (Vm.Alike.refl U.vm) h.2.2.1.2⟩, h.2.2.2⟩, va_recv hK hP (ci := 5) (q0 := 0) rfl rfl, fun U hU hW => ⟨rfl, by rw [hU], ⟨by rw [hU]; exact hP, va_K.moved hW.alike hK⟩, hD.weaken (fun _ _ _ _ => trivial)⟩⟩
theorem PCm.blind {sz : Nat} : FrameBlind (va_Pc As (fun U => U.heap.size = sz ∧ PC D cI cZ cS q N V A U ∧ va_D (fun _ => True) (wC cI cS q N V A))) :=
  fun a U g mk h => ⟨h.1, h.2.1, ⟨h.2.2.1.1, va_K.moved (u := U) (U := U.calling g mk a) (Vm.Alike.refl U.vm) h.2.2.1.2.1, nestC.same (u := U) rfl h.2.2.1.2.2⟩, h.2.2.2⟩
theorem PCm.at {U : State} (hK : va_K D vwCl (tysA cI cZ cS) s) (hN : nestC s) (hP : va_P D vwCl (wC cI cS q N V A) H) (hD : va_D Ar (wC cI cS q N V A)) (hU : U.heap = H) (hW : s.WarmedH U.vm) : U.heap.size = H.size ∧ PC D cI cZ cS q N V A U ∧ va_D (fun _ => True) (wC cI cS q N V A) :=
  ⟨by rw [hU], ⟨by rw [hU]; exact hP, va_K.moved hW.alike hK, hN.warm hW⟩, hD.weaken (fun _ _ _ _ => trivial)⟩
theorem preCm4 (hK : va_K D vwCl (tysA cI cZ cS) s) (hN : nestC s) (hP : va_P D vwCl (wC cI cS q N V A) H) (hD : va_D Ar (wC cI cS q N V A)) : PreV s H RX4 (q 0) (va_Pc (.ref (q 0) :: As) (fun U => U.heap.size = H.size ∧ PC D cI cZ cS q N V A U ∧ va_D (fun _ => True) (wC cI cS q N V A))) As :=
  ⟨PCm.blind, va_recv hK hP (ci := 4) (q0 := 0) rfl rfl, fun U hU hW => ⟨rfl, PCm.at hK hN hP hD hU hW⟩⟩
theorem preCm2 (hK : va_K D vwCl (tysA cI cZ cS) s) (hN : nestC s) (hP : va_P D vwCl (wC cI cS q N V A) H) (hD : va_D Ar (wC cI cS q N V A)) : PreV s H RX2 (q 2) (va_Pc (.ref (q 2) :: As) (fun U => U.heap.size = H.size ∧ PC D cI cZ cS q N V A U ∧ va_D (fun _ => True) (wC cI cS q N V A))) As :=
  ⟨PCm.blind, va_recv hK hP (ci := 2) (q0 := 2) rfl rfl, fun U hU hW => ⟨rfl, PCm.at hK hN hP hD hU hW⟩⟩
theorem preCm3 (hK : va_K D vwCl (tysA cI cZ cS) s) (hN : nestC s) (hP : va_P D vwCl (wC cI cS q N V A) H) (hD : va_D Ar (wC cI cS q N V A)) : PreV s H RX3 (q 10) (va_Pc (.ref (q 10) :: As) (fun U => U.heap.size = H.size ∧ PC D cI cZ cS q N V A U ∧ va_D (fun _ => True) (wC cI cS q N V A))) As :=
  ⟨PCm.blind, va_recv hK hP (ci := 3) (q0 := 10) rfl rfl, fun U hU hW => ⟨rfl, PCm.at hK hN hP hD hU hW⟩⟩
theorem preCm0 (hK : va_K D vwCl (tysA cI cZ cS) s) (hN : nestC s) (hP : va_P D vwCl (wC cI cS q N V A) H) (hD : va_D Ar (wC cI cS q N V A)) : PreV s H RX0 (q 25) (va_Pc (.ref (q 25) :: As) (fun U => U.heap.size = H.size ∧ PC D cI cZ cS q N V A U ∧ va_D (fun _ => True) (wC cI cS q N V A))) As :=
  ⟨PCm.blind, va_recv hK hP (ci := 0) (q0 := 25) rfl rfl, fun U hU hW => ⟨rfl, PCm.at hK hN hP hD hU hW⟩⟩
theorem preCm1 {k : Nat} (hk : k < 4) (hK : va_K D vwCl (tysA cI cZ cS) s) (hN : nestC s) (hP : va_P D vwCl (wC cI cS q N V A) H) (hD : va_D Ar (wC cI cS q N V A)) : PreV s H RX1 (q (17 + 2 * k)) (va_Pc (.ref (q (17 + 2 * k)) :: As) (fun U => U.heap.size = H.size ∧ PC D cI cZ cS q N V A U ∧ va_D (fun _ => True) (wC cI cS q N V A))) As :=
  ⟨PCm.blind, va_recv hK hP (ci := 1) (q0 := 17 + 2 * k) rfl (wC_sheet hk), fun U hU hW => ⟨rfl, PCm.at hK hN hP hD hU hW⟩⟩
end RW4
/-! numbers -/
theorem nI_tn {x : Int32} {n : Nat} (h0 : 0 ≤ x.toInt) (h1 : x.toInt < n) (hn : n ≤ 2 ^ 31) : x.toNatClampNeg < n ∧ nI x.toNatClampNeg = x := by
  obtain ⟨j, hj, rfl⟩ := nI_of (x := x) (by rw [Int32.lt_iff_toInt_lt, show (0 : Int32).toInt = 0 from rfl]; omega)
  rw [nI_toInt hj] at h1
  rw [nI_clamp hj]
  exact ⟨by omega, rfl⟩
theorem in_iff (v a b : Int64) : s_X5_in v a b = true ↔ a.toInt ≤ v.toInt ∧ v.toInt ≤ b.toInt := by
  unfold s_X5_in
  by_cases h1 : lg_cmp v a < 0
  · rw [if_pos h1]
    have h2 := (lg_cmp_lt v a).mp h1
    rw [Int64.lt_iff_toInt_lt] at h2
    constructor
    · intro h; cases h
    · intro h; omega
  · rw [if_neg h1]
    have h2 : ¬ v < a := fun h => h1 ((lg_cmp_lt v a).mpr h)
    rw [Int64.lt_iff_toInt_lt] at h2
    by_cases h3 : 0 < lg_cmp v b
    · rw [if_pos h3]
      have h4 := (lg_cmp_gt v b).mp h3
      rw [Int64.lt_iff_toInt_lt] at h4
      constructor
      · intro h; cases h
      · intro h; omega
    · rw [if_neg h3]
      have h4 : ¬ b < v := fun h => h3 ((lg_cmp_gt v b).mpr h)
      rw [Int64.lt_iff_toInt_lt] at h4
      constructor
      · intro _; omega
      · intro _; rfl
theorem in_f (v a b : Int64) : s_X5_in v a b = false ↔ ¬ (a.toInt ≤ v.toInt ∧ v.toInt ≤ b.toInt) := by
  rw [← in_iff]; cases s_X5_in v a b <;> simp
theorem toL (x : Int32) : x.toInt64.toInt = x.toInt := Int32.toInt_toInt64 x
theorem in_tn {w : Int32} {h : Int64} {n : Nat} (hn : n ≤ 2 ^ 31) (hh : h.toInt < n) (e : s_X5_in w.toInt64 0 h = true) : w.toNatClampNeg < n ∧ nI w.toNatClampNeg = w := by
  have h1 := (in_iff _ _ _).mp e
  rw [toL, show (0 : Int64).toInt = 0 from rfl] at h1
  exact nI_tn h1.1 (by omega) hn
theorem nL1 {n : Nat} (h : n ≤ 1000) : ((nI n).toInt64 - 1).toInt = (n : Int) - 1 := by
  have e : (nI n).toInt64.toInt = (n : Int) := by rw [toL, nI_toInt (by omega)]
  rw [fb_subL (by rw [e, show (1 : Int64).toInt = 1 from rfl]; omega) (by rw [e, show (1 : Int64).toInt = 1 from rfl]; omega), e]
  rfl
theorem noSpar_f {N : Nat → Nat} {V : Nat → Int32} {A : Nat → Nat → Int32} {s : Int32} (o : N 0 ≤ 10) (h : s_X5_noSpar N V A s = false) : s.toNatClampNeg < N 0 ∧ nI s.toNatClampNeg = s := by
  unfold s_X5_noSpar at h
  split at h
  · rename_i e
    exact in_tn (by omega) (by rw [nL1 (by omega)]; omega) e
  · cases h
theorem noThread_f {N : Nat → Nat} {V : Nat → Int32} {A : Nat → Nat → Int32} {s : Int32} (o : N 1 ≤ 16) (h : s_X5_noThread N V A s = false) : s.toNatClampNeg < N 1 ∧ nI s.toNatClampNeg = s := by
  unfold s_X5_noThread at h
  split at h
  · rename_i e
    exact in_tn (by omega) (by rw [nL1 (by omega)]; omega) e
  · cases h
theorem noSheet_f {s : Int32} (h : s_X5_noSheet s = false) : s.toNatClampNeg < 4 ∧ nI s.toNatClampNeg = s := by
  unfold s_X5_noSheet at h
  split at h
  · rename_i e
    exact in_tn (by omega) (by decide) e
  · cases h
theorem sh1 {k : Nat} (h : k < 31) : (1 : Int32) <<< (nI k &&& 31) = nI (2 ^ k) := by
  have e := pk_shlN (n := 1) (nI k &&& 31) k (s_l k (by omega)) (by rw [Nat.one_mul]; exact Nat.pow_lt_pow_right (by omega) (by omega))
  rw [Nat.one_mul] at e
  exact e
theorem or0 (a : Nat) : nI a ||| (0 : Int32) = nI a := by
  rw [show (0 : Int32) = nI 0 from rfl, fa_or, Nat.or_zero]
def nclr (a b : Nat) : Nat := a &&& (a ^^^ b)
theorem nclr_bit (a b i : Nat) : (nclr a b).testBit i = (a.testBit i && !b.testBit i) := by
  unfold nclr
  rw [Nat.testBit_and, Nat.testBit_xor]
  cases a.testBit i <;> cases b.testBit i <;> rfl
theorem nclr_le (a b : Nat) : nclr a b ≤ a := Nat.and_le_left
theorem bt_nI {a : Nat} {i : Nat} (hi : i < 32) : bt (nI a) i = a.testBit i := by
  unfold bt
  rw [show (nI a).toBitVec = BitVec.ofNat 32 a from rfl, BitVec.getLsbD_ofNat]
  simp [hi]
theorem nclr_eq (a b : Nat) : nI a &&& (nI b ^^^ (-1)) = nI (nclr a b) := by
  apply b_ext
  intro i hi
  rw [b_and, b_xor, b_m1 i hi, bt_nI hi, bt_nI hi, bt_nI hi, nclr_bit]
  cases a.testBit i <;> cases b.testBit i <;> rfl
theorem ix50 (k i : Nat) : (50 : Int32) * nI k + nI i = nI (50 * k + i) := by
  rw [show (50 : Int32) = nI 50 from rfl, pk_mul, nI_add]
theorem all1 {n : Nat} (h : n < 31) : ((1 : Int32) <<< (nI n &&& 31)) - 1 = nI (2 ^ n - 1) := by
  rw [sh1 h, show (1 : Int32) = nI 1 from rfl, pk_sub Nat.one_le_two_pow]
theorem or_lt {a b n : Nat} (ha : a < 2 ^ n) (hb : b < 2 ^ n) : a ||| b < 2 ^ n := Nat.or_lt_two_pow ha hb
theorem sub1 (n : Nat) : nI n + Int32.ofInt (-1) = nI n - 1 := by
  rw [Int32.sub_eq_add_neg]; rfl
