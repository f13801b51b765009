/-! THE CLAIM OUT OF ONE WALK OF THE LAW'S BODY. Your part is whole_start (and what it stands on); all else here is the same for every law, but numbers. -/
def R_law : String := "NeckShipLaw"
def lw_P (b : Addr) (xs : List Int32) (args : Array Value) (s : State) : Prop := args = #[.ref b] ∧ s.IntsAt b xs ∧ xs.length ≤ 3072 ∧ (Jvm.Cond.and given_1 narrow_1).before args s = true
def lw_Q (_ : Array Value) (s : State) (o : Outcome) (t : State) : Prop := o = .returned (some (.int 1)) ∧ Framed s o t [] 600000 7302250
def lw_Z (below : List Frame) (a : Array Value) (s : State) : State → Prop := fun t => ∃ o, t.status = .running ∧ Ended t below o ∧ lw_Q a s o t
/-- the law's own end, with 1 on the stack, nothing written that was there before, its room as the claim has it -/
theorem lw_ret {p : Program} {l : Launch} {e : Env} {s : State} {m : MethodId} {below : List Frame} {meth : Method} {c : Code} {b : Nat} (hx : p.tables.exec = Jvm.exec) (hb : c.code = code) (hr : meth.sig.returnType = ret) (hlocks : meth.locks = false) {pc : Nat} {H : Heap} {ls : Array Slot} (hdg : decode code pc = .ok (.ireturn, 1)) : W p l e room_1 s m #[Value.ref b] below meth c H [] 600000 7302250 (lw_Z below #[Value.ref b] s) (F0 m pc ls [.int 1]) := by
  intro T hT X
  obtain ⟨fs, hret, hrun, hended, hW, hframe⟩ := X.leave (v := some (.int 1)) (hlocks := hlocks) (fun h => by rw [hr] at h; cases h)
  have hmeth' : T.vm.method? m = some meth := X.method'
  refine ⟨T.setFrames fs, ?_, .returned (some (.int 1)), hrun, hended, rfl, ⟨_, rfl⟩, hW, hframe⟩
  jvm_step X.here [X.here.top, hx, hb, hdg, hmeth', hr, ret, narrow_b1]
  (try refine ⟨rfl, ?_⟩); (try refine ⟨rfl, ?_⟩)
  first | (intro acts; rw [hret _ acts rfl rfl rfl]) | rw [hret _ _ rfl rfl rfl]
  exact Steps.refl _
/-- what holds at the law's entry: the machine, the code, the tables' words (any of lw_tbl by 'hts w (by decide +kernel)'), the script of L ints xs at the cell b, what the Statement gives of the start (any of its parts by flat_of_before) -/
def lw_At (p : Program) (s : State) (m : MethodId) (meth : Method) (c : Code) (b L : Nat) (xs : Nat → Int32) : Prop :=
  p.tables.exec = Jvm.exec ∧ c.code = code ∧ meth.sig.returnType = ret ∧ c.maxLocals = 4 ∧ s.vm.findClass R_law = some m.cls ∧ (∀ w ∈ lw_tbl, w.before #[Value.ref b] s = true) ∧ va_X b L xs s s.heap ∧ b < s.heap.size ∧ meth.locks = false ∧ (Jvm.Cond.and given_1 narrow_1).before #[Value.ref b] s = true
/-! the law's calls: two worlds side by side -/
section LAWR
variable {p : Program} {l : Launch} {e : Env} {R : Room} {s : State} {m : MethodId} {args : Array Value} {below : List Frame} {meth : Method} {c : Code} {H : Heap} {locs : List Loc} {cells slots : Nat} {Qq : State → Prop}
variable {pc : Nat} {ls : Array Slot} {rest st0 : List Value} {a : Array Value} {A0 : Nat → Prop} {D : va_G} {wx wx1 wy : va_W} {Px : State → Prop} {cl : List vw_C}
theorem ap_l {w v : va_W} {i : Nat} {x : Nat × va_E} (h : w[i]? = some x) : (w ++ v)[i]? = some x := by
  rw [List.getElem?_append_left (List.getElem?_eq_some_iff.mp h).1]; exact h
theorem ap_r {w v : va_W} {i : Nat} {x : Nat × va_E} (h : v[i]? = some x) : (w ++ v)[w.length + i]? = some x := by
  rw [List.getElem?_append_right (Nat.le_add_right _ _), Nat.add_sub_cancel_left]; exact h
theorem pair_l (hD : va_D A0 (wx ++ wy)) : va_D A0 wx := ⟨fun i j x y h1 h2 e => hD.1 i j x y (ap_l h1) (ap_l h2) e, fun k x h => hD.2 k x (ap_l h)⟩
theorem pair_r (hD : va_D A0 (wx ++ wy)) : va_D A0 wy := ⟨fun i j x y h1 h2 e => by have := hD.1 _ _ x y (ap_r (w := wx) h1) (ap_r (w := wx) h2) e; omega, fun k x h => hD.2 _ x (ap_r (w := wx) h)⟩
theorem pair_ne (hD : va_D A0 (wx ++ wy)) (i j : Nat) (x y : Nat × va_E) (h1 : wx[i]? = some x) (h2 : wy[j]? = some y) : x.1 ≠ y.1 := fun e => by
  have h3 := hD.1 _ _ x y (ap_l (v := wy) h1) (ap_r (w := wx) h2) e
  have h4 := (List.getElem?_eq_some_iff.mp h1).1
  omega
theorem pair_sw (hD : va_D A0 (wx ++ wy)) : va_D A0 (wy ++ wx) := va_D.app (pair_r hD) (pair_l hD) (fun i j x y h1 h2 e => pair_ne hD j i y x h2 h1 e.symm)
theorem keepY (hD : va_D A0 (wx ++ wy)) (hPy : va_P D cl wy H) (hF : ∀ q, va_A wx H.size q → A0 q) {H1 : Heap} (hk : ∀ q : Nat, q < H.size → ¬ va_A wx H.size q → H1[q]? = H[q]?) (hD1 : va_D (va_A wx H.size) wx1) : va_P D cl wy H1 ∧ va_D A0 (wx1 ++ wy) := by
  have hout : ∀ (k : Nat) (x : Nat × va_E), wy[k]? = some x → x.1 < H.size ∧ ¬ va_A wx H.size x.1 := fun k x hx => by
    have hlt := (hPy k x hx).lt
    refine ⟨hlt, ?_⟩
    rintro (⟨i, e, h⟩ | h)
    · exact pair_ne hD i k _ _ h hx rfl
    · omega
  exact ⟨hPy.kept (fun k x hx => hk _ (hout k x hx).1 (hout k x hx).2), va_D.app (hD1.weaken (fun _ x _ h => hF x.1 h)) (pair_r hD) (fun i j x y h1 h2 e => (hout j y h2).2 (by rw [← e]; exact hD1.2 i x h1))⟩
theorem law_i {x : Int32} (hr : va_Run p l e R s m args below meth c H locs cells slots 0 0 (F0 m pc ls st0) rest (va_Qi (fun r (_ : Unit) => r = x) (fun _ t => Px t ∧ va_D (va_A wx H.size) wx1) (va_A wx H.size) a) (va_A wx H.size)) (hpx : ∀ t, Px t → va_P D cl wx1 t.heap) (hD : va_D A0 (wx ++ wy)) (hPy : va_P D cl wy H) (hS : va_S A0 s.heap H locs) (hA : ∀ q : Nat, s.heap.size ≤ q → A0 q)
    (kk : ∀ (H1 : Heap) (locs1 : List Loc), va_P D cl wx1 H1 → va_P D cl wy H1 → va_D A0 (wx1 ++ wy) → va_S A0 s.heap H1 locs1 → W p l e R s m args below meth c H1 locs1 cells slots Qq (F0 m (pc + 3) ls (.int x :: rest))) : W p l e R s m args below meth c H locs cells slots Qq (F0 m pc ls st0) :=
  va_calli hr hS (fun q _ h => free_of (pair_l hD) hS hA q h) (free_of (pair_l hD) hS hA) (fun r u t H1 locs1 ht hvm hw hB hz hk hS1 => by
    subst hw
    have hP1 := hpx t hB.1
    rw [ht] at hP1
    obtain ⟨g1, g2⟩ := keepY hD hPy (free_of (pair_l hD) hS hA) hk hB.2
    exact kk H1 locs1 hP1 g1 g2 hS1)
theorem law_l {x : Int64} (hr : va_Run p l e R s m args below meth c H locs cells slots 0 0 (F0 m pc ls st0) rest (va_Ql (fun r (_ : Unit) => r = x) (fun _ t => Px t ∧ va_D (va_A wx H.size) wx1) (va_A wx H.size) a) (va_A wx H.size)) (hpx : ∀ t, Px t → va_P D cl wx1 t.heap) (hD : va_D A0 (wx ++ wy)) (hPy : va_P D cl wy H) (hS : va_S A0 s.heap H locs) (hA : ∀ q : Nat, s.heap.size ≤ q → A0 q)
    (kk : ∀ (H1 : Heap) (locs1 : List Loc), va_P D cl wx1 H1 → va_P D cl wy H1 → va_D A0 (wx1 ++ wy) → va_S A0 s.heap H1 locs1 → W p l e R s m args below meth c H1 locs1 cells slots Qq (F0 m (pc + 3) ls (.long x :: rest))) : W p l e R s m args below meth c H locs cells slots Qq (F0 m pc ls st0) :=
  va_calll hr hS (fun q _ h => free_of (pair_l hD) hS hA q h) (free_of (pair_l hD) hS hA) (fun r u t H1 locs1 ht hvm hw hB hz hk hS1 => by
    subst hw
    have hP1 := hpx t hB.1
    rw [ht] at hP1
    obtain ⟨g1, g2⟩ := keepY hD hPy (free_of (pair_l hD) hS hA) hk hB.2
    exact kk H1 locs1 hP1 g1 g2 hS1)
end LAWR
section LAWG
variable {s : State} {H : Heap} {locs : List Loc} {D : va_G} {cI cZ cS : ClassId} {q : Nat → Nat} {N : Nat → Nat} {V : Nat → Int32} {A : Nat → Nat → Int32} {As : List Value} {tG : Nat}
/-- the greatest measures, as they stand at the start -/
def gmS (s : State) (tG : Nat) : Prop := va_Z "NeckShip" "GREATEST_MEASURE" "[I" (.ref tG) (fun q : Nat => s.heap.size ≤ q) s s.heap ∧ va_T .int tG 5 (fun j => .int (gmV j)) (fun q : Nat => s.heap.size ≤ q) s s.heap
theorem preCr (hK : va_K D vwCl (tysA cI cZ cS) s) (hN : nestC s) (hP : va_P D vwCl (wC cI cS q N V A) H) (hD : va_D (fun q : Nat => s.heap.size ≤ q) (wC cI cS q N V A)) (hS : va_S (fun q : Nat => s.heap.size ≤ q) s.heap H locs) (hG : gmS s tG) : PreV s H RX4 (q 0) (va_Pc (.ref (q 0) :: As) (fun U => U.heap.size = H.size ∧ PC D cI cZ cS q N V A U ∧ va_D (fun _ => True) (wC cI cS q N V A) ∧ gmZ (va_A (wC cI cS q N V A) H.size) tG U)) As :=
  ⟨fun a U g mk h => ⟨h.1, h.2.1, ⟨h.2.2.1.1, va_K.moved (u := U) (U := U.calling g mk a) (Vm.Alike.refl U.vm) h.2.2.1.2.1, nestC.same (u := U) rfl h.2.2.1.2.2⟩, h.2.2.2.1, va_Z.moved (u := U) (U := U.calling g mk a) (Vm.Alike.refl U.vm) h.2.2.2.2.1, va_T.moved (u := U) (U := U.calling g mk a) (Vm.Alike.refl U.vm) h.2.2.2.2.2⟩, va_recv hK hP (ci := 4) (q0 := 0) rfl rfl,
    fun U hU hW => ⟨rfl, by rw [hU], ⟨by rw [hU]; exact hP, va_K.moved hW.alike hK, hN.warm hW⟩, hD.weaken (fun _ _ _ _ => trivial), by
      rw [gmZ, hU]
      exact ⟨va_Z.moved hW.alike ((hG.1.kept (fun a h1 h2 => hS.2.1 a h1 h2)).narrow (fun q h => free_of hD hS (fun _ h => h) q h)), va_T.moved hW.alike ((hG.2.kept (fun a h1 h2 => hS.2.1 a h1 h2)).narrow (fun q h => free_of hD hS (fun _ h => h) q h))⟩⟩⟩
theorem inS {L i : Nat} (hL : L ≤ 3072) (hi : i + 6 ≤ L) : vp_in (nI i) L ∧ vp_in (nI i + (1 : Int32)) L ∧ vp_in (nI i + (2 : Int32)) L ∧ vp_in (nI i + (3 : Int32)) L ∧ vp_in (nI i + (4 : Int32)) L ∧ vp_in (nI i + (5 : Int32)) L := by
  have h : ∀ k : Nat, k < 6 → vp_in (nI i + nI k) L := fun k hk => by rw [nI_add]; exact vp_in_nI (by omega) (by omega)
  exact ⟨vp_in_nI (by omega) (by omega), h 1 (by decide), h 2 (by decide), h 3 (by decide), h 4 (by decide), h 5 (by decide)⟩
theorem lcmp_eq {x y : Int64} (h : x = y) : lg_cmp x y = 0 := by
  subst h
  have h1 : lg_cmp x x ≤ 0 := by rw [lg_cmp_le, Int64.le_iff_toInt_le]; omega
  have h2 : ¬ lg_cmp x x < 0 := fun h => by rw [lg_cmp_lt, Int64.lt_iff_toInt_lt] at h; omega
  apply Int32.toInt_inj.mp
  rw [Int32.le_iff_toInt_le] at h1
  rw [Int32.lt_iff_toInt_lt] at h2
  omega
/-- behind a call of the script: the worlds agree, and the walk goes on -/
def lawK (p : Program) (l : Launch) (e : Env) (s : State) (m : MethodId) (below : List Frame) (meth : Method) (c : Code) (b : Nat) (D : va_G) (cI cZ cS : ClassId) (q q' : Nat → Nat) (x3 : Int32) : Prop :=
  ∀ (N : Nat → Nat) (V : Nat → Int32) (A : Nat → Nat → Int32) (M : Nat → Nat) (U : Nat → Int32) (B : Nat → Nat → Int32) (H : Heap) (locs : List Loc) (ls : Array Slot), Inv N V A M U B → va_P D vwCl (wC cI cS q N V A) H → va_P D vwCl (wM cI cZ q' M U B) H → va_D (fun q : Nat => s.heap.size ≤ q) (wC cI cS q N V A ++ wM cI cZ q' M U B) → va_S (fun q : Nat => s.heap.size ≤ q) s.heap H locs → lv_has ls 4 [(0, .ref b), (1, .ref (q 0)), (2, .ref (q' 0)), (3, .int x3)] → W p l e room_1 s m #[Value.ref b] below meth c H locs 600000 7302250 (lw_Z below #[Value.ref b] s) (F0 m 1015 ls [])
end LAWG
