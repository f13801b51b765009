/-! the law's cases 0 to 6 -/
set_option maxHeartbeats 4000000 in
set_option maxRecDepth 100000 in
theorem lc_0 {p : Program} {l : Launch} {e : Env} {s : State} {m : MethodId} {below : List Frame} {meth : Method} {c : Code} {D : va_G} {cI cZ cS : ClassId} {q q' : Nat → Nat} {N M : Nat → Nat} {V U : Nat → Int32} {A B : Nat → Nat → Int32} {H : Heap} {locs : List Loc} {ls : Array Slot} {b L i tG : Nat} {xs : Nat → Int32} (hL : L ≤ 3072) (hi : i + 6 ≤ L) (C0 : lw_At p s m meth c b L xs) (hK : va_K D vwCl (tysA cI cZ cS) s) (hN : nestC s) (hG : gmS s tG) (kk : lawK p l e s m below meth c b D cI cZ cS q q' (nI i)) (iv : Inv N V A M U B) (hPc : va_P D vwCl (wC cI cS q N V A) H) (hPm : va_P D vwCl (wM cI cZ q' M U B) H) (hD : va_D (fun q : Nat => s.heap.size ≤ q) (wC cI cS q N V A ++ wM cI cZ q' M U B)) (hS : va_S (fun q : Nat => s.heap.size ≤ q) s.heap H locs) (hl : lv_has ls 4 [(0, .ref b), (1, .ref (q 0)), (2, .ref (q' 0)), (3, .int (nI i))]) : W p l e room_1 s m #[Value.ref b] below meth c H locs 600000 7302250 (lw_Z below #[Value.ref b] s) (F0 m 160 ls []) := by
  obtain ⟨hx, hb, hr, hml, hown, hts0, hX, hbl, hlocks, hgv⟩ := C0
  have hts : ∀ w ∈ wsL_law, w.before #[Value.ref b] s = true := fun w h => hts0 w (wsL_law_in w h)
  have hown : s.vm.findClass RL = some m.cls := hown
  have hA : ∀ q : Nat, s.heap.size ≤ q → (fun q : Nat => s.heap.size ≤ q) q := fun _ h => h
  have hbA : ¬ (fun q : Nat => s.heap.size ≤ q) b := Nat.not_le.mpr hbl
  obtain ⟨i0, i1, i2, i3, i4, i5⟩ := inS hL hi
  have okc := iv.2.2.2.2.2.2.2.1
  have okm := iv.2.2.2.2.2.2.2.2
  have okv := iv.okV
  have oks := iv.okS
  have hup : M 2 < 2 ^ M 0 := iv.1.2.2.2.2.2
  have hupN : N 2 < 2 ^ N 0 := by rw [iv.1.2.2.1, iv.1.1]; exact hup
  have hw3 : ¬ B 1 3 = 0 := fun h => by have := (iv.2.2.1 3 (by decide)).2.1; rw [h] at this; exact absurd this (by decide)
  refine lv_aload_n hx hb dL_law_160 rfl (lv_at hl 1 rfl) ?_
  refine lv_aload_n hx hb dL_law_161 rfl (lv_at hl 0 rfl) ?_
  refine lv_iload_n hx hb dL_law_162 rfl (lv_at hl 3 rfl) ?_
  refine lv_iconst (v := (1)) hx hb dL_law_163 (by decide) ?_
  refine lv_iadd hx hb dL_law_164 ?_
  refine va_sld (i := nI i + (1 : Int32)) hx hb hX hbl hbA hS i1 dL_law_165 ?_
  refine lv_aload_n hx hb dL_law_166 rfl (lv_at hl 0 rfl) ?_
  refine lv_iload_n hx hb dL_law_167 rfl (lv_at hl 3 rfl) ?_
  refine lv_iconst (v := (2)) hx hb dL_law_168 (by decide) ?_
  refine lv_iadd hx hb dL_law_169 ?_
  refine va_sld (i := nI i + (2 : Int32)) hx hb hX hbl hbA hS i2 dL_law_170 ?_
  refine law_i (wx := wC cI cS q N V A) (wy := wM cI cZ q' M U B) (va_runV (As := [.int (xs (nI i + (1 : Int32)).toNatClampNeg), .int (xs (nI i + (2 : Int32)).toNatClampNeg)]) (rest := []) ⟨hx, hb, hml, hown, hts⟩ (c_X4_rule l D cI cZ cS q N V A H.size tG (xs (nI i + (1 : Int32)).toNatClampNeg) (xs (nI i + (2 : Int32)).toNatClampNeg) okc) (cwV 2 hts gL_law_X4_rule rfl rfl rfl (by decide +kernel) ⟨Nat.le_of_ble_eq_true rfl, Nat.le_of_ble_eq_true rfl⟩) (preCr hK hN hPc (pair_l hD) hS hG) rfl rfl hl.1 rfl (lv_room (Nat.le_of_ble_eq_true rfl)) dL_law_171 ⟨Nat.le_of_ble_eq_true rfl, Nat.le_of_ble_eq_true rfl⟩) (fun t h => h.1) hD hPm hS hA (fun H locs hPc hPm hD hS => ?_)
  refine lv_aload_n hx hb dL_law_174 rfl (lv_at hl 2 rfl) ?_
  refine lv_aload_n hx hb dL_law_175 rfl (lv_at hl 0 rfl) ?_
  refine lv_iload_n hx hb dL_law_176 rfl (lv_at hl 3 rfl) ?_
  refine lv_iconst (v := (1)) hx hb dL_law_177 (by decide) ?_
  refine lv_iadd hx hb dL_law_178 ?_
  refine va_sld (i := nI i + (1 : Int32)) hx hb hX hbl hbA hS i1 dL_law_179 ?_
  refine lv_aload_n hx hb dL_law_180 rfl (lv_at hl 0 rfl) ?_
  refine lv_iload_n hx hb dL_law_181 rfl (lv_at hl 3 rfl) ?_
  refine lv_iconst (v := (2)) hx hb dL_law_182 (by decide) ?_
  refine lv_iadd hx hb dL_law_183 ?_
  refine va_sld (i := nI i + (2 : Int32)) hx hb hX hbl hbA hS i2 dL_law_184 ?_
  refine law_i (wx := wM cI cZ q' M U B) (wy := wC cI cS q (s_X4_rule N V A (xs (nI i + (1 : Int32)).toNatClampNeg) (xs (nI i + (2 : Int32)).toNatClampNeg)).2.1 (s_X4_rule N V A (xs (nI i + (1 : Int32)).toNatClampNeg) (xs (nI i + (2 : Int32)).toNatClampNeg)).2.2.1 (s_X4_rule N V A (xs (nI i + (1 : Int32)).toNatClampNeg) (xs (nI i + (2 : Int32)).toNatClampNeg)).2.2.2) (va_runV (As := [.int (xs (nI i + (1 : Int32)).toNatClampNeg), .int (xs (nI i + (2 : Int32)).toNatClampNeg)]) (rest := [(.int (s_X4_rule N V A (xs (nI i + (1 : Int32)).toNatClampNeg) (xs (nI i + (2 : Int32)).toNatClampNeg)).1)]) ⟨hx, hb, hml, hown, hts⟩ (c_X5_rule l D cI cZ cS q' M U B H.size (xs (nI i + (1 : Int32)).toNatClampNeg) (xs (nI i + (2 : Int32)).toNatClampNeg) okm) (cwV 2 hts gL_law_X5_rule rfl rfl rfl (by decide +kernel) ⟨Nat.le_of_ble_eq_true rfl, Nat.le_of_ble_eq_true rfl⟩) (preMm hK hPm (pair_r hD)) rfl rfl hl.1 rfl (lv_room (Nat.le_of_ble_eq_true rfl)) dL_law_185 ⟨Nat.le_of_ble_eq_true rfl, Nat.le_of_ble_eq_true rfl⟩) (fun t h => h.1) (pair_sw hD) hPc hS hA (fun H locs hPm hPc hD hS => ?_)
  have hD := pair_sw hD
  have hs := rule_eq iv (xs (nI i + (1 : Int32)).toNatClampNeg) (xs (nI i + (2 : Int32)).toNatClampNeg)
  refine lv_icmp_eq (tgt := 1015) hx hb dL_law_188 (by decide) (fun _ => ?_) (fun c1 => absurd hs.1 c1)
  exact kk _ _ _ _ _ _ _ _ _ hs.2 hPc hPm hD hS hl
set_option maxHeartbeats 4000000 in
set_option maxRecDepth 100000 in
theorem lc_1 {p : Program} {l : Launch} {e : Env} {s : State} {m : MethodId} {below : List Frame} {meth : Method} {c : Code} {D : va_G} {cI cZ cS : ClassId} {q q' : Nat → Nat} {N M : Nat → Nat} {V U : Nat → Int32} {A B : Nat → Nat → Int32} {H : Heap} {locs : List Loc} {ls : Array Slot} {b L i tG : Nat} {xs : Nat → Int32} (hL : L ≤ 3072) (hi : i + 6 ≤ L) (C0 : lw_At p s m meth c b L xs) (hK : va_K D vwCl (tysA cI cZ cS) s) (hN : nestC s) (hG : gmS s tG) (kk : lawK p l e s m below meth c b D cI cZ cS q q' (nI i)) (iv : Inv N V A M U B) (hPc : va_P D vwCl (wC cI cS q N V A) H) (hPm : va_P D vwCl (wM cI cZ q' M U B) H) (hD : va_D (fun q : Nat => s.heap.size ≤ q) (wC cI cS q N V A ++ wM cI cZ q' M U B)) (hS : va_S (fun q : Nat => s.heap.size ≤ q) s.heap H locs) (hl : lv_has ls 4 [(0, .ref b), (1, .ref (q 0)), (2, .ref (q' 0)), (3, .int (nI i))]) : W p l e room_1 s m #[Value.ref b] below meth c H locs 600000 7302250 (lw_Z below #[Value.ref b] s) (F0 m 193 ls []) := by
  obtain ⟨hx, hb, hr, hml, hown, hts0, hX, hbl, hlocks, hgv⟩ := C0
  have hts : ∀ w ∈ wsL_law, w.before #[Value.ref b] s = true := fun w h => hts0 w (wsL_law_in w h)
  have hown : s.vm.findClass RL = some m.cls := hown
  have hA : ∀ q : Nat, s.heap.size ≤ q → (fun q : Nat => s.heap.size ≤ q) q := fun _ h => h
  have hbA : ¬ (fun q : Nat => s.heap.size ≤ q) b := Nat.not_le.mpr hbl
  obtain ⟨i0, i1, i2, i3, i4, i5⟩ := inS hL hi
  have okc := iv.2.2.2.2.2.2.2.1
  have okm := iv.2.2.2.2.2.2.2.2
  have okv := iv.okV
  have oks := iv.okS
  have hup : M 2 < 2 ^ M 0 := iv.1.2.2.2.2.2
  have hupN : N 2 < 2 ^ N 0 := by rw [iv.1.2.2.1, iv.1.1]; exact hup
  have hw3 : ¬ B 1 3 = 0 := fun h => by have := (iv.2.2.1 3 (by decide)).2.1; rw [h] at this; exact absurd this (by decide)
  refine lv_aload_n hx hb dL_law_193 rfl (lv_at hl 1 rfl) ?_
  refine lv_aload_n hx hb dL_law_194 rfl (lv_at hl 0 rfl) ?_
  refine lv_iload_n hx hb dL_law_195 rfl (lv_at hl 3 rfl) ?_
  refine lv_iconst (v := (1)) hx hb dL_law_196 (by decide) ?_
  refine lv_iadd hx hb dL_law_197 ?_
  refine va_sld (i := nI i + (1 : Int32)) hx hb hX hbl hbA hS i1 dL_law_198 ?_
  refine lv_aload_n hx hb dL_law_199 rfl (lv_at hl 0 rfl) ?_
  refine lv_iload_n hx hb dL_law_200 rfl (lv_at hl 3 rfl) ?_
  refine lv_iconst (v := (2)) hx hb dL_law_201 (by decide) ?_
  refine lv_iadd hx hb dL_law_202 ?_
  refine va_sld (i := nI i + (2 : Int32)) hx hb hX hbl hbA hS i2 dL_law_203 ?_
  refine lv_aload_n hx hb dL_law_204 rfl (lv_at hl 0 rfl) ?_
  refine lv_iload_n hx hb dL_law_205 rfl (lv_at hl 3 rfl) ?_
  refine lv_iconst (v := (3)) hx hb dL_law_206 (by decide) ?_
  refine lv_iadd hx hb dL_law_207 ?_
  refine va_sld (i := nI i + (3 : Int32)) hx hb hX hbl hbA hS i3 dL_law_208 ?_
  refine lv_aload_n hx hb dL_law_209 rfl (lv_at hl 0 rfl) ?_
  refine lv_iload_n hx hb dL_law_210 rfl (lv_at hl 3 rfl) ?_
  refine lv_iconst (v := (4)) hx hb dL_law_211 (by decide) ?_
  refine lv_iadd hx hb dL_law_212 ?_
  refine va_sld (i := nI i + (4 : Int32)) hx hb hX hbl hbA hS i4 dL_law_213 ?_
  refine lv_aload_n hx hb dL_law_214 rfl (lv_at hl 0 rfl) ?_
  refine lv_iload_n hx hb dL_law_215 rfl (lv_at hl 3 rfl) ?_
  refine lv_iconst (v := (5)) hx hb dL_law_216 (by decide) ?_
  refine lv_iadd hx hb dL_law_217 ?_
  refine va_sld (i := nI i + (5 : Int32)) hx hb hX hbl hbA hS i5 dL_law_218 ?_
  refine law_i (wx := wC cI cS q N V A) (wy := wM cI cZ q' M U B) (va_runV (As := [.int (xs (nI i + (1 : Int32)).toNatClampNeg), .int (xs (nI i + (2 : Int32)).toNatClampNeg), .int (xs (nI i + (3 : Int32)).toNatClampNeg), .int (xs (nI i + (4 : Int32)).toNatClampNeg), .int (xs (nI i + (5 : Int32)).toNatClampNeg)]) (rest := []) ⟨hx, hb, hml, hown, hts⟩ (c_X4_spar l D cI cZ cS q N V A H.size (xs (nI i + (1 : Int32)).toNatClampNeg) (xs (nI i + (2 : Int32)).toNatClampNeg) (xs (nI i + (3 : Int32)).toNatClampNeg) (xs (nI i + (4 : Int32)).toNatClampNeg) (xs (nI i + (5 : Int32)).toNatClampNeg) okc) (cwV 5 hts gL_law_X4_spar rfl rfl rfl (by decide +kernel) ⟨Nat.le_of_ble_eq_true rfl, Nat.le_of_ble_eq_true rfl⟩) (preCm4 hK hN hPc (pair_l hD)) rfl rfl hl.1 rfl (lv_room (Nat.le_of_ble_eq_true rfl)) dL_law_219 ⟨Nat.le_of_ble_eq_true rfl, Nat.le_of_ble_eq_true rfl⟩) (fun t h => h.1) hD hPm hS hA (fun H locs hPc hPm hD hS => ?_)
  refine lv_aload_n hx hb dL_law_222 rfl (lv_at hl 2 rfl) ?_
  refine lv_aload_n hx hb dL_law_223 rfl (lv_at hl 0 rfl) ?_
  refine lv_iload_n hx hb dL_law_224 rfl (lv_at hl 3 rfl) ?_
  refine lv_iconst (v := (1)) hx hb dL_law_225 (by decide) ?_
  refine lv_iadd hx hb dL_law_226 ?_
  refine va_sld (i := nI i + (1 : Int32)) hx hb hX hbl hbA hS i1 dL_law_227 ?_
  refine lv_aload_n hx hb dL_law_228 rfl (lv_at hl 0 rfl) ?_
  refine lv_iload_n hx hb dL_law_229 rfl (lv_at hl 3 rfl) ?_
  refine lv_iconst (v := (2)) hx hb dL_law_230 (by decide) ?_
  refine lv_iadd hx hb dL_law_231 ?_
  refine va_sld (i := nI i + (2 : Int32)) hx hb hX hbl hbA hS i2 dL_law_232 ?_
  refine lv_aload_n hx hb dL_law_233 rfl (lv_at hl 0 rfl) ?_
  refine lv_iload_n hx hb dL_law_234 rfl (lv_at hl 3 rfl) ?_
  refine lv_iconst (v := (3)) hx hb dL_law_235 (by decide) ?_
  refine lv_iadd hx hb dL_law_236 ?_
  refine va_sld (i := nI i + (3 : Int32)) hx hb hX hbl hbA hS i3 dL_law_237 ?_
  refine lv_aload_n hx hb dL_law_238 rfl (lv_at hl 0 rfl) ?_
  refine lv_iload_n hx hb dL_law_239 rfl (lv_at hl 3 rfl) ?_
  refine lv_iconst (v := (4)) hx hb dL_law_240 (by decide) ?_
  refine lv_iadd hx hb dL_law_241 ?_
  refine va_sld (i := nI i + (4 : Int32)) hx hb hX hbl hbA hS i4 dL_law_242 ?_
  refine lv_aload_n hx hb dL_law_243 rfl (lv_at hl 0 rfl) ?_
  refine lv_iload_n hx hb dL_law_244 rfl (lv_at hl 3 rfl) ?_
  refine lv_iconst (v := (5)) hx hb dL_law_245 (by decide) ?_
  refine lv_iadd hx hb dL_law_246 ?_
  refine va_sld (i := nI i + (5 : Int32)) hx hb hX hbl hbA hS i5 dL_law_247 ?_
  refine law_i (wx := wM cI cZ q' M U B) (wy := wC cI cS q (s_X4_spar N V A (xs (nI i + (1 : Int32)).toNatClampNeg) (xs (nI i + (2 : Int32)).toNatClampNeg) (xs (nI i + (3 : Int32)).toNatClampNeg) (xs (nI i + (4 : Int32)).toNatClampNeg) (xs (nI i + (5 : Int32)).toNatClampNeg)).2.1 (s_X4_spar N V A (xs (nI i + (1 : Int32)).toNatClampNeg) (xs (nI i + (2 : Int32)).toNatClampNeg) (xs (nI i + (3 : Int32)).toNatClampNeg) (xs (nI i + (4 : Int32)).toNatClampNeg) (xs (nI i + (5 : Int32)).toNatClampNeg)).2.2.1 (s_X4_spar N V A (xs (nI i + (1 : Int32)).toNatClampNeg) (xs (nI i + (2 : Int32)).toNatClampNeg) (xs (nI i + (3 : Int32)).toNatClampNeg) (xs (nI i + (4 : Int32)).toNatClampNeg) (xs (nI i + (5 : Int32)).toNatClampNeg)).2.2.2) (va_runV (As := [.int (xs (nI i + (1 : Int32)).toNatClampNeg), .int (xs (nI i + (2 : Int32)).toNatClampNeg), .int (xs (nI i + (3 : Int32)).toNatClampNeg), .int (xs (nI i + (4 : Int32)).toNatClampNeg), .int (xs (nI i + (5 : Int32)).toNatClampNeg)]) (rest := [(.int (s_X4_spar N V A (xs (nI i + (1 : Int32)).toNatClampNeg) (xs (nI i + (2 : Int32)).toNatClampNeg) (xs (nI i + (3 : Int32)).toNatClampNeg) (xs (nI i + (4 : Int32)).toNatClampNeg) (xs (nI i + (5 : Int32)).toNatClampNeg)).1)]) ⟨hx, hb, hml, hown, hts⟩ (c_X5_spar l D cI cZ cS q' M U B H.size (xs (nI i + (1 : Int32)).toNatClampNeg) (xs (nI i + (2 : Int32)).toNatClampNeg) (xs (nI i + (3 : Int32)).toNatClampNeg) (xs (nI i + (4 : Int32)).toNatClampNeg) (xs (nI i + (5 : Int32)).toNatClampNeg) okm) (cwV 5 hts gL_law_X5_spar rfl rfl rfl (by decide +kernel) ⟨Nat.le_of_ble_eq_true rfl, Nat.le_of_ble_eq_true rfl⟩) (preMm hK hPm (pair_r hD)) rfl rfl hl.1 rfl (lv_room (Nat.le_of_ble_eq_true rfl)) dL_law_248 ⟨Nat.le_of_ble_eq_true rfl, Nat.le_of_ble_eq_true rfl⟩) (fun t h => h.1) (pair_sw hD) hPc hS hA (fun H locs hPm hPc hD hS => ?_)
  have hD := pair_sw hD
  have hs := spar_eq iv (xs (nI i + (1 : Int32)).toNatClampNeg) (xs (nI i + (2 : Int32)).toNatClampNeg) (xs (nI i + (3 : Int32)).toNatClampNeg) (xs (nI i + (4 : Int32)).toNatClampNeg) (xs (nI i + (5 : Int32)).toNatClampNeg)
  refine lv_icmp_eq (tgt := 1015) hx hb dL_law_251 (by decide) (fun _ => ?_) (fun c1 => absurd hs.1 c1)
  exact kk _ _ _ _ _ _ _ _ _ hs.2 hPc hPm hD hS hl
set_option maxHeartbeats 4000000 in
set_option maxRecDepth 100000 in
theorem lc_2 {p : Program} {l : Launch} {e : Env} {s : State} {m : MethodId} {below : List Frame} {meth : Method} {c : Code} {D : va_G} {cI cZ cS : ClassId} {q q' : Nat → Nat} {N M : Nat → Nat} {V U : Nat → Int32} {A B : Nat → Nat → Int32} {H : Heap} {locs : List Loc} {ls : Array Slot} {b L i tG : Nat} {xs : Nat → Int32} (hL : L ≤ 3072) (hi : i + 6 ≤ L) (C0 : lw_At p s m meth c b L xs) (hK : va_K D vwCl (tysA cI cZ cS) s) (hN : nestC s) (hG : gmS s tG) (kk : lawK p l e s m below meth c b D cI cZ cS q q' (nI i)) (iv : Inv N V A M U B) (hPc : va_P D vwCl (wC cI cS q N V A) H) (hPm : va_P D vwCl (wM cI cZ q' M U B) H) (hD : va_D (fun q : Nat => s.heap.size ≤ q) (wC cI cS q N V A ++ wM cI cZ q' M U B)) (hS : va_S (fun q : Nat => s.heap.size ≤ q) s.heap H locs) (hl : lv_has ls 4 [(0, .ref b), (1, .ref (q 0)), (2, .ref (q' 0)), (3, .int (nI i))]) : W p l e room_1 s m #[Value.ref b] below meth c H locs 600000 7302250 (lw_Z below #[Value.ref b] s) (F0 m 256 ls []) := by
  obtain ⟨hx, hb, hr, hml, hown, hts0, hX, hbl, hlocks, hgv⟩ := C0
  have hts : ∀ w ∈ wsL_law, w.before #[Value.ref b] s = true := fun w h => hts0 w (wsL_law_in w h)
  have hown : s.vm.findClass RL = some m.cls := hown
  have hA : ∀ q : Nat, s.heap.size ≤ q → (fun q : Nat => s.heap.size ≤ q) q := fun _ h => h
  have hbA : ¬ (fun q : Nat => s.heap.size ≤ q) b := Nat.not_le.mpr hbl
  obtain ⟨i0, i1, i2, i3, i4, i5⟩ := inS hL hi
  have okc := iv.2.2.2.2.2.2.2.1
  have okm := iv.2.2.2.2.2.2.2.2
  have okv := iv.okV
  have oks := iv.okS
  have hup : M 2 < 2 ^ M 0 := iv.1.2.2.2.2.2
  have hupN : N 2 < 2 ^ N 0 := by rw [iv.1.2.2.1, iv.1.1]; exact hup
  have hw3 : ¬ B 1 3 = 0 := fun h => by have := (iv.2.2.1 3 (by decide)).2.1; rw [h] at this; exact absurd this (by decide)
  refine lv_aload_n hx hb dL_law_256 rfl (lv_at hl 1 rfl) ?_
  refine lv_aload_n hx hb dL_law_257 rfl (lv_at hl 0 rfl) ?_
  refine lv_iload_n hx hb dL_law_258 rfl (lv_at hl 3 rfl) ?_
  refine lv_iconst (v := (1)) hx hb dL_law_259 (by decide) ?_
  refine lv_iadd hx hb dL_law_260 ?_
  refine va_sld (i := nI i + (1 : Int32)) hx hb hX hbl hbA hS i1 dL_law_261 ?_
  refine lv_aload_n hx hb dL_law_262 rfl (lv_at hl 0 rfl) ?_
  refine lv_iload_n hx hb dL_law_263 rfl (lv_at hl 3 rfl) ?_
  refine lv_iconst (v := (2)) hx hb dL_law_264 (by decide) ?_
  refine lv_iadd hx hb dL_law_265 ?_
  refine va_sld (i := nI i + (2 : Int32)) hx hb hX hbl hbA hS i2 dL_law_266 ?_
  refine lv_aload_n hx hb dL_law_267 rfl (lv_at hl 0 rfl) ?_
  refine lv_iload_n hx hb dL_law_268 rfl (lv_at hl 3 rfl) ?_
  refine lv_iconst (v := (3)) hx hb dL_law_269 (by decide) ?_
  refine lv_iadd hx hb dL_law_270 ?_
  refine va_sld (i := nI i + (3 : Int32)) hx hb hX hbl hbA hS i3 dL_law_271 ?_
  refine lv_aload_n hx hb dL_law_272 rfl (lv_at hl 0 rfl) ?_
  refine lv_iload_n hx hb dL_law_273 rfl (lv_at hl 3 rfl) ?_
  refine lv_iconst (v := (4)) hx hb dL_law_274 (by decide) ?_
  refine lv_iadd hx hb dL_law_275 ?_
  refine va_sld (i := nI i + (4 : Int32)) hx hb hX hbl hbA hS i4 dL_law_276 ?_
  refine law_i (wx := wC cI cS q N V A) (wy := wM cI cZ q' M U B) (va_runV (As := [.int (xs (nI i + (1 : Int32)).toNatClampNeg), .int (xs (nI i + (2 : Int32)).toNatClampNeg), .int (xs (nI i + (3 : Int32)).toNatClampNeg), .int (xs (nI i + (4 : Int32)).toNatClampNeg)]) (rest := []) ⟨hx, hb, hml, hown, hts⟩ (c_X4_plan l D cI cZ cS q N V A H.size (xs (nI i + (1 : Int32)).toNatClampNeg) (xs (nI i + (2 : Int32)).toNatClampNeg) (xs (nI i + (3 : Int32)).toNatClampNeg) (xs (nI i + (4 : Int32)).toNatClampNeg) okc okv) (cwV 4 hts gL_law_X4_plan rfl rfl rfl (by decide +kernel) ⟨Nat.le_of_ble_eq_true rfl, Nat.le_of_ble_eq_true rfl⟩) (preCm4 hK hN hPc (pair_l hD)) rfl rfl hl.1 rfl (lv_room (Nat.le_of_ble_eq_true rfl)) dL_law_277 ⟨Nat.le_of_ble_eq_true rfl, Nat.le_of_ble_eq_true rfl⟩) (fun t h => h.1) hD hPm hS hA (fun H locs hPc hPm hD hS => ?_)
  refine lv_aload_n hx hb dL_law_280 rfl (lv_at hl 2 rfl) ?_
  refine lv_aload_n hx hb dL_law_281 rfl (lv_at hl 0 rfl) ?_
  refine lv_iload_n hx hb dL_law_282 rfl (lv_at hl 3 rfl) ?_
  refine lv_iconst (v := (1)) hx hb dL_law_283 (by decide) ?_
  refine lv_iadd hx hb dL_law_284 ?_
  refine va_sld (i := nI i + (1 : Int32)) hx hb hX hbl hbA hS i1 dL_law_285 ?_
  refine lv_aload_n hx hb dL_law_286 rfl (lv_at hl 0 rfl) ?_
  refine lv_iload_n hx hb dL_law_287 rfl (lv_at hl 3 rfl) ?_
  refine lv_iconst (v := (2)) hx hb dL_law_288 (by decide) ?_
  refine lv_iadd hx hb dL_law_289 ?_
  refine va_sld (i := nI i + (2 : Int32)) hx hb hX hbl hbA hS i2 dL_law_290 ?_
  refine lv_aload_n hx hb dL_law_291 rfl (lv_at hl 0 rfl) ?_
  refine lv_iload_n hx hb dL_law_292 rfl (lv_at hl 3 rfl) ?_
  refine lv_iconst (v := (3)) hx hb dL_law_293 (by decide) ?_
  refine lv_iadd hx hb dL_law_294 ?_
  refine va_sld (i := nI i + (3 : Int32)) hx hb hX hbl hbA hS i3 dL_law_295 ?_
  refine lv_aload_n hx hb dL_law_296 rfl (lv_at hl 0 rfl) ?_
  refine lv_iload_n hx hb dL_law_297 rfl (lv_at hl 3 rfl) ?_
  refine lv_iconst (v := (4)) hx hb dL_law_298 (by decide) ?_
  refine lv_iadd hx hb dL_law_299 ?_
  refine va_sld (i := nI i + (4 : Int32)) hx hb hX hbl hbA hS i4 dL_law_300 ?_
  refine law_i (wx := wM cI cZ q' M U B) (wy := wC cI cS q (s_X4_plan N V A (xs (nI i + (1 : Int32)).toNatClampNeg) (xs (nI i + (2 : Int32)).toNatClampNeg) (xs (nI i + (3 : Int32)).toNatClampNeg) (xs (nI i + (4 : Int32)).toNatClampNeg)).2.1 (s_X4_plan N V A (xs (nI i + (1 : Int32)).toNatClampNeg) (xs (nI i + (2 : Int32)).toNatClampNeg) (xs (nI i + (3 : Int32)).toNatClampNeg) (xs (nI i + (4 : Int32)).toNatClampNeg)).2.2.1 (s_X4_plan N V A (xs (nI i + (1 : Int32)).toNatClampNeg) (xs (nI i + (2 : Int32)).toNatClampNeg) (xs (nI i + (3 : Int32)).toNatClampNeg) (xs (nI i + (4 : Int32)).toNatClampNeg)).2.2.2) (va_runV (As := [.int (xs (nI i + (1 : Int32)).toNatClampNeg), .int (xs (nI i + (2 : Int32)).toNatClampNeg), .int (xs (nI i + (3 : Int32)).toNatClampNeg), .int (xs (nI i + (4 : Int32)).toNatClampNeg)]) (rest := [(.int (s_X4_plan N V A (xs (nI i + (1 : Int32)).toNatClampNeg) (xs (nI i + (2 : Int32)).toNatClampNeg) (xs (nI i + (3 : Int32)).toNatClampNeg) (xs (nI i + (4 : Int32)).toNatClampNeg)).1)]) ⟨hx, hb, hml, hown, hts⟩ (c_X5_plan l D cI cZ cS q' M U B H.size (xs (nI i + (1 : Int32)).toNatClampNeg) (xs (nI i + (2 : Int32)).toNatClampNeg) (xs (nI i + (3 : Int32)).toNatClampNeg) (xs (nI i + (4 : Int32)).toNatClampNeg) okm oks) (cwV 4 hts gL_law_X5_plan rfl rfl rfl (by decide +kernel) ⟨Nat.le_of_ble_eq_true rfl, Nat.le_of_ble_eq_true rfl⟩) (preMm hK hPm (pair_r hD)) rfl rfl hl.1 rfl (lv_room (Nat.le_of_ble_eq_true rfl)) dL_law_301 ⟨Nat.le_of_ble_eq_true rfl, Nat.le_of_ble_eq_true rfl⟩) (fun t h => h.1) (pair_sw hD) hPc hS hA (fun H locs hPm hPc hD hS => ?_)
  have hD := pair_sw hD
  have hs := plan_eq iv (xs (nI i + (1 : Int32)).toNatClampNeg) (xs (nI i + (2 : Int32)).toNatClampNeg) (xs (nI i + (3 : Int32)).toNatClampNeg) (xs (nI i + (4 : Int32)).toNatClampNeg)
  refine lv_icmp_eq (tgt := 1015) hx hb dL_law_304 (by decide) (fun _ => ?_) (fun c1 => absurd hs.1 c1)
  exact kk _ _ _ _ _ _ _ _ _ hs.2 hPc hPm hD hS hl
set_option maxHeartbeats 4000000 in
set_option maxRecDepth 100000 in
theorem lc_3 {p : Program} {l : Launch} {e : Env} {s : State} {m : MethodId} {below : List Frame} {meth : Method} {c : Code} {D : va_G} {cI cZ cS : ClassId} {q q' : Nat → Nat} {N M : Nat → Nat} {V U : Nat → Int32} {A B : Nat → Nat → Int32} {H : Heap} {locs : List Loc} {ls : Array Slot} {b L i tG : Nat} {xs : Nat → Int32} (hL : L ≤ 3072) (hi : i + 6 ≤ L) (C0 : lw_At p s m meth c b L xs) (hK : va_K D vwCl (tysA cI cZ cS) s) (hN : nestC s) (hG : gmS s tG) (kk : lawK p l e s m below meth c b D cI cZ cS q q' (nI i)) (iv : Inv N V A M U B) (hPc : va_P D vwCl (wC cI cS q N V A) H) (hPm : va_P D vwCl (wM cI cZ q' M U B) H) (hD : va_D (fun q : Nat => s.heap.size ≤ q) (wC cI cS q N V A ++ wM cI cZ q' M U B)) (hS : va_S (fun q : Nat => s.heap.size ≤ q) s.heap H locs) (hl : lv_has ls 4 [(0, .ref b), (1, .ref (q 0)), (2, .ref (q' 0)), (3, .int (nI i))]) : W p l e room_1 s m #[Value.ref b] below meth c H locs 600000 7302250 (lw_Z below #[Value.ref b] s) (F0 m 309 ls []) := by
  obtain ⟨hx, hb, hr, hml, hown, hts0, hX, hbl, hlocks, hgv⟩ := C0
  have hts : ∀ w ∈ wsL_law, w.before #[Value.ref b] s = true := fun w h => hts0 w (wsL_law_in w h)
  have hown : s.vm.findClass RL = some m.cls := hown
  have hA : ∀ q : Nat, s.heap.size ≤ q → (fun q : Nat => s.heap.size ≤ q) q := fun _ h => h
  have hbA : ¬ (fun q : Nat => s.heap.size ≤ q) b := Nat.not_le.mpr hbl
  obtain ⟨i0, i1, i2, i3, i4, i5⟩ := inS hL hi
  have okc := iv.2.2.2.2.2.2.2.1
  have okm := iv.2.2.2.2.2.2.2.2
  have okv := iv.okV
  have oks := iv.okS
  have hup : M 2 < 2 ^ M 0 := iv.1.2.2.2.2.2
  have hupN : N 2 < 2 ^ N 0 := by rw [iv.1.2.2.1, iv.1.1]; exact hup
  have hw3 : ¬ B 1 3 = 0 := fun h => by have := (iv.2.2.1 3 (by decide)).2.1; rw [h] at this; exact absurd this (by decide)
  refine lv_aload_n hx hb dL_law_309 rfl (lv_at hl 1 rfl) ?_
  refine lv_aload_n hx hb dL_law_310 rfl (lv_at hl 0 rfl) ?_
  refine lv_iload_n hx hb dL_law_311 rfl (lv_at hl 3 rfl) ?_
  refine lv_iconst (v := (1)) hx hb dL_law_312 (by decide) ?_
  refine lv_iadd hx hb dL_law_313 ?_
  refine va_sld (i := nI i + (1 : Int32)) hx hb hX hbl hbA hS i1 dL_law_314 ?_
  refine lv_aload_n hx hb dL_law_315 rfl (lv_at hl 0 rfl) ?_
  refine lv_iload_n hx hb dL_law_316 rfl (lv_at hl 3 rfl) ?_
  refine lv_iconst (v := (2)) hx hb dL_law_317 (by decide) ?_
  refine lv_iadd hx hb dL_law_318 ?_
  refine va_sld (i := nI i + (2 : Int32)) hx hb hX hbl hbA hS i2 dL_law_319 ?_
  refine vp_callSi (W.runV (As := [.int (xs (nI i + (1 : Int32)).toNatClampNeg), .int (xs (nI i + (2 : Int32)).toNatClampNeg)]) (rest := []) ⟨hx, hb, hml, hown, hts⟩ (c_X4_about l D cI cZ cS q N V A (xs (nI i + (1 : Int32)).toNatClampNeg) (xs (nI i + (2 : Int32)).toNatClampNeg) okc) (cwV 2 hts gL_law_X4_about rfl rfl rfl (by decide +kernel) ⟨Nat.le_of_ble_eq_true rfl, Nat.le_of_ble_eq_true rfl⟩) (preC4 hK hN hPc) rfl rfl hl.1 rfl (lv_room (Nat.le_of_ble_eq_true rfl)) dL_law_320 ⟨Nat.le_of_ble_eq_true rfl, Nat.le_of_ble_eq_true rfl⟩) (fun r1 er1 => ?_)
  subst er1
  refine lv_aload_n hx hb dL_law_323 rfl (lv_at hl 2 rfl) ?_
  refine lv_aload_n hx hb dL_law_324 rfl (lv_at hl 0 rfl) ?_
  refine lv_iload_n hx hb dL_law_325 rfl (lv_at hl 3 rfl) ?_
  refine lv_iconst (v := (1)) hx hb dL_law_326 (by decide) ?_
  refine lv_iadd hx hb dL_law_327 ?_
  refine va_sld (i := nI i + (1 : Int32)) hx hb hX hbl hbA hS i1 dL_law_328 ?_
  refine lv_aload_n hx hb dL_law_329 rfl (lv_at hl 0 rfl) ?_
  refine lv_iload_n hx hb dL_law_330 rfl (lv_at hl 3 rfl) ?_
  refine lv_iconst (v := (2)) hx hb dL_law_331 (by decide) ?_
  refine lv_iadd hx hb dL_law_332 ?_
  refine va_sld (i := nI i + (2 : Int32)) hx hb hX hbl hbA hS i2 dL_law_333 ?_
  refine vp_callSi (W.runV (As := [.int (xs (nI i + (1 : Int32)).toNatClampNeg), .int (xs (nI i + (2 : Int32)).toNatClampNeg)]) (rest := [(.int (s_X4_about N V A (xs (nI i + (1 : Int32)).toNatClampNeg) (xs (nI i + (2 : Int32)).toNatClampNeg)))]) ⟨hx, hb, hml, hown, hts⟩ (c_X5_about l D cI cZ cS q' M U B (xs (nI i + (1 : Int32)).toNatClampNeg) (xs (nI i + (2 : Int32)).toNatClampNeg) okm) (cwV 2 hts gL_law_X5_about rfl rfl rfl (by decide +kernel) ⟨Nat.le_of_ble_eq_true rfl, Nat.le_of_ble_eq_true rfl⟩) (preM hK hPm) rfl rfl hl.1 rfl (lv_room (Nat.le_of_ble_eq_true rfl)) dL_law_334 ⟨Nat.le_of_ble_eq_true rfl, Nat.le_of_ble_eq_true rfl⟩) (fun r2 er2 => ?_)
  subst er2
  have hs := about_eq iv (xs (nI i + (1 : Int32)).toNatClampNeg) (xs (nI i + (2 : Int32)).toNatClampNeg)
  refine lv_icmp_eq (tgt := 1015) hx hb dL_law_337 (by decide) (fun _ => ?_) (fun c1 => absurd hs c1)
  exact kk _ _ _ _ _ _ _ _ _ iv hPc hPm hD hS hl
set_option maxHeartbeats 4000000 in
set_option maxRecDepth 100000 in
theorem lc_4 {p : Program} {l : Launch} {e : Env} {s : State} {m : MethodId} {below : List Frame} {meth : Method} {c : Code} {D : va_G} {cI cZ cS : ClassId} {q q' : Nat → Nat} {N M : Nat → Nat} {V U : Nat → Int32} {A B : Nat → Nat → Int32} {H : Heap} {locs : List Loc} {ls : Array Slot} {b L i tG : Nat} {xs : Nat → Int32} (hL : L ≤ 3072) (hi : i + 6 ≤ L) (C0 : lw_At p s m meth c b L xs) (hK : va_K D vwCl (tysA cI cZ cS) s) (hN : nestC s) (hG : gmS s tG) (kk : lawK p l e s m below meth c b D cI cZ cS q q' (nI i)) (iv : Inv N V A M U B) (hPc : va_P D vwCl (wC cI cS q N V A) H) (hPm : va_P D vwCl (wM cI cZ q' M U B) H) (hD : va_D (fun q : Nat => s.heap.size ≤ q) (wC cI cS q N V A ++ wM cI cZ q' M U B)) (hS : va_S (fun q : Nat => s.heap.size ≤ q) s.heap H locs) (hl : lv_has ls 4 [(0, .ref b), (1, .ref (q 0)), (2, .ref (q' 0)), (3, .int (nI i))]) : W p l e room_1 s m #[Value.ref b] below meth c H locs 600000 7302250 (lw_Z below #[Value.ref b] s) (F0 m 342 ls []) := by
  obtain ⟨hx, hb, hr, hml, hown, hts0, hX, hbl, hlocks, hgv⟩ := C0
  have hts : ∀ w ∈ wsL_law, w.before #[Value.ref b] s = true := fun w h => hts0 w (wsL_law_in w h)
  have hown : s.vm.findClass RL = some m.cls := hown
  have hA : ∀ q : Nat, s.heap.size ≤ q → (fun q : Nat => s.heap.size ≤ q) q := fun _ h => h
  have hbA : ¬ (fun q : Nat => s.heap.size ≤ q) b := Nat.not_le.mpr hbl
  obtain ⟨i0, i1, i2, i3, i4, i5⟩ := inS hL hi
  have okc := iv.2.2.2.2.2.2.2.1
  have okm := iv.2.2.2.2.2.2.2.2
  have okv := iv.okV
  have oks := iv.okS
  have hup : M 2 < 2 ^ M 0 := iv.1.2.2.2.2.2
  have hupN : N 2 < 2 ^ N 0 := by rw [iv.1.2.2.1, iv.1.1]; exact hup
  have hw3 : ¬ B 1 3 = 0 := fun h => by have := (iv.2.2.1 3 (by decide)).2.1; rw [h] at this; exact absurd this (by decide)
  refine lv_aload_n hx hb dL_law_342 rfl (lv_at hl 1 rfl) ?_
  refine lv_aload_n hx hb dL_law_343 rfl (lv_at hl 0 rfl) ?_
  refine lv_iload_n hx hb dL_law_344 rfl (lv_at hl 3 rfl) ?_
  refine lv_iconst (v := (1)) hx hb dL_law_345 (by decide) ?_
  refine lv_iadd hx hb dL_law_346 ?_
  refine va_sld (i := nI i + (1 : Int32)) hx hb hX hbl hbA hS i1 dL_law_347 ?_
  refine lv_aload_n hx hb dL_law_348 rfl (lv_at hl 0 rfl) ?_
  refine lv_iload_n hx hb dL_law_349 rfl (lv_at hl 3 rfl) ?_
  refine lv_iconst (v := (2)) hx hb dL_law_350 (by decide) ?_
  refine lv_iadd hx hb dL_law_351 ?_
  refine va_sld (i := nI i + (2 : Int32)) hx hb hX hbl hbA hS i2 dL_law_352 ?_
  refine vp_callSi (W.runV (As := [.int (xs (nI i + (1 : Int32)).toNatClampNeg), .int (xs (nI i + (2 : Int32)).toNatClampNeg)]) (rest := []) ⟨hx, hb, hml, hown, hts⟩ (c_X4_over l D cI cZ cS q N V A (xs (nI i + (1 : Int32)).toNatClampNeg) (xs (nI i + (2 : Int32)).toNatClampNeg) okc) (cwV 2 hts gL_law_X4_over rfl rfl rfl (by decide +kernel) ⟨Nat.le_of_ble_eq_true rfl, Nat.le_of_ble_eq_true rfl⟩) (preC4 hK hN hPc) rfl rfl hl.1 rfl (lv_room (Nat.le_of_ble_eq_true rfl)) dL_law_353 ⟨Nat.le_of_ble_eq_true rfl, Nat.le_of_ble_eq_true rfl⟩) (fun r1 er1 => ?_)
  subst er1
  refine lv_aload_n hx hb dL_law_356 rfl (lv_at hl 2 rfl) ?_
  refine lv_aload_n hx hb dL_law_357 rfl (lv_at hl 0 rfl) ?_
  refine lv_iload_n hx hb dL_law_358 rfl (lv_at hl 3 rfl) ?_
  refine lv_iconst (v := (1)) hx hb dL_law_359 (by decide) ?_
  refine lv_iadd hx hb dL_law_360 ?_
  refine va_sld (i := nI i + (1 : Int32)) hx hb hX hbl hbA hS i1 dL_law_361 ?_
  refine lv_aload_n hx hb dL_law_362 rfl (lv_at hl 0 rfl) ?_
  refine lv_iload_n hx hb dL_law_363 rfl (lv_at hl 3 rfl) ?_
  refine lv_iconst (v := (2)) hx hb dL_law_364 (by decide) ?_
  refine lv_iadd hx hb dL_law_365 ?_
  refine va_sld (i := nI i + (2 : Int32)) hx hb hX hbl hbA hS i2 dL_law_366 ?_
  refine vp_callSi (W.runV (As := [.int (xs (nI i + (1 : Int32)).toNatClampNeg), .int (xs (nI i + (2 : Int32)).toNatClampNeg)]) (rest := [(.int (s_X4_over N V A (xs (nI i + (1 : Int32)).toNatClampNeg) (xs (nI i + (2 : Int32)).toNatClampNeg)))]) ⟨hx, hb, hml, hown, hts⟩ (c_X5_over l D cI cZ cS q' M U B (xs (nI i + (1 : Int32)).toNatClampNeg) (xs (nI i + (2 : Int32)).toNatClampNeg) okm) (cwV 2 hts gL_law_X5_over rfl rfl rfl (by decide +kernel) ⟨Nat.le_of_ble_eq_true rfl, Nat.le_of_ble_eq_true rfl⟩) (preM hK hPm) rfl rfl hl.1 rfl (lv_room (Nat.le_of_ble_eq_true rfl)) dL_law_367 ⟨Nat.le_of_ble_eq_true rfl, Nat.le_of_ble_eq_true rfl⟩) (fun r2 er2 => ?_)
  subst er2
  have hs := over_eq iv (xs (nI i + (1 : Int32)).toNatClampNeg) (xs (nI i + (2 : Int32)).toNatClampNeg)
  refine lv_icmp_eq (tgt := 1015) hx hb dL_law_370 (by decide) (fun _ => ?_) (fun c1 => absurd hs c1)
  exact kk _ _ _ _ _ _ _ _ _ iv hPc hPm hD hS hl
set_option maxHeartbeats 4000000 in
set_option maxRecDepth 100000 in
theorem lc_5 {p : Program} {l : Launch} {e : Env} {s : State} {m : MethodId} {below : List Frame} {meth : Method} {c : Code} {D : va_G} {cI cZ cS : ClassId} {q q' : Nat → Nat} {N M : Nat → Nat} {V U : Nat → Int32} {A B : Nat → Nat → Int32} {H : Heap} {locs : List Loc} {ls : Array Slot} {b L i tG : Nat} {xs : Nat → Int32} (hL : L ≤ 3072) (hi : i + 6 ≤ L) (C0 : lw_At p s m meth c b L xs) (hK : va_K D vwCl (tysA cI cZ cS) s) (hN : nestC s) (hG : gmS s tG) (kk : lawK p l e s m below meth c b D cI cZ cS q q' (nI i)) (iv : Inv N V A M U B) (hPc : va_P D vwCl (wC cI cS q N V A) H) (hPm : va_P D vwCl (wM cI cZ q' M U B) H) (hD : va_D (fun q : Nat => s.heap.size ≤ q) (wC cI cS q N V A ++ wM cI cZ q' M U B)) (hS : va_S (fun q : Nat => s.heap.size ≤ q) s.heap H locs) (hl : lv_has ls 4 [(0, .ref b), (1, .ref (q 0)), (2, .ref (q' 0)), (3, .int (nI i))]) : W p l e room_1 s m #[Value.ref b] below meth c H locs 600000 7302250 (lw_Z below #[Value.ref b] s) (F0 m 375 ls []) := by
  obtain ⟨hx, hb, hr, hml, hown, hts0, hX, hbl, hlocks, hgv⟩ := C0
  have hts : ∀ w ∈ wsL_law, w.before #[Value.ref b] s = true := fun w h => hts0 w (wsL_law_in w h)
  have hown : s.vm.findClass RL = some m.cls := hown
  have hA : ∀ q : Nat, s.heap.size ≤ q → (fun q : Nat => s.heap.size ≤ q) q := fun _ h => h
  have hbA : ¬ (fun q : Nat => s.heap.size ≤ q) b := Nat.not_le.mpr hbl
  obtain ⟨i0, i1, i2, i3, i4, i5⟩ := inS hL hi
  have okc := iv.2.2.2.2.2.2.2.1
  have okm := iv.2.2.2.2.2.2.2.2
  have okv := iv.okV
  have oks := iv.okS
  have hup : M 2 < 2 ^ M 0 := iv.1.2.2.2.2.2
  have hupN : N 2 < 2 ^ N 0 := by rw [iv.1.2.2.1, iv.1.1]; exact hup
  have hw3 : ¬ B 1 3 = 0 := fun h => by have := (iv.2.2.1 3 (by decide)).2.1; rw [h] at this; exact absurd this (by decide)
  refine lv_aload_n hx hb dL_law_375 rfl (lv_at hl 1 rfl) ?_
  refine lv_aload_n hx hb dL_law_376 rfl (lv_at hl 0 rfl) ?_
  refine lv_iload_n hx hb dL_law_377 rfl (lv_at hl 3 rfl) ?_
  refine lv_iconst (v := (1)) hx hb dL_law_378 (by decide) ?_
  refine lv_iadd hx hb dL_law_379 ?_
  refine va_sld (i := nI i + (1 : Int32)) hx hb hX hbl hbA hS i1 dL_law_380 ?_
  refine vp_callSi (W.runV (As := [.int (xs (nI i + (1 : Int32)).toNatClampNeg)]) (rest := []) ⟨hx, hb, hml, hown, hts⟩ (c_X4_stack l D cI cZ cS q N V A (xs (nI i + (1 : Int32)).toNatClampNeg) okc) (cwV 1 hts gL_law_X4_stack rfl rfl rfl (by decide +kernel) ⟨Nat.le_of_ble_eq_true rfl, Nat.le_of_ble_eq_true rfl⟩) (preC4 hK hN hPc) rfl rfl hl.1 rfl (lv_room (Nat.le_of_ble_eq_true rfl)) dL_law_381 ⟨Nat.le_of_ble_eq_true rfl, Nat.le_of_ble_eq_true rfl⟩) (fun r1 er1 => ?_)
  subst er1
  refine lv_aload_n hx hb dL_law_384 rfl (lv_at hl 2 rfl) ?_
  refine lv_aload_n hx hb dL_law_385 rfl (lv_at hl 0 rfl) ?_
  refine lv_iload_n hx hb dL_law_386 rfl (lv_at hl 3 rfl) ?_
  refine lv_iconst (v := (1)) hx hb dL_law_387 (by decide) ?_
  refine lv_iadd hx hb dL_law_388 ?_
  refine va_sld (i := nI i + (1 : Int32)) hx hb hX hbl hbA hS i1 dL_law_389 ?_
  refine vp_callSi (W.runV (As := [.int (xs (nI i + (1 : Int32)).toNatClampNeg)]) (rest := [(.int (s_X4_stack N V A (xs (nI i + (1 : Int32)).toNatClampNeg)))]) ⟨hx, hb, hml, hown, hts⟩ (c_X5_stack l D cI cZ cS q' M U B (xs (nI i + (1 : Int32)).toNatClampNeg) okm) (cwV 1 hts gL_law_X5_stack rfl rfl rfl (by decide +kernel) ⟨Nat.le_of_ble_eq_true rfl, Nat.le_of_ble_eq_true rfl⟩) (preM hK hPm) rfl rfl hl.1 rfl (lv_room (Nat.le_of_ble_eq_true rfl)) dL_law_390 ⟨Nat.le_of_ble_eq_true rfl, Nat.le_of_ble_eq_true rfl⟩) (fun r2 er2 => ?_)
  subst er2
  have hs := stack_eq iv (xs (nI i + (1 : Int32)).toNatClampNeg)
  refine lv_icmp_eq (tgt := 1015) hx hb dL_law_393 (by decide) (fun _ => ?_) (fun c1 => absurd hs c1)
  exact kk _ _ _ _ _ _ _ _ _ iv hPc hPm hD hS hl
set_option maxHeartbeats 4000000 in
set_option maxRecDepth 100000 in
theorem lc_6 {p : Program} {l : Launch} {e : Env} {s : State} {m : MethodId} {below : List Frame} {meth : Method} {c : Code} {D : va_G} {cI cZ cS : ClassId} {q q' : Nat → Nat} {N M : Nat → Nat} {V U : Nat → Int32} {A B : Nat → Nat → Int32} {H : Heap} {locs : List Loc} {ls : Array Slot} {b L i tG : Nat} {xs : Nat → Int32} (hL : L ≤ 3072) (hi : i + 6 ≤ L) (C0 : lw_At p s m meth c b L xs) (hK : va_K D vwCl (tysA cI cZ cS) s) (hN : nestC s) (hG : gmS s tG) (kk : lawK p l e s m below meth c b D cI cZ cS q q' (nI i)) (iv : Inv N V A M U B) (hPc : va_P D vwCl (wC cI cS q N V A) H) (hPm : va_P D vwCl (wM cI cZ q' M U B) H) (hD : va_D (fun q : Nat => s.heap.size ≤ q) (wC cI cS q N V A ++ wM cI cZ q' M U B)) (hS : va_S (fun q : Nat => s.heap.size ≤ q) s.heap H locs) (hl : lv_has ls 4 [(0, .ref b), (1, .ref (q 0)), (2, .ref (q' 0)), (3, .int (nI i))]) : W p l e room_1 s m #[Value.ref b] below meth c H locs 600000 7302250 (lw_Z below #[Value.ref b] s) (F0 m 398 ls []) := by
  obtain ⟨hx, hb, hr, hml, hown, hts0, hX, hbl, hlocks, hgv⟩ := C0
  have hts : ∀ w ∈ wsL_law, w.before #[Value.ref b] s = true := fun w h => hts0 w (wsL_law_in w h)
  have hown : s.vm.findClass RL = some m.cls := hown
  have hA : ∀ q : Nat, s.heap.size ≤ q → (fun q : Nat => s.heap.size ≤ q) q := fun _ h => h
  have hbA : ¬ (fun q : Nat => s.heap.size ≤ q) b := Nat.not_le.mpr hbl
  obtain ⟨i0, i1, i2, i3, i4, i5⟩ := inS hL hi
  have okc := iv.2.2.2.2.2.2.2.1
  have okm := iv.2.2.2.2.2.2.2.2
  have okv := iv.okV
  have oks := iv.okS
  have hup : M 2 < 2 ^ M 0 := iv.1.2.2.2.2.2
  have hupN : N 2 < 2 ^ N 0 := by rw [iv.1.2.2.1, iv.1.1]; exact hup
  have hw3 : ¬ B 1 3 = 0 := fun h => by have := (iv.2.2.1 3 (by decide)).2.1; rw [h] at this; exact absurd this (by decide)
  refine lv_aload_n hx hb dL_law_398 rfl (lv_at hl 1 rfl) ?_
  refine lv_aload_n hx hb dL_law_399 rfl (lv_at hl 0 rfl) ?_
  refine lv_iload_n hx hb dL_law_400 rfl (lv_at hl 3 rfl) ?_
  refine lv_iconst (v := (1)) hx hb dL_law_401 (by decide) ?_
  refine lv_iadd hx hb dL_law_402 ?_
  refine va_sld (i := nI i + (1 : Int32)) hx hb hX hbl hbA hS i1 dL_law_403 ?_
  refine vp_callSi (W.runV (As := [.int (xs (nI i + (1 : Int32)).toNatClampNeg)]) (rest := []) ⟨hx, hb, hml, hown, hts⟩ (c_X4_fits l D cI cZ cS q N V A (xs (nI i + (1 : Int32)).toNatClampNeg) okc) (cwV 1 hts gL_law_X4_fits rfl rfl rfl (by decide +kernel) ⟨Nat.le_of_ble_eq_true rfl, Nat.le_of_ble_eq_true rfl⟩) (preC4 hK hN hPc) rfl rfl hl.1 rfl (lv_room (Nat.le_of_ble_eq_true rfl)) dL_law_404 ⟨Nat.le_of_ble_eq_true rfl, Nat.le_of_ble_eq_true rfl⟩) (fun r1 er1 => ?_)
  subst er1
  refine lv_aload_n hx hb dL_law_407 rfl (lv_at hl 2 rfl) ?_
  refine lv_aload_n hx hb dL_law_408 rfl (lv_at hl 0 rfl) ?_
  refine lv_iload_n hx hb dL_law_409 rfl (lv_at hl 3 rfl) ?_
  refine lv_iconst (v := (1)) hx hb dL_law_410 (by decide) ?_
  refine lv_iadd hx hb dL_law_411 ?_
  refine va_sld (i := nI i + (1 : Int32)) hx hb hX hbl hbA hS i1 dL_law_412 ?_
  refine vp_callSi (W.runV (As := [.int (xs (nI i + (1 : Int32)).toNatClampNeg)]) (rest := [(.int (s_X4_fits N V A (xs (nI i + (1 : Int32)).toNatClampNeg)))]) ⟨hx, hb, hml, hown, hts⟩ (c_X5_fits l D cI cZ cS q' M U B (xs (nI i + (1 : Int32)).toNatClampNeg) okm hw3) (cwV 1 hts gL_law_X5_fits rfl rfl rfl (by decide +kernel) ⟨Nat.le_of_ble_eq_true rfl, Nat.le_of_ble_eq_true rfl⟩) (preM hK hPm) rfl rfl hl.1 rfl (lv_room (Nat.le_of_ble_eq_true rfl)) dL_law_413 ⟨Nat.le_of_ble_eq_true rfl, Nat.le_of_ble_eq_true rfl⟩) (fun r2 er2 => ?_)
  subst er2
  have hs := fits_eq iv (xs (nI i + (1 : Int32)).toNatClampNeg)
  refine lv_icmp_eq (tgt := 1015) hx hb dL_law_416 (by decide) (fun _ => ?_) (fun c1 => absurd hs c1)
  exact kk _ _ _ _ _ _ _ _ _ iv hPc hPm hD hS hl
