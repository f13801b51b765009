/-! a new thread -/
theorem crB_cong {B B1 : Nat → Nat → Int32} {t u : Nat} (h3 : B1 3 = B 3) (e7 : B1 7 t = B 7 t) (e8 : B1 8 t = B 8 t) (e9 : B1 9 t = B 9 t) (f7 : B1 7 u = B 7 u) (f8 : B1 8 u = B 8 u) (f9 : B1 9 u = B 9 u) : crB B1 t u = crB B t u := by
  unfold crB s_X5_doCross
  rw [h3, e7, e8, e9, f7, f8, f9]
section THR
variable {N M : Nat → Nat} {V U : Nat → Int32} {A B : Nat → Nat → Int32}
/-- the model's rows with a new thread -/
def newB (B : Nat → Nat → Int32) (T : Nat) (h s p : Int32) : Nat → Nat → Int32 := (va_up (va_up (va_up (va_up B 7 (upd (B 7) T h)) 8 (upd (B 8) T s)) 9 (upd (B 9) T p)) 10 (upd (B 10) T (b2i false)))
def newA (A : Nat → Nat → Int32) (T : Nat) (h s p f : Int32) : Nat → Nat → Int32 := (va_up (va_up (va_up (va_up A 11 (upd (A 11) T h)) 12 (upd (A 12) T s)) 13 (upd (A 13) T p)) 14 (upd (A 14) T f))
theorem Inv.addThread (iv : Inv N V A M U B) {h p : Int32} {s : Nat} {b : Bool} (hTT : M 1 < 16) (hs : s < M 0) (hh : -20 ≤ h.toInt ∧ h.toInt ≤ 120) (hp : 1 ≤ p.toInt ∧ p.toInt ≤ 60) {N' : Nat → Nat} (n0 : N' 0 = N 0) (n1 : N' 1 = N 1 + 1) (n2 : N' 2 = N 2) (n4 : N' 4 = N 4 ||| 2 ^ N 1) (n3 : N' 3 = if b then N 3 ||| 2 ^ N 1 else N 3) (hb : b = decide ((h - B 3 s) * B 6 s < 0)) :
    Inv N' V (s_X3_add_L1 N V A h (nI s) p (B 3 s) b (N 1) 0 (newA A (N 1) h (nI s) p (B 3 s))) (va_up M 1 (M 1 + 1)) U (newB B (M 1) h (nI s) p) := by
  obtain ⟨⟨e0, e1, e2, hn, hT, hU⟩, hv, hR, hIS, hO, hIT, hH, okc, okm⟩ := id iv
  have okc' := okc
  obtain ⟨o1, o2, o3, o4, o5, o6, o7, o8, o9⟩ := okc'
  have hsc : (nI s).toNatClampNeg = s := nI_clamp (by omega)
  have hI := x3add_L1 (N := N) (V := V) (A := A) (h0 := h) (s0 := nI s) (p0 := p) (f0 := B 3 s) (b0 := b) (by omega) (I := fun j => s_X3_haveInnerPointInCommon N V (newA A (N 1) h (nI s) p (B 3 s)) j (N 1)) (N 1) 0 (newA A (N 1) h (nI s) p (B 3 s)) (by omega) o8 (fun j => rfl)
  obtain ⟨k1, k2, k3⟩ := hI
  generalize s_X3_add_L1 N V A h (nI s) p (B 3 s) b (N 1) 0 (newA A (N 1) h (nI s) p (B 3 s)) = A1 at k1 k2 k3 ⊢
  -- the model's rows
  have b7 : ∀ t, newB B (M 1) h (nI s) p 7 t = upd (B 7) (M 1) h t := fun t => rfl
  have b8 : ∀ t, newB B (M 1) h (nI s) p 8 t = upd (B 8) (M 1) (nI s) t := fun t => rfl
  have b9 : ∀ t, newB B (M 1) h (nI s) p 9 t = upd (B 9) (M 1) p t := fun t => rfl
  have b10 : ∀ t, newB B (M 1) h (nI s) p 10 t = upd (B 10) (M 1) (b2i false) t := fun t => rfl
  have b3 : newB B (M 1) h (nI s) p 3 = B 3 := rfl
  have b6 : newB B (M 1) h (nI s) p 6 = B 6 := rfl
  have a11 : ∀ t, A1 11 t = upd (A 11) (N 1) h t := fun t => by rw [k1 11 (by decide)]; rfl
  have a12 : ∀ t, A1 12 t = upd (A 12) (N 1) (nI s) t := fun t => by rw [k1 12 (by decide)]; rfl
  have a13 : ∀ t, A1 13 t = upd (A 13) (N 1) p t := fun t => by rw [k1 13 (by decide)]; rfl
  have a14 : ∀ t, A1 14 t = upd (A 14) (N 1) (B 3 s) t := fun t => by rw [k1 14 (by decide)]; rfl
  have aO : ∀ q, q ≠ 11 → q ≠ 12 → q ≠ 13 → q ≠ 14 → q ≠ 15 → A1 q = A q := fun q h1 h2 h3 h4 h5 => by
    rw [k1 q h5]; unfold newA
    rw [va_up_o _ _ h4, va_up_o _ _ h3, va_up_o _ _ h2, va_up_o _ _ h1]
  have bO : ∀ q, q ≠ 7 → q ≠ 8 → q ≠ 9 → q ≠ 10 → newB B (M 1) h (nI s) p q = B q := fun q h1 h2 h3 h4 => by
    unfold newB
    rw [va_up_o _ _ h4, va_up_o _ _ h3, va_up_o _ _ h2, va_up_o _ _ h1]
  have tho : ∀ t, t < M 1 + 1 → thOk (newA A (N 1) h (nI s) p (B 3 s)) (newB B (M 1) h (nI s) p) t := by
    intro t ht
    unfold thOk
    rw [b7, b8, b9, b3]
    rw [show newA A (N 1) h (nI s) p (B 3 s) 11 t = upd (A 11) (N 1) h t from rfl, show newA A (N 1) h (nI s) p (B 3 s) 13 t = upd (A 13) (N 1) p t from rfl, show newA A (N 1) h (nI s) p (B 3 s) 14 t = upd (A 14) (N 1) (B 3 s) t from rfl, e1]
    by_cases h2 : t = M 1
    · subst h2; rw [pk_us, pk_us, pk_us, pk_us, pk_us, pk_us, hsc]
      exact ⟨⟨rfl, rfl, rfl⟩, hh, hp, (hIS s hs).2.2.1⟩
    · rw [pk_un h2, pk_un h2, pk_un h2, pk_un h2, pk_un h2, pk_un h2]
      have q := hIT.1 t (by omega)
      exact ⟨⟨q.1.1, q.1.2.2.1, q.1.2.2.2⟩, q.2.2.1, q.2.2.2, (hIS _ q.2.1.2).2.2.1⟩
  have hcr : ∀ j, j < M 1 → s_X3_haveInnerPointInCommon N V (newA A (N 1) h (nI s) p (B 3 s)) j (N 1) = crB (newB B (M 1) h (nI s) p) j (M 1) := fun j hj => by
    rw [e1]
    have := inner_cr (N := N) (V := V) (tho j (by omega)) (tho (M 1) (by omega)) (fun e => absurd ((nI_eq (by omega) (by omega)).mp e) (by omega))
    rw [e1] at this; exact this
  have hbh : ∀ t, bhB (newB B (M 1) h (nI s) p) t = if t = M 1 then b else bhB B t := fun t => by
    unfold bhB
    rw [b7, b8, b3, b6]
    by_cases h2 : t = M 1
    · subst h2; rw [pk_us, pk_us, hsc, if_pos rfl, hb]
    · rw [pk_un h2, pk_un h2, if_neg h2]
  have old : ∀ {t u : Nat}, t < M 1 → u < M 1 → crB (newB B (M 1) h (nI s) p) t u = crB B t u := fun {t u} ht hu => by
    apply crB_cong b3
    · rw [b7, pk_un (by omega)]
    · rw [b8, pk_un (by omega)]
    · rw [b9, pk_un (by omega)]
    · rw [b7, pk_un (by omega)]
    · rw [b8, pk_un (by omega)]
    · rw [b9, pk_un (by omega)]
  have hz : (N 3).testBit (M 1) = false ∧ (N 4).testBit (M 1) = false := by
    have := hIT.2.1 (M 1)
    rw [decide_eq_false (Nat.lt_irrefl _)] at this
    exact this
  have hp16 : 2 ^ N 1 < 2 ^ 16 := Nat.pow_lt_pow_right (by omega) (by omega)
  refine ⟨⟨by rw [n0]; exact e0, by rw [n1, e1]; rfl, by rw [n2]; exact e2, hn, (show M 1 + 1 ≤ 16 by omega), hU⟩, hv, ?_, ?_, ?_, ⟨?_, ?_, ?_⟩, ?_, ?_, ?_⟩
  · intro j hj
    rw [aO 1 (by decide) (by decide) (by decide) (by decide) (by decide), bO 1 (by decide) (by decide) (by decide) (by decide)]
    exact hR j hj
  · intro j hj
    rw [aO 3 (by decide) (by decide) (by decide) (by decide) (by decide), aO 4 (by decide) (by decide) (by decide) (by decide) (by decide), aO 5 (by decide) (by decide) (by decide) (by decide) (by decide), aO 6 (by decide) (by decide) (by decide) (by decide) (by decide), aO 7 (by decide) (by decide) (by decide) (by decide) (by decide)]
    exact hIS j hj
  · intro a c
    rw [aO 8 (by decide) (by decide) (by decide) (by decide) (by decide), aO 9 (by decide) (by decide) (by decide) (by decide) (by decide)]
    exact hO a c
  · intro t ht
    rw [a11, a12, a13, a14, b7, b8, b9, b3, e1]
    by_cases h2 : t = M 1
    · subst h2; rw [pk_us, pk_us, pk_us, pk_us, pk_us, pk_us, pk_us, hsc]
      exact ⟨⟨rfl, rfl, rfl, rfl⟩, ⟨rfl, hs⟩, hh, hp⟩
    · rw [pk_un h2, pk_un h2, pk_un h2, pk_un h2, pk_un h2, pk_un h2, pk_un h2]
      exact hIT.1 t (by have : t < M 1 + 1 := ht; omega)
  · intro t
    rw [n4, n3, hbh, b10, show va_up M 1 (M 1 + 1) 1 = M 1 + 1 from rfl]
    have q := hIT.2.1 t
    by_cases h2 : t = M 1
    · subst h2
      rw [if_pos rfl, pk_us, tb_or1, hz.2, e1, bz_b2i]
      constructor
      · cases b
        · rw [if_neg (by decide), hz.1]; simp
        · rw [if_pos rfl, tb_or1, hz.1]; simp
      · simp
    · rw [if_neg h2, pk_un h2, tb_or1, q.2, e1]
      have e3 : decide (M 1 = t) = false := decide_eq_false (fun h3 => h2 h3.symm)
      have e4 : decide (t < M 1 + 1) = decide (t < M 1) := by apply decide_eq_decide.mpr; omega
      rw [e3, e4, Bool.or_false]
      refine ⟨?_, rfl⟩
      cases b
      · rw [if_neg (by decide), q.1]
      · rw [if_pos rfl, tb_or1, q.1, e3, Bool.or_false]
  · intro t u
    rw [k3, show newA A (N 1) h (nI s) p (B 3 s) 15 t = A 15 t from rfl, hIT.2.2, e1, show va_up M 1 (M 1 + 1) 1 = M 1 + 1 from rfl, Nat.zero_add]
    by_cases ht : t < M 1
    · have t1 : t < M 1 + 1 := by omega
      have t2 : ¬ t = M 1 := by omega
      by_cases hu : u < M 1
      · have u1 : u < M 1 + 1 := by omega
        have u2 : ¬ u = M 1 := by omega
        rw [old ht hu]; simp [ht, hu, t1, u1, t2, u2]
      · by_cases h3 : u = M 1
        · subst h3
          have := hcr t ht
          rw [e1] at this
          simp [ht, t1, t2, this]
        · have u1 : ¬ u < M 1 + 1 := by omega
          simp [hu, h3, u1, t2]
    · by_cases h4 : t = M 1
      · subst h4
        by_cases hu : u < M 1
        · have u1 : u < M 1 + 1 := by omega
          have u2 : ¬ u = M 1 := by omega
          have := hcr u hu
          rw [e1] at this
          rw [cr_symm (tho (M 1) (by omega)) (tho u u1)]
          simp [hu, u1, this]
        · by_cases h3 : u = M 1
          · have : crB (newB B (M 1) h (nI s) p) (M 1) (M 1) = false := cr_self _ _
            subst h3; simp [this]
          · have u1 : ¬ u < M 1 + 1 := by omega
            simp [hu, u1]
      · have t1 : ¬ t < M 1 + 1 := by omega
        simp [ht, h4, t1]
  · intro k hk
    rw [aO (18 + 2 * k) (by omega) (by omega) (by omega) (by omega) (by omega), bO 14 (by decide) (by decide) (by decide) (by decide), bO 15 (by decide) (by decide) (by decide) (by decide), bO 16 (by decide) (by decide) (by decide) (by decide)]
    exact hH k hk
  · refine ⟨by rw [n0]; exact o1, by rw [n1]; omega, by rw [n2]; exact o3, ?_, ?_, ?_, ?_, k2, ?_⟩
    · rw [n3]
      cases b
      · exact o4
      · exact or_lt (n := 16) o4 hp16
    · rw [n4]; exact or_lt (n := 16) o5 hp16
    · rw [aO 8 (by decide) (by decide) (by decide) (by decide) (by decide)]; exact o6
    · rw [aO 9 (by decide) (by decide) (by decide) (by decide) (by decide)]; exact o7
    · intro j
      rw [a12]
      by_cases h2 : j = N 1
      · subst h2; rw [pk_us, hsc]; exact ⟨rfl, by omega⟩
      · rw [pk_un h2]; exact o9 j
  · obtain ⟨p1, p2, p3, p4, p5, p6, p7⟩ := okm
    refine ⟨p1, (show M 1 + 1 ≤ 16 by omega), p3, ?_, ?_, p6, p7⟩
    · intro t
      rw [b8]
      by_cases h2 : t = M 1
      · subst h2; rw [pk_us]; exact vp_in_nI (by omega) (by omega)
      · rw [pk_un h2]; exact p4 t
    · intro t
      rw [b10]
      by_cases h2 : t = M 1
      · subst h2; rw [pk_us, bz_b2i]
      · rw [pk_un h2]; exact p5 t
theorem thread_eq (iv : Inv N V A M U B) (h s p : Int32) : Same (s_X4_thread N V A h s p) (s_X5_thread M U B h s p) := by
  obtain ⟨⟨e0, e1, e2, hn, hT, hU⟩, hv, hR, hIS, hO, hIT, hH, okc, okm⟩ := id iv
  unfold s_X4_thread s_X5_thread
  rw [noSpar_has (N := N) (V := V) (A := A) e0 hn, ite3]
  refine same_if (fun h1 => ?_) (fun _ => ⟨rfl, iv⟩)
  obtain ⟨hs, -⟩ := has2_t (by omega) h1
  generalize s.toNatClampNeg = j at hs
  rw [e0] at hs
  obtain ⟨⟨a1, a2, a3, a4, a5⟩, c1, c2, c3, c4, c5⟩ := hIS j hs
  have hr := hR 0 (by decide)
  have g0 : (gmV 0).toInt = 100 := by decide
  rw [g0] at hr
  have er : (A 1 0 + (20 : Int32)).toInt = (B 1 0).toInt + 20 := by
    rw [hr.1]; exact fb_addI (by rw [show (20 : Int32).toInt = 20 from rfl]; omega) (by rw [show (20 : Int32).toInt = 20 from rfl]; omega)
  have el : ((B 1 0).toInt64 + (20 : Int64)).toInt = (B 1 0).toInt + 20 := by
    rw [Int64.toInt_add, show (20 : Int64).toInt = 20 from rfl, Int32.toInt_toInt64, Int.bmod_eq_of_le (by omega) (by omega)]
  rw [within_in h (-20) (A 1 0 + 20) (-20) _ (by decide) (by rw [er, el]), within_in p 1 (A 5 j) 1 _ (by decide) (by rw [a3, Int32.toInt_toInt64])]
  refine same_if (fun h2 => ?_) (fun _ => ⟨rfl, iv⟩)
  refine same_if (fun h3 => ?_) (fun _ => ⟨rfl, iv⟩)
  rw [withinI, decide_eq_true_eq, er, show (-20 : Int32).toInt = -20 from rfl] at h2
  rw [withinI, decide_eq_true_eq, a3, show (1 : Int32).toInt = 1 from rfl] at h3
  rw [a2, a5]
  by_cases hf : M 1 = 16
  · rw [if_pos (show nI (M 1) = (16 : Int32) by rw [hf]; rfl)]
    have : ∀ b, s_X3_add N V A h (nI j) p (B 3 j) b = ((-4 : Int32), N, V, A) := fun b => by
      unfold s_X3_add
      rw [if_neg (by rw [e1, hf]; decide)]
    rw [this, this]
    split <;> exact ⟨rfl, iv⟩
  · have hlt : M 1 < 16 := by omega
    rw [if_neg (show ¬ nI (M 1) = (16 : Int32) from fun h4 => hf ((nI_eq (b := 16) (by omega) (by decide)).mp h4))]
    have hc : nI (N 1) < (16 : Int32) := by rw [e1]; exact nI_lt (b := 16) hlt (by decide)
    have eq1 : nI (N 1) = nI (M 1 + 1) - (1 : Int32) := by
      rw [e1, show (1 : Int32) = nI 1 from rfl, pk_sub (by omega)]; rfl
    by_cases hb : 0 ≤ (h - B 3 j) * B 6 j
    · rw [if_pos hb]
      unfold s_X3_add
      rw [if_pos hc, if_neg (by decide)]
      refine ⟨eq1, ?_⟩
      exact iv.addThread (b := false) hlt hs (by omega) (by omega) rfl rfl rfl rfl rfl (decide_eq_false (fun h5 => (i32_tot _).mpr h5 hb)).symm
    · rw [if_neg hb]
      unfold s_X3_add
      rw [if_pos hc, if_pos rfl]
      refine ⟨eq1, ?_⟩
      exact iv.addThread (b := true) hlt hs (by omega) (by omega) rfl rfl rfl rfl rfl (decide_eq_true ((i32_tot _).mp hb)).symm
end THR
