/-! rigs -/
def RIG (T n : Nat) (B : Nat → Nat → Int32) (S : Nat) : Prop := (∀ t, S.testBit t = true → t < T ∧ raB B t = true ∧ ∀ u, S.testBit u = true → crB B t u = false) ∧ (∀ s, s < n → ∃ t, S.testBit t = true ∧ B 8 t = nI s) ∧ (∀ t u, S.testBit t = true → S.testBit u = true → B 8 t = B 8 u → t = u)
def subs (c S : Nat) : Prop := ∀ i, c.testBit i = true → S.testBit i = true
theorem subs_le {c S : Nat} (h : subs c S) : c ≤ S := by
  have e : c ||| S = S := eq_tb (fun i => by
    rw [Nat.testBit_or]
    cases hc : c.testBit i with
    | false => rfl
    | true => rw [h i hc]; rfl)
  rw [← e]; exact Nat.left_le_or
def lea (T n : Nat) (B : Nat → Nat → Int32) (Q : Nat → Prop) (r : Int32) : Prop := (∃ S, RIG T n B S ∧ Q S ∧ r = nI S ∧ ∀ S', RIG T n B S' → Q S' → S ≤ S') ∨ (r = -9 ∧ ∀ S', RIG T n B S' → ¬ Q S')
theorem RIG.lt {T n S : Nat} {B : Nat → Nat → Int32} (h : RIG T n B S) : S < 2 ^ T := lt_tb (fun i hi => by
  cases c : S.testBit i with
  | false => rfl
  | true => exact absurd (h.1 i c).1 (by omega))
theorem lea_one {T n : Nat} {B : Nat → Nat → Int32} {Q : Nat → Prop} {r r' : Int32} (h : lea T n B Q r) (h' : lea T n B Q r') : r = r' := by
  rcases h with ⟨S, a1, a2, a3, a4⟩ | ⟨a1, a2⟩
  · rcases h' with ⟨S', b1, b2, b3, b4⟩ | ⟨b1, b2⟩
    · rw [a3, b3, Nat.le_antisymm (a4 S' b1 b2) (b4 S a1 a2)]
    · exact absurd a2 (b2 S a1)
  · rcases h' with ⟨S', b1, b2, b3, b4⟩ | ⟨b1, b2⟩
    · exact absurd b2 (a2 S' b1)
    · rw [a1, b1]
section RIGS
variable {N M : Nat → Nat} {V U : Nat → Int32} {A B : Nat → Nat → Int32}
/-- the model's row of crossings -/
theorem rig_L2 {A9 A8 : Nat → Nat → Int32} {n k : Nat} : ∀ (r j m : Nat) (C : Nat → Nat → Int32), j + r ≤ 16 → (∀ p, p ≠ 13 → C p = B p) → C 13 k = nI m → m < 65536 →
    (∀ p, p ≠ 13 → s_X5_rig_L2 M U A9 n k A8 r j C p = B p) ∧ (∀ t, t ≠ k → s_X5_rig_L2 M U A9 n k A8 r j C 13 t = C 13 t) ∧ ∃ m', s_X5_rig_L2 M U A9 n k A8 r j C 13 k = nI m' ∧ m' < 65536 ∧ ∀ u, m'.testBit u = (m.testBit u || (decide (j ≤ u) && decide (u < j + r) && crB B k u))
  | 0, j, m, C, _, hC, hm, hl => by
    rw [s_X5_rig_L2]
    refine ⟨hC, fun _ _ => rfl, m, hm, hl, fun u => ?_⟩
    have z : (decide (j ≤ u) && decide (u < j + 0)) = false := by
      by_cases h : j ≤ u
      · rw [decide_eq_false (show ¬ u < j + 0 by omega), Bool.and_false]
      · rw [decide_eq_false h, Bool.false_and]
    rw [z]; simp
  | r + 1, j, m, C, hj, hC, hm, hl => by
    rw [s_X5_rig_L2]
    have ec : s_X5_doCross M U C k j = crB B k j := by
      have : crB C k j = crB B k j := crB_cong (hC 3 (by decide)) (by rw [hC 7 (by decide)]) (by rw [hC 8 (by decide)]) (by rw [hC 9 (by decide)]) (by rw [hC 7 (by decide)]) (by rw [hC 8 (by decide)]) (by rw [hC 9 (by decide)])
      exact this
    have eu : ∀ u : Nat, u ≠ j → (decide (j + 1 ≤ u) && decide (u < j + 1 + r)) = (decide (j ≤ u) && decide (u < j + (r + 1))) := fun u hu => by
      congr 1 <;> apply decide_eq_decide.mpr <;> omega
    have ek : (decide (j ≤ j) && decide (j < j + (r + 1))) = true := by simp
    have ek2 : (decide (j + 1 ≤ j) && decide (j < j + 1 + r)) = false := by rw [decide_eq_false (show ¬ j + 1 ≤ j by omega), Bool.false_and]
    have hor : m ||| 2 ^ j < 65536 := or_lt (n := 16) hl (Nat.pow_lt_pow_right (by omega) (by omega))
    rw [ec]
    by_cases c : crB B k j = true
    · rw [if_pos c]
      obtain ⟨h1, h2, m', h3, h4, h5⟩ := rig_L2 (A9 := A9) (A8 := A8) (n := n) r (j + 1) (m ||| 2 ^ j) (va_up C 13 (upd (C 13) k (C 13 k ||| nI (2 ^ j)))) (by omega) (fun p hp => by rw [va_up_o _ _ hp]; exact hC p hp) (by show upd (C 13) k (C 13 k ||| nI (2 ^ j)) k = _; rw [pk_us, hm, fa_or]) hor
      refine ⟨h1, fun t ht => by rw [h2 t ht]; exact pk_un ht, m', h3, h4, fun u => ?_⟩
      rw [h5, tb_or1, Bool.or_assoc]
      congr 1
      by_cases e : u = j
      · subst e; rw [ek, ek2, c]; simp
      · rw [eu u e, decide_eq_false (fun h => e h.symm), Bool.false_or]
    · rw [if_neg c]
      obtain ⟨h1, h2, m', h3, h4, h5⟩ := rig_L2 (A9 := A9) (A8 := A8) (n := n) r (j + 1) m (va_up C 13 (upd (C 13) k (C 13 k ||| (0 : Int32)))) (by omega) (fun p hp => by rw [va_up_o _ _ hp]; exact hC p hp) (by show upd (C 13) k (C 13 k ||| (0 : Int32)) k = _; rw [pk_us, hm, Int32.or_zero]) hl
      refine ⟨h1, fun t ht => by rw [h2 t ht]; exact pk_un ht, m', h3, h4, fun u => ?_⟩
      rw [h5]
      congr 1
      by_cases e : u = j
      · subst e; rw [ek, ek2, Bool.eq_false_iff.mpr c]; simp
      · rw [eu u e]
def crRow (T : Nat) (B C : Nat → Nat → Int32) (t : Nat) : Prop := ∃ m, C 13 t = nI m ∧ m < 65536 ∧ ∀ u, m.testBit u = (decide (u < T) && crB B t u)
theorem rig_L1 (hT : M 1 ≤ 16) {A9 : Nat → Nat → Int32} : ∀ (n k : Nat) (C : Nat → Nat → Int32), k + n ≤ M 1 → (∀ p, p ≠ 13 → C p = B p) → (∀ t, t < k → crRow (M 1) B C t) →
    (∀ p, p ≠ 13 → s_X5_rig_L1 M U A9 n k C p = B p) ∧ ∀ t, t < k + n → crRow (M 1) B (s_X5_rig_L1 M U A9 n k C) t
  | 0, k, C, _, hC, hr => by
    rw [s_X5_rig_L1]; exact ⟨hC, fun t ht => hr t (by omega)⟩
  | n + 1, k, C, hk, hC, hr => by
    rw [s_X5_rig_L1]
    obtain ⟨h1, h2, m', h3, h4, h5⟩ := rig_L2 (M := M) (U := U) (B := B) (A9 := A9) (A8 := C) (n := n) (k := k) (M 1) 0 0 (va_up C 13 (upd (C 13) k (0 : Int32))) (by omega) (fun p hp => by rw [va_up_o _ _ hp]; exact hC p hp) (by show upd (C 13) k (0 : Int32) k = _; rw [pk_us]; rfl) (by decide)
    generalize s_X5_rig_L2 M U A9 n k C (M 1) 0 (va_up C 13 (upd (C 13) k (0 : Int32))) = R at h1 h2 h3 ⊢
    obtain ⟨g1, g2⟩ := rig_L1 hT (A9 := A9) n (k + 1) R (by omega) h1 (fun t ht => by
      by_cases e : t = k
      · subst e
        refine ⟨m', h3, h4, fun u => ?_⟩
        rw [h5, Nat.zero_testBit, Bool.false_or, Nat.zero_add, decide_eq_true (Nat.zero_le u), Bool.true_and]
      · obtain ⟨m, e1, e2, e3⟩ := hr t (by omega)
        refine ⟨m, ?_, e2, e3⟩
        rw [h2 t e, ← e1]; exact pk_un e)
    exact ⟨g1, fun t ht => g2 t (by omega)⟩
theorem raB_cong {C : Nat → Nat → Int32} (hC : ∀ p, p ≠ 13 → C p = B p) (t : Nat) : raB C t = raB B t := by
  unfold raB s_X5_raises
  rw [hC 10 (by decide), hC 7 (by decide), hC 3 (by decide), hC 6 (by decide), hC 8 (by decide)]
/-- so far: the set's threads below k are good, m holds their spars -/
def good (n : Nat) (B : Nat → Nat → Int32) (S k m : Nat) : Prop := (∀ t, t < k → S.testBit t = true → raB B t = true ∧ ∀ u, S.testBit u = true → crB B t u = false) ∧ (∀ t u, t < k → u < k → S.testBit t = true → S.testBit u = true → B 8 t = B 8 u → t = u) ∧ m < 2 ^ n ∧ ∀ s, s < n → (m.testBit s = true ↔ ∃ t, t < k ∧ S.testBit t = true ∧ B 8 t = nI s)
theorem isRig_L1 (iv : Inv N V A M U B) {C : Nat → Nat → Int32} (hC : ∀ p, p ≠ 13 → C p = B p) (hr : ∀ t, t < M 1 → crRow (M 1) B C t) {S : Nat} (hS : S < 2 ^ M 1) : ∀ (n k m : Nat), k + n = M 1 → good (M 0) B S k m → (s_X5_isRig_L1 M U C (nI S) n k (nI m) = true ↔ RIG (M 1) (M 0) B S)
  | 0, k, m, hk, hg => by
    obtain ⟨⟨e0, e1, e2, hn, hT, hU⟩, hv, hR, hIS, hO, hIT, hH, okc, okm⟩ := id iv
    have hp : 2 ^ M 0 ≤ 1024 := Nat.le_trans (Nat.pow_le_pow_right (by omega) hn) (by decide)
    obtain ⟨g1, g2, g3, g4⟩ := hg
    rw [s_X5_isRig_L1]
    have ea : ((1 : Int32) <<< (nI (M 0) &&& 31)) - (1 : Int32) = nI (2 ^ M 0 - 1) := by
      have := or_bit 0 (i := M 0) (by omega)
      rw [show nI 0 = (0 : Int32) from rfl, Int32.zero_or, Nat.zero_or] at this
      rw [this, show (1 : Int32) = nI 1 from rfl, pk_sub (Nat.two_pow_pos _)]
    have hb : ∀ t, S.testBit t = true → t < k := fun t ht => by have := tb_lt hS ht; omega
    rw [ea]
    by_cases h : m = 2 ^ M 0 - 1
    · rw [if_pos (by rw [h])]
      refine ⟨fun _ => ⟨fun t ht => ⟨by have := hb t ht; omega, g1 t (hb t ht) ht⟩, fun s hs => ?_, fun t u ht hu => g2 t u (hb t ht) (hb u hu) ht hu⟩, fun _ => rfl⟩
      obtain ⟨t, -, t2, t3⟩ := (g4 s hs).mp (by rw [h, tb_all, decide_eq_true hs])
      exact ⟨t, t2, t3⟩
    · rw [if_neg (fun h2 => h ((nI_eq (by omega) (by omega)).mp h2))]
      refine ⟨fun h2 => absurd h2 (by decide), fun h2 => absurd ?_ h⟩
      apply eq_tb
      intro i
      rw [tb_all]
      by_cases hi : i < M 0
      · obtain ⟨t, t1, t2⟩ := h2.2.1 i hi
        rw [(g4 i hi).mpr ⟨t, hb t t1, t1, t2⟩, decide_eq_true hi]
      · rw [decide_eq_false hi]
        cases c : m.testBit i with
        | false => rfl
        | true => exact absurd (tb_lt g3 c) hi
  | n + 1, k, m, hk, hg => by
    obtain ⟨⟨e0, e1, e2, hn, hT, hU⟩, hv, hR, hIS, hO, hIT, hH, okc, okm⟩ := id iv
    have hp : 2 ^ M 0 ≤ 1024 := Nat.le_trans (Nat.pow_le_pow_right (by omega) hn) (by decide)
    have hp2 : 2 ^ M 1 ≤ 65536 := Nat.le_trans (Nat.pow_le_pow_right (by omega) hT) (by decide)
    have hg' := hg
    obtain ⟨g1, g2, g3, g4⟩ := hg'
    have tbit : ∀ {X i : Nat}, X < 2 ^ 31 → i < 31 → ((nI X >>> (nI i &&& 31)) &&& (1 : Int32) = (1 : Int32) ↔ X.testBit i = true) := fun {X i} h1 h2 => by
      have h : X / 2 ^ i % 2 < 2 := Nat.mod_lt _ (by omega)
      rw [sh_bit h1 h2, nI_eq1 (by omega), tb_dm, decide_eq_true_iff]
    rw [s_X5_isRig_L1]
    by_cases c1 : S.testBit k = true
    · rw [if_pos ((tbit (by omega) (by omega)).mpr c1)]
      have era : s_X5_raises M U C k = raB B k := raB_cong hC k
      rw [era]
      by_cases c2 : raB B k = true
      · rw [if_pos c2]
        obtain ⟨mk, r1, r2, r3⟩ := hr k (by omega)
        have hle : mk &&& S ≤ mk := Nat.and_le_left
        rw [r1, fa_and]
        by_cases c3 : mk &&& S = 0
        · rw [if_pos (by rw [c3]; rfl)]
          have hcr : ∀ u, S.testBit u = true → crB B k u = false := fun u hu => by
            have q := (zero_tb.mp c3) u
            rw [Nat.testBit_and, hu, Bool.and_true, r3, decide_eq_true (tb_lt hS hu), Bool.true_and] at q
            exact q
          have h8 := (hIT.1 k (by omega)).2.1
          have e8 : C 8 k = nI (B 8 k).toNatClampNeg := by rw [hC 8 (by decide)]; exact h8.1
          generalize hsp : (B 8 k).toNatClampNeg = sp at h8 e8
          rw [e8]
          by_cases c4 : m.testBit sp = true
          · rw [if_pos ((tbit (by omega) (by omega)).mpr c4)]
            refine ⟨fun h => absurd h (by decide), fun h => ?_⟩
            obtain ⟨t, t1, t2, t3⟩ := (g4 sp h8.2).mp c4
            have := h.2.2 t k t2 c1 (by rw [t3, h8.1])
            omega
          · rw [if_neg (fun h => c4 ((tbit (by omega) (by omega)).mp h)), or_bit m (by omega)]
            refine isRig_L1 iv hC hr hS n (k + 1) (m ||| 2 ^ sp) (by omega) ⟨fun t ht hb => ?_, fun t u ht hu hb hb2 h => ?_, or_lt g3 (Nat.pow_lt_pow_right (by omega) h8.2), fun s hs => ?_⟩
            · by_cases e : t = k
              · subst e; exact ⟨c2, hcr⟩
              · exact g1 t (by omega) hb
            · have no : ∀ t, t < k → S.testBit t = true → B 8 t = nI sp → False := fun t h1 h2 h3 => c4 ((g4 sp h8.2).mpr ⟨t, h1, h2, h3⟩)
              by_cases e : t = k
              · by_cases e' : u = k
                · rw [e, e']
                · subst e
                  exact absurd (no u (by omega) hb2 (by rw [← h]; exact h8.1)) id
              · by_cases e' : u = k
                · subst e'
                  exact absurd (no t (by omega) hb (by rw [h]; exact h8.1)) id
                · exact g2 t u (by omega) (by omega) hb hb2 h
            · rw [tb_or1, Bool.or_eq_true, g4 s hs, decide_eq_true_iff]
              constructor
              · rintro (⟨t, t1, t2, t3⟩ | h)
                · exact ⟨t, by omega, t2, t3⟩
                · subst h; exact ⟨k, by omega, c1, h8.1⟩
              · rintro ⟨t, t1, t2, t3⟩
                by_cases e : t = k
                · subst e
                  right
                  rw [h8.1] at t3
                  exact (nI_eq (by omega) (by omega)).mp t3
                · exact Or.inl ⟨t, by omega, t2, t3⟩
        · rw [if_neg (fun h => c3 ((nI_eq0 (by omega)).mp h))]
          refine ⟨fun h => absurd h (by decide), fun h => absurd ?_ c3⟩
          rw [zero_tb]
          intro i
          rw [Nat.testBit_and, r3]
          cases ci : S.testBit i with
          | false => rw [Bool.and_false]
          | true => rw [(h.1 k c1).2.2 i ci]; simp
      · rw [if_neg c2]
        exact ⟨fun h => absurd h (by decide), fun h => absurd (h.1 k c1).2.1 c2⟩
    · rw [if_neg (fun h => c1 ((tbit (by omega) (by omega)).mp h))]
      have ne : ∀ t, t < k + 1 → S.testBit t = true → t < k := fun t h1 h2 => by
        by_cases e : t = k
        · subst e; exact absurd h2 c1
        · omega
      refine isRig_L1 iv hC hr hS n (k + 1) m (by omega) ⟨fun t ht hb => g1 t (ne t ht hb) hb, fun t u ht hu hb hb2 h => g2 t u (ne t ht hb) (ne u hu hb2) hb hb2 h, g3, fun s hs => ?_⟩
      rw [g4 s hs]
      constructor
      · rintro ⟨t, t1, t2, t3⟩; exact ⟨t, by omega, t2, t3⟩
      · rintro ⟨t, t1, t2, t3⟩; exact ⟨t, ne t t1 t2, t2, t3⟩
theorem rig_L3 (iv : Inv N V A M U B) {C : Nat → Nat → Int32} (eC : s_X5_rig_L1 M U B (M 1) 0 B = C) (hC : ∀ p, p ≠ 13 → C p = B p) (hr : ∀ t, t < M 1 → crRow (M 1) B C t) : ∀ (n k : Nat), k + n = 2 ^ M 1 → (∀ S, S < k → ¬ RIG (M 1) (M 0) B S) → (s_X5_rig_L3 M U B n k).2 = (M, U, C) ∧ lea (M 1) (M 0) B (fun _ => True) (s_X5_rig_L3 M U B n k).1
  | 0, k, hk, h => by
    rw [s_X5_rig_L3, eC]
    exact ⟨rfl, Or.inr ⟨rfl, fun S' h' _ => h S' (by have := h'.lt; omega) h'⟩⟩
  | n + 1, k, hk, h => by
    rw [s_X5_rig_L3, eC]
    have g0 : good (M 0) B k 0 0 := ⟨fun t ht => absurd ht (by omega), fun t u ht => absurd ht (by omega), Nat.two_pow_pos _, fun s _ => by
      rw [Nat.zero_testBit]
      exact ⟨fun h => absurd h (by decide), fun ⟨t, t1, _⟩ => absurd t1 (by omega)⟩⟩
    have q := isRig_L1 iv hC hr (S := k) (by omega) (M 1) 0 0 (by omega) g0
    have q' : s_X5_isRig M U C (nI k) = true ↔ RIG (M 1) (M 0) B k := q
    by_cases c : s_X5_isRig M U C (nI k) = true
    · rw [if_pos c]
      refine ⟨rfl, Or.inl ⟨k, q'.mp c, trivial, rfl, fun S' h' _ => ?_⟩⟩
      rcases Nat.lt_or_ge S' k with h2 | h2
      · exact absurd h' (h S' h2)
      · exact h2
    · rw [if_neg c]
      refine rig_L3 iv eC hC hr n (k + 1) (by omega) (fun S hS => ?_)
      by_cases e : S = k
      · subst e; exact fun h2 => c (q'.mpr h2)
      · exact h S (by omega)
/-- what the ship has chosen for the spars below s -/
def chos (T : Nat) (B : Nat → Nat → Int32) (s c : Nat) : Prop := (∀ t, c.testBit t = true → t < T ∧ raB B t = true ∧ ∀ u, c.testBit u = true → crB B t u = false) ∧ (∀ s', s' < s → ∃ t, c.testBit t = true ∧ B 8 t = nI s') ∧ (∀ t u, c.testBit t = true → c.testBit u = true → B 8 t = B 8 u → t = u) ∧ (∀ t, c.testBit t = true → ∃ s', s' < s ∧ B 8 t = nI s')
theorem chos_lt {T s c : Nat} (h : chos T B s c) : c < 2 ^ T := lt_tb (fun i hi => by
  cases e : c.testBit i with
  | false => rfl
  | true => exact absurd (h.1 i e).1 (by omega))
def hasT (B : Nat → Nat → Int32) (s k S : Nat) : Prop := ∃ t, t < k ∧ S.testBit t = true ∧ B 8 t = nI s
theorem least_L1 (iv : Inv N V A M U B) {rc : Nat → Int32} {s c : Nat} (hs : s < M 0) (hc : chos (M 1) B s c) (hrc : ∀ c', chos (M 1) B (s + 1) c' → lea (M 1) (M 0) B (subs c') (rc c')) : ∀ (n k : Nat) (a : Int32), k + n = M 1 → lea (M 1) (M 0) B (fun S => subs c S ∧ hasT B s k S) a → lea (M 1) (M 0) B (fun S => subs c S ∧ hasT B s (M 1) S) (s_X4_leastRig_L1 N V A rc s c n k a)
  | 0, k, a, hk, h => by
    rw [s_X4_leastRig_L1]
    rw [show k = M 1 by omega] at h; exact h
  | n + 1, k, a, hk, h => by
    obtain ⟨⟨e0, e1, e2, hn, hT, hU⟩, hv, hR, hIS, hO, hIT, hH, okc, okm⟩ := id iv
    have hp2 : 2 ^ M 1 ≤ 65536 := Nat.le_trans (Nat.pow_le_pow_right (by omega) hT) (by decide)
    have hlt := raisersOf_lt2 (V := V) e1 hT hIT (nI s)
    rw [s_X4_leastRig_L1, isIn_tb (by omega) (by omega), raisersOf_tb e1 hIT]
    -- when no rig holds k for s
    have skip : (∀ S', RIG (M 1) (M 0) B S' → subs c S' → S'.testBit k = true → ¬ B 8 k = nI s) → lea (M 1) (M 0) B (fun S => subs c S ∧ hasT B s (k + 1) S) a := fun hno => by
      have hq : ∀ S', RIG (M 1) (M 0) B S' → ((subs c S' ∧ hasT B s (k + 1) S') ↔ (subs c S' ∧ hasT B s k S')) := fun S' hR' => by
        constructor
        · rintro ⟨h1, t, t1, t2, t3⟩
          refine ⟨h1, t, ?_, t2, t3⟩
          by_cases e : t = k
          · subst e; exact absurd t3 (hno S' hR' h1 t2)
          · omega
        · rintro ⟨h1, t, t1, t2, t3⟩; exact ⟨h1, t, by omega, t2, t3⟩
      rcases h with ⟨S, a1, a2, a3, a4⟩ | ⟨a1, a2⟩
      · exact Or.inl ⟨S, a1, (hq S a1).mpr a2, a3, fun S' h1 h2 => a4 S' h1 ((hq S' h1).mp h2)⟩
      · exact Or.inr ⟨a1, fun S' h1 h2 => a2 S' h1 ((hq S' h1).mp h2)⟩
    have hkT : k < M 1 := by omega
    rw [decide_eq_true hkT, Bool.true_and]
    by_cases c1 : (decide (B 8 k = nI s) && raB B k) = true
    · rw [if_pos c1]
      rw [Bool.and_eq_true, decide_eq_true_iff] at c1
      have hcl := chos_lt hc
      have hA15 := okc.2.2.2.2.2.2.2.1 k
      have hle : (A 15 k).toNatClampNeg &&& c ≤ (A 15 k).toNatClampNeg := Nat.and_le_left
      by_cases c2 : (A 15 k).toNatClampNeg &&& c = 0
      · rw [if_pos (by rw [c2]; rfl)]
        have thk : ∀ t, t < M 1 → thOk A B t := fun t ht => by
          have q := hIT.1 t ht
          exact ⟨⟨q.1.1, q.1.2.2.1, q.1.2.2.2⟩, q.2.2.1, q.2.2.2, (hIS _ q.2.1.2).2.2.1⟩
        have hkc : ∀ u, c.testBit u = true → crB B k u = false := fun u hu => by
          have q := (zero_tb.mp c2) u
          rw [Nat.testBit_and, hu, Bool.and_true, hIT.2.2, decide_eq_true hkT, decide_eq_true (hc.1 u hu).1, Bool.true_and, Bool.true_and] at q
          exact q
        have ch : chos (M 1) B (s + 1) (c ||| 2 ^ k) := by
          refine ⟨fun t ht => ?_, fun s' hs' => ?_, fun t u ht hu he => ?_, fun t ht => ?_⟩
          · rw [tb_or1, Bool.or_eq_true, decide_eq_true_iff] at ht
            rcases ht with ht | ht
            · obtain ⟨q1, q2, q3⟩ := hc.1 t ht
              refine ⟨q1, q2, fun u hu => ?_⟩
              rw [tb_or1, Bool.or_eq_true, decide_eq_true_iff] at hu
              rcases hu with hu | hu
              · exact q3 u hu
              · subst hu; rw [cr_symm (thk t q1) (thk k hkT)]; exact hkc t ht
            · subst ht
              refine ⟨hkT, c1.2, fun u hu => ?_⟩
              rw [tb_or1, Bool.or_eq_true, decide_eq_true_iff] at hu
              rcases hu with hu | hu
              · exact hkc u hu
              · subst hu; exact cr_self _ _
          · by_cases e : s' = s
            · subst e; exact ⟨k, by rw [tb_or1]; simp, c1.1⟩
            · obtain ⟨t, t1, t2⟩ := hc.2.1 s' (by omega)
              exact ⟨t, by rw [tb_or1, t1]; rfl, t2⟩
          · have no : ∀ t, c.testBit t = true → B 8 t = nI s → False := fun t h1 h2 => by
              obtain ⟨s', s1, s2⟩ := hc.2.2.2 t h1
              rw [h2] at s2
              have := (nI_eq (by omega) (by omega)).mp s2
              omega
            rw [tb_or1, Bool.or_eq_true, decide_eq_true_iff] at ht hu
            rcases ht with ht | ht
            · rcases hu with hu | hu
              · exact hc.2.2.1 t u ht hu he
              · subst hu; exact absurd (no t ht (by rw [he]; exact c1.1)) id
            · rcases hu with hu | hu
              · subst ht; exact absurd (no u hu (by rw [← he]; exact c1.1)) id
              · rw [← ht, ← hu]
          · rw [tb_or1, Bool.or_eq_true, decide_eq_true_iff] at ht
            rcases ht with ht | ht
            · obtain ⟨s', s1, s2⟩ := hc.2.2.2 t ht
              exact ⟨s', by omega, s2⟩
            · subst ht; exact ⟨s, by omega, c1.1⟩
        have sub1 : ∀ S', subs (c ||| 2 ^ k) S' ↔ (subs c S' ∧ S'.testBit k = true) := fun S' => by
          constructor
          · intro h1; exact ⟨fun i hi => h1 i (by rw [tb_or1, hi]; rfl), h1 k (by rw [tb_or1]; simp)⟩
          · rintro ⟨h1, h2⟩ i hi
            rw [tb_or1, Bool.or_eq_true, decide_eq_true_iff] at hi
            rcases hi with hi | hi
            · exact h1 i hi
            · subst hi; exact h2
        have hsplit : ∀ S', (subs c S' ∧ hasT B s (k + 1) S') ↔ ((subs c S' ∧ hasT B s k S') ∨ subs (c ||| 2 ^ k) S') := fun S' => by
          rw [sub1]
          constructor
          · rintro ⟨h1, t, t1, t2, t3⟩
            by_cases e : t = k
            · subst e; exact Or.inr ⟨h1, t2⟩
            · exact Or.inl ⟨h1, t, by omega, t2, t3⟩
          · rintro (⟨h1, t, t1, t2, t3⟩ | ⟨h1, h2⟩)
            · exact ⟨h1, t, by omega, t2, t3⟩
            · exact ⟨h1, k, by omega, h2, c1.1⟩
        rcases hrc _ ch with ⟨S, b1, b2, b3, b4⟩ | ⟨b1, b2⟩
        · have hSl := b1.lt
          rw [b3, if_neg (by
            intro e
            have := congrArg Int32.toInt e
            rw [nI_toInt (by omega), show (-9 : Int32).toInt = -9 from rfl] at this; omega)]
          rcases h with ⟨S0, a1, a2, a3, a4⟩ | ⟨a1, a2⟩
          · have hSl0 := a1.lt
            rw [a3, if_neg (by
              intro e
              have := congrArg Int32.toInt e
              rw [nI_toInt (by omega), show (-9 : Int32).toInt = -9 from rfl] at this; omega)]
            by_cases c3 : S0 ≤ S
            · rw [if_pos ((nI_leI (by omega) (by omega)).mpr c3)]
              refine least_L1 iv hs hc hrc n (k + 1) _ (by omega) (Or.inl ⟨S0, a1, (hsplit S0).mpr (Or.inl a2), rfl, fun S' h1 h2 => ?_⟩)
              rcases (hsplit S').mp h2 with h3 | h3
              · exact a4 S' h1 h3
              · exact Nat.le_trans c3 (b4 S' h1 h3)
            · rw [if_neg (fun h2 => c3 ((nI_leI (by omega) (by omega)).mp h2))]
              refine least_L1 iv hs hc hrc n (k + 1) _ (by omega) (Or.inl ⟨S, b1, (hsplit S).mpr (Or.inr b2), rfl, fun S' h1 h2 => ?_⟩)
              rcases (hsplit S').mp h2 with h3 | h3
              · exact Nat.le_trans (by omega) (a4 S' h1 h3)
              · exact b4 S' h1 h3
          · rw [a1, if_pos rfl]
            refine least_L1 iv hs hc hrc n (k + 1) _ (by omega) (Or.inl ⟨S, b1, (hsplit S).mpr (Or.inr b2), rfl, fun S' h1 h2 => ?_⟩)
            rcases (hsplit S').mp h2 with h3 | h3
            · exact absurd h3 (a2 S' h1)
            · exact b4 S' h1 h3
        · rw [b1, if_pos rfl]
          refine least_L1 iv hs hc hrc n (k + 1) a (by omega) (skip (fun S' h1 h2 h3 h4 => b2 S' h1 ((sub1 S').mpr ⟨h2, h3⟩)))
      · rw [if_neg (fun h2 => c2 ((nI_eq0 (by omega)).mp h2))]
        refine least_L1 iv hs hc hrc n (k + 1) a (by omega) (skip (fun S' h1 h2 h3 _ => c2 ?_))
        rw [zero_tb]
        intro i
        rw [Nat.testBit_and, hIT.2.2]
        cases ci : c.testBit i with
        | false => rw [Bool.and_false]
        | true => rw [(h1.1 k h3).2.2 i (h2 i ci)]; simp
    · rw [if_neg c1]
      refine least_L1 iv hs hc hrc n (k + 1) a (by omega) (skip (fun S' h1 h2 h3 h4 => c1 ?_))
      rw [Bool.and_eq_true, decide_eq_true_iff]
      exact ⟨h4, (h1.1 k h3).2.1⟩
theorem least_eq (iv : Inv N V A M U B) {rc : Nat → Int32} {s c : Nat} (hsn : s ≤ M 0) (hc : chos (M 1) B s c) (hrc : s < M 0 → ∀ c', chos (M 1) B (s + 1) c' → lea (M 1) (M 0) B (subs c') (rc c')) : lea (M 1) (M 0) B (subs c) (s_X4_leastRig N V A rc s c) := by
  obtain ⟨⟨e0, e1, e2, hn, hT, hU⟩, hv, hR, hIS, hO, hIT, hH, okc, okm⟩ := id iv
  unfold s_X4_leastRig
  by_cases h : s < M 0
  · rw [if_pos (by rw [e0]; exact nI_lt h (by omega)), e1]
    have q := least_L1 iv h hc (hrc h) (M 1) 0 (-9) (by omega) (Or.inr ⟨rfl, fun S' _ h2 => by obtain ⟨-, t, t1, -⟩ := h2; omega⟩)
    have hq : ∀ S', RIG (M 1) (M 0) B S' → subs c S' → hasT B s (M 1) S' := fun S' h1 h2 => by
      obtain ⟨t, t1, t2⟩ := h1.2.1 s h
      exact ⟨t, (h1.1 t t1).1, t1, t2⟩
    rcases q with ⟨S, a1, a2, a3, a4⟩ | ⟨a1, a2⟩
    · exact Or.inl ⟨S, a1, a2.1, a3, fun S' h1 h2 => a4 S' h1 ⟨h2, hq S' h1 h2⟩⟩
    · exact Or.inr ⟨a1, fun S' h1 h2 => a2 S' h1 ⟨h2, hq S' h1 h2⟩⟩
  · have hs : s = M 0 := by omega
    subst hs
    rw [if_neg (fun h2 => h ((nI_ltI (by omega) (by omega)).mp (by rw [e0] at h2; exact h2)))]
    exact Or.inl ⟨c, ⟨hc.1, hc.2.1, hc.2.2.1⟩, fun _ h => h, rfl, fun S' _ h2 => subs_le h2⟩
theorem lrN_eq (iv : Inv N V A M U B) : ∀ (d s c : Nat), s ≤ M 0 → M 0 ≤ s + d → chos (M 1) B s c → lea (M 1) (M 0) B (subs c) (lrN N V A d s c)
  | 0, s, c, h1, h2, hc => by
    rw [lrN]; exact least_eq iv h1 hc (fun h => absurd h (by omega))
  | d + 1, s, c, h1, h2, hc => by
    rw [lrN]; exact least_eq iv h1 hc (fun h c' hc' => lrN_eq iv d (s + 1) c' (by omega) (by omega) hc')
theorem rig_eq (iv : Inv N V A M U B) : s_X4_rig N V A = (s_X5_rig M U B).1 ∧ Inv N V A (s_X5_rig M U B).2.1 (s_X5_rig M U B).2.2.1 (s_X5_rig M U B).2.2.2 := by
  obtain ⟨⟨e0, e1, e2, hn, hT, hU⟩, hv, hR, hIS, hO, hIT, hH, okc, okm⟩ := id iv
  unfold s_X4_rig s_X5_rig
  rw [e0]
  by_cases h : nI (M 0) = 0
  · rw [if_pos h, if_pos h]; exact ⟨rfl, iv⟩
  · rw [if_neg h, if_neg h]
    obtain ⟨r1, r2⟩ := rig_L1 (M := M) (U := U) (B := B) (A9 := B) hT (M 1) 0 B (by omega) (fun _ _ => rfl) (fun t ht => absurd ht (by omega))
    obtain ⟨q1, q2⟩ := rig_L3 iv rfl r1 (fun t ht => r2 t (by omega)) (2 ^ M 1) 0 (by omega) (fun S hS => absurd hS (by omega))
    have z : ∀ t, ¬ Nat.testBit 0 t = true := fun t => by rw [Nat.zero_testBit]; decide
    have c0 : chos (M 1) B 0 0 := ⟨fun t ht => absurd ht (z t), fun s' hs' => absurd hs' (by omega), fun t u ht => absurd ht (z t), fun t ht => absurd ht (z t)⟩
    have q3 := lrN_eq iv 10 0 0 (by omega) (by omega) c0
    have q4 : lea (M 1) (M 0) B (fun _ => True) (s_LR N V A 0 0) := by
      have all : ∀ S, subs 0 S := fun S i hi => absurd hi (z i)
      rcases q3 with ⟨S, a1, a2, a3, a4⟩ | ⟨a1, a2⟩
      · exact Or.inl ⟨S, a1, trivial, a3, fun S' h1 _ => a4 S' h1 (all S')⟩
      · exact Or.inr ⟨a1, fun S' h1 _ => a2 S' h1 (all S')⟩
    refine ⟨lea_one q4 q2, ?_⟩
    rw [q1]
    show Inv N V A M U (s_X5_rig_L1 M U B (M 1) 0 B)
    exact iv.scratch (fun _ _ _ _ => rfl) (fun _ _ => rfl) (fun p _ _ h13 => r1 p h13) (by rw [r1 11 (by decide)]; exact okm.2.2.2.2.2.1) (by rw [r1 12 (by decide)]; exact okm.2.2.2.2.2.2)
end RIGS
