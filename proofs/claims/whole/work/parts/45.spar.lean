/-! a new spar -/
def fwC (C : Nat → Nat → Int32) (a b : Nat) : Bool := decide (s_X2_low (fun _ => 0) (fun _ => 0) C a < C 4 b) && decide (C 4 b < s_X2_high (fun _ => 0) (fun _ => 0) C a)
def ovC (C : Nat → Nat → Int32) (a b : Nat) : Bool := s_X2_coverSomeLengthTogether (fun _ => 0) (fun _ => 0) C a b
def noteA (C : Nat → Nat → Int32) (a b : Nat) : Nat → Nat → Int32 := if fwC C a b = true then va_up C 9 (upd (C 9) a (C 9 a ||| nI (2 ^ b))) else C
def coverA (C : Nat → Nat → Int32) (a b : Nat) : Nat → Nat → Int32 := if ovC C a b = true then va_up C 8 (upd (C 8) a (C 8 a ||| nI (2 ^ b))) else C
def stepC (C : Nat → Nat → Int32) (k S : Nat) : Nat → Nat → Int32 := noteA (noteA (coverA C k S) k S) S k
section SPR
variable {N M : Nat → Nat} {V U : Nat → Int32} {A B C : Nat → Nat → Int32}
theorem note_eq (a b : Nat) : s_X2_noteFootWithin N V C a b = (N, V, noteA C a b) := by
  unfold s_X2_noteFootWithin noteA fwC
  by_cases h1 : C 4 b ≤ s_X2_low N V C a
  · rw [if_pos h1]
    have : ¬ s_X2_low (fun _ => 0) (fun _ => 0) C a < C 4 b := i32_nlt.mpr h1
    rw [decide_eq_false this]; rfl
  · rw [if_neg h1]
    have h1' : s_X2_low (fun _ => 0) (fun _ => 0) C a < C 4 b := i32_nle.mp h1
    rw [decide_eq_true h1']
    by_cases h2 : s_X2_high N V C a ≤ C 4 b
    · rw [if_pos h2]
      have : ¬ C 4 b < s_X2_high (fun _ => 0) (fun _ => 0) C a := i32_nlt.mpr h2
      rw [decide_eq_false this]; rfl
    · rw [if_neg h2]
      have h2' : C 4 b < s_X2_high (fun _ => 0) (fun _ => 0) C a := i32_nle.mp h2
      rw [decide_eq_true h2']; rfl
theorem step_eq {k0 f0 l0 t0 w0 : Int32} (n k : Nat) : s_X2_add_L1 N V A k0 f0 l0 t0 w0 (n + 1) k N V C = s_X2_add_L1 N V A k0 f0 l0 t0 w0 n (k + 1) N V (stepC C k (N 0)) := by
  rw [s_X2_add_L1]
  unfold stepC coverA
  by_cases h : ovC C k (N 0) = true
  · rw [if_pos (show s_X2_coverSomeLengthTogether N V C k (N 0) = true from h), if_pos h, note_eq, note_eq]
  · rw [if_neg (show ¬ s_X2_coverSomeLengthTogether N V C k (N 0) = true from h), if_neg h, note_eq, note_eq]
theorem noteA_o {a b p : Nat} (hp : p ≠ 9) : noteA C a b p = C p := by
  unfold noteA
  split
  · exact va_up_o _ _ hp
  · rfl
theorem coverA_o {a b p : Nat} (hp : p ≠ 8) : coverA C a b p = C p := by
  unfold coverA
  split
  · exact va_up_o _ _ hp
  · rfl
theorem stepC_o {k S p : Nat} (h8 : p ≠ 8) (h9 : p ≠ 9) : stepC C k S p = C p := by
  unfold stepC; rw [noteA_o h9, noteA_o h9, coverA_o h8]
theorem fwC_cong {C C' : Nat → Nat → Int32} (e4 : C' 4 = C 4) (e5 : C' 5 = C 5) (e7 : C' 7 = C 7) (a b : Nat) : fwC C' a b = fwC C a b := by
  unfold fwC s_X2_low s_X2_high; rw [e4, e5, e7]
theorem ovC_cong {C C' : Nat → Nat → Int32} (e4 : C' 4 = C 4) (e5 : C' 5 = C 5) (e7 : C' 7 = C 7) (a b : Nat) : ovC C' a b = ovC C a b := by
  unfold ovC s_X2_coverSomeLengthTogether s_X2_low s_X2_high; rw [e4, e5, e7]
theorem noteA_9 {a b : Nat} (hC : isN (C 9) 1024) (hb : b < 10) : isN (noteA C a b 9) 1024 ∧ ∀ x c, (noteA C a b 9 x).toNatClampNeg.testBit c = ((C 9 x).toNatClampNeg.testBit c || (decide (x = a) && decide (b = c) && fwC C a b)) := by
  obtain ⟨h1, h2⟩ := orBit (f := C 9) (w := 10) (i := a) (b := b) hC (by omega) hb
  unfold noteA
  by_cases h : fwC C a b = true
  · rw [if_pos h, h]
    refine ⟨h1, fun x c => ?_⟩
    rw [Bool.and_true]; exact h2 x c
  · rw [if_neg h, Bool.eq_false_iff.mpr h]
    refine ⟨hC, fun x c => ?_⟩
    rw [Bool.and_false, Bool.or_false]
theorem coverA_8 {a b : Nat} (hC : isN (C 8) 1024) (hb : b < 10) : isN (coverA C a b 8) 1024 ∧ ∀ x c, (coverA C a b 8 x).toNatClampNeg.testBit c = ((C 8 x).toNatClampNeg.testBit c || (decide (x = a) && decide (b = c) && ovC C a b)) := by
  obtain ⟨h1, h2⟩ := orBit (f := C 8) (w := 10) (i := a) (b := b) hC (by omega) hb
  unfold coverA
  by_cases h : ovC C a b = true
  · rw [if_pos h, h]
    refine ⟨h1, fun x c => ?_⟩
    rw [Bool.and_true]; exact h2 x c
  · rw [if_neg h, Bool.eq_false_iff.mpr h]
    refine ⟨hC, fun x c => ?_⟩
    rw [Bool.and_false, Bool.or_false]
theorem stepC_8 {k S : Nat} (hC : isN (C 8) 1024) (hS : S < 10) : isN (stepC C k S 8) 1024 ∧ ∀ x c, (stepC C k S 8 x).toNatClampNeg.testBit c = ((C 8 x).toNatClampNeg.testBit c || (decide (x = k) && decide (S = c) && ovC C k S)) := by
  unfold stepC
  rw [noteA_o (by decide), noteA_o (by decide)]
  exact coverA_8 hC hS
theorem stepC_9 {k S : Nat} (hC : isN (C 9) 1024) (hS : S < 10) (hk : k < 10) : isN (stepC C k S 9) 1024 ∧ ∀ x c, (stepC C k S 9 x).toNatClampNeg.testBit c = ((C 9 x).toNatClampNeg.testBit c || (decide (x = k) && decide (S = c) && fwC C k S) || (decide (x = S) && decide (k = c) && fwC C S k)) := by
  unfold stepC
  have e0 : coverA C k S 9 = C 9 := coverA_o (by decide)
  obtain ⟨h1, h2⟩ := noteA_9 (C := coverA C k S) (a := k) (b := S) (by rw [e0]; exact hC) hS
  obtain ⟨h3, h4⟩ := noteA_9 (C := noteA (coverA C k S) k S) (a := S) (b := k) h1 hk
  refine ⟨h3, fun x c => ?_⟩
  rw [h4, h2, e0]
  have e1 : ∀ p, p ≠ 8 → coverA C k S p = C p := fun p hp => coverA_o hp
  have e2 : ∀ p, p ≠ 8 → p ≠ 9 → noteA (coverA C k S) k S p = C p := fun p hp h9 => by rw [noteA_o h9, e1 p hp]
  rw [fwC_cong (e1 4 (by decide)) (e1 5 (by decide)) (e1 7 (by decide)), fwC_cong (e2 4 (by decide) (by decide)) (e2 5 (by decide) (by decide)) (e2 7 (by decide) (by decide))]
theorem x2add_L1 {k0 f0 l0 t0 w0 : Int32} (hS : N 0 < 10) : ∀ (n k : Nat) (C : Nat → Nat → Int32), k + n ≤ N 0 → isN (C 8) 1024 → isN (C 9) 1024 → ∃ C', s_X2_add_L1 N V A k0 f0 l0 t0 w0 n k N V C = (N, V, C') ∧ (∀ p, p ≠ 8 → p ≠ 9 → C' p = C p) ∧ isN (C' 8) 1024 ∧ isN (C' 9) 1024 ∧ (∀ a c, (C' 8 a).toNatClampNeg.testBit c = ((C 8 a).toNatClampNeg.testBit c || (decide (k ≤ a) && decide (a < k + n) && decide (c = N 0) && ovC C a (N 0)))) ∧ ∀ a c, (C' 9 a).toNatClampNeg.testBit c = ((C 9 a).toNatClampNeg.testBit c || ((decide (k ≤ a) && decide (a < k + n) && decide (c = N 0) && fwC C a (N 0)) || (decide (a = N 0) && (decide (k ≤ c) && decide (c < k + n) && fwC C (N 0) c))))
  | 0, k, C, _, h8, h9 => by
    rw [s_X2_add_L1]
    have z : ∀ x : Nat, (decide (k ≤ x) && decide (x < k + 0)) = false := fun x => by
      by_cases h : k ≤ x
      · rw [decide_eq_false (show ¬ x < k + 0 by omega), Bool.and_false]
      · rw [decide_eq_false h, Bool.false_and]
    refine ⟨C, rfl, fun _ _ _ => rfl, h8, h9, fun a c => ?_, fun a c => ?_⟩
    · rw [z a]; simp
    · rw [z a, z c]; simp
  | n + 1, k, C, hk, h8, h9 => by
    rw [step_eq]
    obtain ⟨s8, t8⟩ := stepC_8 (k := k) (S := N 0) h8 hS
    obtain ⟨s9, t9⟩ := stepC_9 (k := k) (S := N 0) h9 hS (by omega)
    obtain ⟨C', q1, q2, q3, q4, q5, q6⟩ := x2add_L1 (k0 := k0) (f0 := f0) (l0 := l0) (t0 := t0) (w0 := w0) hS n (k + 1) (stepC C k (N 0)) (by omega) s8 s9
    have eo : ∀ a b, ovC (stepC C k (N 0)) a b = ovC C a b := fun a b => ovC_cong (stepC_o (by decide) (by decide)) (stepC_o (by decide) (by decide)) (stepC_o (by decide) (by decide)) a b
    have ef : ∀ a b, fwC (stepC C k (N 0)) a b = fwC C a b := fun a b => fwC_cong (stepC_o (by decide) (by decide)) (stepC_o (by decide) (by decide)) (stepC_o (by decide) (by decide)) a b
    have ea : ∀ x : Nat, x ≠ k → (decide (k + 1 ≤ x) && decide (x < k + 1 + n)) = (decide (k ≤ x) && decide (x < k + (n + 1))) := fun x hx => by
      congr 1 <;> apply decide_eq_decide.mpr <;> omega
    have ek : (decide (k ≤ k) && decide (k < k + (n + 1))) = true := by simp
    have ek2 : (decide (k + 1 ≤ k) && decide (k < k + 1 + n)) = false := by rw [decide_eq_false (show ¬ k + 1 ≤ k by omega), Bool.false_and]
    have hkS : k ≠ N 0 := by omega
    refine ⟨C', q1, fun p h1 h2 => by rw [q2 p h1 h2, stepC_o h1 h2], q3, q4, fun a c => ?_, fun a c => ?_⟩
    · rw [q5, t8, eo, Bool.or_assoc]
      congr 1
      have : decide (N 0 = c) = decide (c = N 0) := by apply decide_eq_decide.mpr; omega
      rw [this]
      by_cases h : a = k
      · subst h; rw [ek, ek2]; simp
      · rw [ea a h, decide_eq_false h]; simp
    · rw [q6, t9, ef, ef, Bool.or_assoc, Bool.or_assoc]
      congr 1
      have e1 : decide (N 0 = c) = decide (c = N 0) := by apply decide_eq_decide.mpr; omega
      have e2 : decide (k = c) = decide (c = k) := by apply decide_eq_decide.mpr; omega
      rw [e1, e2]
      by_cases h : a = k
      · subst h; rw [ek, ek2, decide_eq_false hkS]; simp
      · rw [ea a h, decide_eq_false h]
        by_cases h2 : c = k
        · subst h2; rw [ek, ek2, decide_eq_false hkS]; simp
        · rw [ea c h2, decide_eq_false h2]; simp
def newS (A : Nat → Nat → Int32) (p S : Nat) (k f l t w : Int32) : Nat → Nat → Int32 := va_up (va_up (va_up (va_up (va_up A p (upd (A p) S k)) (p + 1) (upd (A (p + 1)) S f)) (p + 2) (upd (A (p + 2)) S l)) (p + 3) (upd (A (p + 3)) S t)) (p + 4) (upd (A (p + 4)) S w)
theorem ovB_eq {n a b : Nat} (h : IS n A B) (hn : n ≤ 10) (ha : a < n) (hb : b < n) (hab : a < b) : ovC A a b = ovB B a b := by
  unfold ovC ovB s_X2_coverSomeLengthTogether s_X5_isOver
  rw [if_neg (show ¬ nI b ≤ nI a from fun h1 => by rw [Int32.le_iff_toInt_le, nI_toInt (by omega), nI_toInt (by omega)] at h1; omega), (low_eq h ha).1, (low_eq h ha).2, (low_eq h hb).1, (low_eq h hb).2]
  unfold s_X5_lesser s_X5_greater
  rw [show s_X5_to (fun _ => 0) (fun _ => 0) B a = hiB B a from rfl, show s_X5_to (fun _ => 0) (fun _ => 0) B b = hiB B b from rfl, show s_X5_from (fun _ => 0) (fun _ => 0) B a = loB B a from rfl, show s_X5_from (fun _ => 0) (fun _ => 0) B b = loB B b from rfl]
  have e1 : (if hiB B b < hiB B a then hiB B b else hiB B a) = (if hiB B b ≤ hiB B a then hiB B b else hiB B a) := by
    by_cases h1 : hiB B b < hiB B a
    · rw [if_pos h1, if_pos (by rw [Int32.le_iff_toInt_le]; rw [Int32.lt_iff_toInt_lt] at h1; omega)]
    · rw [if_neg h1]
      by_cases h2 : hiB B b ≤ hiB B a
      · rw [if_pos h2]
        apply Int32.toInt_inj.mp
        rw [Int32.le_iff_toInt_le] at h2; rw [Int32.lt_iff_toInt_lt] at h1; omega
      · rw [if_neg h2]
  have e2 : (if loB B a < loB B b then loB B b else loB B a) = (if loB B a ≤ loB B b then loB B b else loB B a) := by
    by_cases h1 : loB B a < loB B b
    · rw [if_pos h1, if_pos (by rw [Int32.le_iff_toInt_le]; rw [Int32.lt_iff_toInt_lt] at h1; omega)]
    · rw [if_neg h1]
      by_cases h2 : loB B a ≤ loB B b
      · rw [if_pos h2]
        apply Int32.toInt_inj.mp
        rw [Int32.le_iff_toInt_le] at h2; rw [Int32.lt_iff_toInt_lt] at h1; omega
      · rw [if_neg h2]
  rw [e1, e2]
theorem fwB_eq {n a b : Nat} (h : IS n A B) (ha : a < n) (hb : b < n) : fwC A a b = fwB B a b := by
  unfold fwC fwB
  rw [(low_eq h ha).1, (low_eq h ha).2, (h b hb).1.2.1]
theorem fwB_self (B : Nat → Nat → Int32) (s : Nat) : fwB B s s = false := by
  unfold fwB loB hiB s_X5_from s_X5_to
  by_cases h : B 6 s ≤ 0
  · rw [if_pos h, if_pos h, decide_eq_false (show ¬ B 3 s < B 3 s by rw [Int32.lt_iff_toInt_lt]; omega), Bool.and_false]
  · rw [if_neg h, if_neg h, decide_eq_false (show ¬ B 3 s < B 3 s by rw [Int32.lt_iff_toInt_lt]; omega), Bool.false_and]
theorem ovB_self (B : Nat → Nat → Int32) {a b : Nat} (hb : b ≤ a) (ha : a < 100) : ovB B a b = false := by
  unfold ovB s_X5_isOver
  rw [if_pos (by rw [Int32.le_iff_toInt_le, nI_toInt (by omega), nI_toInt (by omega)]; omega)]
theorem ovB_cong {B B' : Nat → Nat → Int32} {a b : Nat} (e3 : B' 3 a = B 3 a) (e4 : B' 4 a = B 4 a) (e6 : B' 6 a = B 6 a) (f3 : B' 3 b = B 3 b) (f4 : B' 4 b = B 4 b) (f6 : B' 6 b = B 6 b) : ovB B' a b = ovB B a b := by
  unfold ovB s_X5_isOver s_X5_from s_X5_to
  rw [e3, e4, e6, f3, f4, f6]
theorem fwB_cong {B B' : Nat → Nat → Int32} {a b : Nat} (e3 : B' 3 a = B 3 a) (e4 : B' 4 a = B 4 a) (e6 : B' 6 a = B 6 a) (f3 : B' 3 b = B 3 b) : fwB B' a b = fwB B a b := by
  unfold fwB loB hiB s_X5_from s_X5_to
  rw [e3, e4, e6, f3]
/-- what a spar's five numbers keep to -/
def spOk (k f l t w : Int32) : Prop := (0 ≤ k.toInt ∧ k.toInt ≤ 2) ∧ (0 ≤ f.toInt ∧ f.toInt ≤ 100) ∧ (1 ≤ l.toInt ∧ l.toInt ≤ 60) ∧ (1 ≤ t.toInt ∧ t.toInt ≤ 9) ∧ (w = 1 ∨ w = -1)
theorem newS_o {p S q : Nat} {k f l t w : Int32} (h : q < p ∨ p + 4 < q) : newS A p S k f l t w q = A q := by
  unfold newS
  rw [va_up_o _ _ (by omega), va_up_o _ _ (by omega), va_up_o _ _ (by omega), va_up_o _ _ (by omega), va_up_o _ _ (by omega)]
theorem Inv.addSpar (iv : Inv N V A M U B) {k f l t w : Int32} (hS : M 0 < 10) (hk : spOk k f l t w) {C : Nat → Nat → Int32} (k1 : ∀ p, p ≠ 8 → p ≠ 9 → C p = newS A 3 (N 0) k f l t w p) (k2 : isN (C 8) 1024) (k3 : isN (C 9) 1024)
    (k4 : ∀ a c, (C 8 a).toNatClampNeg.testBit c = ((A 8 a).toNatClampNeg.testBit c || (decide (0 ≤ a) && decide (a < 0 + N 0) && decide (c = N 0) && ovC (newS A 3 (N 0) k f l t w) a (N 0))))
    (k5 : ∀ a c, (C 9 a).toNatClampNeg.testBit c = ((A 9 a).toNatClampNeg.testBit c || ((decide (0 ≤ a) && decide (a < 0 + N 0) && decide (c = N 0) && fwC (newS A 3 (N 0) k f l t w) a (N 0)) || (decide (a = N 0) && (decide (0 ≤ c) && decide (c < 0 + N 0) && fwC (newS A 3 (N 0) k f l t w) (N 0) c))))) :
    Inv (va_up N 0 (N 0 + 1)) V C (va_up M 0 (M 0 + 1)) U (newS B 2 (M 0) k f l t w) := by
  obtain ⟨⟨e0, e1, e2, hn, hT, hU⟩, hv, hR, hIS, hO, hIT, hH, okc, okm⟩ := id iv
  obtain ⟨o1, o2, o3, o4, o5, o6, o7, o8, o9⟩ := id okc
  have bb : ∀ q, q < 2 ∨ 6 < q → newS B 2 (M 0) k f l t w q = B q := fun q hq => newS_o (by omega)
  have bd : ∀ q j, j ≠ M 0 → newS B 2 (M 0) k f l t w q j = B q j := fun q j hj => by
    by_cases h : q < 2 ∨ 6 < q
    · rw [bb q h]
    · rcases (show q = 2 ∨ q = 3 ∨ q = 4 ∨ q = 5 ∨ q = 6 by omega) with h | h | h | h | h <;> subst h
      · exact pk_un (f := B 2) hj
      · exact pk_un (f := B 3) hj
      · exact pk_un (f := B 4) hj
      · exact pk_un (f := B 5) hj
      · exact pk_un (f := B 6) hj
  have hIS1 : IS (M 0 + 1) (newS A 3 (N 0) k f l t w) (newS B 2 (M 0) k f l t w) := by
    intro j hj
    rw [e0]
    by_cases h : j = M 0
    · subst h
      rw [show newS A 3 (M 0) k f l t w 3 (M 0) = upd (A 3) (M 0) k (M 0) from rfl, show newS A 3 (M 0) k f l t w 4 (M 0) = upd (A 4) (M 0) f (M 0) from rfl, show newS A 3 (M 0) k f l t w 5 (M 0) = upd (A 5) (M 0) l (M 0) from rfl, show newS A 3 (M 0) k f l t w 6 (M 0) = upd (A 6) (M 0) t (M 0) from rfl, show newS A 3 (M 0) k f l t w 7 (M 0) = upd (A 7) (M 0) w (M 0) from rfl,
        show newS B 2 (M 0) k f l t w 2 (M 0) = upd (B 2) (M 0) k (M 0) from rfl, show newS B 2 (M 0) k f l t w 3 (M 0) = upd (B 3) (M 0) f (M 0) from rfl, show newS B 2 (M 0) k f l t w 4 (M 0) = upd (B 4) (M 0) l (M 0) from rfl, show newS B 2 (M 0) k f l t w 5 (M 0) = upd (B 5) (M 0) t (M 0) from rfl, show newS B 2 (M 0) k f l t w 6 (M 0) = upd (B 6) (M 0) w (M 0) from rfl]
      simp only [pk_us]
      exact ⟨⟨trivial, trivial, trivial, trivial, trivial⟩, hk⟩
    · rw [bd 2 j h, bd 3 j h, bd 4 j h, bd 5 j h, bd 6 j h]
      rw [show newS A 3 (M 0) k f l t w 3 j = upd (A 3) (M 0) k j from rfl, show newS A 3 (M 0) k f l t w 4 j = upd (A 4) (M 0) f j from rfl, show newS A 3 (M 0) k f l t w 5 j = upd (A 5) (M 0) l j from rfl, show newS A 3 (M 0) k f l t w 6 j = upd (A 6) (M 0) t j from rfl, show newS A 3 (M 0) k f l t w 7 j = upd (A 7) (M 0) w j from rfl]
      rw [pk_un h, pk_un h, pk_un h, pk_un h, pk_un h]
      exact hIS j (by omega)
  have oldO : ∀ {a b : Nat}, a < M 0 → b < M 0 → ovB (newS B 2 (M 0) k f l t w) a b = ovB B a b := fun {a b} ha hb =>
    ovB_cong (bd 3 a (by omega)) (bd 4 a (by omega)) (bd 6 a (by omega)) (bd 3 b (by omega)) (bd 4 b (by omega)) (bd 6 b (by omega))
  have oldF : ∀ {a b : Nat}, a < M 0 → b < M 0 → fwB (newS B 2 (M 0) k f l t w) a b = fwB B a b := fun {a b} ha hb =>
    fwB_cong (bd 3 a (by omega)) (bd 4 a (by omega)) (bd 6 a (by omega)) (bd 3 b (by omega))
  have hp : 2 ^ M 0 < 2 ^ (M 0 + 1) := Nat.pow_lt_pow_right (by omega) (by omega)
  have aO : ∀ q, q < 3 ∨ 9 < q → C q = A q := fun q hq => by
    rw [k1 q (by omega) (by omega)]; exact newS_o (by omega)
  refine ⟨⟨(show N 0 + 1 = M 0 + 1 by omega), e1, e2, (show M 0 + 1 ≤ 10 by omega), hT, (show M 2 < 2 ^ (M 0 + 1) by omega)⟩, hv, ?_, ?_, ?_, ⟨?_, ?_, ?_⟩, ?_, ?_, ?_⟩
  · intro j hj
    rw [aO 1 (by omega), bb 1 (by omega)]; exact hR j hj
  · intro j hj
    rw [k1 3 (by decide) (by decide), k1 4 (by decide) (by decide), k1 5 (by decide) (by decide), k1 6 (by decide) (by decide), k1 7 (by decide) (by decide)]
    exact hIS1 j hj
  · intro a c
    rw [k4, k5, (hO a c).1, (hO a c).2, show va_up M 0 (M 0 + 1) 0 = M 0 + 1 from rfl, e0, Nat.zero_add]
    rw [e0] at hIS1
    by_cases ha : a < M 0
    · have a1 : a < M 0 + 1 := by omega
      have a2 : ¬ a = M 0 := by omega
      by_cases hc : c < M 0
      · have c1 : c < M 0 + 1 := by omega
        have c2 : ¬ c = M 0 := by omega
        rw [oldO ha hc, oldF ha hc]
        simp [ha, hc, a1, c1, a2, c2]
      · by_cases h3 : c = M 0
        · subst h3
          rw [ovB_eq hIS1 (by omega) a1 (by omega) ha, fwB_eq hIS1 a1 (by omega)]
          simp [ha, a1, a2]
        · have c1 : ¬ c < M 0 + 1 := by omega
          simp [hc, h3, c1, a2]
    · by_cases h4 : a = M 0
      · subst h4
        by_cases hc : c < M 0
        · have c1 : c < M 0 + 1 := by omega
          rw [fwB_eq hIS1 (by omega) c1, ovB_self (newS B 2 (M 0) k f l t w) (by omega) (by omega)]
          simp [hc, c1]
        · by_cases h3 : c = M 0
          · subst h3
            rw [fwB_self (newS B 2 (M 0) k f l t w), ovB_self (newS B 2 (M 0) k f l t w) (by omega) (by omega)]; simp
          · have c1 : ¬ c < M 0 + 1 := by omega
            simp [hc, c1]
      · have a1 : ¬ a < M 0 + 1 := by omega
        simp [ha, h4, a1]
  · intro t1 ht
    have q := hIT.1 t1 ht
    rw [aO 11 (by omega), aO 12 (by omega), aO 13 (by omega), aO 14 (by omega), bb 7 (by omega), bb 8 (by omega), bb 9 (by omega), bd 3 _ (by omega)]
    exact ⟨q.1, ⟨q.2.1.1, (show (B 8 t1).toNatClampNeg < M 0 + 1 by omega)⟩, q.2.2⟩
  · intro t1
    have q := hIT.2.1 t1
    rw [bb 10 (by omega)]
    refine ⟨?_, q.2⟩
    rw [show va_up N 0 (N 0 + 1) 3 = N 3 from rfl, q.1, show va_up M 0 (M 0 + 1) 1 = M 1 from rfl]
    by_cases ht : t1 < M 1
    · have q2 := (hIT.1 t1 ht).2.1.2
      unfold bhB
      rw [bb 7 (by omega), bb 8 (by omega), bd 3 _ (by omega), bd 6 _ (by omega)]
    · simp [ht]
  · intro t1 u1
    rw [aO 15 (by omega), hIT.2.2, show va_up M 0 (M 0 + 1) 1 = M 1 from rfl]
    by_cases ht : t1 < M 1
    · by_cases hu : u1 < M 1
      · have q2 := (hIT.1 t1 ht).2.1.2
        have q3 := (hIT.1 u1 hu).2.1.2
        have : crB (newS B 2 (M 0) k f l t w) t1 u1 = crB B t1 u1 := by
          unfold crB s_X5_doCross
          rw [bb 7 (by omega), bb 8 (by omega), bb 9 (by omega), bd 3 _ (by omega), bd 3 _ (by omega)]
        rw [this]
      · simp [hu]
    · simp [ht]
  · intro j hj
    rw [aO (18 + 2 * j) (by omega), bb 14 (by omega), bb 15 (by omega), bb 16 (by omega)]
    exact hH j hj
  · refine ⟨(show N 0 + 1 ≤ 10 by omega), o2, o3, o4, o5, k2, k3, ?_, ?_⟩
    · rw [aO 15 (by omega)]; exact o8
    · rw [aO 12 (by omega)]; exact o9
  · obtain ⟨p1, p2, p3, p4, p5, p6, p7⟩ := okm
    refine ⟨(show M 0 + 1 ≤ 10 by omega), p2, p3, ?_, ?_, ?_, ?_⟩
    · rw [bb 8 (by omega)]; exact p4
    · rw [bb 10 (by omega)]; exact p5
    · rw [bb 11 (by omega)]; exact p6
    · rw [bb 12 (by omega)]; exact p7
theorem addSpar_eq (k f l t w : Int32) : s_X5_addSpar M U B k f l t w = (va_up M 0 (M 0 + 1), U, newS B 2 (M 0) k f l t w) := rfl
theorem x2add_same (iv : Inv N V A M U B) {k f l t w : Int32} (hS : M 0 < 10) (hk : spOk k f l t w) : (s_X2_add N V A k f l t w).1 = nI (M 0) ∧ (s_X2_add N V A k f l t w).2.1 0 = M 0 + 1 ∧ Inv (s_X2_add N V A k f l t w).2.1 (s_X2_add N V A k f l t w).2.2.1 (s_X2_add N V A k f l t w).2.2.2 (va_up M 0 (M 0 + 1)) U (newS B 2 (M 0) k f l t w) ∧ (∀ q, q < 3 ∨ 9 < q → (s_X2_add N V A k f l t w).2.2.2 q = A q) ∧ (s_X2_add N V A k f l t w).2.2.1 = V := by
  obtain ⟨⟨e0, e1, e2, hn, hT, hU⟩, hv, hR, hIS, hO, hIT, hH, okc, okm⟩ := id iv
  obtain ⟨o1, o2, o3, o4, o5, o6, o7, o8, o9⟩ := id okc
  obtain ⟨C', q1, q2, q3, q4, q5, q6⟩ := x2add_L1 (N := N) (V := V) (A := A) (k0 := k) (f0 := f) (l0 := l) (t0 := t) (w0 := w) (by omega) (N 0) 0 (newS A 3 (N 0) k f l t w) (by omega) o6 o7
  unfold s_X2_add
  rw [if_pos (show nI (N 0) < (10 : Int32) by rw [e0]; exact nI_lt (b := 10) hS (by decide))]
  have hI := iv.addSpar hS hk q2 q3 q4 q5 q6
  have q1' : s_X2_add_L1 N V A k f l t w (N 0) 0 N V (va_up (va_up (va_up (va_up (va_up A 3 (upd (A 3) (N 0) k)) 4 (upd ((va_up A 3 (upd (A 3) (N 0) k)) 4) (N 0) f)) 5 (upd ((va_up (va_up A 3 (upd (A 3) (N 0) k)) 4 (upd ((va_up A 3 (upd (A 3) (N 0) k)) 4) (N 0) f)) 5) (N 0) l)) 6 (upd ((va_up (va_up (va_up A 3 (upd (A 3) (N 0) k)) 4 (upd ((va_up A 3 (upd (A 3) (N 0) k)) 4) (N 0) f)) 5 (upd ((va_up (va_up A 3 (upd (A 3) (N 0) k)) 4 (upd ((va_up A 3 (upd (A 3) (N 0) k)) 4) (N 0) f)) 5) (N 0) l)) 6) (N 0) t)) 7 (upd ((va_up (va_up (va_up (va_up A 3 (upd (A 3) (N 0) k)) 4 (upd ((va_up A 3 (upd (A 3) (N 0) k)) 4) (N 0) f)) 5 (upd ((va_up (va_up A 3 (upd (A 3) (N 0) k)) 4 (upd ((va_up A 3 (upd (A 3) (N 0) k)) 4) (N 0) f)) 5) (N 0) l)) 6 (upd ((va_up (va_up (va_up A 3 (upd (A 3) (N 0) k)) 4 (upd ((va_up A 3 (upd (A 3) (N 0) k)) 4) (N 0) f)) 5 (upd ((va_up (va_up A 3 (upd (A 3) (N 0) k)) 4 (upd ((va_up A 3 (upd (A 3) (N 0) k)) 4) (N 0) f)) 5) (N 0) l)) 6) (N 0) t)) 7) (N 0) w)) = (N, V, C') := q1
  rw [q1']
  refine ⟨by rw [e0], (show N 0 + 1 = M 0 + 1 by omega), hI, fun q hq => ?_, rfl⟩
  show C' q = A q
  rw [q2 q (by omega) (by omega)]; exact newS_o (by omega)
theorem isSpar_eq (hR : IR A B) (k f l t w b : Int32) : s_X4_refusalOfSpar N V A k f l t w b = if s_X5_isSpar M U B k f l t w = true then (if b < (10 : Int32) then 0 else -4) else -2 := by
  unfold s_X4_refusalOfSpar s_X5_isSpar
  have hr := (hR 0 (by decide)).1
  rw [within_in k 0 2 0 2 (by decide) (by decide), within_in f 0 (A 1 0) 0 _ (by decide) (by rw [hr, Int32.toInt_toInt64]), within_in l 1 60 1 60 (by decide) (by decide), within_in t 1 9 1 9 (by decide) (by decide)]
  by_cases h1 : s_X4_isWithin k 0 2 = true
  · rw [if_pos h1, if_pos h1]
    by_cases h2 : s_X4_isWithin f 0 (A 1 0) = true
    · rw [if_pos h2, if_pos h2]
      by_cases h3 : s_X4_isWithin l 1 60 = true
      · rw [if_pos h3, if_pos h3]
        by_cases h4 : s_X4_isWithin t 1 9 = true
        · rw [if_pos h4, if_pos h4]
          by_cases h5 : w = 1
          · rw [if_pos h5, if_pos h5, if_pos rfl]
          · rw [if_neg h5, if_neg h5]
            by_cases h6 : w = -1
            · rw [if_pos h6, if_pos h6, if_pos rfl]
            · rw [if_neg h6, if_neg h6, if_neg (by decide)]
        · rw [if_neg h4, if_neg h4, if_neg (by decide)]
      · rw [if_neg h3, if_neg h3, if_neg (by decide)]
    · rw [if_neg h2, if_neg h2, if_neg (by decide)]
  · rw [if_neg h1, if_neg h1, if_neg (by decide)]
theorem isSpar_ok (hR : IR A B) {k f l t w : Int32} (h : s_X5_isSpar M U B k f l t w = true) : spOk k f l t w := by
  unfold s_X5_isSpar at h
  have hr := hR 0 (by decide)
  rw [show (gmV 0).toInt = 100 from by decide] at hr
  rw [within_in k 0 2 0 2 (by decide) (by decide), within_in f 0 (A 1 0) 0 _ (by decide) (by rw [hr.1, Int32.toInt_toInt64]), within_in l 1 60 1 60 (by decide) (by decide), within_in t 1 9 1 9 (by decide) (by decide)] at h
  by_cases h1 : s_X4_isWithin k 0 2 = true
  · rw [if_pos h1] at h
    by_cases h2 : s_X4_isWithin f 0 (A 1 0) = true
    · rw [if_pos h2] at h
      by_cases h3 : s_X4_isWithin l 1 60 = true
      · rw [if_pos h3] at h
        by_cases h4 : s_X4_isWithin t 1 9 = true
        · rw [if_pos h4] at h
          rw [withinI, decide_eq_true_eq] at h1 h2 h3 h4
          rw [hr.1] at h2
          have hw : w = 1 ∨ w = -1 := by
            by_cases h5 : w = 1
            · exact Or.inl h5
            · rw [if_neg h5] at h
              by_cases h6 : w = -1
              · exact Or.inr h6
              · rw [if_neg h6] at h; exact absurd h (by decide)
          exact ⟨h1, ⟨h2.1, by have := h2.2; omega⟩, h3, h4, hw⟩
        · rw [if_neg h4] at h; exact absurd h (by decide)
      · rw [if_neg h3] at h; exact absurd h (by decide)
    · rw [if_neg h2] at h; exact absurd h (by decide)
  · rw [if_neg h1] at h; exact absurd h (by decide)
theorem spar_eq (iv : Inv N V A M U B) (k f l t w : Int32) : Same (s_X4_spar N V A k f l t w) (s_X5_spar M U B k f l t w) := by
  obtain ⟨⟨e0, e1, e2, hn, hT, hU⟩, hv, hR, hIS, hO, hIT, hH, okc, okm⟩ := id iv
  unfold s_X4_spar s_X5_spar
  rw [isSpar_eq (M := M) (U := U) hR, e0]
  by_cases h1 : s_X5_isSpar M U B k f l t w = true
  · rw [if_pos h1, if_pos h1]
    by_cases h2 : M 0 = 10
    · rw [if_pos (show nI (M 0) = (10 : Int32) by rw [h2]; rfl), if_neg (show ¬ nI (M 0) < (10 : Int32) by rw [h2]; decide), if_neg (by decide)]
      exact ⟨rfl, iv⟩
    · rw [if_neg (show ¬ nI (M 0) = (10 : Int32) from fun h4 => h2 ((nI_eq (b := 10) (by omega) (by decide)).mp h4)), if_pos (show nI (M 0) < (10 : Int32) from nI_lt (b := 10) (by omega) (by decide)), if_pos rfl]
      obtain ⟨q1, -, q2, -⟩ := x2add_same iv (by omega) (isSpar_ok hR h1)
      refine ⟨?_, q2⟩
      show (s_X2_add N V A k f l t w).1 = nI (M 0 + 1) - (1 : Int32)
      rw [q1, show (1 : Int32) = nI 1 from rfl, pk_sub (by omega)]; rfl
  · rw [if_neg h1, if_neg h1, if_neg (by decide)]
    exact ⟨rfl, iv⟩
end SPR
