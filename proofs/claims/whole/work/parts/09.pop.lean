def pop16 (n : Nat) : Nat := fb_ct (fun i => n.testBit i) 16
def popE (n : Nat) : Nat := n / 1 % 2 + n / 2 % 2 + n / 4 % 2 + n / 8 % 2 + n / 16 % 2 + n / 32 % 2 + n / 64 % 2 + n / 128 % 2 + n / 256 % 2 + n / 512 % 2 + n / 1024 % 2 + n / 2048 % 2 + n / 4096 % 2 + n / 8192 % 2 + n / 16384 % 2 + n / 32768 % 2
theorem tb_mod (n i : Nat) : (if n.testBit i then 1 else 0) = n / 2 ^ i % 2 := by
  rw [Nat.testBit_eq_decide_div_mod_eq]
  have h : n / 2 ^ i % 2 < 2 := Nat.mod_lt _ (by omega)
  by_cases h1 : n / 2 ^ i % 2 = 1
  · simp [h1]
  · have h0 : n / 2 ^ i % 2 = 0 := by omega
    simp [h0]
theorem popE_eq (n : Nat) : pop16 n = popE n := by
  have e : pop16 n = 0 + (if n.testBit 0 then 1 else 0) + (if n.testBit 1 then 1 else 0) + (if n.testBit 2 then 1 else 0) + (if n.testBit 3 then 1 else 0) + (if n.testBit 4 then 1 else 0) + (if n.testBit 5 then 1 else 0) + (if n.testBit 6 then 1 else 0) + (if n.testBit 7 then 1 else 0) + (if n.testBit 8 then 1 else 0) + (if n.testBit 9 then 1 else 0) + (if n.testBit 10 then 1 else 0) + (if n.testBit 11 then 1 else 0) + (if n.testBit 12 then 1 else 0) + (if n.testBit 13 then 1 else 0) + (if n.testBit 14 then 1 else 0) + (if n.testBit 15 then 1 else 0) := rfl
  rw [e]
  simp only [tb_mod, Nat.zero_add]
  rfl
def sw1 (n : Nat) : Nat := n - ((n / 2) &&& 1431655765)
def sw2 (n : Nat) : Nat := (n &&& 858993459) + ((n / 4) &&& 858993459)
def sw3 (n : Nat) : Nat := (n + n / 16) &&& 252645135
def sw4 (n : Nat) : Nat := n + n / 256
def sw5 (n : Nat) : Nat := (n + n / 65536) &&& 63
def swE (n : Nat) : Bool := Nat.beq (sw5 (sw4 (sw3 (sw2 (sw1 n))))) (popE n)
theorem sw_0 : ∀ a, a < 16 → ∀ b, b < 256 → swE (4096 * 0 + 256 * a + b) = true := by decide +kernel
theorem sw_1 : ∀ a, a < 16 → ∀ b, b < 256 → swE (4096 * 1 + 256 * a + b) = true := by decide +kernel
theorem sw_2 : ∀ a, a < 16 → ∀ b, b < 256 → swE (4096 * 2 + 256 * a + b) = true := by decide +kernel
theorem sw_3 : ∀ a, a < 16 → ∀ b, b < 256 → swE (4096 * 3 + 256 * a + b) = true := by decide +kernel
theorem sw_4 : ∀ a, a < 16 → ∀ b, b < 256 → swE (4096 * 4 + 256 * a + b) = true := by decide +kernel
theorem sw_5 : ∀ a, a < 16 → ∀ b, b < 256 → swE (4096 * 5 + 256 * a + b) = true := by decide +kernel
theorem sw_6 : ∀ a, a < 16 → ∀ b, b < 256 → swE (4096 * 6 + 256 * a + b) = true := by decide +kernel
theorem sw_7 : ∀ a, a < 16 → ∀ b, b < 256 → swE (4096 * 7 + 256 * a + b) = true := by decide +kernel
theorem sw_8 : ∀ a, a < 16 → ∀ b, b < 256 → swE (4096 * 8 + 256 * a + b) = true := by decide +kernel
theorem sw_9 : ∀ a, a < 16 → ∀ b, b < 256 → swE (4096 * 9 + 256 * a + b) = true := by decide +kernel
theorem sw_10 : ∀ a, a < 16 → ∀ b, b < 256 → swE (4096 * 10 + 256 * a + b) = true := by decide +kernel
theorem sw_11 : ∀ a, a < 16 → ∀ b, b < 256 → swE (4096 * 11 + 256 * a + b) = true := by decide +kernel
theorem sw_12 : ∀ a, a < 16 → ∀ b, b < 256 → swE (4096 * 12 + 256 * a + b) = true := by decide +kernel
theorem sw_13 : ∀ a, a < 16 → ∀ b, b < 256 → swE (4096 * 13 + 256 * a + b) = true := by decide +kernel
theorem sw_14 : ∀ a, a < 16 → ∀ b, b < 256 → swE (4096 * 14 + 256 * a + b) = true := by decide +kernel
theorem sw_15 : ∀ a, a < 16 → ∀ b, b < 256 → swE (4096 * 15 + 256 * a + b) = true := by decide +kernel
theorem sw_all (n : Nat) (h : n < 65536) : swE n = true := by
  have e : n = 4096 * (n / 4096) + 256 * (n / 256 % 16) + n % 256 := by omega
  have h1 : n / 256 % 16 < 16 := Nat.mod_lt _ (by omega)
  have h2 : n % 256 < 256 := Nat.mod_lt _ (by omega)
  have h3 : n / 4096 < 16 := by omega
  rw [e]
  generalize n / 4096 = c at h3 ⊢
  generalize n / 256 % 16 = a at h1 ⊢
  generalize n % 256 = b at h2 ⊢
  match c, h3 with
  | 0, _ => exact sw_0 a h1 b h2
  | 1, _ => exact sw_1 a h1 b h2
  | 2, _ => exact sw_2 a h1 b h2
  | 3, _ => exact sw_3 a h1 b h2
  | 4, _ => exact sw_4 a h1 b h2
  | 5, _ => exact sw_5 a h1 b h2
  | 6, _ => exact sw_6 a h1 b h2
  | 7, _ => exact sw_7 a h1 b h2
  | 8, _ => exact sw_8 a h1 b h2
  | 9, _ => exact sw_9 a h1 b h2
  | 10, _ => exact sw_10 a h1 b h2
  | 11, _ => exact sw_11 a h1 b h2
  | 12, _ => exact sw_12 a h1 b h2
  | 13, _ => exact sw_13 a h1 b h2
  | 14, _ => exact sw_14 a h1 b h2
  | 15, _ => exact sw_15 a h1 b h2
  | c + 16, h => exact absurd h (by omega)
theorem sw_ok {n : Nat} (h : n < 65536) : sw5 (sw4 (sw3 (sw2 (sw1 n)))) = pop16 n := by
  rw [popE_eq]
  exact Nat.eq_of_beq_eq_true (sw_all n h)
theorem bc_ok {n : Nat} (h : n < 65536) {x1 x2 x3 x4 x5 : Int32} (e1 : x1 = nI n - (((nI n).toUInt32 >>> ((1 : Int32).toUInt32 &&& Int32.toUInt32 31)).toInt32 &&& 1431655765)) (e2 : x2 = (x1 &&& 858993459) + ((x1.toUInt32 >>> ((2 : Int32).toUInt32 &&& Int32.toUInt32 31)).toInt32 &&& 858993459)) (e3 : x3 = (x2 + (x2.toUInt32 >>> ((4 : Int32).toUInt32 &&& Int32.toUInt32 31)).toInt32) &&& 252645135) (e4 : x4 = x3 + (x3.toUInt32 >>> ((8 : Int32).toUInt32 &&& Int32.toUInt32 31)).toInt32) (e5 : x5 = (x4 + (x4.toUInt32 >>> ((16 : Int32).toUInt32 &&& Int32.toUInt32 31)).toInt32) &&& 63) : x5 = nI (pop16 n) := by
  have h1 : x1 = nI (sw1 n) := by
    rw [e1, pk_ushrN (by omega) 1 1 (by decide), show (1431655765 : Int32) = nI 1431655765 from rfl, fa_and, pk_sub (Nat.le_trans Nat.and_le_left (Nat.div_le_self _ _))]
    rfl
  have b1 : sw1 n < 65536 := Nat.lt_of_le_of_lt (Nat.sub_le _ _) h
  have h2 : x2 = nI (sw2 (sw1 n)) := by
    rw [e2, h1, pk_ushrN (by omega) 2 2 (by decide), show (858993459 : Int32) = nI 858993459 from rfl, fa_and, fa_and, nI_add]
    rfl
  have b2 : sw2 (sw1 n) < 131072 := by
    have a1 : sw1 n &&& 858993459 ≤ sw1 n := Nat.and_le_left
    have a2 : sw1 n / 4 &&& 858993459 ≤ sw1 n / 4 := Nat.and_le_left
    unfold sw2; omega
  have h3 : x3 = nI (sw3 (sw2 (sw1 n))) := by
    rw [e3, h2, pk_ushrN (by omega) 4 4 (by decide), show (252645135 : Int32) = nI 252645135 from rfl, nI_add, fa_and]
    rfl
  have b3 : sw3 (sw2 (sw1 n)) < 262144 := by
    have a1 : (sw2 (sw1 n) + sw2 (sw1 n) / 16) &&& 252645135 ≤ sw2 (sw1 n) + sw2 (sw1 n) / 16 := Nat.and_le_left
    unfold sw3; omega
  have h4 : x4 = nI (sw4 (sw3 (sw2 (sw1 n)))) := by
    rw [e4, h3, pk_ushrN (by omega) 8 8 (by decide), nI_add]
    rfl
  have b4 : sw4 (sw3 (sw2 (sw1 n))) < 524288 := by unfold sw4; omega
  rw [e5, h4, pk_ushrN (by omega) 16 16 (by decide), show (63 : Int32) = nI 63 from rfl, nI_add, fa_and, ← sw_ok h]
  rfl
