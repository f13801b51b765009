theorem nb {b : Bool} (h : b = false) : ¬ b = true := by rw [h]; decide
abbrev St : Type := (Nat → Nat) × (Nat → Int32) × (Nat → Nat → Int32)
def bz (x : Int32) : Bool := decide (x = 1)
def isB (f : Nat → Int32) : Prop := ∀ j, f j = b2i (bz (f j))
theorem bz_b2i (b : Bool) : bz (b2i b) = b := by cases b <;> decide
theorem isB_upd {f : Nat → Int32} (h : isB f) (i : Nat) (b : Bool) : isB (upd f i (b2i b)) := by
  intro j
  by_cases hj : j = i
  · subst hj; rw [pk_us, bz_b2i]
  · rw [pk_un hj]; exact h j
section RW3
variable {p : Program} {l : Launch} {e : Env} {R : Room} {s : State} {m : MethodId} {args : Array Value} {below : List Frame} {meth : Method} {c : Code} {H : Heap} {locs : List Loc} {cells slots : Nat} {Qq : State → Prop}
variable {cc : ByteArray} {pc : Nat} {ls : Array Slot} {rest : List Value} {D : va_G} {cl : List vw_C} {Ar : Nat → Prop} {a : Nat} {tys : List (ClassId × FieldType)} {ws : va_W} {H0 : Heap}
theorem va_zaldB (hx : p.tables.exec = Jvm.exec) (hb : c.code = cc) (hK : va_K D cl tys s) (hP : va_P D cl ws H) (q0 t0 : Nat) {cA : ClassId} {n : Nat} {f : Nat → Int32} (ha : ws[q0]? = some (a, .inl (cA, n, .inl f))) (ht : tys[t0]? = some (cA, .boolean)) {i : Nat} {x : Bool} (hz : f i = b2i x) (hn : n < 2 ^ 31) (hin : i < n) (hdg : decode cc pc = .ok (.baload, 1))
    (kk : W p l e R s m args below meth c H locs cells slots Qq (F0 m (pc + 1) ls (.int (b2i x) :: rest))) : W p l e R s m args below meth c H locs cells slots Qq (F0 m pc ls (.int (nI i) :: .ref a :: rest)) :=
  va_zaldN hx hb hK hP q0 t0 ha ht hn hin hdg (by rw [hz]; exact kk)
end RW3
/-- what the rows of the model need of its cells -/
def okM (N : Nat → Nat) (A : Nat → Nat → Int32) : Prop := N 0 ≤ 10 ∧ N 1 ≤ 16 ∧ N 2 < 1024 ∧ (∀ t, vp_in (A 8 t) 10) ∧ isB (A 10) ∧ isB (A 11) ∧ isB (A 12)
/-- a switch whose number is none of the told ones -/
theorem tsw_out (x : Int32) {lo hi : Int} (hlh : lo ≤ hi + 1) (vs : List Int32) (hv : vs.map (fun v => v.toInt) = (List.range (hi + 1 - lo).toNat).map (fun (i : Nat) => lo + (i : Int))) (h : ∀ v ∈ vs, ¬ x = v) : x.toInt < lo ∨ hi < x.toInt := by
  by_cases h1 : x.toInt < lo
  · exact Or.inl h1
  · by_cases h2 : hi < x.toInt
    · exact Or.inr h2
    · exfalso
      have hm : x.toInt ∈ (List.range (hi + 1 - lo).toNat).map (fun (i : Nat) => lo + (i : Int)) := List.mem_map.mpr ⟨(x.toInt - lo).toNat, List.mem_range.mpr (by omega), by omega⟩
      rw [← hv] at hm
      obtain ⟨v, hv1, hv2⟩ := List.mem_map.mp hm
      exact h v hv1 (Int32.toInt_inj.mp hv2.symm)
