/-! ===== typed states: what a run's objects hold, by number of field and place; the picture of the heap =====
field f = 100 * class + place: 1 Call, 2 Device, 3 Driver, 4 EventLog, 5 Handle, 6 Slot, 7 DriverMoor, 8 DriverMoorModel (0 ArrayList); an array's cells are read under its field's number -/
abbrev GT : Type := va_G × (ClassId × ClassId × ClassId × ClassId) × (Nat → Nat → Nat) × Nat × Nat
def gD (γ : GT) : va_G := γ.1
def gcI (γ : GT) : ClassId := γ.2.1.1
def gcZ (γ : GT) : ClassId := γ.2.1.2.1
def gcJ (γ : GT) : ClassId := γ.2.1.2.2.1
def gcO (γ : GT) : ClassId := γ.2.1.2.2.2
def gS (γ : GT) : Nat → Nat → Nat := γ.2.2.1
def gB (γ : GT) : Nat := γ.2.2.2.1
def gE (γ : GT) : Nat := γ.2.2.2.2
def gA (γ : GT) : Nat → Prop := fun q => gB γ ≤ q
def tys (γ : GT) : List (ClassId × FieldType) := [(gcI γ, .int), (gcZ γ, .boolean), (gcJ γ, .long), (gcO γ, .object "java/lang/Object")]
abbrev St : Type := (Nat → Nat → Int32) × (Nat → Nat → Bool) × (Nat → Nat → Option Nat) × (Nat → List Nat) × (Nat → Nat) × Int64
def gi (σ : St) (f i : Nat) : Int32 := σ.1 f i
def gb (σ : St) (f i : Nat) : Bool := σ.2.1 f i
def gp (σ : St) (f i : Nat) : Option Nat := σ.2.2.1 f i
def gl (σ : St) (k : Nat) : List Nat := σ.2.2.2.1 k
def gn (σ : St) (c : Nat) : Nat := σ.2.2.2.2.1 c
def go (σ : St) : Int64 := σ.2.2.2.2.2
def u2 {α : Type} (g : Nat → Nat → α) (f i : Nat) (v : α) : Nat → Nat → α := fun f' i' => if f' = f ∧ i' = i then v else g f' i'
def u1 {α : Type} (g : Nat → α) (f : Nat) (v : α) : Nat → α := fun f' => if f' = f then v else g f'
def zi (σ : St) (f i : Nat) (v : Int32) : St := (u2 σ.1 f i v, σ.2.1, σ.2.2.1, σ.2.2.2.1, σ.2.2.2.2.1, σ.2.2.2.2.2)
def zb (σ : St) (f i : Nat) (v : Bool) : St := (σ.1, u2 σ.2.1 f i v, σ.2.2.1, σ.2.2.2.1, σ.2.2.2.2.1, σ.2.2.2.2.2)
def zp (σ : St) (f i : Nat) (v : Option Nat) : St := (σ.1, σ.2.1, u2 σ.2.2.1 f i v, σ.2.2.2.1, σ.2.2.2.2.1, σ.2.2.2.2.2)
def zl (σ : St) (k : Nat) (v : List Nat) : St := (σ.1, σ.2.1, σ.2.2.1, u1 σ.2.2.2.1 k v, σ.2.2.2.2.1, σ.2.2.2.2.2)
def zo (σ : St) (v : Int64) : St := (σ.1, σ.2.1, σ.2.2.1, σ.2.2.2.1, σ.2.2.2.2.1, v)
/-- a new object of class c, all its fields 0, false or null -/
def zw (σ : St) (c : Nat) : St := (fun f i => if f / 100 = c ∧ i = gn σ c then 0 else gi σ f i, fun f i => if f / 100 = c ∧ i = gn σ c then false else gb σ f i, fun f i => if f / 100 = c ∧ i = gn σ c then none else gp σ f i, σ.2.2.2.1, u1 σ.2.2.2.2.1 c (gn σ c + 1), σ.2.2.2.2.2)
def b2i (b : Bool) : Int32 := match b with
  | true => 1
  | false => 0
/-- what a field is: 0 int, 1 boolean, 2 an array of its own, 3 a list, 4 the log, 10 + c an object of class c or null -/
def tgL : List (List Nat) := [[0, 0, 0], [15, 0, 0], [0, 0, 0, 0, 1, 12, 12, 12, 1, 1, 13, 0, 1, 0, 0, 1, 1, 1], [0, 0, 0, 0, 1, 0], [2, 2, 0], [12, 1, 1], [12, 0], [3, 3, 3, 3, 3, 3, 2, 4, 0, 1, 0], [0, 0, 1, 0, 2, 2, 2, 2, 2, 2, 2, 2, 2, 2, 2, 2, 2, 2, 2, 2, 2, 2, 2, 0, 0, 2, 2, 2, 2, 2, 0, 2, 2, 2, 0, 2, 2, 2, 2, 2, 2, 0, 0, 2, 2, 2, 2, 0]]
def alL : List (List Nat) := [[0, 0, 0], [0, 0, 0], [0, 0, 0, 0, 0, 0, 0, 0, 0, 0, 0, 0, 0, 0, 0, 0, 0, 0], [0, 0, 0, 0, 0, 0], [20, 20, 0], [0, 0, 0], [0, 0], [0, 0, 0, 0, 0, 0, 8, 0, 0, 0, 0], [0, 0, 0, 0, 24, 24, 24, 24, 24, 24, 24, 24, 24, 24, 24, 24, 24, 24, 24, 24, 24, 24, 24, 0, 0, 8, 8, 8, 8, 8, 0, 40, 40, 40, 0, 100, 100, 100, 8, 16, 16, 0, 0, 20, 20, 25, 25, 0]]
def abL : List (List Bool) := [[false, false, false], [false, false, false], [false, false, false, false, false, false, false, false, false, false, false, false, false, false, false, false, false, false], [false, false, false, false, false, false], [false, false, false], [false, false, false], [false, false], [false, false, false, false, false, false, false, false, false, false, false], [false, false, false, false, false, false, false, false, true, false, false, true, false, true, false, false, false, true, true, false, false, false, true, false, false, false, false, false, true, false, false, false, false, true, false, false, false, false, false, false, false, false, false, false, false, false, false, false]]
def tg (f : Nat) : Nat := (tgL.getD (f / 100) []).getD (f % 100) 0
def al (f : Nat) : Nat := (alL.getD (f / 100) []).getD (f % 100) 0
def ab (f : Nat) : Bool := (abL.getD (f / 100) []).getD (f % 100) false
def nf (c : Nat) : Nat := (tgL.getD c []).length
def dy (c : Nat) : Bool := [false, true, true, true, false, true].getD c false
def cn (σ : St) (c : Nat) : Nat := match dy c with
  | true => gn σ c
  | false => [0, 0, 0, 0, 1, 0, 16, 1, 1].getD c 0
/-- the class of a list's elements: devices, bound, drivers, opened, made, slots -/
def ek (k : Nat) : Nat := [2, 2, 3, 5, 1, 6].getD k 0
def Ad (γ : GT) (ad : Nat → Nat → Nat) (c i : Nat) : Nat := match dy c with
  | true => ad c i
  | false => gS γ c i
def fv (γ : GT) (ad : Nat → Nat → Nat) (σ : St) (f i : Nat) : Value := match tg f with
  | 0 => .int (gi σ f i)
  | 1 => .int (b2i (gb σ f i))
  | 2 => .ref (gS γ (1000 + f) 0)
  | 3 => .ref (gS γ 0 (f - 700))
  | 4 => .ref (gS γ 4 0)
  | t => va_rf ((gp σ f i).map (Ad γ ad (t - 10)))
def oj (γ : GT) (ad : Nat → Nat → Nat) (σ : St) (c i : Nat) : List Value := (List.range (nf c)).map fun k => fv γ ad σ (100 * c + k) i
def arE (γ : GT) (σ : St) (f : Nat) : va_E := match ab f with
  | true => .inl (gcZ γ, al f, .inl fun j => b2i (gb σ f j))
  | false => .inl (gcI γ, al f, .inl fun j => gi σ f j)
/-- the cells: 0 the lists, 9 their arrays (where they have one of their own), 1 to 8 the objects, 3000 the law's own row, 1000 + f the array of field f -/
def AD (γ : GT) (ad : Nat → Nat → Nat) (la : Nat → Nat × Nat) (c i : Nat) : Nat := if c = 9 then (la i).1 else Ad γ ad c i
def EX (σ : St) (la : Nat → Nat × Nat) (c i : Nat) : Prop := if c = 0 then i < 6 else if c = 9 then i < 6 ∧ 0 < (la i).2 else if c < 9 then i < cn σ c else if c = 3000 then i = 0 else (i = 0 ∧ 1000 ≤ c ∧ 0 < al (c - 1000))
def CE (γ : GT) (ad : Nat → Nat → Nat) (la : Nat → Nat × Nat) (σ : St) (c i : Nat) : va_E :=
  if c = 0 then .inr (0, [.int (gi σ 0 i), .ref (la i).1, .int (nI (gl σ i).length)]) else
  if c = 9 then .inl (gcO γ, (la i).2, .inr (.inr (.inr (.inr fun j => ((gl σ i)[j]?).map (Ad γ ad (ek i)))))) else
  if c < 9 then .inr (c, oj γ ad σ c i) else
  if c = 3000 then .inl (gcJ γ, 1, .inr (.inl fun _ => go σ)) else arE γ σ (c - 1000)
def Rep1 (γ : GT) (ad : Nat → Nat → Nat) (la : Nat → Nat × Nat) (σ : St) (H : Heap) : Prop :=
  (∀ c i, EX σ la c i → va_at (gD γ) vwCl (AD γ ad la c i, CE γ ad la σ c i) H ∧ gB γ ≤ AD γ ad la c i) ∧
  (∀ c i c' i', EX σ la c i → EX σ la c' i' → AD γ ad la c i = AD γ ad la c' i' → c = c' ∧ i = i') ∧
  ∀ k, k < 6 → (gl σ k).length ≤ (la k).2 ∧ (la k).2 ≤ 1000 ∧ ((la k).2 = 0 → (la k).1 = gE γ)
def Rep (γ : GT) (ad : Nat → Nat → Nat) (σ : St) (H : Heap) : Prop := ∃ la, Rep1 γ ad la σ H
theorem Rep1.upd {γ : GT} {ad : Nat → Nat → Nat} {la : Nat → Nat × Nat} {σ σ' : St} {H H1 : Heap} (h : Rep1 γ ad la σ H) (c0 i0 : Nat) (hex0 : EX σ la c0 i0) (hex : ∀ c i, EX σ' la c i ↔ EX σ la c i)
    (hce : ∀ c i, EX σ la c i → ¬ (c = c0 ∧ i = i0) → CE γ ad la σ' c i = CE γ ad la σ c i) (hl : ∀ k, gl σ' k = gl σ k) (hat : va_at (gD γ) vwCl (AD γ ad la c0 i0, CE γ ad la σ' c0 i0) H1) (oq : ∀ q : Nat, q ≠ AD γ ad la c0 i0 → H1[q]? = H[q]?) : Rep1 γ ad la σ' H1 := by
  obtain ⟨h1, h2, h3⟩ := h
  refine ⟨fun c i hc => ?_, fun c i c' i' a b => h2 c i c' i' ((hex c i).mp a) ((hex c' i').mp b), fun k hk => by rw [hl k]; exact h3 k hk⟩
  have hc' := (hex c i).mp hc
  refine ⟨?_, (h1 c i hc').2⟩
  by_cases he : c = c0 ∧ i = i0
  · obtain ⟨rfl, rfl⟩ := he
    exact hat
  · rw [hce c i hc' he]
    exact (h1 c i hc').1.kept (oq _ (fun z => he (h2 c i c0 i0 hc' hex0 z)))
theorem fv_zi {γ : GT} {ad : Nat → Nat → Nat} {σ : St} {f i f' i' : Nat} {v : Int32} (h : ¬ (f' = f ∧ i' = i)) : fv γ ad (zi σ f i v) f' i' = fv γ ad σ f' i' := by
  unfold fv; split <;> first | rfl | simp [gi, gb, gp, zi, u2, h]
theorem fv_zb {γ : GT} {ad : Nat → Nat → Nat} {σ : St} {f i f' i' : Nat} {v : Bool} (h : ¬ (f' = f ∧ i' = i)) : fv γ ad (zb σ f i v) f' i' = fv γ ad σ f' i' := by
  unfold fv; split <;> first | rfl | simp [gi, gb, gp, zb, u2, h]
theorem fv_zp {γ : GT} {ad : Nat → Nat → Nat} {σ : St} {f i f' i' : Nat} {v : Option Nat} (h : ¬ (f' = f ∧ i' = i)) : fv γ ad (zp σ f i v) f' i' = fv γ ad σ f' i' := by
  unfold fv; split <;> first | rfl | simp [gi, gb, gp, zp, u2, h]
theorem nf_le (c : Nat) : nf c ≤ 48 := by
  by_cases h : c < 9
  · revert c
    decide +kernel
  · unfold nf
    rw [List.getD_eq_getElem?_getD, List.getElem?_eq_none (by simp [tgL]; omega)]
    decide
theorem oj_get {γ : GT} {ad : Nat → Nat → Nat} {σ : St} {c i k : Nat} (hk : k < nf c) : (oj γ ad σ c i)[k]? = some (fv γ ad σ (100 * c + k) i) := by
  simp [oj, hk]
theorem oj_len {γ : GT} {ad : Nat → Nat → Nat} {σ : St} {c i : Nat} : (oj γ ad σ c i).length = nf c := by simp [oj]
/-- one field changed: the object's new list -/
theorem oj_set {γ : GT} {ad : Nat → Nat → Nat} {σ σ' : St} {c i k : Nat} {v : Value} (hv : fv γ ad σ' (100 * c + k) i = v) (ho : ∀ k', k' ≠ k → fv γ ad σ' (100 * c + k') i = fv γ ad σ (100 * c + k') i) : oj γ ad σ' c i = (oj γ ad σ c i).set k v := by
  refine List.ext_getElem? fun j => ?_
  rw [List.getElem?_set]
  by_cases hj : j < nf c
  · rw [oj_get hj, oj_get hj]
    by_cases hk : k = j
    · subst hk
      rw [if_pos rfl, oj_len, if_pos hj, hv]
    · rw [if_neg hk, ho j (Ne.symm hk)]
  · rw [List.getElem?_eq_none (by rw [oj_len]; omega), List.getElem?_eq_none (l := oj γ ad σ c i) (by rw [oj_len]; omega)]
    by_cases hk : k = j
    · subst hk
      rw [if_pos rfl, oj_len, if_neg hj]
    · rw [if_neg hk]
theorem oj_same {γ : GT} {ad : Nat → Nat → Nat} {σ σ' : St} {c i : Nat} (ho : ∀ k, k < nf c → fv γ ad σ' (100 * c + k) i = fv γ ad σ (100 * c + k) i) : oj γ ad σ' c i = oj γ ad σ c i := by
  unfold oj
  exact List.map_congr_left fun k hk => ho k (List.mem_range.mp hk)
