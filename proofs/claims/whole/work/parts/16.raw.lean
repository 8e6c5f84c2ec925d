/-! ===== raw worlds: any predicate of the heap in place of the picture ===== -/
def PR (γ : GT) (B : Heap → Prop) (U : State) : Prop := B U.heap ∧ va_K (gD γ) vwCl (tys γ) U ∧ EnvU γ U
theorem PR.calling {γ : GT} {B : Heap → Prop} {U : State} {g : JFrame} {mk : MethodId} {a : Array Value} (h : PR γ B U) : PR γ B (U.calling g mk a) :=
  ⟨h.1, va_K.moved (u := U) (U := U.calling g mk a) (Vm.Alike.refl U.vm) h.2.1, EnvU.keep (locs := []) h.2.2 va_S.rf (State.WarmedH.refl U) rfl⟩
theorem blindP {γ : GT} {B : Heap → Prop} {av : List Value} : FrameBlind (va_Pc av (PR γ B)) := fun _ _ _ _ q => ⟨q.1, q.2.calling⟩
def PI (γ : GT) (B : Heap → Prop) (r : Int32) : Array Value → State → Outcome → State → Prop := va_Qi (S := Unit) (fun x _ => x = r) (fun _ t => B t.heap) (gA γ)
def PV (γ : GT) (B : Heap → Prop) : Array Value → State → Outcome → State → Prop := va_Qv (S := Unit) (fun _ => True) (fun _ t => B t.heap) (gA γ)
def PQ (γ : GT) (B : Option Nat → Heap → Prop) : Array Value → State → Outcome → State → Prop := va_Qq (S := Option Nat) (fun x u => x = u) (fun u t => B u t.heap) (gA γ)
/-- a contract from contracts, one for each start -/
theorem Met.conv {l : Launch} {y : MethodName} {ws : List Cond} {rm : Room} {Pc : Array Value → State → Prop} {Qc : Array Value → State → Outcome → State → Prop} {mc ms : Nat} {free : Addr → Prop}
    (h : ∀ (s : State) (args : Array Value), Pc args s → ∃ (Pd : Array Value → State → Prop) (Qd : Array Value → State → Outcome → State → Prop), Met l y ws rm Pd Qd mc ms free ∧ Pd args s ∧ ∀ o t, Qd args s o t → Qc args s o t) : Met l y ws rm Pc Qc mc ms free := by
  intro p e hl hc1 hc2 s m args below hfr happ hp hk
  obtain ⟨Pd, Qd, hM, hq, hw⟩ := h s args hp
  obtain ⟨n, o, h1, h2, h3, h4, h5⟩ := hM p e hl hc1 hc2 s m args below hfr happ hq hk
  exact ⟨n, o, h1, h2, h3, hw _ _ h4, h5⟩
theorem cx_ofP {p : Program} {l : Launch} {e : Env} {s : State} {m : MethodId} {args : Array Value} {below : List Frame} {meth : Method} {c : Code} {s₁ : State} {cc : ByteArray} {nL : Nat} {own : String} {γ : GT} {B0 : Heap → Prop} {y : MethodName} {rm : Room} {ret : Option FieldType} (B : BodyLoose p l y (headSpec (Cond.code y cc nL ret :: GW) rm) cc nL ret e s m args below meth c s₁) (hml : c.maxLocals = nL) (hy : y.cls = own) (hU : PR γ B0 s) : CX γ p s m args c cc nL own := by
  refine ⟨⟨B.exec, B.bytes, hml, by rw [← hy]; exact findClass_of_methodNamed B.named, fun w hw => atoms_spec (ws := Cond.code y cc nL ret :: GW) B.pre w (List.mem_cons_of_mem _ hw)⟩, hU.2.1, hU.2.2⟩
theorem bh {B : Heap → Prop} {t : State} {H : Heap} (ht : t.heap = H) (h : B H) : B t.heap := by rw [ht]; exact h
/-- nothing but P has changed -/
def Sm (H0 H : Heap) (P : Nat → Prop) : Prop := H0.size ≤ H.size ∧ ∀ q : Nat, q < H0.size → ¬ P q → H[q]? = H0[q]?
theorem Sm.rf {H : Heap} {P : Nat → Prop} : Sm H H P := ⟨Nat.le_refl _, fun _ _ _ => rfl⟩
theorem Sm.trans {H0 H1 H2 : Heap} {P P1 P2 : Nat → Prop} (h1 : Sm H0 H1 P1) (h2 : Sm H1 H2 P2) (k1 : ∀ q, q < H0.size → P1 q → P q) (k2 : ∀ q, q < H0.size → P2 q → P q) : Sm H0 H2 P :=
  ⟨Nat.le_trans h1.1 h2.1, fun q hq hp => (h2.2 q (Nat.lt_of_lt_of_le hq h1.1) (fun z => hp (k2 q hq z))).trans (h1.2 q hq (fun z => hp (k1 q hq z)))⟩
theorem Sm.one {H0 H1 : Heap} {a : Nat} (h : ∀ q : Nat, q ≠ a → H1[q]? = H0[q]?) (hz : H0.size ≤ H1.size) : Sm H0 H1 (fun q => q = a) := ⟨hz, fun q _ hq => h q hq⟩
/-- the row of references of a list: a row of its own, or the empty one -/
def LA (γ : GT) (ar cap : Nat) (f : Nat → Option Nat) (H : Heap) : Prop := (0 < cap → va_at (gD γ) vwCl (ar, .inl (gcO γ, cap, .inr (.inr (.inr (.inr f))))) H) ∧ (cap = 0 → E0 γ ar H)
theorem LA.of {γ : GT} {ar cap : Nat} {f : Nat → Option Nat} {H : Heap} (hc : 0 < cap) (h : va_at (gD γ) vwCl (ar, .inl (gcO γ, cap, .inr (.inr (.inr (.inr f))))) H) : LA γ ar cap f H := ⟨fun _ => h, fun c => absurd hc (by omega)⟩
theorem LA.lt {γ : GT} {ar cap : Nat} {f : Nat → Option Nat} {H : Heap} (h : LA γ ar cap f H) : ar < H.size := by
  by_cases hc : cap = 0
  · exact (h.2 hc).lt
  · exact (h.1 (by omega)).lt
theorem Sm.la {H0 H1 : Heap} {P : Nat → Prop} {γ : GT} {ar cap : Nat} {f : Nat → Option Nat} (h : Sm H0 H1 P) (ha : LA γ ar cap f H0) (hp : ¬ P ar) : LA γ ar cap f H1 := ⟨fun c => (ha.1 c).kept (h.2 ar ha.lt hp), fun c => (ha.2 c).kept (h.2 ar ha.lt hp)⟩
theorem Sm.at {H0 H1 : Heap} {P : Nat → Prop} {γ : GT} {q : Nat} {x : va_E} (h : Sm H0 H1 P) (ha : va_at (gD γ) vwCl (q, x) H0) (hp : ¬ P q) : va_at (gD γ) vwCl (q, x) H1 := ha.kept (h.2 q ha.lt hp)
section HR
variable {p : Program} {l : Launch} {e : Env} {R : Room} {s : State} {m : MethodId} {args : Array Value} {below : List Frame} {meth : Method} {c : Code} {H : Heap} {locs : List Loc} {cells slots : Nat} {Q : State → Prop}
variable {pc : Nat} {ls : Array Slot} {rest : List Value} {cc : ByteArray} {γ : GT} {nL : Nat} {own : String} {lv : List (Nat × Value)}
theorem hr_get (hX : CX γ p s m args c cc nL own) {a k j index : Nat} {fs : List Value} {v : Value} {C ref : String} {T : u_T} {N : Nat} (hat : va_at (gD γ) vwCl (a, .inr (k, fs)) H) (hc : vwCl[k]? = some (C, T, N)) (hj : j < N) (hin : ∀ w ∈ u_ws C T N, w ∈ GW)
    (hw : Cond.fieldLink own index ref (T j).2.1 (T j).2.2.1 ∈ GW) (hsame : ∀ x, s.fieldFound? (T j).1 (T j).2.1 (T j).2.2.1 = some x → s.fieldFound? ref (T j).2.1 (T j).2.2.1 = some x) (hv : fs[j]? = some v) (hd : decode cc pc = .ok (.getfield index, 3)) (kk : W p l e R s m args below meth c H locs cells slots Q (F0 m (pc + 3) ls (v :: rest))) : W p l e R s m args below meth c H locs cells slots Q (F0 m pc ls (.ref a :: rest)) :=
  va_get (ci := k) (fs := fs) hX.1.1 hX.1.2.1 hX.1.2.2.2.2 hin hX.1.2.2.2.1 hX.2.1 (rs_P hat) 0 rfl hc j hj (hX.1.2.2.2.2 _ hw) hsame hv hd kk
theorem hr_put (hX : CX γ p s m args c cc nL own) (hS : va_S (gA γ) s.heap H locs) {a k j index : Nat} {fs : List Value} {v : Value} {C ref : String} {T : u_T} {N : Nat} {ty : FieldType} (hat : va_at (gD γ) vwCl (a, .inr (k, fs)) H) (hA : gA γ a) (hc : vwCl[k]? = some (C, T, N)) (hj : j < N) (hin : ∀ w ∈ u_ws C T N, w ∈ GW)
    (ty0 : Nat → FieldType) (hty : ∀ k, k < N → parseFieldDescriptor (T k).2.2.1 = some (ty0 k)) (hnm : ∀ a, a < N → ∀ b, b < N → a ≠ b → (T a).2.1 ≠ (T b).2.1) (hw : Cond.fieldLink own index ref (T j).2.1 (T j).2.2.1 ∈ GW) (hsame : ∀ x, s.fieldFound? (T j).1 (T j).2.1 (T j).2.2.1 = some x → s.fieldFound? ref (T j).2.1 (T j).2.2.1 = some x) (hfin : (T j).2.2.2 = false) (hd : parseFieldDescriptor (T j).2.2.1 = some ty) (hn : narrow ty v = v) (hfit : fits ty v = true) (hl : j < fs.length)
    (hdg : decode cc pc = .ok (.putfield index, 3)) (kk : ∀ (H1 : Heap) (locs1 : List Loc), va_at (gD γ) vwCl (a, .inr (k, fs.set j v)) H1 → Sm H H1 (fun q => q = a) → H1.size = H.size → va_S (gA γ) s.heap H1 locs1 → W p l e R s m args below meth c H1 locs1 cells slots Q (F0 m (pc + 3) ls rest)) : W p l e R s m args below meth c H locs cells slots Q (F0 m pc ls (v :: .ref a :: rest)) := by
  obtain ⟨⟨hx, hb, -, hown, hts⟩, hK, -⟩ := hX
  have hap := va_apart (own := own) hts hin ty0 hty hnm hK hc
  obtain ⟨r, h1, cell, q1, q2, q3, q4⟩ := hat
  have hr : r = (C, T, N) := Option.some.inj (h1.symm.trans hc)
  subst hr
  obtain ⟨hSl, hfc, kC, hkC, hkind⟩ := hK.1 k _ hc
  obtain ⟨cf, kf, fi, f, hi, hsl⟩ := hSl j hj
  have hlay := hts _ (hin _ (u_in_lay hj))
  unfold u_lay at hlay
  rw [if_neg (by rw [hfin]; decide)] at hlay
  have hst := (u_facts hfc hkC (u_lays hts hin hj) hi).1
  have h6 := u_store hfc hkC hkind hlay hi hd hn hfit
  refine W.putK hx hb (f := f) ⟨hown, hts _ hw, ⟨_, _, _, hsame _ hi⟩, hst⟩ (by rw [q2]; exact h6) q1 q3 (by rw [hsl]; exact k2_hasslot (q4 j hj)) rfl rfl hdg fun H' e1 e2 e3 => ?_
  rw [hsl] at e1 ⊢
  exact kk H' _ ⟨_, hc, t_OB.to (V := updV (vp_V fs) j v) ⟨_, e1, q2, q3, t_set q4 hap hj v⟩ (fun j _ => vp_updV_set hl v j)⟩ (Sm.one e3 (Nat.le_of_eq e2.symm)) e2 (hS.put e2 e3 hA)
theorem hr_putL (hX : CX γ p s m args c cc nL own) (hS : va_S (gA γ) s.heap H []) {a k j index : Nat} {fs : List Value} {v : Value} {C ref : String} {T : u_T} {N : Nat} {ty : FieldType} (hat : va_at (gD γ) vwCl (a, .inr (k, fs)) H) (hA : gA γ a) (hc : vwCl[k]? = some (C, T, N)) (hj : j < N) (hin : ∀ w ∈ u_ws C T N, w ∈ GW)
    (ty0 : Nat → FieldType) (hty : ∀ k, k < N → parseFieldDescriptor (T k).2.2.1 = some (ty0 k)) (hnm : ∀ a, a < N → ∀ b, b < N → a ≠ b → (T a).2.1 ≠ (T b).2.1) (hw : Cond.fieldLink own index ref (T j).2.1 (T j).2.2.1 ∈ GW) (hsame : ∀ x, s.fieldFound? (T j).1 (T j).2.1 (T j).2.2.1 = some x → s.fieldFound? ref (T j).2.1 (T j).2.2.1 = some x) (hfin : (T j).2.2.2 = false) (hd : parseFieldDescriptor (T j).2.2.1 = some ty) (hn : narrow ty v = v) (hfit : fits ty v = true) (hl : j < fs.length)
    (hdg : decode cc pc = .ok (.putfield index, 3)) (kk : ∀ (H1 : Heap) (locs1 : List Loc), va_at (gD γ) vwCl (a, .inr (k, fs.set j v)) H1 → Sm H H1 (fun q => q = a) → H1.size = H.size → va_S (gA γ) s.heap H1 locs1 → (∀ z ∈ locs1, z.base = a) → W p l e R s m args below meth c H1 locs1 cells slots Q (F0 m (pc + 3) ls rest)) : W p l e R s m args below meth c H [] cells slots Q (F0 m pc ls (v :: .ref a :: rest)) := by
  obtain ⟨⟨hx, hb, -, hown, hts⟩, hK, -⟩ := hX
  have hap := va_apart (own := own) hts hin ty0 hty hnm hK hc
  obtain ⟨r, h1, cell, q1, q2, q3, q4⟩ := hat
  have hr : r = (C, T, N) := Option.some.inj (h1.symm.trans hc)
  subst hr
  obtain ⟨hSl, hfc, kC, hkC, hkind⟩ := hK.1 k _ hc
  obtain ⟨cf, kf, fi, f, hi, hsl⟩ := hSl j hj
  have hlay := hts _ (hin _ (u_in_lay hj))
  unfold u_lay at hlay
  rw [if_neg (by rw [hfin]; decide)] at hlay
  have hst := (u_facts hfc hkC (u_lays hts hin hj) hi).1
  have h6 := u_store hfc hkC hkind hlay hi hd hn hfit
  refine W.putK hx hb (f := f) ⟨hown, hts _ hw, ⟨_, _, _, hsame _ hi⟩, hst⟩ (by rw [q2]; exact h6) q1 q3 (by rw [hsl]; exact k2_hasslot (q4 j hj)) rfl rfl hdg fun H' e1 e2 e3 => ?_
  rw [hsl] at e1 ⊢
  exact kk H' _ ⟨_, hc, t_OB.to (V := updV (vp_V fs) j v) ⟨_, e1, q2, q3, t_set q4 hap hj v⟩ (fun j _ => vp_updV_set hl v j)⟩ (Sm.one e3 (Nat.le_of_eq e2.symm)) e2 (hS.put e2 e3 hA) (fun z hz => by
    have hz1 := List.mem_append.mp hz
    rcases hz1 with hz1 | hz1
    · cases hz1
    · rw [List.mem_singleton.mp hz1])
theorem hr_aald (hX : CX γ p s m args c cc nL own) {a n : Nat} {f : Nat → Option Nat} {i : Int32} {v : Option Nat} (hat : va_at (gD γ) vwCl (a, .inl (gcO γ, n, .inr (.inr (.inr (.inr f))))) H) (hin : vp_in i n) (hv : f i.toNatClampNeg = v) (hd : decode cc pc = .ok (.aaload, 1)) (kk : W p l e R s m args below meth c H locs cells slots Q (F0 m (pc + 1) ls (va_rf v :: rest))) : W p l e R s m args below meth c H locs cells slots Q (F0 m pc ls (.int i :: .ref a :: rest)) := by
  subst hv
  exact va_aldq hX.1.1 hX.1.2.1 hX.2.1 (rs_P hat) 0 3 rfl rfl hin hd kk
theorem hr_alen (hX : CX γ p s m args c cc nL own) {a n : Nat} {f : Nat → Option Nat} {v : Int32} (hat : va_at (gD γ) vwCl (a, .inl (gcO γ, n, .inr (.inr (.inr (.inr f))))) H) (hv : Int32.ofNat n = v) (hd : decode cc pc = .ok (.arraylength, 1)) (kk : W p l e R s m args below meth c H locs cells slots Q (F0 m (pc + 1) ls (.int v :: rest))) : W p l e R s m args below meth c H locs cells slots Q (F0 m pc ls (.ref a :: rest)) :=
  va_alen hX.1.1 hX.1.2.1 hX.2.1 (rs_P hat) 0 3 rfl rfl hv hd kk
theorem hr_alenL (hX : CX γ p s m args c cc nL own) {a n : Nat} {f : Nat → Option Nat} {v : Int32} (hat : LA γ a n f H) (hv : Int32.ofNat n = v) (hd : decode cc pc = .ok (.arraylength, 1)) (kk : W p l e R s m args below meth c H locs cells slots Q (F0 m (pc + 1) ls (.int v :: rest))) : W p l e R s m args below meth c H locs cells slots Q (F0 m pc ls (.ref a :: rest)) := by
  by_cases hc : n = 0
  · obtain ⟨cell, h1, h2, h3, h4, h5⟩ := hat.2 hc
    have hA := ((hX.2.1.2 3 _ rfl).1 0 (fun _ => .null)).2
    refine W.alen (n := v) hX.1.1 hX.1.2.1 h1 ⟨h4, by rw [h2]; exact hA⟩ (h3.trans (by rw [← hv, hc]; rfl)) rfl rfl hd kk
  · exact hr_alen hX (hat.1 (by omega)) hv hd kk
theorem hr_aast (hX : CX γ p s m args c cc nL own) (hS : va_S (gA γ) s.heap H locs) {a n v ci : Nat} {f : Nat → Option Nat} {vs : List Value} {r : vw_C} {i : Int32} (hat : va_at (gD γ) vwCl (a, .inl (gcO γ, n, .inr (.inr (.inr (.inr f))))) H) (hA : gA γ a) (hv : va_at (gD γ) vwCl (v, .inr (ci, vs)) H) (hc : vwCl[ci]? = some r) (hca : Cond.castable r.1 "java/lang/Object" ∈ NW) (hin : vp_in i n) (hd : decode cc pc = .ok (.aastore, 1))
    (kk : ∀ (H1 : Heap) (locs1 : List Loc), va_at (gD γ) vwCl (a, .inl (gcO γ, n, .inr (.inr (.inr (.inr (va_up f i.toNatClampNeg (some v))))))) H1 → Sm H H1 (fun q => q = a) → H1.size = H.size → va_S (gA γ) s.heap H1 locs1 → W p l e R s m args below meth c H1 locs1 cells slots Q (F0 m (pc + 1) ls rest)) : W p l e R s m args below meth c H locs cells slots Q (F0 m pc ls (.ref v :: .int i :: .ref a :: rest)) := by
  have hlt : i.toNatClampNeg < n := Nat.not_le.mp fun q => hin (Or.inr q)
  have h0 : ¬ i < 0 := fun q => hin (Or.inl q)
  obtain ⟨r', hr', cellV, g1, g2, g3, -⟩ := hv
  have hcls := (hX.2.1.1 ci r hc).2
  obtain ⟨kA, comp, k1, k2, k3, -⟩ := (hX.2.1.2 3 (gcO γ, .object "java/lang/Object") rfl).2
  obtain ⟨kE, hkE, -⟩ := Vm.findClass_spec k3
  obtain ⟨c0, t1, f1, f2, f3⟩ := Cond.castable_spec (va_Nw.use (A := args) rfl (hX.2.2.1 _ hca))
  cases hcls.1.symm.trans f1
  cases k3.symm.trans f2
  obtain ⟨kC, hkC, -⟩ := hcls.2
  refine W.aast hX.1.1 hX.1.2.1 hat (fun q h => by cases h) (fun h => by cases h) k1 k2 rfl hkE ⟨h0, by show _ < (arrV _ _ _).slots.size; rw [arrV_size]; exact hlt⟩ g1 (fun q h => by rw [g3] at h; cases h) (by rw [g2]; exact hkC) (by rw [g2]; exact f3) rfl rfl hd fun H1 e z oq => ?_
  refine kk H1 _ ?_ (Sm.one oq (Nat.le_of_eq z.symm)) z (hS.put z oq hA)
  show H1[a]? = some (vp_cell _ _)
  rw [e]
  rw [vp_cell_q, vp_cell_q, arrV_store]
  congr 2
  funext q
  by_cases hq : q = i.toNatClampNeg
  · subst hq
    simp [updV, va_up, va_rf]
  · simp [updV, va_up, hq]
theorem hr_aastN (hX : CX γ p s m args c cc nL own) (hS : va_S (gA γ) s.heap H locs) {a n : Nat} {f : Nat → Option Nat} {i : Int32} (hat : va_at (gD γ) vwCl (a, .inl (gcO γ, n, .inr (.inr (.inr (.inr f))))) H) (hA : gA γ a) (hin : vp_in i n) (hd : decode cc pc = .ok (.aastore, 1))
    (kk : ∀ (H1 : Heap) (locs1 : List Loc), va_at (gD γ) vwCl (a, .inl (gcO γ, n, .inr (.inr (.inr (.inr (va_up f i.toNatClampNeg none)))))) H1 → Sm H H1 (fun q => q = a) → H1.size = H.size → va_S (gA γ) s.heap H1 locs1 → W p l e R s m args below meth c H1 locs1 cells slots Q (F0 m (pc + 1) ls rest)) : W p l e R s m args below meth c H locs cells slots Q (F0 m pc ls (.null :: .int i :: .ref a :: rest)) := by
  refine va_WaastN (C := "java/lang/Object") hX.1.1 hX.1.2.1 hat ((hX.2.1.2 3 (gcO γ, .object "java/lang/Object") rfl).1 n (fun j => va_rf (f j))) (fun h => by cases h) (by show ¬ (i < 0 ∨ (arrV _ _ _).slots.size ≤ _); rw [arrV_size]; exact hin) rfl rfl hd fun H1 e z oq => ?_
  refine kk H1 _ ?_ (Sm.one oq (Nat.le_of_eq z.symm)) z (hS.put z oq hA)
  show H1[a]? = some (vp_cell _ _)
  rw [e]
  rw [vp_cell_q, vp_cell_q, arrV_store]
  congr 2
  funext q
  by_cases hq : q = i.toNatClampNeg
  · subst hq
    simp [updV, va_up, va_rf]
  · simp [updV, va_up, hq]
theorem hr_newq (hX : CX γ p s m args c cc nL own) (hS : va_S (gA γ) s.heap H locs) {index N' : Nat} {n : Int32} (hclink : Cond.classLink own index "java/lang/Object" ∈ GW) (hn : ¬ n < 0) (hN : n.toNatClampNeg = N') (hsm : N' ≤ 1000) (hf : cells + 1 ≤ R.cells ∧ slots + N' ≤ R.slots) (hd : decode cc pc = .ok (.anewarray index, 3))
    (kk : ∀ (H1 : Heap), va_at (gD γ) vwCl (H.size, .inl (gcO γ, N', .inr (.inr (.inr (.inr fun _ => none))))) H1 → Sm H H1 (fun _ => False) → H1.size = H.size + 1 → va_S (gA γ) s.heap H1 locs → W p l e R s m args below meth c H1 locs (cells + 1) (slots + N') Q (F0 m (pc + 3) ls (.ref H.size :: rest))) : W p l e R s m args below meth c H locs cells slots Q (F0 m pc ls (.int n :: rest)) := by
  subst hN
  refine W.anew hX.1.1 hX.1.2.1 hX.1.2.2.2.1 (hX.1.2.2.2.2 _ hclink) (va_AO.use hX.2.2.2.2.2.1.1) rfl hd rfl hn (by omega) hf.1 hf.2 fun cA kA comp f1 f2 f3 f4 => ?_
  obtain ⟨kB, comp2, g1, g2, g3, g4⟩ := (hX.2.1.2 3 (gcO γ, .object "java/lang/Object") rfl).2
  have hcA : cA = gcO γ := Option.some.inj (f1.symm.trans g4)
  generalize hH1 : H.push ({ cls := cA, slots := Array.replicate n.toNatClampNeg .null, vm := .none } : Cell) = H1
  have z1 : H1.size = H.size + 1 := by rw [← hH1, Array.size_push]
  have e1 : H1[H.size]? = some (arrV cA n.toNatClampNeg (fun _ => .null)) := by rw [← hH1, Array.getElem?_push_size, ← arrV_new]
  have o1 : ∀ q : Nat, q < H.size → H1[q]? = H[q]? := fun q hq => by rw [← hH1, Array.getElem?_push, if_neg (Nat.ne_of_lt hq)]
  refine kk H1 ?_ ⟨by omega, fun q hq _ => o1 q hq⟩ z1 ⟨Nat.le_trans hS.1 (by omega), fun x h1 h2 => (o1 x (Nat.lt_of_lt_of_le h1 hS.1)).trans (hS.2.1 x h1 h2), hS.2.2⟩
  show H1[H.size]? = some (vp_cell _ _)
  rw [vp_cell_q, ← hcA]
  exact e1
/-- System.arraycopy; a second cell x that the method has written to before -/
theorem hr_copy (hX : CX γ p s m args c cc nL own) (hS : va_S (gA γ) s.heap H locs) (hl : lh ls nL lv) {a a0 index n0 n1 b : Nat} {f g : Nat → Option Nat} {x : va_E} (hw1 : Cond.methodLink own index arraycopyName ∈ GW) (hw2 : Cond.native arraycopyName ∈ GW) (hw3 : Cond.static arraycopyName ∈ GW) (hw4 : Cond.initialized "java/lang/System" ∈ GW)
    (ha0 : va_at (gD γ) vwCl (a0, .inl (gcO γ, n0, .inr (.inr (.inr (.inr f))))) H) (ha1 : va_at (gD γ) vwCl (a, .inl (gcO γ, n1, .inr (.inr (.inr (.inr g))))) H) (hA : gA γ a) (hb : va_at (gD γ) vwCl (b, x) H) (hba : b ≠ a) (hlocs : ∀ z ∈ locs, z.base = b)
    {sp dp n : Int32} (h1 : ¬ sp < 0) (h2 : ¬ dp < 0) (h3 : ¬ n < 0) (h4 : sp.toNatClampNeg + n.toNatClampNeg ≤ n0) (h5 : dp.toNatClampNeg + n.toNatClampNeg ≤ n1) (hel : ∀ i : Nat, i < n.toNatClampNeg → ∀ y : Nat, f (sp.toNatClampNeg + i) = some y → va_Any "java/lang/Object" s H y)
    (hframes : 1 ≤ R.frames) (hlocals : (rest.map fun v => v.category).sum + (nativeFrameWords "java/lang/System" "arraycopy" 5 + 11) ≤ R.locals) (hd : decode cc pc = .ok (.invokestatic index, 3))
    (kk : ∀ (H1 : Heap) (locs1 : List Loc), va_at (gD γ) vwCl (a, .inl (gcO γ, n1, .inr (.inr (.inr (.inr (va_cpy f g sp.toNatClampNeg dp.toNatClampNeg n.toNatClampNeg)))))) H1 → va_at (gD γ) vwCl (b, x) H1 → Sm H H1 (fun q => q = a ∨ q = b) → H.size = H1.size → va_S (gA γ) s.heap H1 locs1 → W p l e R s m args below meth c H1 locs1 cells slots Q (F0 m (pc + 3) ls rest)) : W p l e R s m args below meth c H locs cells slots Q (F0 m pc ls (.int n :: .int dp :: .ref a :: .int sp :: .ref a0 :: rest)) := by
  have nn : ∀ z : Int32, ¬ z < 0 → z.toInt = (z.toNatClampNeg : Int) := by
    intro z hz
    have hz0 : (0 : Int) ≤ z.toInt := by
      have := Int32.not_lt.mp hz
      simpa using Int32.le_iff_toInt_le.mp this
    show z.toInt = ((z.toInt.toNat : Nat) : Int)
    omega
  intro T hT X
  have hc0 : H[a0]? = some (vp_cell (gcO γ) (n0, .inr (.inr (.inr (.inr f))))) := ha0
  have hc1 : H[a]? = some (vp_cell (gcO γ) (n1, .inr (.inr (.inr (.inr g))))) := ha1
  obtain ⟨-, k0, hk0, cm0, hkk0⟩ := (hX.2.1.2 3 (gcO γ, .object "java/lang/Object") rfl).1 n0 (fun j => va_rf (f j))
  obtain ⟨-, k1, hk1, cm1, hkk1⟩ := (hX.2.1.2 3 (gcO γ, .object "java/lang/Object") rfl).1 n1 (fun j => va_rf (g j))
  obtain ⟨vm', X', step⟩ := X.arraycopy hX.1.1 hX.1.2.2.2.1 (hX.1.2.2.2.2 _ hw1) (hX.1.2.2.2.2 _ hw2) (hX.1.2.2.2.2 _ hw3) (hX.1.2.2.2.2 _ hw4) (src := a0) (dst := a) (cs := vp_cell (gcO γ) (n0, .inr (.inr (.inr (.inr f))))) (cd := vp_cell (gcO γ) (n1, .inr (.inr (.inr (.inr g))))) (srcPos := sp) (destPos := dp) (n := n) (by rw [hT]; exact hc0) (by rw [hT]; exact hc1)
    (fun _ h => by cases h) (fun _ h => by cases h) (fun h => by cases h) (fun h => by cases h) hk0 hk1 hkk0 hkk1 rfl h1 h2 h3
    (by rw [nn sp h1, nn n h3]; show ¬ _ > ((arrV (gcO γ) n0 (fun j => va_rf (f j))).slots.size : Int); rw [arrV_size]; omega)
    (by rw [nn dp h2, nn n h3]; show ¬ _ > ((arrV (gcO γ) n1 (fun j => va_rf (g j))).slots.size : Int); rw [arrV_size]; omega)
    (fun vm₁ hal i hi => by
      have e : (vp_cell (gcO γ) (n0, .inr (.inr (.inr (.inr f))))).slots.getD (sp.toNatClampNeg + i) .null = va_rf (f (sp.toNatClampNeg + i)) := by
        show (arrV (gcO γ) n0 (fun j => va_rf (f j))).slots.getD _ _ = _
        rw [Array.getD_eq_getD_getElem?, arrV_read _ _ (by omega)]
        rfl
      rw [e]
      cases hy : f (sp.toNatClampNeg + i) with
      | none => exact ⟨rfl, trivial⟩
      | some y =>
        obtain ⟨cellV, g1, g2, ⟨kC, hkC⟩, hasg⟩ := hel i hi y hy
        obtain ⟨kA, comp, r1, r2, r3, -⟩ := (hX.2.1.2 3 (gcO γ, .object "java/lang/Object") rfl).2
        cases hk1.symm.trans r1
        cases hkk1.symm.trans r2
        obtain ⟨kE, hkE, -⟩ := Vm.findClass_spec r3
        obtain ⟨kC', hkC', -⟩ := hal.2.2 _ _ hkC
        obtain ⟨kE', hkE', -⟩ := hal.2.2 _ _ hkE
        refine ⟨rfl, cellV, (show T.heap[y]? = some cellV by rw [hT]; exact g1), (fun q h => by rw [h] at g2; cases g2), ⟨kC', hkC'⟩, ?_, ?_⟩
        · exact ⟨kE', hkE'⟩
        · show vm₁.assignable _ _ = true
          rw [hal.assignable]
          exact hasg _ r3)
    (g := F0 m pc ls (.int n :: .int dp :: .ref a :: .int sp :: .ref a0 :: rest)) rfl (hl.1.1.trans hX.1.2.2.1.symm) (rest := rest) rfl (by rw [hX.1.2.1]; exact hd) hframes (by show 2 * 0 + _ + _ ≤ _; omega)
  have e1 : copied (vp_cell (gcO γ) (n0, .inr (.inr (.inr (.inr f))))) (vp_cell (gcO γ) (n1, .inr (.inr (.inr (.inr g))))) sp dp n = vp_cell (gcO γ) (n1, .inr (.inr (.inr (.inr (va_cpy f g sp.toNatClampNeg dp.toNatClampNeg n.toNatClampNeg))))) := by
    rw [vp_cell_q, vp_cell_q, vp_cell_q]
    exact va_copied (fun z => va_rf z) (gcO γ) (gcO γ) f g h4
  rw [e1] at X' step
  have hlt : a < H.size := (Array.getElem?_eq_some_iff.mp hc1).1
  generalize hH1 : H.setIfInBounds a (vp_cell (gcO γ) (n1, .inr (.inr (.inr (.inr (va_cpy f g sp.toNatClampNeg dp.toNatClampNeg n.toNatClampNeg)))))) = H1
  have hheap : ((T.setVm vm').setCell a (vp_cell (gcO γ) (n1, .inr (.inr (.inr (.inr (va_cpy f g sp.toNatClampNeg dp.toNatClampNeg n.toNatClampNeg))))))).heap = H1 := by rw [← hH1, ← hT]; rfl
  have hz : H1.size = H.size := by rw [← hH1]; simp
  have oq : ∀ q : Nat, q ≠ a → H1[q]? = H[q]? := fun q hq => by rw [← hH1]; simp [Array.getElem?_setIfInBounds, Ne.symm hq]
  have hself : H1[a]? = some (vp_cell (gcO γ) (n1, .inr (.inr (.inr (.inr (va_cpy f g sp.toNatClampNeg dp.toNatClampNeg n.toNatClampNeg)))))) := by rw [← hH1]; simp [Array.getElem?_setIfInBounds, hlt]
  obtain ⟨t, a1, b1⟩ := kk H1 _ hself (hb.kept (oq b hba)) ⟨Nat.le_of_eq hz.symm, fun q _ hq => oq q (fun e => hq (Or.inl e))⟩ hz.symm ⟨by rw [hz]; exact hS.1, fun q g1 g2 => by
      rw [oq q (fun e => g2 (by rw [e]; exact hA))]
      exact hS.2.1 q g1 g2, fun q hq => by
      rcases List.mem_append.mp hq with h | h
      · exact hS.2.2 q h
      · obtain ⟨z, -, hz⟩ := List.mem_map.mp h
        rw [← hz]
        exact hA⟩ _ hheap X'
  exact ⟨t, step t a1, b1⟩
/-! ends -/
theorem he_i {B : Heap → Prop} (hX : CX γ p s m args c cc nL own) (hS : va_S (gA γ) s.heap H locs) (hr : meth.sig.returnType = some .int) {v : Int32} (hB : B H) (hd : decode cc pc = .ok (.ireturn, 1)) (hlocks : meth.locks = false) : W p l e R s m args below meth c H locs cells slots (MQ below (PI γ B v) args s cells slots (gA γ)) (F0 m pc ls [.int v]) :=
  W.iret hX.1.1 hX.1.2.1 hr (fun _ ht _ => ⟨⟨v, (), rfl, rfl, bh ht hB⟩, hS.F ht⟩) hS.2.2 hd hlocks
theorem he_z {B : Heap → Prop} (hX : CX γ p s m args c cc nL own) (hS : va_S (gA γ) s.heap H locs) (hr : meth.sig.returnType = some .boolean) (hB : B H) (hd : decode cc pc = .ok (.ireturn, 1)) (hlocks : meth.locks = false) : W p l e R s m args below meth c H locs cells slots (MQ below (PI γ B 1) args s cells slots (gA γ)) (F0 m pc ls [.int 1]) :=
  W.zret hX.1.1 hX.1.2.1 hr (b2i_nar true) (fun _ ht _ => ⟨⟨1, (), rfl, rfl, bh ht hB⟩, hS.F ht⟩) hS.2.2 hd hlocks
theorem he_v {B : Heap → Prop} (hX : CX γ p s m args c cc nL own) (hS : va_S (gA γ) s.heap H locs) (hr : meth.sig.returnType = none) (hB : B H) (hd : decode cc pc = .ok (.return_, 1)) (hlocks : meth.locks = false) : W p l e R s m args below meth c H locs cells slots (MQ below (PV γ B) args s cells slots (gA γ)) (F0 m pc ls []) :=
  W.vret hX.1.1 hX.1.2.1 hr (fun _ ht _ => ⟨⟨(), rfl, trivial, bh ht hB⟩, hS.F ht⟩) hS.2.2 hd hlocks
theorem he_q {B : Option Nat → Heap → Prop} (hX : CX γ p s m args c cc nL own) (hS : va_S (gA γ) s.heap H locs) {rt : FieldType} (hr : meth.sig.returnType = some rt) (hrt : (∃ n, rt = .object n) ∨ ∃ t, rt = .array t) {v : Option Nat} {x : Value} (hx : x = va_rf v) (hB : B v H) (hd : decode cc pc = .ok (.areturn, 1)) (hlocks : meth.locks = false) : W p l e R s m args below meth c H locs cells slots (MQ below (PQ γ B) args s cells slots (gA γ)) (F0 m pc ls [x]) := by
  subst hx
  exact W.aret hX.1.1 hX.1.2.1 hr hrt (va_rf_or v) (fun _ ht _ => ⟨⟨v, v, rfl, rfl, bh (B := B v) ht hB⟩, hS.F ht⟩) hS.2.2 hd hlocks
/-! calls -/
variable {y : MethodName} {bytes : ByteArray} {maxL mc ms n index : Nat} {ret : Option FieldType} {rm : Room} {C : String} {b : Addr} {As : List Value} {st0 : List Value}
theorem hw_pre (hX : CX γ p s m args c cc nL own) (hS : va_S (gA γ) s.heap H locs) {av : List Value} : ∀ U : State, U.heap = H → s.WarmedH U.vm → va_Pc av (PR γ (fun h => h = H)) av.toArray U := fun U hU hW => ⟨rfl, hU, va_K.moved hW.alike hX.2.1, hX.2.2.keep hS hW hU⟩
theorem hc_Vi (hX : CX γ p s m args c cc nL own) (hS : va_S (gA γ) s.heap H locs) (pk : PKV y bytes maxL ret n) (hrm : rm.cells = mc ∧ rm.slots = ms ∧ rm.frames + 1 ≤ R.frames ∧ 8 + (maxL + 11) + rm.locals ≤ R.locals) (hst : st0 = (As.reverse ++ .ref b :: rest)) {B : Heap → Prop} {r : Int32} (hM : Met l y (Cond.code y bytes maxL ret :: GW) rm (va_Pc (.ref b :: As) (PR γ (fun h => h = H))) (PI γ B r) mc ms (gA γ))
    (wl : Cond.methodLink own index y ∈ GW) (wi : Cond.instanceMethod y ∈ GW) (wsel : Cond.selects C y y ∈ GW) (hrecv : ∃ cell : Cell, H[b]? = some cell ∧ cell.vm.isStatics = false ∧ s.vm.findClass C = some cell.cls) (hn : As.length = n) (hls : lh ls nL lv) (hcat : ∀ v ∈ rest, v.category = 1) (hl8 : rest.length ≤ 8) (hd : decode cc pc = .ok (.invokevirtual index, 3)) (hf : cells + mc ≤ R.cells ∧ slots + ms ≤ R.slots)
    (kk : ∀ (H1 : Heap) (locs1 : List Loc), B H1 → va_S (gA γ) s.heap H1 locs1 → W p l e R s m args below meth c H1 locs1 (cells + mc) (slots + ms) Q (F0 m (pc + 3) ls (.int r :: rest))) : W p l e R s m args below meth c H locs cells slots Q (F0 m pc ls st0) := by
  subst hst
  exact va_calli (va_runV hX.1 hM ⟨rw_B hX pk hrm wl, hX.1.2.2.2.2 _ wi, hX.1.2.2.2.2 _ wsel⟩ ⟨blindP, hrecv, hw_pre hX hS⟩ rfl hn hls.1.1 rfl (lv_room (cats_le hcat hl8)) hd hf) hS (fun _ _ h => h) (fun _ h => h) fun x _ t H1 locs1 ht _ hp hB _ _ hS => by subst hp; exact kk H1 locs1 (by rw [← ht]; exact hB) hS
theorem hc_Vv (hX : CX γ p s m args c cc nL own) (hS : va_S (gA γ) s.heap H locs) (pk : PKV y bytes maxL ret n) (hrm : rm.cells = mc ∧ rm.slots = ms ∧ rm.frames + 1 ≤ R.frames ∧ 8 + (maxL + 11) + rm.locals ≤ R.locals) (hst : st0 = (As.reverse ++ .ref b :: rest)) {B : Heap → Prop} (hM : Met l y (Cond.code y bytes maxL ret :: GW) rm (va_Pc (.ref b :: As) (PR γ (fun h => h = H))) (PV γ B) mc ms (gA γ))
    (wl : Cond.methodLink own index y ∈ GW) (wi : Cond.instanceMethod y ∈ GW) (wsel : Cond.selects C y y ∈ GW) (hrecv : ∃ cell : Cell, H[b]? = some cell ∧ cell.vm.isStatics = false ∧ s.vm.findClass C = some cell.cls) (hn : As.length = n) (hls : lh ls nL lv) (hcat : ∀ v ∈ rest, v.category = 1) (hl8 : rest.length ≤ 8) (hd : decode cc pc = .ok (.invokevirtual index, 3)) (hf : cells + mc ≤ R.cells ∧ slots + ms ≤ R.slots)
    (kk : ∀ (H1 : Heap) (locs1 : List Loc), B H1 → va_S (gA γ) s.heap H1 locs1 → W p l e R s m args below meth c H1 locs1 (cells + mc) (slots + ms) Q (F0 m (pc + 3) ls rest)) : W p l e R s m args below meth c H locs cells slots Q (F0 m pc ls st0) := by
  subst hst
  exact va_callv (va_runV hX.1 hM ⟨rw_B hX pk hrm wl, hX.1.2.2.2.2 _ wi, hX.1.2.2.2.2 _ wsel⟩ ⟨blindP, hrecv, hw_pre hX hS⟩ rfl hn hls.1.1 rfl (lv_room (cats_le hcat hl8)) hd hf) hS (fun _ _ h => h) (fun _ h => h) fun _ t H1 locs1 ht _ _ hB _ _ hS => kk H1 locs1 (by rw [← ht]; exact hB) hS
theorem hc_Vq (hX : CX γ p s m args c cc nL own) (hS : va_S (gA γ) s.heap H locs) (pk : PKV y bytes maxL ret n) (hrm : rm.cells = mc ∧ rm.slots = ms ∧ rm.frames + 1 ≤ R.frames ∧ 8 + (maxL + 11) + rm.locals ≤ R.locals) (hst : st0 = (As.reverse ++ .ref b :: rest)) {B : Option Nat → Heap → Prop} (hM : Met l y (Cond.code y bytes maxL ret :: GW) rm (va_Pc (.ref b :: As) (PR γ (fun h => h = H))) (PQ γ B) mc ms (gA γ))
    (wl : Cond.methodLink own index y ∈ GW) (wi : Cond.instanceMethod y ∈ GW) (wsel : Cond.selects C y y ∈ GW) (hrecv : ∃ cell : Cell, H[b]? = some cell ∧ cell.vm.isStatics = false ∧ s.vm.findClass C = some cell.cls) (hn : As.length = n) (hls : lh ls nL lv) (hcat : ∀ v ∈ rest, v.category = 1) (hl8 : rest.length ≤ 8) (hd : decode cc pc = .ok (.invokevirtual index, 3)) (hf : cells + mc ≤ R.cells ∧ slots + ms ≤ R.slots)
    (kk : ∀ (r : Option Nat) (H1 : Heap) (locs1 : List Loc), B r H1 → va_S (gA γ) s.heap H1 locs1 → W p l e R s m args below meth c H1 locs1 (cells + mc) (slots + ms) Q (F0 m (pc + 3) ls (va_rf r :: rest))) : W p l e R s m args below meth c H locs cells slots Q (F0 m pc ls st0) := by
  subst hst
  exact va_callq (va_runV hX.1 hM ⟨rw_B hX pk hrm wl, hX.1.2.2.2.2 _ wi, hX.1.2.2.2.2 _ wsel⟩ ⟨blindP, hrecv, hw_pre hX hS⟩ rfl hn hls.1.1 rfl (lv_room (cats_le hcat hl8)) hd hf) hS (fun _ _ h => h) (fun _ h => h) fun x _ t H1 locs1 ht _ hp hB _ _ hS => by subst hp; exact kk _ H1 locs1 (by rw [← ht]; exact hB) hS
theorem hc_Si (hX : CX γ p s m args c cc nL own) (hS : va_S (gA γ) s.heap H locs) (pk : PKV y bytes maxL ret n) (hrm : rm.cells = mc ∧ rm.slots = ms ∧ rm.frames + 1 ≤ R.frames ∧ 8 + (maxL + 11) + rm.locals ≤ R.locals) (hst : st0 = (As.reverse ++ rest)) {B : Heap → Prop} {r : Int32} (hM : Met l y (Cond.code y bytes maxL ret :: GW) rm (va_Pc As (PR γ (fun h => h = H))) (PI γ B r) mc ms (gA γ))
    (wl : Cond.methodLink own index y ∈ GW) (ws : Cond.static y ∈ GW) (hn : As.length = n) (hls : lh ls nL lv) (hcat : ∀ v ∈ rest, v.category = 1) (hl8 : rest.length ≤ 8) (hd : decode cc pc = .ok (.invokestatic index, 3)) (hf : cells + mc ≤ R.cells ∧ slots + ms ≤ R.slots)
    (kk : ∀ (H1 : Heap) (locs1 : List Loc), B H1 → va_S (gA γ) s.heap H1 locs1 → W p l e R s m args below meth c H1 locs1 (cells + mc) (slots + ms) Q (F0 m (pc + 3) ls (.int r :: rest))) : W p l e R s m args below meth c H locs cells slots Q (F0 m pc ls st0) := by
  subst hst
  exact va_calli (va_runS hX.1 hM ⟨rw_B hX pk hrm wl, hX.1.2.2.2.2 _ ws⟩ ⟨blindP, hw_pre hX hS⟩ rfl hn hls.1.1 rfl (lv_room (cats_le hcat hl8)) hd hf) hS (fun _ _ h => h) (fun _ h => h) fun x _ t H1 locs1 ht _ hp hB _ _ hS => by subst hp; exact kk H1 locs1 (by rw [← ht]; exact hB) hS
theorem hc_Sq (hX : CX γ p s m args c cc nL own) (hS : va_S (gA γ) s.heap H locs) (pk : PKV y bytes maxL ret n) (hrm : rm.cells = mc ∧ rm.slots = ms ∧ rm.frames + 1 ≤ R.frames ∧ 8 + (maxL + 11) + rm.locals ≤ R.locals) (hst : st0 = (As.reverse ++ rest)) {B : Option Nat → Heap → Prop} (hM : Met l y (Cond.code y bytes maxL ret :: GW) rm (va_Pc As (PR γ (fun h => h = H))) (PQ γ B) mc ms (gA γ))
    (wl : Cond.methodLink own index y ∈ GW) (ws : Cond.static y ∈ GW) (hn : As.length = n) (hls : lh ls nL lv) (hcat : ∀ v ∈ rest, v.category = 1) (hl8 : rest.length ≤ 8) (hd : decode cc pc = .ok (.invokestatic index, 3)) (hf : cells + mc ≤ R.cells ∧ slots + ms ≤ R.slots)
    (kk : ∀ (r : Option Nat) (H1 : Heap) (locs1 : List Loc), B r H1 → va_S (gA γ) s.heap H1 locs1 → W p l e R s m args below meth c H1 locs1 (cells + mc) (slots + ms) Q (F0 m (pc + 3) ls (va_rf r :: rest))) : W p l e R s m args below meth c H locs cells slots Q (F0 m pc ls st0) := by
  subst hst
  exact va_callq (va_runS hX.1 hM ⟨rw_B hX pk hrm wl, hX.1.2.2.2.2 _ ws⟩ ⟨blindP, hw_pre hX hS⟩ rfl hn hls.1.1 rfl (lv_room (cats_le hcat hl8)) hd hf) hS (fun _ _ h => h) (fun _ h => h) fun x _ t H1 locs1 ht _ hp hB _ _ hS => by subst hp; exact kk _ H1 locs1 (by rw [← ht]; exact hB) hS
theorem hc_I (hX : CX γ p s m args c cc nL own) (hS : va_S (gA γ) s.heap H locs) (pk : PKV y bytes maxL none n) (hrm : rm.cells = mc ∧ rm.slots = ms ∧ rm.frames + 1 ≤ R.frames ∧ 8 + (maxL + 11) + rm.locals ≤ R.locals) (hst : st0 = (As.reverse ++ .ref b :: rest)) {B : Heap → Prop} (hM : Met l y (Cond.code y bytes maxL none :: GW) rm (va_Pc (.ref b :: As) (PR γ (fun h => h = H))) (PV γ B) mc ms (gA γ))
    (wl : Cond.methodLink own index y ∈ GW) (wi : Cond.instanceMethod y ∈ GW) (hy1 : y.name = "<init>") (hn : As.length = n) (hls : lh ls nL lv) (hcat : ∀ v ∈ rest, v.category = 1) (hl8 : rest.length ≤ 8) (hd : decode cc pc = .ok (.invokespecial index, 3)) (hf : cells + mc ≤ R.cells ∧ slots + ms ≤ R.slots)
    (kk : ∀ (H1 : Heap) (locs1 : List Loc), B H1 → va_S (gA γ) s.heap H1 locs1 → W p l e R s m args below meth c H1 locs1 (cells + mc) (slots + ms) Q (F0 m (pc + 3) ls rest)) : W p l e R s m args below meth c H locs cells slots Q (F0 m pc ls st0) := by
  subst hst
  exact va_callv (va_runI hX.1 hM ⟨rw_B hX pk hrm wl, hy1, hX.1.2.2.2.2 _ wi⟩ ⟨blindP, hw_pre hX hS⟩ rfl hn hls.1.1 rfl (lv_room (cats_le hcat hl8)) hd hf) hS (fun _ _ h => h) (fun _ h => h) fun _ t H1 locs1 ht _ _ hB _ _ hS => kk H1 locs1 (by rw [← ht]; exact hB) hS
end HR
