/-! ===== rows of raw worlds: new objects and arrays, final fields, worlds that grow ===== -/
/-- a world: cells, apart, in A -/
def HW (γ : GT) (A : Nat → Prop) (ws : va_W) (H : Heap) : Prop := va_P (gD γ) vwCl ws H ∧ va_D A ws
theorem HW.nil {γ : GT} {A : Nat → Prop} {H : Heap} : HW γ A [] H := ⟨fun k q h => by simp at h, ⟨fun i j p q h => by simp at h, fun k q h => by simp at h⟩⟩
theorem HW.at {γ : GT} {A : Nat → Prop} {ws : va_W} {H : Heap} (h : HW γ A ws H) (k : Nat) {q : Nat × va_E} (hk : ws[k]? = some q) : va_at (gD γ) vwCl q H := h.1 k q hk
theorem HW.in {γ : GT} {A : Nat → Prop} {ws : va_W} {H : Heap} (h : HW γ A ws H) (k : Nat) {q : Nat × va_E} (hk : ws[k]? = some q) : A q.1 := h.2.2 k q hk
theorem HW.push {γ : GT} {A : Nat → Prop} {ws : va_W} {H H1 : Heap} {x : va_E} (h : HW γ A ws H) (hat : va_at (gD γ) vwCl (H.size, x) H1) (hsm : Sm H H1 (fun _ => False)) (hA : A H.size) : HW γ A (ws ++ [(H.size, x)]) H1 := by
  refine ⟨(h.1.kept fun k q hk => hsm.2 q.1 (h.1 k q hk).lt id).app (rs_P hat), h.2.push h.1 rfl hA⟩
theorem HW.put {γ : GT} {A : Nat → Prop} {ws : va_W} {H H1 : Heap} {x x' : va_E} {k a : Nat} (h : HW γ A ws H) (hk : ws[k]? = some (a, x)) (hat : va_at (gD γ) vwCl (a, x') H1) (hsm : Sm H H1 (fun q => q = a)) : HW γ A (ws.set k (a, x')) H1 := by
  refine ⟨fun j q hq => ?_, h.2.set hk⟩
  by_cases hjk : k = j
  · subst hjk
    rw [List.getElem?_set_self (List.getElem?_eq_some_iff.mp hk).1] at hq
    cases hq
    exact hat
  · rw [List.getElem?_set_ne hjk] at hq
    exact (h.1 j q hq).kept (hsm.2 q.1 (h.1 j q hq).lt (fun z => hjk (h.2.1 k j _ _ hk hq z.symm)))
section HR2
variable {p : Program} {l : Launch} {e : Env} {R : Room} {s : State} {m : MethodId} {args : Array Value} {below : List Frame} {meth : Method} {c : Code} {H : Heap} {locs : List Loc} {cells slots : Nat} {Q : State → Prop}
variable {pc : Nat} {ls : Array Slot} {rest : List Value} {cc : ByteArray} {γ : GT} {nL : Nat} {own : String} {lv : List (Nat × Value)}
theorem hr_new (hX : CX γ p s m args c cc nL own) (hS : va_S (gA γ) s.heap H locs) {ci index : Nat} {C : String} {T : u_T} {N : Nat} {fs : List Value} (hc : vwCl[ci]? = some (C, T, N)) (hin : ∀ w ∈ u_ws C T N, w ∈ GW) (ty : Nat → FieldType) (hty : ∀ k, k < N → parseFieldDescriptor (T k).2.2.1 = some (ty k)) (hfs : ∀ j, j < N → defaultValue (ty j) = vp_V fs j) (hcl : Cond.classLink own index C ∈ GW) (hinst : Cond.instantiable C N ∈ GW) (hini : Cond.initialized C ∈ GW)
    (hf : cells + 1 ≤ R.cells ∧ slots + N ≤ R.slots) (hd : decode cc pc = .ok (.new index, 3))
    (kk : ∀ (H1 : Heap), va_at (gD γ) vwCl (H.size, .inr (ci, fs)) H1 → Sm H H1 (fun _ => False) → H1.size = H.size + 1 → va_S (gA γ) s.heap H1 locs → W p l e R s m args below meth c H1 locs (cells + 1) (slots + N) Q (F0 m (pc + 3) ls (.ref H.size :: rest))) : W p l e R s m args below meth c H locs cells slots Q (F0 m pc ls rest) := by
  have hts := hX.1.2.2.2.2
  have hKn := hX.2.1.1 ci _ hc
  refine W.newcK hX.1.1 hX.1.2.1 hX.1.2.2.2.1 (hts _ hcl) (hts _ hinst) (hts _ hini) rfl hd hf.1 hf.2 hKn.2.1 rfl fun H1 kC hkC e1 z1 o1 => ?_
  exact kk H1 ⟨_, hc, (u_born ty hts hin hKn hkC e1 hty).to hfs⟩ ⟨by omega, fun q hq _ => o1 q hq⟩ z1 ⟨Nat.le_trans hS.1 (by omega), fun x h1 h2 => (o1 x (Nat.lt_of_lt_of_le h1 hS.1)).trans (hS.2.1 x h1 h2), hS.2.2⟩
theorem hr_newI (hX : CX γ p s m args c cc nL own) (hS : va_S (gA γ) s.heap H locs) {N' : Nat} {n : Int32} (hw : Cond.arrayClass .int ∈ GW) (hn : ¬ n < 0) (hN : n.toNatClampNeg = N') (hsm : N' ≤ 1000) (hf : cells + 1 ≤ R.cells ∧ slots + N' ≤ R.slots) (hd : decode cc pc = .ok (.newarray .int, 2))
    (kk : ∀ (H1 : Heap), va_at (gD γ) vwCl (H.size, .inl (gcI γ, N', .inl fun _ => 0)) H1 → Sm H H1 (fun _ => False) → H1.size = H.size + 1 → va_S (gA γ) s.heap H1 locs → W p l e R s m args below meth c H1 locs (cells + 1) (slots + N') Q (F0 m (pc + 2) ls (.ref H.size :: rest))) : W p l e R s m args below meth c H locs cells slots Q (F0 m pc ls (.int n :: rest)) := by
  refine va_newaK (atype := .int) hX.1.1 hX.1.2.1 (hX.1.2.2.2.2 _ hw) rfl hd rfl hn hN (by show N' * 4 ≤ 536870912; omega) hf.1 hf.2 rfl fun H1 cA e1 z1 o1 hAr hNm => ?_
  have hcA : cA = gcI γ := Option.some.inj (hNm.symm.trans (hX.2.1.2 0 (gcI γ, .int) rfl).2)
  subst hcA
  refine kk H1 ?_ ⟨by omega, fun q hq _ => o1 q hq⟩ z1 ⟨Nat.le_trans hS.1 (by omega), fun x h1 h2 => (o1 x (Nat.lt_of_lt_of_le h1 hS.1)).trans (hS.2.1 x h1 h2), hS.2.2⟩
  show H1[H.size]? = some (vp_cell _ _)
  rw [vp_cell_i]
  exact e1
theorem hr_newZ (hX : CX γ p s m args c cc nL own) (hS : va_S (gA γ) s.heap H locs) {N' : Nat} {n : Int32} (hw : Cond.arrayClass .boolean ∈ GW) (hn : ¬ n < 0) (hN : n.toNatClampNeg = N') (hsm : N' ≤ 1000) (hf : cells + 1 ≤ R.cells ∧ slots + N' ≤ R.slots) (hd : decode cc pc = .ok (.newarray .boolean, 2))
    (kk : ∀ (H1 : Heap), va_at (gD γ) vwCl (H.size, .inl (gcZ γ, N', .inl fun _ => 0)) H1 → Sm H H1 (fun _ => False) → H1.size = H.size + 1 → va_S (gA γ) s.heap H1 locs → W p l e R s m args below meth c H1 locs (cells + 1) (slots + N') Q (F0 m (pc + 2) ls (.ref H.size :: rest))) : W p l e R s m args below meth c H locs cells slots Q (F0 m pc ls (.int n :: rest)) := by
  refine va_newaK (atype := .boolean) hX.1.1 hX.1.2.1 (hX.1.2.2.2.2 _ hw) rfl hd rfl hn hN (by show N' * 1 ≤ 536870912; omega) hf.1 hf.2 rfl fun H1 cA e1 z1 o1 hAr hNm => ?_
  have hcA : cA = gcZ γ := Option.some.inj (hNm.symm.trans (hX.2.1.2 1 (gcZ γ, .boolean) rfl).2)
  subst hcA
  refine kk H1 ?_ ⟨by omega, fun q hq _ => o1 q hq⟩ z1 ⟨Nat.le_trans hS.1 (by omega), fun x h1 h2 => (o1 x (Nat.lt_of_lt_of_le h1 hS.1)).trans (hS.2.1 x h1 h2), hS.2.2⟩
  show H1[H.size]? = some (vp_cell _ _)
  rw [vp_cell_i]
  exact e1
theorem hr_newJ (hX : CX γ p s m args c cc nL own) (hS : va_S (gA γ) s.heap H locs) {N' : Nat} {n : Int32} (hw : Cond.arrayClass .long ∈ GW) (hn : ¬ n < 0) (hN : n.toNatClampNeg = N') (hsm : N' ≤ 1000) (hf : cells + 1 ≤ R.cells ∧ slots + N' ≤ R.slots) (hd : decode cc pc = .ok (.newarray .long, 2))
    (kk : ∀ (H1 : Heap), va_at (gD γ) vwCl (H.size, .inl (gcJ γ, N', .inr (.inl fun _ => 0))) H1 → Sm H H1 (fun _ => False) → H1.size = H.size + 1 → va_S (gA γ) s.heap H1 locs → W p l e R s m args below meth c H1 locs (cells + 1) (slots + N') Q (F0 m (pc + 2) ls (.ref H.size :: rest))) : W p l e R s m args below meth c H locs cells slots Q (F0 m pc ls (.int n :: rest)) := by
  refine va_newaK (atype := .long) hX.1.1 hX.1.2.1 (hX.1.2.2.2.2 _ hw) rfl hd rfl hn hN (by show N' * 8 ≤ 536870912; omega) hf.1 hf.2 rfl fun H1 cA e1 z1 o1 hAr hNm => ?_
  have hcA : cA = gcJ γ := Option.some.inj (hNm.symm.trans (hX.2.1.2 2 (gcJ γ, .long) rfl).2)
  subst hcA
  refine kk H1 ?_ ⟨by omega, fun q hq _ => o1 q hq⟩ z1 ⟨Nat.le_trans hS.1 (by omega), fun x h1 h2 => (o1 x (Nat.lt_of_lt_of_le h1 hS.1)).trans (hS.2.1 x h1 h2), hS.2.2⟩
  show H1[H.size]? = some (vp_cell _ _)
  rw [vp_cell_l]
  exact e1
/-- a final field of one's own, in a constructor -/
theorem hr_putF (hX : CX γ p s m args c cc nL own) (hS : va_S (gA γ) s.heap H locs) {a k j index : Nat} {fs : List Value} {v : Value} {C ref : String} {T : u_T} {N : Nat} {ty : FieldType} (hat : va_at (gD γ) vwCl (a, .inr (k, fs)) H) (hA : gA γ a) (hc : vwCl[k]? = some (C, T, N)) (hj : j < N) (hin : ∀ w ∈ u_ws C T N, w ∈ GW)
    (ty0 : Nat → FieldType) (hty : ∀ k, k < N → parseFieldDescriptor (T k).2.2.1 = some (ty0 k)) (hnm : ∀ a, a < N → ∀ b, b < N → a ≠ b → (T a).2.1 ≠ (T b).2.1) (hw : Cond.fieldLink own index ref (T j).2.1 (T j).2.2.1 ∈ GW) (hsame : (T j).1 = ref) (hfin : (T j).2.2.2 = true) (hin2 : meth.name = "<init>") (hdecl : (T j).1 = own) (hd : parseFieldDescriptor (T j).2.2.1 = some ty) (hn : narrow ty v = v) (hfit : fits ty v = true) (hl : j < fs.length)
    (hdg : decode cc pc = .ok (.putfield index, 3)) (kk : ∀ (H1 : Heap) (locs1 : List Loc), va_at (gD γ) vwCl (a, .inr (k, fs.set j v)) H1 → Sm H H1 (fun q => q = a) → H1.size = H.size → va_S (gA γ) s.heap H1 locs1 → W p l e R s m args below meth c H1 locs1 cells slots Q (F0 m (pc + 3) ls rest)) : W p l e R s m args below meth c H locs cells slots Q (F0 m pc ls (v :: .ref a :: rest)) := by
  obtain ⟨⟨hx, hb, -, hown, hts⟩, hK, -⟩ := hX
  have hap := va_apart (own := own) hts hin ty0 hty hnm hK hc
  obtain ⟨r, h1, cell, q1, q2, q3, q4⟩ := hat
  have hr : r = (C, T, N) := Option.some.inj (h1.symm.trans hc)
  subst hr
  obtain ⟨hSl, hfc, kC, hkC, hkind⟩ := hK.1 k _ hc
  obtain ⟨cf, kf, fi, f, hi, hsl⟩ := hSl j hj
  have hlay := hts _ (hin _ (u_in_lay hj))
  unfold u_lay at hlay
  rw [if_pos hfin] at hlay
  have hst := (u_facts hfc hkC (u_lays hts hin hj) hi).1
  have hcf : m.cls = cf := by
    obtain ⟨_, _, c', _, _, _, -, -, hf', -, -, -, hown2, -⟩ := Cond.laysFinal_spec hlay
    have e1 : c' = cf := by have := hi.symm.trans hf'; simp at this; exact this.1.symm
    rw [hdecl] at hown2
    rw [← e1]; exact Option.some.inj (hown.symm.trans hown2)
  have h6 := u_fits hfc hkC hkind (Or.inr hlay) hi hd hn hfit
  subst hsame
  refine W.putFinK hx hb hown (hts _ hw) hi hst hcf hin2 (by rw [q2]; exact h6) q1 q3 (by rw [hsl]; exact k2_hasslot (q4 j hj)) rfl rfl hdg fun H' e1 e2 e3 => ?_
  rw [hsl] at e1 ⊢
  exact kk H' _ ⟨_, hc, t_OB.to (V := updV (vp_V fs) j v) ⟨_, e1, q2, q3, t_set q4 hap hj v⟩ (fun j _ => vp_updV_set hl v j)⟩ (Sm.one e3 (Nat.le_of_eq e2.symm)) e2 (hS.put e2 e3 hA)
theorem hr_iast (hX : CX γ p s m args c cc nL own) (hS : va_S (gA γ) s.heap H locs) {a n : Nat} {f : Nat → Int32} {i x : Int32} (hat : va_at (gD γ) vwCl (a, .inl (gcI γ, n, .inl f)) H) (hA : gA γ a) (hin : vp_in i n) (hd : decode cc pc = .ok (.iastore, 1))
    (kk : ∀ (H1 : Heap) (locs1 : List Loc), va_at (gD γ) vwCl (a, .inl (gcI γ, n, .inl (upd f i.toNatClampNeg x))) H1 → Sm H H1 (fun q => q = a) → H1.size = H.size → va_S (gA γ) s.heap H1 locs1 → W p l e R s m args below meth c H1 locs1 cells slots Q (F0 m (pc + 1) ls rest)) : W p l e R s m args below meth c H locs cells slots Q (F0 m pc ls (.int x :: .int i :: .ref a :: rest)) := by
  refine W.iast hX.1.1 hX.1.2.1 hat ((hX.2.1.2 0 _ rfl).1 n (fun j => .int (f j))) (fun q => by cases q) (by show ¬ (i < 0 ∨ (arrV _ _ _).slots.size ≤ _); rw [arrV_size]; exact hin) rfl rfl hd fun H1 e1 z oq => ?_
  refine kk H1 _ ?_ (Sm.one oq (Nat.le_of_eq z.symm)) z (hS.put z oq hA)
  show H1[_]? = some (vp_cell _ _)
  rw [e1]
  rw [vp_cell_i, vp_cell_i, arrV_store]
  congr 2
  funext q
  by_cases hq : q = i.toNatClampNeg
  · subst hq
    simp [updV, upd]
  · simp [updV, upd, hq]
end HR2
