/-! ===== rows that write ===== -/
section RX
variable {p : Program} {l : Launch} {e : Env} {R : Room} {s : State} {m : MethodId} {args : Array Value} {below : List Frame} {meth : Method} {c : Code} {H : Heap} {locs : List Loc} {cells slots : Nat} {Q : State → Prop}
variable {pc : Nat} {ls : Array Slot} {rest : List Value} {cc : ByteArray} {γ : GT} {ad : Nat → Nat → Nat} {σ : St} {nL : Nat} {own : String}
/-- a field of one object, and all other cells as they were -/
theorem ra_put (hX : CX γ p s m args c cc nL own) (hS : va_S (gA γ) s.heap H locs) {a k j index : Nat} {fs : List Value} {v : Value} {C ref : String} {T : u_T} {N : Nat} {ty : FieldType} (hat : va_at (gD γ) vwCl (a, .inr (k, fs)) H) (hA : gA γ a) (hc : vwCl[k]? = some (C, T, N)) (hj : j < N) (hin : ∀ w ∈ u_ws C T N, w ∈ GW)
    (ty0 : Nat → FieldType) (hty : ∀ k, k < N → parseFieldDescriptor (T k).2.2.1 = some (ty0 k)) (hnm : ∀ a, a < N → ∀ b, b < N → a ≠ b → (T a).2.1 ≠ (T b).2.1) (hw : Cond.fieldLink own index ref (T j).2.1 (T j).2.2.1 ∈ GW) (hsame : (T j).1 = ref) (hfin : (T j).2.2.2 = false) (hd : parseFieldDescriptor (T j).2.2.1 = some ty) (hn : narrow ty v = v) (hfit : fits ty v = true) (hl : j < fs.length)
    (hdg : decode cc pc = .ok (.putfield index, 3)) (kk : ∀ (H1 : Heap) (locs1 : List Loc), va_at (gD γ) vwCl (a, .inr (k, fs.set j v)) H1 → (∀ q : Nat, q ≠ a → H1[q]? = H[q]?) → va_S (gA γ) s.heap H1 locs1 → W p l e R s m args below meth c H1 locs1 cells slots Q (F0 m (pc + 3) ls rest)) : W p l e R s m args below meth c H locs cells slots Q (F0 m pc ls (v :: .ref a :: rest)) := by
  obtain ⟨⟨hx, hb, -, hown, hts⟩, hK, -⟩ := hX
  have hap := va_apart (own := own) hts hin ty0 hty hnm hK hc
  obtain ⟨r, h1, cell, q1, q2, q3, q4⟩ := hat
  have hr : r = (C, T, N) := Option.some.inj (h1.symm.trans hc)
  subst hr
  obtain ⟨hSl, hfc, kC, hkC, hkind⟩ := hK.1 k _ hc
  obtain ⟨cf, kf, fi, f, hi, hsl⟩ := hSl j hj
  have hlay := hts _ (hin _ (u_in_lay hj))
  unfold u_lay at hlay
  rw [if_neg (by rw [hfin]; decide)] at hlay
  have hst := (u_facts hfc hkC (u_lays hts hin hj) hi).1
  have h6 := u_store hfc hkC hkind hlay hi hd hn hfit
  subst hsame
  refine W.putK hx hb (f := f) ⟨hown, hts _ hw, ⟨_, _, _, hi⟩, hst⟩ (by rw [q2]; exact h6) q1 q3 (by rw [hsl]; exact k2_hasslot (q4 j hj)) rfl rfl hdg fun H' e1 e2 e3 => ?_
  rw [hsl] at e1 ⊢
  exact kk H' _ ⟨_, hc, t_OB.to (V := updV (vp_V fs) j v) ⟨_, e1, q2, q3, t_set q4 hap hj v⟩ (fun j _ => vp_updV_set hl v j)⟩ e3 (hS.put e2 e3 hA)
theorem ra_putN (hX : CX γ p s m args c cc nL own) (hS : va_S (gA γ) s.heap H locs) {a k j index : Nat} {fs : List Value} {v : Value} {C ref host : String} {T : u_T} {N : Nat} {ty : FieldType} (hat : va_at (gD γ) vwCl (a, .inr (k, fs)) H) (hA : gA γ a) (hc : vwCl[k]? = some (C, T, N)) (hj : j < N) (hin : ∀ w ∈ u_ws C T N, w ∈ GW)
    (ty0 : Nat → FieldType) (hty : ∀ k, k < N → parseFieldDescriptor (T k).2.2.1 = some (ty0 k)) (hnm : ∀ a, a < N → ∀ b, b < N → a ≠ b → (T a).2.1 ≠ (T b).2.1) (hw : Cond.fieldLinkNest own index ref (T j).2.1 (T j).2.2.1 host ∈ NW) (hsame : (T j).1 = ref) (hfin : (T j).2.2.2 = false) (hd : parseFieldDescriptor (T j).2.2.1 = some ty) (hn : narrow ty v = v) (hfit : fits ty v = true) (hl : j < fs.length)
    (hdg : decode cc pc = .ok (.putfield index, 3)) (kk : ∀ (H1 : Heap) (locs1 : List Loc), va_at (gD γ) vwCl (a, .inr (k, fs.set j v)) H1 → (∀ q : Nat, q ≠ a → H1[q]? = H[q]?) → va_S (gA γ) s.heap H1 locs1 → W p l e R s m args below meth c H1 locs1 cells slots Q (F0 m (pc + 3) ls rest)) : W p l e R s m args below meth c H locs cells slots Q (F0 m pc ls (v :: .ref a :: rest)) := by
  obtain ⟨⟨hx, hb, -, hown, hts⟩, hK, hE⟩ := hX
  have hap := va_apart (own := own) hts hin ty0 hty hnm hK hc
  obtain ⟨r, h1, cell, q1, q2, q3, q4⟩ := hat
  have hr : r = (C, T, N) := Option.some.inj (h1.symm.trans hc)
  subst hr
  obtain ⟨hSl, hfc, kC, hkC, hkind⟩ := hK.1 k _ hc
  obtain ⟨cf, kf, fi, f, hi, hsl⟩ := hSl j hj
  have hlay := hts _ (hin _ (u_in_lay hj))
  unfold u_lay at hlay
  rw [if_neg (by rw [hfin]; decide)] at hlay
  have hst := (u_facts hfc hkC (u_lays hts hin hj) hi).1
  have h6 := u_store hfc hkC hkind hlay hi hd hn hfit
  subst hsame
  refine va_WputK hx hb (f := f) hown (va_Nw.use rfl (hE.1 _ hw)) hi hst (by rw [q2]; exact h6) q1 q3 (by rw [hsl]; exact k2_hasslot (q4 j hj)) rfl rfl hdg fun H' e1 e2 e3 => ?_
  rw [hsl] at e1 ⊢
  exact kk H' _ ⟨_, hc, t_OB.to (V := updV (vp_V fs) j v) ⟨_, e1, q2, q3, t_set q4 hap hj v⟩ (fun j _ => vp_updV_set hl v j)⟩ e3 (hS.put e2 e3 hA)
theorem ra_putF (hX : CX γ p s m args c cc nL own) (hS : va_S (gA γ) s.heap H locs) {a k j index : Nat} {fs : List Value} {v : Value} {C ref : String} {T : u_T} {N : Nat} {ty : FieldType} (hat : va_at (gD γ) vwCl (a, .inr (k, fs)) H) (hA : gA γ a) (hc : vwCl[k]? = some (C, T, N)) (hj : j < N) (hin : ∀ w ∈ u_ws C T N, w ∈ GW)
    (ty0 : Nat → FieldType) (hty : ∀ k, k < N → parseFieldDescriptor (T k).2.2.1 = some (ty0 k)) (hnm : ∀ a, a < N → ∀ b, b < N → a ≠ b → (T a).2.1 ≠ (T b).2.1) (hw : Cond.fieldLink own index ref (T j).2.1 (T j).2.2.1 ∈ GW) (hsame : (T j).1 = ref) (hfin : (T j).2.2.2 = true) (hin2 : meth.name = "<init>") (hdecl : (T j).1 = own) (hd : parseFieldDescriptor (T j).2.2.1 = some ty) (hn : narrow ty v = v) (hfit : fits ty v = true) (hl : j < fs.length)
    (hdg : decode cc pc = .ok (.putfield index, 3)) (kk : ∀ (H1 : Heap) (locs1 : List Loc), va_at (gD γ) vwCl (a, .inr (k, fs.set j v)) H1 → (∀ q : Nat, q ≠ a → H1[q]? = H[q]?) → va_S (gA γ) s.heap H1 locs1 → W p l e R s m args below meth c H1 locs1 cells slots Q (F0 m (pc + 3) ls rest)) : W p l e R s m args below meth c H locs cells slots Q (F0 m pc ls (v :: .ref a :: rest)) := by
  obtain ⟨⟨hx, hb, -, hown, hts⟩, hK, -⟩ := hX
  have hap := va_apart (own := own) hts hin ty0 hty hnm hK hc
  obtain ⟨r, h1, cell, q1, q2, q3, q4⟩ := hat
  have hr : r = (C, T, N) := Option.some.inj (h1.symm.trans hc)
  subst hr
  obtain ⟨hSl, hfc, kC, hkC, hkind⟩ := hK.1 k _ hc
  obtain ⟨cf, kf, fi, f, hi, hsl⟩ := hSl j hj
  have hlay := hts _ (hin _ (u_in_lay hj))
  unfold u_lay at hlay
  rw [if_pos hfin] at hlay
  have hst := (u_facts hfc hkC (u_lays hts hin hj) hi).1
  have hcf : m.cls = cf := by
    obtain ⟨_, _, c', _, _, _, -, -, hf', -, -, -, hown2, -⟩ := Cond.laysFinal_spec hlay
    have e1 : c' = cf := by have := hi.symm.trans hf'; simp at this; exact this.1.symm
    rw [hdecl] at hown2
    rw [← e1]; exact Option.some.inj (hown.symm.trans hown2)
  have h6 := u_fits hfc hkC hkind (Or.inr hlay) hi hd hn hfit
  subst hsame
  refine W.putFinK hx hb hown (hts _ hw) hi hst hcf hin2 (by rw [q2]; exact h6) q1 q3 (by rw [hsl]; exact k2_hasslot (q4 j hj)) rfl rfl hdg fun H' e1 e2 e3 => ?_
  rw [hsl] at e1 ⊢
  exact kk H' _ ⟨_, hc, t_OB.to (V := updV (vp_V fs) j v) ⟨_, e1, q2, q3, t_set q4 hap hj v⟩ (fun j _ => vp_updV_set hl v j)⟩ e3 (hS.put e2 e3 hA)
theorem b2i_nar (b : Bool) : narrow .boolean (.int (b2i b)) = .int (b2i b) := by cases b <;> rfl
theorem b2i_fit (b : Bool) : fits .boolean (.int (b2i b)) = true := by cases b <;> rfl
theorem rf_nar (C : String) (o : Option Nat) : narrow (.object C) (va_rf o) = va_rf o := by cases o <;> rfl
theorem rf_fit (C : String) (o : Option Nat) : fits (.object C) (va_rf o) = true := by cases o <;> rfl
theorem rw_puti (hX : CX γ p s m args c cc nL own) (hR : RS γ ad σ s H locs) (k j i f : Nat) {a index : Nat} {x : Int32} {C ref : String} {T : u_T} {N : Nat} (hc : vwCl[k]? = some (C, T, N)) (h0 : 0 < k ∧ k < 9 ∧ j < N ∧ nf k = N) (hf : 100 * k + j = f) (ht : tg f = 0) (hi : i < cn σ k) (ha : Ad γ ad k i = a) (hin : ∀ w ∈ u_ws C T N, w ∈ GW)
    (ty0 : Nat → FieldType) (hty : ∀ k, k < N → parseFieldDescriptor (T k).2.2.1 = some (ty0 k)) (hnm : ∀ a, a < N → ∀ b, b < N → a ≠ b → (T a).2.1 ≠ (T b).2.1) (hw : Cond.fieldLink own index ref (T j).2.1 (T j).2.2.1 ∈ GW) (hsame : (T j).1 = ref) (hfin : (T j).2.2.2 = false) (hdt : parseFieldDescriptor (T j).2.2.1 = some .int) (hd : decode cc pc = .ok (.putfield index, 3)) (kk : ∀ (σ1 : St) (H1 : Heap) (locs1 : List Loc), σ1 = zi σ f i x → RS γ ad σ1 s H1 locs1 → W p l e R s m args below meth c H1 locs1 cells slots Q (F0 m (pc + 3) ls rest)) : W p l e R s m args below meth c H locs cells slots Q (F0 m pc ls (.int x :: .ref a :: rest)) := by
  obtain ⟨⟨la, h1⟩, hS⟩ := hR
  subst ha hf
  have h00 : 0 < k ∧ k < 9 ∧ j < nf k := ⟨h0.1, h0.2.1, by rw [h0.2.2.2]; exact h0.2.2.1⟩
  exact ra_put hX hS (rs_obj h1 h0.1 h0.2.1 hi).1 (rs_obj h1 h0.1 h0.2.1 hi).2 hc h0.2.2.1 hin ty0 hty hnm hw hsame hfin hdt rfl rfl (by rw [oj_len]; exact h00.2.2) hd fun H1 locs1 hat oq hS1 => kk _ H1 locs1 rfl ⟨⟨la, rep_puti h1 h00 ht hi hat oq⟩, hS1⟩
theorem rw_putb (hX : CX γ p s m args c cc nL own) (hR : RS γ ad σ s H locs) (k j i f : Nat) {a index : Nat} {x : Bool} {C ref : String} {T : u_T} {N : Nat} (hc : vwCl[k]? = some (C, T, N)) (h0 : 0 < k ∧ k < 9 ∧ j < N ∧ nf k = N) (hf : 100 * k + j = f) (ht : tg f = 1) (hi : i < cn σ k) (ha : Ad γ ad k i = a) (hin : ∀ w ∈ u_ws C T N, w ∈ GW)
    (ty0 : Nat → FieldType) (hty : ∀ k, k < N → parseFieldDescriptor (T k).2.2.1 = some (ty0 k)) (hnm : ∀ a, a < N → ∀ b, b < N → a ≠ b → (T a).2.1 ≠ (T b).2.1) (hw : Cond.fieldLink own index ref (T j).2.1 (T j).2.2.1 ∈ GW) (hsame : (T j).1 = ref) (hfin : (T j).2.2.2 = false) (hdt : parseFieldDescriptor (T j).2.2.1 = some .boolean) (hd : decode cc pc = .ok (.putfield index, 3)) (kk : ∀ (σ1 : St) (H1 : Heap) (locs1 : List Loc), σ1 = zb σ f i x → RS γ ad σ1 s H1 locs1 → W p l e R s m args below meth c H1 locs1 cells slots Q (F0 m (pc + 3) ls rest)) : W p l e R s m args below meth c H locs cells slots Q (F0 m pc ls (.int (b2i x) :: .ref a :: rest)) := by
  obtain ⟨⟨la, h1⟩, hS⟩ := hR
  subst ha hf
  have h00 : 0 < k ∧ k < 9 ∧ j < nf k := ⟨h0.1, h0.2.1, by rw [h0.2.2.2]; exact h0.2.2.1⟩
  exact ra_put hX hS (rs_obj h1 h0.1 h0.2.1 hi).1 (rs_obj h1 h0.1 h0.2.1 hi).2 hc h0.2.2.1 hin ty0 hty hnm hw hsame hfin hdt (b2i_nar x) (b2i_fit x) (by rw [oj_len]; exact h00.2.2) hd fun H1 locs1 hat oq hS1 => kk _ H1 locs1 rfl ⟨⟨la, rep_putb h1 h00 ht hi hat oq⟩, hS1⟩
theorem rw_putp (hX : CX γ p s m args c cc nL own) (hR : RS γ ad σ s H locs) (k j i f : Nat) {a index : Nat} {t : Nat} {x : Option Nat} {C ref : String} {T : u_T} {N : Nat} (hc : vwCl[k]? = some (C, T, N)) (h0 : 0 < k ∧ k < 9 ∧ j < N ∧ nf k = N) (hf : 100 * k + j = f) (ht : tg f = t + 10) (hi : i < cn σ k) (ha : Ad γ ad k i = a) (hin : ∀ w ∈ u_ws C T N, w ∈ GW)
    (ty0 : Nat → FieldType) (hty : ∀ k, k < N → parseFieldDescriptor (T k).2.2.1 = some (ty0 k)) (hnm : ∀ a, a < N → ∀ b, b < N → a ≠ b → (T a).2.1 ≠ (T b).2.1) (hw : Cond.fieldLink own index ref (T j).2.1 (T j).2.2.1 ∈ GW) (hsame : (T j).1 = ref) (hfin : (T j).2.2.2 = false) {E : String} (hdt : parseFieldDescriptor (T j).2.2.1 = some (.object E)) (hd : decode cc pc = .ok (.putfield index, 3)) (kk : ∀ (σ1 : St) (H1 : Heap) (locs1 : List Loc), σ1 = zp σ f i x → RS γ ad σ1 s H1 locs1 → W p l e R s m args below meth c H1 locs1 cells slots Q (F0 m (pc + 3) ls rest)) : W p l e R s m args below meth c H locs cells slots Q (F0 m pc ls (va_rf (x.map (Ad γ ad t)) :: .ref a :: rest)) := by
  obtain ⟨⟨la, h1⟩, hS⟩ := hR
  subst ha hf
  have h00 : 0 < k ∧ k < 9 ∧ j < nf k := ⟨h0.1, h0.2.1, by rw [h0.2.2.2]; exact h0.2.2.1⟩
  exact ra_put hX hS (rs_obj h1 h0.1 h0.2.1 hi).1 (rs_obj h1 h0.1 h0.2.1 hi).2 hc h0.2.2.1 hin ty0 hty hnm hw hsame hfin hdt (rf_nar E _) (rf_fit E _) (by rw [oj_len]; exact h00.2.2) hd fun H1 locs1 hat oq hS1 => kk _ H1 locs1 rfl ⟨⟨la, rep_putp h1 h00 ht hi hat oq⟩, hS1⟩
theorem rw_putiN (hX : CX γ p s m args c cc nL own) (hR : RS γ ad σ s H locs) (k j i f : Nat) {a index : Nat} {x : Int32} {C ref host : String} {T : u_T} {N : Nat} (hc : vwCl[k]? = some (C, T, N)) (h0 : 0 < k ∧ k < 9 ∧ j < N ∧ nf k = N) (hf : 100 * k + j = f) (ht : tg f = 0) (hi : i < cn σ k) (ha : Ad γ ad k i = a) (hin : ∀ w ∈ u_ws C T N, w ∈ GW)
    (ty0 : Nat → FieldType) (hty : ∀ k, k < N → parseFieldDescriptor (T k).2.2.1 = some (ty0 k)) (hnm : ∀ a, a < N → ∀ b, b < N → a ≠ b → (T a).2.1 ≠ (T b).2.1) (hw : Cond.fieldLinkNest own index ref (T j).2.1 (T j).2.2.1 host ∈ NW) (hsame : (T j).1 = ref) (hfin : (T j).2.2.2 = false) (hdt : parseFieldDescriptor (T j).2.2.1 = some .int) (hd : decode cc pc = .ok (.putfield index, 3)) (kk : ∀ (σ1 : St) (H1 : Heap) (locs1 : List Loc), σ1 = zi σ f i x → RS γ ad σ1 s H1 locs1 → W p l e R s m args below meth c H1 locs1 cells slots Q (F0 m (pc + 3) ls rest)) : W p l e R s m args below meth c H locs cells slots Q (F0 m pc ls (.int x :: .ref a :: rest)) := by
  obtain ⟨⟨la, h1⟩, hS⟩ := hR
  subst ha hf
  have h00 : 0 < k ∧ k < 9 ∧ j < nf k := ⟨h0.1, h0.2.1, by rw [h0.2.2.2]; exact h0.2.2.1⟩
  exact ra_putN hX hS (rs_obj h1 h0.1 h0.2.1 hi).1 (rs_obj h1 h0.1 h0.2.1 hi).2 hc h0.2.2.1 hin ty0 hty hnm hw hsame hfin hdt rfl rfl (by rw [oj_len]; exact h00.2.2) hd fun H1 locs1 hat oq hS1 => kk _ H1 locs1 rfl ⟨⟨la, rep_puti h1 h00 ht hi hat oq⟩, hS1⟩
theorem rw_putbN (hX : CX γ p s m args c cc nL own) (hR : RS γ ad σ s H locs) (k j i f : Nat) {a index : Nat} {x : Bool} {C ref host : String} {T : u_T} {N : Nat} (hc : vwCl[k]? = some (C, T, N)) (h0 : 0 < k ∧ k < 9 ∧ j < N ∧ nf k = N) (hf : 100 * k + j = f) (ht : tg f = 1) (hi : i < cn σ k) (ha : Ad γ ad k i = a) (hin : ∀ w ∈ u_ws C T N, w ∈ GW)
    (ty0 : Nat → FieldType) (hty : ∀ k, k < N → parseFieldDescriptor (T k).2.2.1 = some (ty0 k)) (hnm : ∀ a, a < N → ∀ b, b < N → a ≠ b → (T a).2.1 ≠ (T b).2.1) (hw : Cond.fieldLinkNest own index ref (T j).2.1 (T j).2.2.1 host ∈ NW) (hsame : (T j).1 = ref) (hfin : (T j).2.2.2 = false) (hdt : parseFieldDescriptor (T j).2.2.1 = some .boolean) (hd : decode cc pc = .ok (.putfield index, 3)) (kk : ∀ (σ1 : St) (H1 : Heap) (locs1 : List Loc), σ1 = zb σ f i x → RS γ ad σ1 s H1 locs1 → W p l e R s m args below meth c H1 locs1 cells slots Q (F0 m (pc + 3) ls rest)) : W p l e R s m args below meth c H locs cells slots Q (F0 m pc ls (.int (b2i x) :: .ref a :: rest)) := by
  obtain ⟨⟨la, h1⟩, hS⟩ := hR
  subst ha hf
  have h00 : 0 < k ∧ k < 9 ∧ j < nf k := ⟨h0.1, h0.2.1, by rw [h0.2.2.2]; exact h0.2.2.1⟩
  exact ra_putN hX hS (rs_obj h1 h0.1 h0.2.1 hi).1 (rs_obj h1 h0.1 h0.2.1 hi).2 hc h0.2.2.1 hin ty0 hty hnm hw hsame hfin hdt (b2i_nar x) (b2i_fit x) (by rw [oj_len]; exact h00.2.2) hd fun H1 locs1 hat oq hS1 => kk _ H1 locs1 rfl ⟨⟨la, rep_putb h1 h00 ht hi hat oq⟩, hS1⟩
theorem rw_putpN (hX : CX γ p s m args c cc nL own) (hR : RS γ ad σ s H locs) (k j i f : Nat) {a index : Nat} {t : Nat} {x : Option Nat} {C ref host : String} {T : u_T} {N : Nat} (hc : vwCl[k]? = some (C, T, N)) (h0 : 0 < k ∧ k < 9 ∧ j < N ∧ nf k = N) (hf : 100 * k + j = f) (ht : tg f = t + 10) (hi : i < cn σ k) (ha : Ad γ ad k i = a) (hin : ∀ w ∈ u_ws C T N, w ∈ GW)
    (ty0 : Nat → FieldType) (hty : ∀ k, k < N → parseFieldDescriptor (T k).2.2.1 = some (ty0 k)) (hnm : ∀ a, a < N → ∀ b, b < N → a ≠ b → (T a).2.1 ≠ (T b).2.1) (hw : Cond.fieldLinkNest own index ref (T j).2.1 (T j).2.2.1 host ∈ NW) (hsame : (T j).1 = ref) (hfin : (T j).2.2.2 = false) {E : String} (hdt : parseFieldDescriptor (T j).2.2.1 = some (.object E)) (hd : decode cc pc = .ok (.putfield index, 3)) (kk : ∀ (σ1 : St) (H1 : Heap) (locs1 : List Loc), σ1 = zp σ f i x → RS γ ad σ1 s H1 locs1 → W p l e R s m args below meth c H1 locs1 cells slots Q (F0 m (pc + 3) ls rest)) : W p l e R s m args below meth c H locs cells slots Q (F0 m pc ls (va_rf (x.map (Ad γ ad t)) :: .ref a :: rest)) := by
  obtain ⟨⟨la, h1⟩, hS⟩ := hR
  subst ha hf
  have h00 : 0 < k ∧ k < 9 ∧ j < nf k := ⟨h0.1, h0.2.1, by rw [h0.2.2.2]; exact h0.2.2.1⟩
  exact ra_putN hX hS (rs_obj h1 h0.1 h0.2.1 hi).1 (rs_obj h1 h0.1 h0.2.1 hi).2 hc h0.2.2.1 hin ty0 hty hnm hw hsame hfin hdt (rf_nar E _) (rf_fit E _) (by rw [oj_len]; exact h00.2.2) hd fun H1 locs1 hat oq hS1 => kk _ H1 locs1 rfl ⟨⟨la, rep_putp h1 h00 ht hi hat oq⟩, hS1⟩
theorem rw_putiF (hX : CX γ p s m args c cc nL own) (hR : RS γ ad σ s H locs) (k j i f : Nat) {a index : Nat} {x : Int32} {C ref : String} {T : u_T} {N : Nat} (hc : vwCl[k]? = some (C, T, N)) (h0 : 0 < k ∧ k < 9 ∧ j < N ∧ nf k = N) (hf : 100 * k + j = f) (ht : tg f = 0) (hi : i < cn σ k) (ha : Ad γ ad k i = a) (hin : ∀ w ∈ u_ws C T N, w ∈ GW)
    (ty0 : Nat → FieldType) (hty : ∀ k, k < N → parseFieldDescriptor (T k).2.2.1 = some (ty0 k)) (hnm : ∀ a, a < N → ∀ b, b < N → a ≠ b → (T a).2.1 ≠ (T b).2.1) (hw : Cond.fieldLink own index ref (T j).2.1 (T j).2.2.1 ∈ GW) (hsame : (T j).1 = ref) (hfin : (T j).2.2.2 = true) (hin2 : meth.name = "<init>") (hdecl : (T j).1 = own) (hdt : parseFieldDescriptor (T j).2.2.1 = some .int) (hd : decode cc pc = .ok (.putfield index, 3)) (kk : ∀ (σ1 : St) (H1 : Heap) (locs1 : List Loc), σ1 = zi σ f i x → RS γ ad σ1 s H1 locs1 → W p l e R s m args below meth c H1 locs1 cells slots Q (F0 m (pc + 3) ls rest)) : W p l e R s m args below meth c H locs cells slots Q (F0 m pc ls (.int x :: .ref a :: rest)) := by
  obtain ⟨⟨la, h1⟩, hS⟩ := hR
  subst ha hf
  have h00 : 0 < k ∧ k < 9 ∧ j < nf k := ⟨h0.1, h0.2.1, by rw [h0.2.2.2]; exact h0.2.2.1⟩
  exact ra_putF hX hS (rs_obj h1 h0.1 h0.2.1 hi).1 (rs_obj h1 h0.1 h0.2.1 hi).2 hc h0.2.2.1 hin ty0 hty hnm hw hsame hfin hin2 hdecl hdt rfl rfl (by rw [oj_len]; exact h00.2.2) hd fun H1 locs1 hat oq hS1 => kk _ H1 locs1 rfl ⟨⟨la, rep_puti h1 h00 ht hi hat oq⟩, hS1⟩
theorem rw_putbF (hX : CX γ p s m args c cc nL own) (hR : RS γ ad σ s H locs) (k j i f : Nat) {a index : Nat} {x : Bool} {C ref : String} {T : u_T} {N : Nat} (hc : vwCl[k]? = some (C, T, N)) (h0 : 0 < k ∧ k < 9 ∧ j < N ∧ nf k = N) (hf : 100 * k + j = f) (ht : tg f = 1) (hi : i < cn σ k) (ha : Ad γ ad k i = a) (hin : ∀ w ∈ u_ws C T N, w ∈ GW)
    (ty0 : Nat → FieldType) (hty : ∀ k, k < N → parseFieldDescriptor (T k).2.2.1 = some (ty0 k)) (hnm : ∀ a, a < N → ∀ b, b < N → a ≠ b → (T a).2.1 ≠ (T b).2.1) (hw : Cond.fieldLink own index ref (T j).2.1 (T j).2.2.1 ∈ GW) (hsame : (T j).1 = ref) (hfin : (T j).2.2.2 = true) (hin2 : meth.name = "<init>") (hdecl : (T j).1 = own) (hdt : parseFieldDescriptor (T j).2.2.1 = some .boolean) (hd : decode cc pc = .ok (.putfield index, 3)) (kk : ∀ (σ1 : St) (H1 : Heap) (locs1 : List Loc), σ1 = zb σ f i x → RS γ ad σ1 s H1 locs1 → W p l e R s m args below meth c H1 locs1 cells slots Q (F0 m (pc + 3) ls rest)) : W p l e R s m args below meth c H locs cells slots Q (F0 m pc ls (.int (b2i x) :: .ref a :: rest)) := by
  obtain ⟨⟨la, h1⟩, hS⟩ := hR
  subst ha hf
  have h00 : 0 < k ∧ k < 9 ∧ j < nf k := ⟨h0.1, h0.2.1, by rw [h0.2.2.2]; exact h0.2.2.1⟩
  exact ra_putF hX hS (rs_obj h1 h0.1 h0.2.1 hi).1 (rs_obj h1 h0.1 h0.2.1 hi).2 hc h0.2.2.1 hin ty0 hty hnm hw hsame hfin hin2 hdecl hdt (b2i_nar x) (b2i_fit x) (by rw [oj_len]; exact h00.2.2) hd fun H1 locs1 hat oq hS1 => kk _ H1 locs1 rfl ⟨⟨la, rep_putb h1 h00 ht hi hat oq⟩, hS1⟩
theorem rw_putpF (hX : CX γ p s m args c cc nL own) (hR : RS γ ad σ s H locs) (k j i f : Nat) {a index : Nat} {t : Nat} {x : Option Nat} {C ref : String} {T : u_T} {N : Nat} (hc : vwCl[k]? = some (C, T, N)) (h0 : 0 < k ∧ k < 9 ∧ j < N ∧ nf k = N) (hf : 100 * k + j = f) (ht : tg f = t + 10) (hi : i < cn σ k) (ha : Ad γ ad k i = a) (hin : ∀ w ∈ u_ws C T N, w ∈ GW)
    (ty0 : Nat → FieldType) (hty : ∀ k, k < N → parseFieldDescriptor (T k).2.2.1 = some (ty0 k)) (hnm : ∀ a, a < N → ∀ b, b < N → a ≠ b → (T a).2.1 ≠ (T b).2.1) (hw : Cond.fieldLink own index ref (T j).2.1 (T j).2.2.1 ∈ GW) (hsame : (T j).1 = ref) (hfin : (T j).2.2.2 = true) (hin2 : meth.name = "<init>") (hdecl : (T j).1 = own) {E : String} (hdt : parseFieldDescriptor (T j).2.2.1 = some (.object E)) (hd : decode cc pc = .ok (.putfield index, 3)) (kk : ∀ (σ1 : St) (H1 : Heap) (locs1 : List Loc), σ1 = zp σ f i x → RS γ ad σ1 s H1 locs1 → W p l e R s m args below meth c H1 locs1 cells slots Q (F0 m (pc + 3) ls rest)) : W p l e R s m args below meth c H locs cells slots Q (F0 m pc ls (va_rf (x.map (Ad γ ad t)) :: .ref a :: rest)) := by
  obtain ⟨⟨la, h1⟩, hS⟩ := hR
  subst ha hf
  have h00 : 0 < k ∧ k < 9 ∧ j < nf k := ⟨h0.1, h0.2.1, by rw [h0.2.2.2]; exact h0.2.2.1⟩
  exact ra_putF hX hS (rs_obj h1 h0.1 h0.2.1 hi).1 (rs_obj h1 h0.1 h0.2.1 hi).2 hc h0.2.2.1 hin ty0 hty hnm hw hsame hfin hin2 hdecl hdt (rf_nar E _) (rf_fit E _) (by rw [oj_len]; exact h00.2.2) hd fun H1 locs1 hat oq hS1 => kk _ H1 locs1 rfl ⟨⟨la, rep_putp h1 h00 ht hi hat oq⟩, hS1⟩
/-! arrays -/
theorem rs_arr {la : Nat → Nat × Nat} (h : Rep1 γ ad la σ H) {f : Nat} (hf : 0 < al f) : va_at (gD γ) vwCl (gS γ (1000 + f) 0, arE γ σ f) H ∧ gB γ ≤ gS γ (1000 + f) 0 := by
  have hlt : f < 900 := by
    unfold al at hf
    by_cases z : f / 100 < 9
    · omega
    · rw [List.getD_eq_getElem?_getD (l := alL), List.getElem?_eq_none (by simp [alL]; omega)] at hf
      exact absurd hf (by simp)
  have eAD : AD γ ad la (1000 + f) 0 = gS γ (1000 + f) 0 := by
    unfold AD Ad dy
    rw [if_neg (by omega), List.getD_eq_getElem?_getD, List.getElem?_eq_none (by simp; omega)]
    rfl
  have hex0 : EX σ la (1000 + f) 0 := by
    unfold EX
    rw [if_neg (by omega), if_neg (by omega), if_neg (by omega), if_neg (by omega)]
    exact ⟨rfl, by omega, by rw [Nat.add_sub_cancel_left]; exact hf⟩
  have h1 := h.1 _ _ hex0
  have e1 : CE γ ad la σ (1000 + f) 0 = arE γ σ f := by
    unfold CE
    rw [if_neg (by omega), if_neg (by omega), if_neg (by omega), if_neg (by omega), Nat.add_sub_cancel_left]
  rw [e1, eAD] at h1
  exact h1
theorem rs_arri {la : Nat → Nat × Nat} (h : Rep1 γ ad la σ H) {f : Nat} (hf : 0 < al f) (hb : ab f = false) : va_at (gD γ) vwCl (gS γ (1000 + f) 0, .inl (gcI γ, al f, .inl fun j => gi σ f j)) H := by
  have h1 := (rs_arr h hf).1
  unfold arE at h1
  rw [hb] at h1
  exact h1
theorem rs_arrb {la : Nat → Nat × Nat} (h : Rep1 γ ad la σ H) {f : Nat} (hf : 0 < al f) (hb : ab f = true) : va_at (gD γ) vwCl (gS γ (1000 + f) 0, .inl (gcZ γ, al f, .inl fun j => b2i (gb σ f j))) H := by
  have h1 := (rs_arr h hf).1
  unfold arE at h1
  rw [hb] at h1
  exact h1
theorem rw_iald (hX : CX γ p s m args c cc nL own) (hR : RS γ ad σ s H locs) (f : Nat) {n a : Nat} {i v : Int32} (hn : al f = n) (h0 : 0 < n) (hb : ab f = false) (ha : gS γ (1000 + f) 0 = a) (hin : vp_in i n) (hv : gi σ f i.toNatClampNeg = v) (hd : decode cc pc = .ok (.iaload, 1)) (kk : W p l e R s m args below meth c H locs cells slots Q (F0 m (pc + 1) ls (.int v :: rest))) : W p l e R s m args below meth c H locs cells slots Q (F0 m pc ls (.int i :: .ref a :: rest)) := by
  obtain ⟨⟨la, h1⟩, -⟩ := hR
  subst ha hv hn
  exact va_iald hX.1.1 hX.1.2.1 hX.2.1 (rs_P (rs_arri h1 h0 hb)) 0 0 (f := fun j => gi σ f j) rfl rfl hin hd kk
theorem rw_zald (hX : CX γ p s m args c cc nL own) (hR : RS γ ad σ s H locs) (f : Nat) {n a : Nat} {i : Int32} {v : Bool} (hn : al f = n) (h0 : 0 < n) (hb : ab f = true) (ha : gS γ (1000 + f) 0 = a) (hin : vp_in i n) (hv : gb σ f i.toNatClampNeg = v) (hd : decode cc pc = .ok (.baload, 1)) (kk : W p l e R s m args below meth c H locs cells slots Q (F0 m (pc + 1) ls (.int (b2i v) :: rest))) : W p l e R s m args below meth c H locs cells slots Q (F0 m pc ls (.int i :: .ref a :: rest)) := by
  obtain ⟨⟨la, h1⟩, -⟩ := hR
  subst ha hv hn
  exact va_zald hX.1.1 hX.1.2.1 hX.2.1 (rs_P (rs_arrb h1 h0 hb)) 0 1 (f := fun j => b2i (gb σ f j)) rfl rfl hin hd kk
theorem rw_iast (hX : CX γ p s m args c cc nL own) (hR : RS γ ad σ s H locs) (f : Nat) {n a : Nat} {i x : Int32} (hn : al f = n) (h0 : 0 < n) (hb : ab f = false) (ha : gS γ (1000 + f) 0 = a) (hin : vp_in i n) (hd : decode cc pc = .ok (.iastore, 1)) (kk : ∀ (σ1 : St) (H1 : Heap) (locs1 : List Loc), σ1 = zi σ f i.toNatClampNeg x → RS γ ad σ1 s H1 locs1 → W p l e R s m args below meth c H1 locs1 cells slots Q (F0 m (pc + 1) ls rest)) : W p l e R s m args below meth c H locs cells slots Q (F0 m pc ls (.int x :: .int i :: .ref a :: rest)) := by
  obtain ⟨⟨la, h1⟩, hS⟩ := hR
  subst ha hn
  have hat := rs_arri h1 h0 hb
  refine W.iast hX.1.1 hX.1.2.1 hat ((hX.2.1.2 0 _ rfl).1 (al f) (fun j => .int (gi σ f j))) (fun q => by cases q) (by show ¬ (i < 0 ∨ (arrV _ _ _).slots.size ≤ _); rw [arrV_size]; exact hin) rfl rfl hd fun H1 e1 z oq => ?_
  refine kk _ H1 _ rfl ⟨⟨la, rep_arri h1 h0 hb ?_ oq⟩, hS.put z oq (rs_arr h1 h0).2⟩
  show H1[_]? = some (vp_cell _ _)
  rw [e1]
  rw [vp_cell_i, vp_cell_i, arrV_store]
  congr 2
  funext q
  by_cases hq : q = i.toNatClampNeg
  · subst hq
    simp [updV, upd]
  · simp [updV, upd, hq]
theorem rw_zast (hX : CX γ p s m args c cc nL own) (hR : RS γ ad σ s H locs) (f : Nat) {n a : Nat} {i : Int32} {x : Bool} (hn : al f = n) (h0 : 0 < n) (hb : ab f = true) (ha : gS γ (1000 + f) 0 = a) (hin : vp_in i n) (hd : decode cc pc = .ok (.bastore, 1)) (kk : ∀ (σ1 : St) (H1 : Heap) (locs1 : List Loc), σ1 = zb σ f i.toNatClampNeg x → RS γ ad σ1 s H1 locs1 → W p l e R s m args below meth c H1 locs1 cells slots Q (F0 m (pc + 1) ls rest)) : W p l e R s m args below meth c H locs cells slots Q (F0 m pc ls (.int (b2i x) :: .int i :: .ref a :: rest)) := by
  obtain ⟨⟨la, h1⟩, hS⟩ := hR
  subst ha hn
  have hat := rs_arrb h1 h0 hb
  refine W.zast hX.1.1 hX.1.2.1 hat ((hX.2.1.2 1 _ rfl).1 (al f) (fun j => .int (b2i (gb σ f j)))) (fun q => by cases q) (by show ¬ (i < 0 ∨ (arrV _ _ _).slots.size ≤ _); rw [arrV_size]; exact hin) rfl rfl hd fun H1 e1 z oq => ?_
  refine kk _ H1 _ rfl ⟨⟨la, rep_arrb h1 h0 hb ?_ oq⟩, hS.put z oq (rs_arr h1 h0).2⟩
  show H1[_]? = some (vp_cell _ _)
  rw [e1]
  rw [vp_cell_i, vp_cell_i, arrV_store]
  congr 2
  funext q
  by_cases hq : q = i.toNatClampNeg
  · subst hq
    cases x <;> simp [updV, upd, b2i] <;> rfl
  · simp [updV, upd, hq]
end RX
