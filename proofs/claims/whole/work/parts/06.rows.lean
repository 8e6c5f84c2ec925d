def STR : List (Nat × String) := [(348, "there is no such device"), (108, "the device is there no more"), (63, "id, size or line is out of range"), (68, "both suppliers are the same device"), (76, "there were 24 devices"), (128, "rank or firmware is out of range"), (130, "there are 8 drivers"), (138, "there is no such driver"), (141, "the version is out of range"), (150, "the device is not bound"), (155, "the device was not unbound by hand, or is there no more"), (163, "the device is not bound, or the world is suspended"), (178, "the device is not bound, the world is suspended, or there were 40"), (350, "there is no such handle"), (191, "the handle is closed"), (205, "ticks is out of range"), (211, "the handle is of no use, the world is suspended, or there were 100"), (225, "the value is out of range"), (227, "the handle is closed or dead, or the world is suspended"), (229, "the page is out of range"), (234, "the handle is of no use, the world is suspended, or no slot is free"), (352, "there is no such slot"), (249, "the handle is closed or dead, or the slot is not of its device"), (257, "the world is suspended"), (280, "the world is not suspended"), (346, "there is no such line"), (292, "the device is there no more, or has no line"), (316, "there is no such call"), (330, "what is out of range"), (338, "there is no such event, or it is not kept any more")]
/-! ===== what stays true of the machine at a method's entry ===== -/
/-- the empty row of references that is there at the start -/
def E0 (γ : GT) (a : Nat) (H : Heap) : Prop := ∃ cell : Cell, H[a]? = some cell ∧ cell.cls = gcO γ ∧ cell.slots.size.toInt32 = 0 ∧ (∀ k, cell.vm ≠ .statics k) ∧ cell.vm ≠ .unknown
theorem E0.kept {γ : GT} {a : Nat} {H H1 : Heap} (h : E0 γ a H) (hq : H1[a]? = H[a]?) : E0 γ a H1 := by
  obtain ⟨cell, h1, h2⟩ := h
  exact ⟨cell, hq.trans h1, h2⟩
theorem E0.lt {γ : GT} {a : Nat} {H : Heap} (h : E0 γ a H) : a < H.size := by
  obtain ⟨cell, h1, -⟩ := h
  exact (Array.getElem?_eq_some_iff.mp h1).1
def EnvU (γ : GT) (U : State) : Prop :=
  (∀ w ∈ NW, va_Nw w U) ∧ (∀ q ∈ STR, ∃ sa, vk_R "DriverMoor" q.1 q.2 sa U) ∧
  (va_Nc "java/lang/IllegalArgumentException" "java/lang/IndexOutOfBoundsException" U ∧ va_Nc "java/lang/IllegalStateException" "java/lang/IndexOutOfBoundsException" U ∧ va_Nc "java/lang/IllegalStateException" "java/lang/IllegalArgumentException" U) ∧
  (va_AO "java/lang/Object" U ∧ va_Mi "[Ljava/lang/Object;" (gS γ 99 0) U) ∧ vx_Zq Bundle.tN "UNASSIGNED_STACK" Bundle.steD (gA γ) U U.heap ∧ vx_Zq Bundle.tN "SUPPRESSED_SENTINEL" Bundle.listD (gA γ) U U.heap ∧
  va_Z "java/util/ArrayList" "DEFAULTCAPACITY_EMPTY_ELEMENTDATA" "[Ljava/lang/Object;" (.ref (gE γ)) (gA γ) U U.heap ∧
  E0 γ (gE γ) U.heap ∧ gE γ < gB γ ∧ gB γ ≤ U.heap.size
theorem EnvU.keep {γ : GT} {s U : State} {H : Heap} {locs : List Loc} (h : EnvU γ s) (hS : va_S (gA γ) s.heap H locs) (hW : s.WarmedH U.vm) (hU : U.heap = H) : EnvU γ U := by
  obtain ⟨h1, h2, ⟨h3, h4, h5⟩, h6, h7, h8, h9, h10, h11, h12⟩ := h
  subst hU
  have hk := hS.2.1
  have hA : ¬ gA γ (gE γ) := Nat.not_le.mpr h11
  refine ⟨fun w hw => NW_warm hw hW (h1 w hw), fun q hq => ?_, ⟨h3.moved hW.alike, h4.moved hW.alike, h5.moved hW.alike⟩, ⟨h6.1.moved hW.alike, h6.2.moved hW.alike⟩, (h7.kept hk).moved hW.alike, (h8.kept hk).moved hW.alike, (h9.kept hk).moved hW.alike, ?_, h11, Nat.le_trans h12 hS.1⟩
  · obtain ⟨sa, hsa⟩ := h2 q hq
    exact ⟨sa, hsa.warm hW⟩
  · exact h10.kept (hk _ (Nat.lt_of_lt_of_le h11 h12) hA)
def RU (γ : GT) (ad : Nat → Nat → Nat) (σ : St) (U : State) : Prop := Rep γ ad σ U.heap ∧ va_K (gD γ) vwCl (tys γ) U ∧ EnvU γ U
theorem RU.calling {γ : GT} {ad : Nat → Nat → Nat} {σ : St} {U : State} {g : JFrame} {mk : MethodId} {a : Array Value} (h : RU γ ad σ U) : RU γ ad σ (U.calling g mk a) :=
  ⟨h.1, va_K.moved (u := U) (U := U.calling g mk a) (Vm.Alike.refl U.vm) h.2.1, EnvU.keep (locs := []) h.2.2 va_S.rf (State.WarmedH.refl U) rfl⟩
theorem blindU {γ : GT} {ad : Nat → Nat → Nat} {σ : St} {av : List Value} : FrameBlind (va_Pc av (RU γ ad σ)) := fun _ _ _ _ q => ⟨q.1, q.2.calling⟩
def QI (γ : GT) (ad : Nat → Nat → Nat) (σ : St) (r : Int32) : Array Value → State → Outcome → State → Prop := va_Qi (S := Unit) (fun x _ => x = r) (fun _ t => Rep γ ad σ t.heap) (gA γ)
def QV (γ : GT) (ad : Nat → Nat → Nat) (σ : St) : Array Value → State → Outcome → State → Prop := va_Qv (S := Unit) (fun _ => True) (fun _ t => Rep γ ad σ t.heap) (gA γ)
def QR (γ : GT) (ad : Nat → Nat → Nat) (σ : St) (r : Option Nat) : Array Value → State → Outcome → State → Prop := va_Qq (S := Unit) (fun x _ => x = r) (fun _ t => Rep γ ad σ t.heap) (gA γ)
def rmo (d mc ms : Nat) : Room := { frames := d, cells := mc, slots := ms, locals := 64 * d }
def CX (γ : GT) (p : Program) (s : State) (m : MethodId) (args : Array Value) (c : Code) (cc : ByteArray) (nL : Nat) (own : String) : Prop := CallFix p m c cc nL s args GW own ∧ va_K (gD γ) vwCl (tys γ) s ∧ EnvU γ s
def RS (γ : GT) (ad : Nat → Nat → Nat) (σ : St) (s : State) (H : Heap) (locs : List Loc) : Prop := Rep γ ad σ H ∧ va_S (gA γ) s.heap H locs
def lh (ls : Array Slot) (nL : Nat) (l : List (Nat × Value)) : Prop := lv_has ls nL l ∧ ∀ q ∈ l, q.2.category = 1
theorem rf_cat (o : Option Nat) : (va_rf o).category = 1 := by cases o <;> rfl
/-- the locals at the entry -/
def la1 : Nat → List Value → List (Nat × Value)
  | _, [] => []
  | i, v :: vs => (i, v) :: la1 (i + 1) vs
theorem la1_eq : ∀ (vs : List Value) (i : Nat), (∀ v ∈ vs, v.category = 1) → lv_args i vs = la1 i vs
  | [], _, _ => rfl
  | v :: vs, i, h => by
    have hv := h v List.mem_cons_self
    rw [lv_args, la1, la1_eq vs _ (fun w hw => h w (List.mem_cons_of_mem _ hw)), if_neg (by omega)]
theorem la1_cat : ∀ (vs : List Value) (i : Nat), (∀ v ∈ vs, v.category = 1) → ∀ q ∈ la1 i vs, q.2.category = 1
  | [], _, _, q, hq => by cases hq
  | v :: vs, i, h, q, hq => by
    rcases List.mem_cons.mp hq with rfl | hq
    · exact h v List.mem_cons_self
    · exact la1_cat vs _ (fun w hw => h w (List.mem_cons_of_mem _ hw)) q hq
theorem sl_len : ∀ (vs : List Value), (∀ v ∈ vs, v.category = 1) → (lg_sl vs).length = vs.length
  | [], _ => rfl
  | v :: vs, h => by
    have hv := h v List.mem_cons_self
    have e : (lg_sl (v :: vs)).length = 1 + (lg_sl vs).length := by
      simp [lg_sl, hv]
      omega
    rw [e, sl_len vs (fun w hw => h w (List.mem_cons_of_mem _ hw)), List.length_cons, Nat.add_comm]
section RW
variable {p : Program} {l : Launch} {e : Env} {R : Room} {s : State} {m : MethodId} {args : Array Value} {below : List Frame} {meth : Method} {c : Code} {H : Heap} {locs : List Loc} {cells slots : Nat} {Q : State → Prop}
variable {pc : Nat} {ls : Array Slot} {rest : List Value} {cc : ByteArray} {γ : GT} {ad : Nat → Nat → Nat} {σ : St} {nL : Nat} {own : String}
theorem rw_entry {vs : List Value} {n : Nat} (hc : ∀ v ∈ vs, v.category = 1) (hl : vs.length ≤ n) (kk : ∀ ls, lh ls n (la1 0 vs) → W p l e R s m args below meth c H locs cells slots Q (F0 m 0 ls [])) : W p l e R s m args below meth c H locs cells slots Q (entryFrame m vs.toArray n) := by
  have h := lv_entry vs (n := n) (by rw [sl_len vs hc]; exact hl)
  rw [la1_eq vs 0 hc] at h
  rw [lg_entry_eq]
  exact kk _ ⟨h, la1_cat vs 0 hc⟩
theorem cx_of {y : MethodName} {rm : Room} {ret : Option FieldType} {s₁ : State} (B : BodyLoose p l y (headSpec (Cond.code y cc nL ret :: GW) rm) cc nL ret e s m args below meth c s₁) (hml : c.maxLocals = nL) (hy : y.cls = own) (hU : RU γ ad σ s) : CX γ p s m args c cc nL own ∧ RS γ ad σ s s.heap [] := by
  refine ⟨⟨⟨B.exec, B.bytes, hml, by rw [← hy]; exact findClass_of_methodNamed B.named, fun w hw => atoms_spec (ws := Cond.code y cc nL ret :: GW) B.pre w (List.mem_cons_of_mem _ hw)⟩, hU.2.1, hU.2.2⟩, hU.1, va_S.rf⟩
theorem rw_iload (hX : CX γ p s m args c cc nL own) {i : Nat} {x : Int32} {lv : List (Nat × Value)} (hl : lh ls nL lv) (k : Nat) (hk : lv[k]? = some (i, .int x)) (hd : decode cc pc = .ok (.iload i, 2)) (kk : W p l e R s m args below meth c H locs cells slots Q (F0 m (pc + 2) ls (.int x :: rest))) : W p l e R s m args below meth c H locs cells slots Q (F0 m pc ls rest) :=
  lv_iload hX.1.1 hX.1.2.1 hd (lv_at hl.1 k hk) kk
theorem rw_iload_n (hX : CX γ p s m args c cc nL own) {i : Nat} {x : Int32} {lv : List (Nat × Value)} {kf : Fin 4} (hl : lh ls nL lv) (k : Nat) (hk : lv[k]? = some (i, .int x)) (hd : decode cc pc = .ok (.iload_n kf, 1)) (hi : (kf : Nat) = i) (kk : W p l e R s m args below meth c H locs cells slots Q (F0 m (pc + 1) ls (.int x :: rest))) : W p l e R s m args below meth c H locs cells slots Q (F0 m pc ls rest) :=
  lv_iload_n hX.1.1 hX.1.2.1 hd hi (lv_at hl.1 k hk) kk
theorem rw_aload (hX : CX γ p s m args c cc nL own) {i : Nat} {v : Value} {lv : List (Nat × Value)} (hl : lh ls nL lv) (k : Nat) (hk : lv[k]? = some (i, v)) (hv : v = .null ∨ ∃ a, v = .ref a) (hd : decode cc pc = .ok (.aload i, 2)) (kk : W p l e R s m args below meth c H locs cells slots Q (F0 m (pc + 2) ls (v :: rest))) : W p l e R s m args below meth c H locs cells slots Q (F0 m pc ls rest) := by
  rcases hv with rfl | ⟨a, rfl⟩
  · exact lv_aloadN hX.1.1 hX.1.2.1 hd (lv_at hl.1 k hk) kk
  · exact lv_aload hX.1.1 hX.1.2.1 hd (lv_at hl.1 k hk) kk
theorem rw_aload_n (hX : CX γ p s m args c cc nL own) {i : Nat} {v : Value} {lv : List (Nat × Value)} {kf : Fin 4} (hl : lh ls nL lv) (k : Nat) (hk : lv[k]? = some (i, v)) (hv : v = .null ∨ ∃ a, v = .ref a) (hd : decode cc pc = .ok (.aload_n kf, 1)) (hi : (kf : Nat) = i) (kk : W p l e R s m args below meth c H locs cells slots Q (F0 m (pc + 1) ls (v :: rest))) : W p l e R s m args below meth c H locs cells slots Q (F0 m pc ls rest) := by
  rcases hv with rfl | ⟨a, rfl⟩
  · exact lv_aload_nN hX.1.1 hX.1.2.1 hd hi (lv_at hl.1 k hk) kk
  · exact lv_aload_n hX.1.1 hX.1.2.1 hd hi (lv_at hl.1 k hk) kk
theorem lh_filter {i : Nat} {lv : List (Nat × Value)} (h : ∀ q ∈ lv, q.2.category = 1) : lv.filter (fun q => !(q.1 == i) && !(q.1 + 1 == i && q.2.category == 2)) = lv.filter (fun q => !(q.1 == i)) := by
  refine List.filter_congr fun q hq => ?_
  rw [h q hq]
  simp
theorem lh_cons {ls' : Array Slot} {i : Nat} {v : Value} {lv lv' : List (Nat × Value)} (h : ∀ q ∈ lv, q.2.category = 1) (hv : v.category = 1) (hl : (i, v) :: lv.filter (fun q => !(q.1 == i)) = lv') (h' : lv_has ls' nL ((i, v) :: lv.filter (fun q => !(q.1 == i) && !(q.1 + 1 == i && q.2.category == 2)))) : lh ls' nL lv' := by
  rw [lh_filter h, hl] at h'
  refine ⟨h', fun q hq => ?_⟩
  rw [← hl] at hq
  rcases List.mem_cons.mp hq with rfl | hq
  · exact hv
  · exact h q (List.mem_filter.mp hq).1
theorem rw_istore (hX : CX γ p s m args c cc nL own) {i : Nat} {x : Int32} {lv lv' : List (Nat × Value)} (hl : lh ls nL lv) (hn : i < nL) (he : (i, Value.int x) :: lv.filter (fun q => !(q.1 == i)) = lv') (hd : decode cc pc = .ok (.istore i, 2)) (kk : ∀ ls' : Array Slot, lh ls' nL lv' → W p l e R s m args below meth c H locs cells slots Q (F0 m (pc + 2) ls' rest)) : W p l e R s m args below meth c H locs cells slots Q (F0 m pc ls (.int x :: rest)) :=
  lv_istore hX.1.1 hX.1.2.1 hd hl.1 hn rfl fun ls' h' => kk ls' (lh_cons hl.2 rfl he h')
theorem rw_istore_n (hX : CX γ p s m args c cc nL own) {i : Nat} {x : Int32} {lv lv' : List (Nat × Value)} {kf : Fin 4} (hl : lh ls nL lv) (hn : i < nL) (he : (i, Value.int x) :: lv.filter (fun q => !(q.1 == i)) = lv') (hd : decode cc pc = .ok (.istore_n kf, 1)) (hi : (kf : Nat) = i) (kk : ∀ ls' : Array Slot, lh ls' nL lv' → W p l e R s m args below meth c H locs cells slots Q (F0 m (pc + 1) ls' rest)) : W p l e R s m args below meth c H locs cells slots Q (F0 m pc ls (.int x :: rest)) :=
  lv_istore_n hX.1.1 hX.1.2.1 hd hi hl.1 hn rfl fun ls' h' => kk ls' (lh_cons hl.2 rfl he h')
theorem rw_astore (hX : CX γ p s m args c cc nL own) {i : Nat} {v : Value} {lv lv' : List (Nat × Value)} (hl : lh ls nL lv) (hn : i < nL) (he : (i, v) :: lv.filter (fun q => !(q.1 == i)) = lv') (hv : v = .null ∨ ∃ a, v = .ref a) (hd : decode cc pc = .ok (.astore i, 2)) (kk : ∀ ls' : Array Slot, lh ls' nL lv' → W p l e R s m args below meth c H locs cells slots Q (F0 m (pc + 2) ls' rest)) : W p l e R s m args below meth c H locs cells slots Q (F0 m pc ls (v :: rest)) := by
  rcases hv with rfl | ⟨a, rfl⟩
  · exact lv_astoreN hX.1.1 hX.1.2.1 hd hl.1 hn rfl fun ls' h' => kk ls' (lh_cons hl.2 rfl he h')
  · exact lv_astore hX.1.1 hX.1.2.1 hd hl.1 hn rfl fun ls' h' => kk ls' (lh_cons hl.2 rfl he h')
theorem rw_astore_n (hX : CX γ p s m args c cc nL own) {i : Nat} {v : Value} {lv lv' : List (Nat × Value)} {kf : Fin 4} (hl : lh ls nL lv) (hn : i < nL) (he : (i, v) :: lv.filter (fun q => !(q.1 == i)) = lv') (hv : v = .null ∨ ∃ a, v = .ref a) (hd : decode cc pc = .ok (.astore_n kf, 1)) (hi : (kf : Nat) = i) (kk : ∀ ls' : Array Slot, lh ls' nL lv' → W p l e R s m args below meth c H locs cells slots Q (F0 m (pc + 1) ls' rest)) : W p l e R s m args below meth c H locs cells slots Q (F0 m pc ls (v :: rest)) := by
  rcases hv with rfl | ⟨a, rfl⟩
  · exact lv_astore_nN hX.1.1 hX.1.2.1 hd hi hl.1 hn rfl fun ls' h' => kk ls' (lh_cons hl.2 rfl he h')
  · exact lv_astore_n hX.1.1 hX.1.2.1 hd hi hl.1 hn rfl fun ls' h' => kk ls' (lh_cons hl.2 rfl he h')
theorem rw_iinc (hX : CX γ p s m args c cc nL own) {i k : Nat} {n : Int} {x v : Int32} {lv lv' : List (Nat × Value)} (hl : lh ls nL lv) (hk : lv[k]? = some (i, .int x)) (hv : x + Int32.ofInt n = v) (hn : i < nL) (he : (i, Value.int v) :: lv.filter (fun q => !(q.1 == i)) = lv') (hd : decode cc pc = .ok (.iinc i n, 3)) (kk : ∀ ls' : Array Slot, lh ls' nL lv' → W p l e R s m args below meth c H locs cells slots Q (F0 m (pc + 3) ls' rest)) : W p l e R s m args below meth c H locs cells slots Q (F0 m pc ls rest) :=
  lv_iinc hX.1.1 hX.1.2.1 hd hl.1 hk hv hn rfl fun ls' h' => kk ls' (lh_cons hl.2 rfl he h')
theorem lh_sub {lv lv' : List (Nat × Value)} (h : lh ls nL lv) (ks : List Nat) (hl : lv_pick lv ks = lv') : lh ls nL lv' := by
  refine ⟨lv_sub h.1 ks hl, fun q hq => ?_⟩
  rw [← hl] at hq
  obtain ⟨k, -, hk⟩ := List.mem_filterMap.mp hq
  exact h.2 q (List.mem_of_getElem? hk)
/-! what the picture says of an object, an array -/
theorem rs_obj {la : Nat → Nat × Nat} (h : Rep1 γ ad la σ H) {k i : Nat} (h0 : 0 < k) (hk : k < 9) (hi : i < cn σ k) : va_at (gD γ) vwCl (Ad γ ad k i, .inr (k, oj γ ad σ k i)) H ∧ gB γ ≤ Ad γ ad k i := by
  have hex : EX σ la k i := by
    unfold EX
    rw [if_neg (by omega), if_neg (by omega), if_pos hk]
    exact hi
  have h1 := h.1 k i hex
  have e1 : CE γ ad la σ k i = .inr (k, oj γ ad σ k i) := by
    unfold CE
    rw [if_neg (by omega), if_neg (by omega), if_pos hk]
  have e2 : AD γ ad la k i = Ad γ ad k i := by
    unfold AD
    rw [if_neg (by omega)]
  rw [e1, e2] at h1
  exact h1
theorem rs_P {D : va_G} {cl : List vw_C} {a : Nat} {x : va_E} (h : va_at D cl (a, x) H) : va_P D cl [(a, x)] H := by
  intro k q hq
  have hz : k < 1 := (List.getElem?_eq_some_iff.mp hq).1
  rw [show k = 0 by omega] at hq
  cases hq
  exact h
theorem rw_get (hX : CX γ p s m args c cc nL own) (hR : RS γ ad σ s H locs) (k j i : Nat) {a index : Nat} {v : Value} {C ref : String} {T : u_T} {N : Nat} (hc : vwCl[k]? = some (C, T, N)) (h0 : 0 < k ∧ k < 9 ∧ j < N ∧ nf k = N) (hi : i < cn σ k) (ha : Ad γ ad k i = a) (hv : fv γ ad σ (100 * k + j) i = v) (hin : ∀ w ∈ u_ws C T N, w ∈ GW)
    (hw : Cond.fieldLink own index ref (T j).2.1 (T j).2.2.1 ∈ GW) (hsame : (T j).1 = ref) (hd : decode cc pc = .ok (.getfield index, 3)) (kk : W p l e R s m args below meth c H locs cells slots Q (F0 m (pc + 3) ls (v :: rest))) : W p l e R s m args below meth c H locs cells slots Q (F0 m pc ls (.ref a :: rest)) := by
  obtain ⟨⟨la, h1⟩, -⟩ := hR
  subst ha hv
  refine va_get (ci := k) (fs := oj γ ad σ k i) hX.1.1 hX.1.2.1 hX.1.2.2.2.2 hin hX.1.2.2.2.1 hX.2.1 (rs_P (rs_obj h1 h0.1 h0.2.1 hi).1) 0 rfl hc j h0.2.2.1 (hX.1.2.2.2.2 _ hw) (by rw [← hsame]; exact fun _ h => h) (oj_get (by rw [h0.2.2.2]; exact h0.2.2.1)) hd kk
theorem rw_getN (hX : CX γ p s m args c cc nL own) (hR : RS γ ad σ s H locs) (k j i : Nat) {a index : Nat} {v : Value} {C ref host : String} {T : u_T} {N : Nat} (hc : vwCl[k]? = some (C, T, N)) (h0 : 0 < k ∧ k < 9 ∧ j < N ∧ nf k = N) (hi : i < cn σ k) (ha : Ad γ ad k i = a) (hv : fv γ ad σ (100 * k + j) i = v) (hin : ∀ w ∈ u_ws C T N, w ∈ GW)
    (hw : Cond.fieldLinkNest own index ref (T j).2.1 (T j).2.2.1 host ∈ NW) (hsame : (T j).1 = ref) (hd : decode cc pc = .ok (.getfield index, 3)) (kk : W p l e R s m args below meth c H locs cells slots Q (F0 m (pc + 3) ls (v :: rest))) : W p l e R s m args below meth c H locs cells slots Q (F0 m pc ls (.ref a :: rest)) := by
  obtain ⟨⟨la, h1⟩, -⟩ := hR
  subst ha hv
  refine va_getN (ci := k) (fs := oj γ ad σ k i) hX.1.1 hX.1.2.1 hX.1.2.2.2.2 hin hX.1.2.2.2.1 hX.2.1 (rs_P (rs_obj h1 h0.1 h0.2.1 hi).1) 0 rfl hc j h0.2.2.1 (va_Nw.use rfl (hX.2.2.1 _ hw)) (by rw [← hsame]; exact fun _ h => h) (oj_get (by rw [h0.2.2.2]; exact h0.2.2.1)) hd kk
end RW
