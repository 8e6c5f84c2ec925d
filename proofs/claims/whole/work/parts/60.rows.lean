/-! ===== the law's helpers: what is caught, the out row ===== -/
theorem met_vx {l : Launch} {y : MethodName} {ws : List Cond} {rm : Room} {Pc : Array Value → State → Prop} {Qc : Array Value → State → Outcome → State → Prop} {mc ms : Nat} {free : Addr → Prop} (h : vx_Met l y ws rm Pc Qc (fun _ _ _ => False) mc ms free) : Met l y ws rm Pc Qc mc ms free :=
  MetFree.imp h fun _ _ _ _ q => q.elim id fun ⟨_, _, _, _, _, hx, _⟩ => hx.elim
def QL (γ : GT) (σ : St) (k : Int32) : Array Value → State → Outcome → State → Prop := va_Qi (S := Unit) (fun x _ => x = k) (fun _ t => ∃ ad, Rep γ ad σ t.heap) (gA γ)
section LH
variable {p : Program} {l : Launch} {e : Env} {R : Room} {s : State} {m : MethodId} {args : Array Value} {below : List Frame} {meth : Method} {c : Code} {H : Heap} {locs : List Loc} {cells slots : Nat} {Q : State → Prop}
variable {pc : Nat} {ls : Array Slot} {rest : List Value} {cc : ByteArray} {γ : GT} {ad : Nat → Nat → Nat} {σ σ' : St} {nL : Nat} {own : String}
variable {y : MethodName} {bytes : ByteArray} {maxL mc ms n index : Nat} {ret : Option FieldType} {rm : Room} {C host : String} {b : Addr} {As : List Value}
theorem rep_out {la : Nat → Nat × Nat} {H1 : Heap} (h : Rep1 γ ad la σ H) {x : Int64} (hat : va_at (gD γ) vwCl (gS γ 3000 0, .inl (gcJ γ, 1, .inr (.inl fun _ => x))) H1) (oq : ∀ q : Nat, q ≠ gS γ 3000 0 → H1[q]? = H[q]?) : Rep1 γ ad la (zo σ x) H1 := by
  refine Rep1.upd h 3000 0 ?_ (fun c i => Iff.rfl) (fun c i hex hne => ?_) (fun k => rfl) hat oq
  · show EX σ la 3000 0
    unfold EX
    simp
  · by_cases h3 : c = 3000
    · subst h3
      have : i = 0 := by
        unfold EX at hex
        simpa using hex
      exact absurd ⟨rfl, this⟩ hne
    · unfold CE
      split
      · rfl
      · split
        · rfl
        · split
          · rfl
          · rfl
theorem rs_out {la : Nat → Nat × Nat} (h : Rep1 γ ad la σ H) : va_at (gD γ) vwCl (gS γ 3000 0, .inl (gcJ γ, 1, .inr (.inl fun _ => go σ))) H ∧ gB γ ≤ gS γ 3000 0 :=
  h.1 3000 0 (by unfold EX; simp)
theorem rw_outst (hX : CX γ p s m args c cc nL own) (hR : RS γ ad σ s H locs) {x : Int64} (hd : decode cc pc = .ok (.lastore, 1)) (kk : ∀ (H1 : Heap) (locs1 : List Loc), RS γ ad (zo σ x) s H1 locs1 → W p l e R s m args below meth c H1 locs1 cells slots Q (F0 m (pc + 1) ls rest)) : W p l e R s m args below meth c H locs cells slots Q (F0 m pc ls (.long x :: .int 0 :: .ref (gS γ 3000 0) :: rest)) := by
  obtain ⟨⟨la, h1⟩, hS⟩ := hR
  have hat := rs_out h1
  have e0 : (0 : Int32).toNatClampNeg = 0 := rfl
  refine W.last hX.1.1 hX.1.2.1 hat.1 ((hX.2.1.2 2 _ rfl).1 1 (fun j => .long (go σ))) (fun q => by cases q) (by show ¬ ((0 : Int32) < 0 ∨ (arrV _ _ _).slots.size ≤ _); rw [arrV_size, e0]; exact (by decide : ¬ ((0 : Int32) < 0 ∨ 1 ≤ 0))) rfl rfl hd fun H1 e1 z oq => ?_
  refine kk H1 _ ⟨⟨la, rep_out h1 ?_ oq⟩, hS.put z oq hat.2⟩
  show H1[_]? = some (vp_cell _ _)
  rw [e1]
  rw [vp_cell_l, vp_cell_l, arrV_store, e0]
  have e2 : (fun j : Fin 1 => updV (fun _ => Value.long (go σ)) 0 (.long x) j.val) = fun _ => .long x := by
    funext j
    have : j.val = 0 := by omega
    simp [updV, this]
  unfold arrV
  rw [e2]
theorem rw_outld (hX : CX γ p s m args c cc nL own) (hR : RS γ ad σ s H locs) (hd : decode cc pc = .ok (.laload, 1)) (kk : W p l e R s m args below meth c H locs cells slots Q (F0 m (pc + 1) ls (.long (go σ) :: rest))) : W p l e R s m args below meth c H locs cells slots Q (F0 m pc ls (.int 0 :: .ref (gS γ 3000 0) :: rest)) := by
  obtain ⟨⟨la, h1⟩, hS⟩ := hR
  have hat := rs_out h1
  exact va_lald hX.1.1 hX.1.2.1 hX.2.1 (rs_P hat.1) 0 2 rfl rfl (i := 0) (by show ¬ ((0 : Int32) < 0 ∨ _); decide) hd kk
theorem rw_catch (hX : CX γ p s m args c cc nL RL) {ex : Nat} {ce : Cell} {q9 : Addr} {hh pre suf : List (Nat × Nat × Nat × Nat)} {x : Nat × Nat × Nat × Nat} (ht : c.exceptionTable.toList = tableOf hh) (hs : hh = pre ++ x :: suf) (hpass : ∀ z ∈ pre, z.2.2.2 ≠ 0 ∧ ∃ nm, Cond.classLink RL z.2.2.2 nm ∈ GW ∧ va_Nc (XN ex) nm s)
    (hx : covers ⟨x.1, x.2.1, x.2.2.1, x.2.2.2⟩ pc = true) (h0 : x.2.2.2 ≠ 0) (hlink : Cond.classLink RL x.2.2.2 (XN ex) ∈ GW) (hcast : Cond.castable (XN ex) (XN ex) ∈ NW) (hcell : H[q9]? = some ce) (hv : ce.vm = .none) (hcl : s.vm.findClass (XN ex) = some ce.cls)
    (kk : W p l e R s m args below meth c H locs cells slots Q (F0 m x.2.2.1 ls [.ref q9])) : vx_W p l e R s m args below meth c H locs cells slots Q (F0 m pc ls rest) q9 := by
  subst hs
  refine vx_catch hX.1.2.2.2.1 (tableOf pre) ⟨x.1, x.2.1, x.2.2.1, x.2.2.2⟩ (tableOf suf) (ht.trans (by simp [tableOf])) (fun z hz => ?_) hx h0 (hX.1.2.2.2.2 _ hlink) (va_Nw.use rfl (hX.2.2.1 _ hcast)) hcell hv hcl kk
  obtain ⟨w, hw, rfl⟩ := List.mem_map.mp hz
  obtain ⟨h1, nm, h2, h3⟩ := hpass w hw
  exact Or.inr ⟨h1, nm, hX.1.2.2.2.2 _ h2, h3⟩
theorem rw_xVn (hX : CX γ p s m args c cc nL own) (hR : RS γ ad σ s H locs) (pk : PKV y bytes maxL ret n) (hrm : rm.cells = mc ∧ rm.slots = ms ∧ rm.frames + 1 ≤ R.frames ∧ 8 + (maxL + 11) + rm.locals ≤ R.locals) {lv : List (Nat × Value)} {r : Except Nat Int32} {st0 : List Value} (hst : st0 = (As.reverse ++ .ref b :: rest)) (hM : vx_Met l y (Cond.code y bytes maxL ret :: GW) rm (va_Pc (.ref b :: As) (RU γ ad σ)) (QXN γ σ' r) (QXX γ ad σ' r) mc ms (gA γ)) (wl : Cond.methodLink own index y ∈ GW) (wi : Cond.instanceMethod y ∈ GW) (wsel : Cond.selects C y y ∈ GW) (hrecv : ∃ cell : Cell, H[b]? = some cell ∧ cell.vm.isStatics = false ∧ s.vm.findClass C = some cell.cls) (hn : As.length = n) (hls : lv_has ls nL lv) (hcat : ∀ v ∈ rest, v.category = 1) (hl8 : rest.length ≤ 8) (hd : decode cc pc = .ok (.invokevirtual index, 3)) (hf : cells + mc ≤ R.cells ∧ slots + ms ≤ R.slots)
    (kx : ∀ (x : Nat) (ce : Cell) (q9 : Addr) (H1 : Heap) (locs1 : List Loc), r = .error x → RS γ ad σ' s H1 locs1 → H1[q9]? = some ce → ce.vm = .none → s.vm.findClass (XN x) = some ce.cls → vx_W p l e R s m args below meth c H1 locs1 (cells + mc) (slots + ms) Q (F0 m pc ls rest) q9)
    (kk : ∀ (v : Int32) (ad : Nat → Nat → Nat) (H1 : Heap) (locs1 : List Loc), r = .ok v → RS γ ad σ' s H1 locs1 → W p l e R s m args below meth c H1 locs1 (cells + mc) (slots + ms) Q (F0 m (pc + 3) ls (.int v :: rest))) : W p l e R s m args below meth c H locs cells slots Q (F0 m pc ls st0) := by
  subst hst
  exact vx_calli (vx_runV hX.1 hM ⟨rw_B hX pk hrm wl, hX.1.2.2.2.2 _ wi, hX.1.2.2.2.2 _ wsel⟩ ⟨blindU, hrecv, rw_pre hX hR⟩ rfl hn hls.1 rfl (lv_room (cats_le hcat hl8)) hd hf) hR.2 (fun _ _ h => h) (fun _ h => h) (fun _ _ h => h) (fun E ce q9 _ t H1 locs1 ht _ _ hB _ _ hS h1 h2 h3 => by obtain ⟨⟨x, hx, rfl⟩, hB⟩ := hB; exact kx x ce q9 H1 locs1 hx ⟨by rw [← ht]; exact hB, hS⟩ h1 h2 h3) fun x _ t H1 locs1 ht _ hp hB _ _ hS => by obtain ⟨ad1, hB⟩ := hB; exact kk x ad1 H1 locs1 hp ⟨by rw [← ht]; exact hB, hS⟩
theorem rl_i (hX : CX γ p s m args c cc nL own) (hR : RS γ ad σ s H locs) (hr : meth.sig.returnType = some .int) {v k : Int32} (hk : v = k) (hσ : σ = σ') {XC : String → State → State → Prop} (hd : decode cc pc = .ok (.ireturn, 1)) (hlocks : meth.locks = false) : W p l e R s m args below meth c H locs cells slots (vx_MQ below (QL γ σ' k) XC args s cells slots (gA γ)) (F0 m pc ls [.int v]) := by
  subst hk
  subst hσ
  exact vx_ret (W.iret hX.1.1 hX.1.2.1 hr (fun _ ht hW => ⟨⟨v, (), rfl, rfl, ad, (ru_end hX hR ht hW).1⟩, (ru_end hX hR ht hW).2⟩) hR.2.2.2 hd hlocks)
theorem cx_ofH {z : MethodName} {hh : List (Nat × Nat × Nat × Nat)} {s₁ : State} (B : BodyLoose p l z (headSpec (Cond.codeWith z cc nL ret hh :: GW) rm) cc nL ret e s m args below meth c s₁) (hml : c.maxLocals = nL) (hy : z.cls = own) (hU : RU γ ad σ s) : CX γ p s m args c cc nL own ∧ RS γ ad σ s s.heap [] ∧ c.exceptionTable.toList = tableOf hh := by
  refine ⟨⟨⟨B.exec, B.bytes, hml, by rw [← hy]; exact findClass_of_methodNamed B.named, fun w hw => atoms_spec (ws := Cond.codeWith z cc nL ret hh :: GW) B.pre w (List.mem_cons_of_mem _ hw)⟩, hU.2.1, hU.2.2⟩, ⟨hU.1, va_S.rf⟩, vx_table (x := z) B (atoms_spec (ws := Cond.codeWith z cc nL ret hh :: GW) B.pre _ List.mem_cons_self)⟩
/-- what a helper answers, and what lies in out -/
def hk (w : Nat → Int32) {α : Type} (r : Except Nat α) : Int32 := match r with
  | .ok _ => 0
  | .error e => w e
def hoi (σ : St) (r : Except Nat Int32) : St := match r with
  | .ok v => zo σ v.toInt64
  | .error _ => σ
def hoz (σ : St) (r : Except Nat Bool) : St := match r with
  | .ok v => zo σ (if v = true then 1 else 0)
  | .error _ => σ
end LH
/-! ===== the law's main ===== -/
section LW
variable {p : Program} {l : Launch} {e : Env} {R : Room} {s : State} {m : MethodId} {args : Array Value} {below : List Frame} {meth : Method} {c : Code} {H : Heap} {locs : List Loc} {cells slots : Nat} {Q : State → Prop}
variable {pc : Nat} {ls : Array Slot} {rest : List Value} {cc : ByteArray} {γ : GT} {ad : Nat → Nat → Nat} {σ σ' : St} {nL : Nat} {own : String}
variable {y : MethodName} {bytes : ByteArray} {maxL mc ms n index : Nat} {ret : Option FieldType} {rm : Room} {C host : String} {b L : Nat} {As : List Value} {xs : Nat → Int32}
def SC (γ : GT) (s : State) (b L : Nat) (xs : Nat → Int32) : Prop := va_X b L xs s s.heap ∧ b < s.heap.size ∧ b < gB γ ∧ L ≤ 4096
theorem nI_plus (a b : Nat) : nI a + nI b = nI (a + b) := (Int32.ofNat_add a b).symm
theorem rw_scr (hX : CX γ p s m args c cc nL own) (hS : va_S (gA γ) s.heap H locs) (hsc : SC γ s b L xs) {k : Nat} {i : Int32} (hi : i = nI k) (hk : k < L) (hd : decode cc pc = .ok (.iaload, 1)) (kk : W p l e R s m args below meth c H locs cells slots Q (F0 m (pc + 1) ls (.int (xs k) :: rest))) : W p l e R s m args below meth c H locs cells slots Q (F0 m pc ls (.int i :: .ref b :: rest)) := by
  have hL := hsc.2.2.2
  have e1 : i.toNatClampNeg = k := by rw [hi]; exact nI_clamp (by omega)
  have e2 : vp_in i L := by
    show ¬ (i < 0 ∨ L ≤ i.toNatClampNeg)
    rw [e1, hi]
    intro h
    rcases h with h | h
    · have h2 := Int32.lt_iff_toInt_lt.mp h
      rw [nI_toInt (by omega)] at h2
      have h3 : (0 : Int32).toInt = 0 := rfl
      omega
    · omega
  refine va_sld hX.1.1 hX.1.2.1 hsc.1 hsc.2.1 (A := gA γ) (Nat.not_le.mpr hsc.2.2.1) hS e2 hd ?_
  rw [e1]
  exact kk
theorem rw_nz (hX : CX γ p s m args c cc nL own) {x : Int32} {A B : Nat} {o1 o2 : Int} (d0 : decode cc pc = .ok (.ifCond .eq o1, 3)) (hA : (pc : Int) + o1 = (A : Int)) (d1 : decode cc (pc + 3) = .ok (.iconst 1, 1)) (d2 : decode cc (pc + 4) = .ok (.goto o2, 3)) (hB : ((pc + 4 : Nat) : Int) + o2 = (B : Int)) (d3 : decode cc A = .ok (.iconst 0, 1)) (hAB : A + 1 = B)
    (kk : W p l e R s m args below meth c H locs cells slots Q (F0 m B ls (.int (b2i (!(x == 0))) :: rest))) : W p l e R s m args below meth c H locs cells slots Q (F0 m pc ls (.int x :: rest)) := by
  refine lv_if_eq hX.1.1 hX.1.2.1 d0 hA (fun h => ?_) (fun h => ?_)
  · refine lv_iconst (v := 0) hX.1.1 hX.1.2.1 d3 rfl ?_
    rw [hAB]
    have : (!(x == 0)) = false := by simp [h]
    rw [this] at kk
    exact kk
  · refine lv_iconst (v := 1) hX.1.1 hX.1.2.1 d1 rfl ?_
    refine lv_goto (tgt := B) hX.1.1 hX.1.2.1 d2 hB ?_
    have : (!(x == 0)) = true := by simp [h]
    rw [this] at kk
    exact kk
def PKW (y : MethodName) (bytes : ByteArray) (maxL : Nat) (hh : List (Nat × Nat × Nat × Nat)) (n : Nat) : Prop :=
  Cond.initialized y.cls ∈ GW ∧ Cond.codeWith y bytes maxL (some .int) hh ∈ GW ∧ (y.cls ≠ "java/lang/invoke/MethodHandle" ∧ y.cls ≠ "java/lang/invoke/VarHandle" ∧ (parseMethodDescriptor y.desc).map (fun d => d.parameters.length) = some n) ∧ Cond.static y ∈ GW
theorem rw_cSW (hX : CX γ p s m args c cc nL own) (hR : RS γ ad σ s H locs) {hh : List (Nat × Nat × Nat × Nat)} (pk : PKW y bytes maxL hh n) (hrm : rm.cells = mc ∧ rm.slots = ms ∧ rm.frames + 1 ≤ R.frames ∧ 8 + (maxL + 11) + rm.locals ≤ R.locals) {lv : List (Nat × Value)} {r : Int32} {st0 : List Value} (hst : st0 = (As.reverse ++ rest)) (hM : Met l y (Cond.codeWith y bytes maxL (some .int) hh :: GW) rm (va_Pc As (RU γ ad σ)) (QL γ σ' r) mc ms (gA γ)) (wl : Cond.methodLink own index y ∈ GW) (hn : As.length = n) (hls : lv_has ls nL lv) (hcat : ∀ v ∈ rest, v.category = 1) (hl8 : rest.length ≤ 8) (hd : decode cc pc = .ok (.invokestatic index, 3)) (hf : cells + mc ≤ R.cells ∧ slots + ms ≤ R.slots)
    (kk : ∀ (ad : Nat → Nat → Nat) (H1 : Heap) (locs1 : List Loc), RS γ ad σ' s H1 locs1 → W p l e R s m args below meth c H1 locs1 (cells + mc) (slots + ms) Q (F0 m (pc + 3) ls (.int r :: rest))) : W p l e R s m args below meth c H locs cells slots Q (F0 m pc ls st0) := by
  subst hst
  have hts := hX.1.2.2.2.2
  have hG : GoodIn GW (Cond.codeWith y bytes maxL (some .int) hh :: GW) := fun w hw => (List.mem_cons.mp hw).elim (fun e => by rw [e]; exact GW_in _ pk.2.1) (GW_in w)
  refine va_calli (vx_runSW hX.1 hM ⟨⟨hrm.1, hrm.2.1, hrm.2.2.1, hrm.2.2.2, pay_in hts hG, List.mem_cons_self⟩, hts _ pk.2.1, hts _ pk.1, ⟨pk.2.2.1.1, pk.2.2.1.2.1⟩, fun sig h => ?_, hts _ wl, hts _ pk.2.2.2⟩ ⟨blindU, rw_pre hX hR⟩ rfl hn hls.1 rfl (lv_room (cats_le hcat hl8)) hd hf) hR.2 (fun _ _ h => h) (fun _ h => h) fun x _ t H1 locs1 ht _ hp hB _ _ hS => by subst hp; obtain ⟨ad1, hB⟩ := hB; exact kk ad1 H1 locs1 ⟨by rw [← ht]; exact hB, hS⟩
  have h2 := pk.2.2.1.2.2
  rw [h] at h2
  exact (Option.some.inj h2).symm
theorem lg_self (x : Int64) : lg_cmp x x = 0 := by
  unfold lg_cmp
  rw [if_neg (by simp), if_pos rfl]
def lv7 (γ : GT) (b : Nat) (i : Int32) : List (Nat × Value) := [(0, .ref b), (1, .ref (gS γ 7 0)), (2, .ref (gS γ 8 0)), (3, .ref (gS γ 3000 0)), (4, .int i)]
end LW
