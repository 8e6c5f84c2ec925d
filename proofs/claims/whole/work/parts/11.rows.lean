/-! ===== throws, casts, new objects ===== -/
def XNS : List String := ["java/lang/RuntimeException", "java/lang/Exception"]
theorem NW_tab {w : Cond} (h : w ∈ NW) : w.onTables = true := by
  have hn := (List.mem_filter.mp h).2
  cases w <;> first | rfl | (simp [isN] at hn)
theorem Rep.kept {γ : GT} {ad : Nat → Nat → Nat} {σ : St} {H H1 : Heap} (h : Rep γ ad σ H) (hk : ∀ q : Nat, q < H.size → H1[q]? = H[q]?) : Rep γ ad σ H1 := by
  obtain ⟨la, h1, h2, h3⟩ := h
  exact ⟨la, fun c i hc => ⟨(h1 c i hc).1.kept (hk _ (h1 c i hc).1.lt), (h1 c i hc).2⟩, h2, h3⟩
section RT
variable {p : Program} {l : Launch} {e : Env} {R : Room} {s : State} {m : MethodId} {args : Array Value} {below : List Frame} {meth : Method} {c : Code} {H : Heap} {locs : List Loc} {cells slots : Nat} {Q : State → Prop}
variable {pc : Nat} {ls : Array Slot} {rest : List Value} {cc : ByteArray} {γ : GT} {ad : Nat → Nat → Nat} {σ σ' : St} {nL : Nat}
theorem rw_throw {α : Type} {lv : List (Nat × Value)} {Qc : Array Value → State → Outcome → State → Prop} (hX : CX γ p s m args c cc nL "DriverMoor") (hR : RS γ ad σ s H locs) (hfl : l.stackTraces = false) (x ik is ic : Nat) {text : String} {r : Except Nat α} {mc ms : Nat} (hv : r = .error x) (hcls : Bundle.fit (XN x) = true) (hnames : ∀ n ∈ XNS, Bundle.fit n = true)
    (hk : Cond.classLink "DriverMoor" ik (XN x) ∈ GW) (hini : Cond.initialized (XN x) ∈ GW) (hst : (is, text) ∈ STR) (hat : ∀ w ∈ vx_atS "DriverMoor" ic (XN x) XNS, w ∈ GW ∨ w ∈ NW) (hgood : ∀ w ∈ Cond.classLink "DriverMoor" ik (XN x) :: Cond.initialized (XN x) :: vx_atS "DriverMoor" ic (XN x) XNS, vx_ot w = true) (hls : lv_has ls nL lv) (ht : ∀ x ∈ c.exceptionTable.toList, False)
    (d0 : decode cc pc = .ok (.new ik, 3)) (d3 : decode cc (pc + 3) = .ok (.dup, 1)) (d4 : decode cc (pc + 4) = .ok (.ldc is, 2)) (d6 : decode cc (pc + 6) = .ok (.invokespecial ic, 3)) (d9 : decode cc (pc + 9) = .ok (.athrow, 1))
    (hfr : 5 < R.frames) (hlo : 82 ≤ R.locals) (hc : cells + 1 ≤ R.cells ∧ slots + 6 ≤ R.slots) (hlocks : meth.locks = false) (hc2 : cells + 1 ≤ mc ∧ slots + 6 ≤ ms) :
    W p l e R s m args below meth c H locs cells slots (vx_MQ below Qc (QXX γ ad σ r) args s mc ms (gA γ)) (F0 m pc ls []) := by
  obtain ⟨⟨hx, hb, hml, hown, hts⟩, hK, hE⟩ := hX
  obtain ⟨sa, hsa⟩ := hE.2.1 _ hst
  refine vx_throwS (names := XNS) (sa := sa) (A := gA γ) hx hb hfl hown hcls hnames (hts _ hk) (hts _ hini) hsa (fun w hw => ?_) hgood hE.2.2.2.2.1 hE.2.2.2.2.2.1 hR.2 (hls.1.trans hml.symm) d0 d3 d4 d6 d9 (fun z hz => (ht z hz).elim) hfr ?_ hc.1 hc.2 hlocks ?_ hR.2.2.2 hc2.1 hc2.2
  · rcases hat w hw with h | h
    · exact hts _ h
    · exact va_Nw.use (NW_tab h) (hE.1 _ h)
  · exact hlo
  · intro t _ hz hk'
    exact ⟨(), trivial, ⟨⟨x, hv, rfl⟩, hR.1.kept hk'⟩, Nat.le_trans hR.2.1 hz, fun q h1 h2 => (hk' q (Nat.lt_of_lt_of_le h1 hR.2.1)).trans (hR.2.2.1 q h1 h2)⟩
theorem rw_throwW {α : Type} {lv : List (Nat × Value)} {Qc : Array Value → State → Outcome → State → Prop} (hX : CX γ p s m args c cc nL "DriverMoor") (hR : RS γ ad σ s H locs) (hfl : l.stackTraces = false) (x ik is ic : Nat) {text : String} {r : Except Nat α} {mc ms : Nat} (hv : r = .error x) (hcls : Bundle.fit (XN x) = true) (hnames : ∀ n ∈ XNS, Bundle.fit n = true)
    (hk : Cond.classLink "DriverMoor" ik (XN x) ∈ GW) (hini : Cond.initialized (XN x) ∈ GW) (hst : (is, text) ∈ STR) (hat : ∀ w ∈ vx_atS "DriverMoor" ic (XN x) XNS, w ∈ GW ∨ w ∈ NW) (hgood : ∀ w ∈ Cond.classLink "DriverMoor" ik (XN x) :: Cond.initialized (XN x) :: vx_atS "DriverMoor" ic (XN x) XNS, vx_ot w = true) (hls : lv_has ls nL lv) (ht : ∀ x ∈ c.exceptionTable.toList, False)
    (d0 : decode cc pc = .ok (.new ik, 3)) (d3 : decode cc (pc + 3) = .ok (.dup, 1)) (d4 : decode cc (pc + 4) = .ok (.ldc_w is, 3)) (d6 : decode cc (pc + 7) = .ok (.invokespecial ic, 3)) (d9 : decode cc (pc + 10) = .ok (.athrow, 1))
    (hfr : 5 < R.frames) (hlo : 82 ≤ R.locals) (hc : cells + 1 ≤ R.cells ∧ slots + 6 ≤ R.slots) (hlocks : meth.locks = false) (hc2 : cells + 1 ≤ mc ∧ slots + 6 ≤ ms) :
    W p l e R s m args below meth c H locs cells slots (vx_MQ below Qc (QXX γ ad σ r) args s mc ms (gA γ)) (F0 m pc ls []) := by
  obtain ⟨⟨hx, hb, hml, hown, hts⟩, hK, hE⟩ := hX
  obtain ⟨sa, hsa⟩ := hE.2.1 _ hst
  refine vx_throwSW (names := XNS) (sa := sa) (A := gA γ) hx hb hfl hown hcls hnames (hts _ hk) (hts _ hini) hsa (fun w hw => ?_) hgood hE.2.2.2.2.1 hE.2.2.2.2.2.1 hR.2 (hls.1.trans hml.symm) d0 d3 d4 d6 d9 (fun z hz => (ht z hz).elim) hfr ?_ hc.1 hc.2 hlocks ?_ hR.2.2.2 hc2.1 hc2.2
  · rcases hat w hw with h | h
    · exact hts _ h
    · exact va_Nw.use (NW_tab h) (hE.1 _ h)
  · exact hlo
  · intro t _ hz hk'
    exact ⟨(), trivial, ⟨⟨x, hv, rfl⟩, hR.1.kept hk'⟩, Nat.le_trans hR.2.1 hz, fun q h1 h2 => (hk' q (Nat.lt_of_lt_of_le h1 hR.2.1)).trans (hR.2.2.1 q h1 h2)⟩
end RT
theorem XNS_fit : ∀ n ∈ XNS, Bundle.fit n = true := by decide +kernel
theorem XN_fit1 : Bundle.fit (XN 1) = true := by decide +kernel
theorem XN_fit2 : Bundle.fit (XN 2) = true := by decide +kernel
theorem XN_fit3 : Bundle.fit (XN 3) = true := by decide +kernel
theorem xa_2 : ∀ w ∈ vx_atS "DriverMoor" 65 (XN 2) XNS, w ∈ GW ∨ w ∈ NW := by decide +kernel
theorem xg_2 : ∀ w ∈ Cond.classLink "DriverMoor" 61 (XN 2) :: Cond.initialized (XN 2) :: vx_atS "DriverMoor" 65 (XN 2) XNS, vx_ot w = true := by decide +kernel
theorem xa_3 : ∀ w ∈ vx_atS "DriverMoor" 78 (XN 3) XNS, w ∈ GW ∨ w ∈ NW := by decide +kernel
theorem xg_3 : ∀ w ∈ Cond.classLink "DriverMoor" 74 (XN 3) :: Cond.initialized (XN 3) :: vx_atS "DriverMoor" 78 (XN 3) XNS, vx_ot w = true := by decide +kernel
theorem xa_1 : ∀ w ∈ vx_atS "DriverMoor" 140 (XN 1) XNS, w ∈ GW ∨ w ∈ NW := by decide +kernel
theorem xg_1 : ∀ w ∈ Cond.classLink "DriverMoor" 136 (XN 1) :: Cond.initialized (XN 1) :: vx_atS "DriverMoor" 140 (XN 1) XNS, vx_ot w = true := by decide +kernel
