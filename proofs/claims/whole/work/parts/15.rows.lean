/-! ===== ends of methods that make objects; switches ===== -/
def QXN (γ : GT) (σ : St) (r : Except Nat Int32) : Array Value → State → Outcome → State → Prop := va_Qi (S := Unit) (fun x _ => r = .ok x) (fun _ t => ∃ ad, Rep γ ad σ t.heap) (gA γ)
section RZ
variable {p : Program} {l : Launch} {e : Env} {R : Room} {s : State} {m : MethodId} {args : Array Value} {below : List Frame} {meth : Method} {c : Code} {H : Heap} {locs : List Loc} {cells slots : Nat} {Q : State → Prop}
variable {pc : Nat} {ls : Array Slot} {rest : List Value} {cc : ByteArray} {γ : GT} {ad : Nat → Nat → Nat} {σ σ' : St} {nL : Nat} {own : String}
theorem ry_n {XC : String → State → State → Prop} (hX : CX γ p s m args c cc nL own) (hR : RS γ ad σ s H locs) (hr : meth.sig.returnType = some .int) {v : Int32} {r : Except Nat Int32} (hw : some (Except.ok v, σ) = some (r, σ')) (hd : decode cc pc = .ok (.ireturn, 1)) (hlocks : meth.locks = false) : W p l e R s m args below meth c H locs cells slots (vx_MQ below (QXN γ σ' r) XC args s cells slots (gA γ)) (F0 m pc ls [.int v]) := by
  cases hw
  exact vx_ret (W.iret hX.1.1 hX.1.2.1 hr (fun _ ht hW => ⟨⟨v, (), rfl, rfl, ad, (ru_end hX hR ht hW).1⟩, (ru_end hX hR ht hW).2⟩) hR.2.2.2 hd hlocks)
theorem rw_tsw (hX : CX γ p s m args c cc nL own) {x : Int32} {dflt hi : Int} {offs : Array Int} {len n : Nat} (td : Nat) (tg : Nat → Nat) (hd : decode cc pc = .ok (.tableswitch dflt 0 hi offs, len)) (hhi : hi = (n : Int) - 1) (hn : n < 1000) (h0 : (pc : Int) + dflt = (td : Int)) (ht : ∀ i, i < n → ∃ off, offs[i]? = some off ∧ (pc : Int) + off = (tg i : Int))
    (kd : (∀ i, i < n → ¬ x = nI i) → W p l e R s m args below meth c H locs cells slots Q (F0 m td ls rest)) (kk : ∀ i, i < n → x = nI i → W p l e R s m args below meth c H locs cells slots Q (F0 m (tg i) ls rest)) : W p l e R s m args below meth c H locs cells slots Q (F0 m pc ls (.int x :: rest)) := by
  by_cases h : ∃ i, i < n ∧ x = nI i
  · obtain ⟨i, hi', hx⟩ := h
    obtain ⟨off, ho, he⟩ := ht i hi'
    have e : x.toInt = (i : Int) := by rw [hx]; exact nI_toInt (by omega)
    exact lv_tableIn hX.1.1 hX.1.2.1 hd (by omega) (by omega) (by rw [e, Int.sub_zero]; exact ho) he (kk i hi' hx)
  · refine lv_tableOut hX.1.1 hX.1.2.1 hd ?_ h0 (kd fun i hi' hx => h ⟨i, hi', hx⟩)
    by_cases h1 : x.toInt < 0
    · exact Or.inl h1
    · refine Or.inr ?_
      rcases Int.lt_or_le hi x.toInt with h2 | h2
      · exact h2
      · exfalso
        have hx0 : ¬ x < 0 := fun z => h1 (by have := Int32.lt_iff_toInt_lt.mp z; simpa using this)
        obtain ⟨j, hj, hxj⟩ := nI_of hx0
        refine h ⟨j, ?_, hxj⟩
        rw [hxj, nI_toInt hj] at h2
        omega
end RZ
