/-! ===== the picture under a write ===== -/
theorem al_tg {f : Nat} (h : 0 < al f) : tg f = 2 := by
  have key : ∀ a, a < 9 → ∀ b, b < 48 → 0 < (alL.getD a []).getD b 0 → (tgL.getD a []).getD b 0 = 2 := by decide +kernel
  have big : ∀ a, ¬ a < 9 → alL.getD a [] = [] := fun a ha => by rw [List.getD_eq_getElem?_getD, List.getElem?_eq_none (by simp [alL]; omega)]; rfl
  have lens : ∀ a, a < 9 → (alL.getD a []).length ≤ 48 := by decide +kernel
  unfold al at h
  unfold tg
  by_cases ha : f / 100 < 9
  · by_cases hb : f % 100 < 48
    · exact key _ ha _ hb h
    · rw [List.getD_eq_getElem?_getD, List.getElem?_eq_none (by have := lens _ ha; omega)] at h
      exact absurd h (by decide)
  · rw [big _ ha] at h
    exact absurd h (by simp)
theorem nf_big {c : Nat} (h : 9 ≤ c) : nf c = 0 := by
  unfold nf
  rw [List.getD_eq_getElem?_getD, List.getElem?_eq_none (by simp [tgL]; omega)]
  rfl
section RP
variable {γ : GT} {ad : Nat → Nat → Nat} {la : Nat → Nat × Nat} {σ σ' : St} {H H1 : Heap}
/-- a field of an object -/
theorem rep_put (h : Rep1 γ ad la σ H) {k j i : Nat} {v : Value} (h0 : 0 < k ∧ k < 9 ∧ j < nf k) (hi : i < cn σ k) (hgn : ∀ c, cn σ' c = cn σ c) (hgl : ∀ k, gl σ' k = gl σ k) (hgo : go σ' = go σ) (hg0 : ∀ i, gi σ' 0 i = gi σ 0 i)
    (hfv : ∀ f' i', ¬ (f' = 100 * k + j ∧ i' = i) → fv γ ad σ' f' i' = fv γ ad σ f' i') (har : ∀ f', tg f' = 2 → arE γ σ' f' = arE γ σ f') (hv : fv γ ad σ' (100 * k + j) i = v)
    (hat : va_at (gD γ) vwCl (Ad γ ad k i, .inr (k, (oj γ ad σ k i).set j v)) H1) (oq : ∀ q : Nat, q ≠ Ad γ ad k i → H1[q]? = H[q]?) : Rep1 γ ad la σ' H1 := by
  have hex : ∀ c i, EX σ' la c i ↔ EX σ la c i := fun c i => by unfold EX; rw [hgn]
  have eAD : AD γ ad la k i = Ad γ ad k i := by unfold AD; rw [if_neg (by omega)]
  have hj : j < 48 := Nat.lt_of_lt_of_le h0.2.2 (nf_le k)
  have hex0 : EX σ la k i := by
    unfold EX
    rw [if_neg (by omega), if_neg (by omega), if_pos h0.2.1]
    exact hi
  refine h.upd k i hex0 hex (fun c i' hc hne => ?_) hgl ?_ (by rw [eAD]; exact oq)
  · unfold CE
    by_cases c0 : c = 0
    · rw [if_pos c0, if_pos c0, hg0, hgl]
    rw [if_neg c0, if_neg c0]
    by_cases c9 : c = 9
    · rw [if_pos c9, if_pos c9, hgl]
    rw [if_neg c9, if_neg c9]
    by_cases cl9 : c < 9
    · rw [if_pos cl9, if_pos cl9]
      refine congrArg (fun x => (Sum.inr (c, x) : va_E)) (oj_same fun k' hk' => hfv _ _ fun z => hne ?_)
      have := Nat.lt_of_lt_of_le hk' (nf_le c)
      exact ⟨by omega, z.2⟩
    rw [if_neg cl9, if_neg cl9]
    by_cases c3 : c = 3000
    · rw [if_pos c3, if_pos c3, hgo]
    rw [if_neg c3, if_neg c3]
    unfold EX at hc
    rw [if_neg c0, if_neg c9, if_neg cl9, if_neg c3] at hc
    exact har _ (al_tg hc.2.2)
  · rw [eAD]
    have e1 : CE γ ad la σ' k i = .inr (k, oj γ ad σ' k i) := by
      unfold CE
      rw [if_neg (by omega), if_neg (by omega), if_pos h0.2.1]
    rw [e1, oj_set (k := j) hv (fun k' hk' => hfv _ _ fun z => hk' (by omega))]
    exact hat
theorem arE_zi {f f' i : Nat} {v : Int32} (h : f' ≠ f) : arE γ (zi σ f i v) f' = arE γ σ f' := by
  unfold arE; split
  · rfl
  · simp [gi, zi, u2, h]
theorem arE_zb {f f' i : Nat} {v : Bool} (h : f' ≠ f) : arE γ (zb σ f i v) f' = arE γ σ f' := by
  unfold arE; split
  · simp [gb, zb, u2, h]
  · rfl
theorem rep_puti (h : Rep1 γ ad la σ H) {k j i : Nat} {x : Int32} (h0 : 0 < k ∧ k < 9 ∧ j < nf k) (ht : tg (100 * k + j) = 0) (hi : i < cn σ k)
    (hat : va_at (gD γ) vwCl (Ad γ ad k i, .inr (k, (oj γ ad σ k i).set j (.int x))) H1) (oq : ∀ q : Nat, q ≠ Ad γ ad k i → H1[q]? = H[q]?) : Rep1 γ ad la (zi σ (100 * k + j) i x) H1 := by
  refine rep_put h h0 hi (fun _ => rfl) (fun _ => rfl) rfl (fun i' => ?_) (fun f' i' z => fv_zi z) (fun f' hf' => arE_zi fun z => ?_) ?_ hat oq
  · show u2 _ _ _ _ _ _ = _
    unfold u2
    rw [if_neg (by omega)]
    rfl
  · rw [z, ht] at hf'
    cases hf'
  · unfold fv
    rw [ht]
    simp [gi, zi, u2]
theorem rep_putb (h : Rep1 γ ad la σ H) {k j i : Nat} {x : Bool} (h0 : 0 < k ∧ k < 9 ∧ j < nf k) (ht : tg (100 * k + j) = 1) (hi : i < cn σ k)
    (hat : va_at (gD γ) vwCl (Ad γ ad k i, .inr (k, (oj γ ad σ k i).set j (.int (b2i x)))) H1) (oq : ∀ q : Nat, q ≠ Ad γ ad k i → H1[q]? = H[q]?) : Rep1 γ ad la (zb σ (100 * k + j) i x) H1 := by
  refine rep_put h h0 hi (fun _ => rfl) (fun _ => rfl) rfl (fun i' => rfl) (fun f' i' z => fv_zb z) (fun f' hf' => arE_zb fun z => ?_) ?_ hat oq
  · rw [z, ht] at hf'
    cases hf'
  · unfold fv
    rw [ht]
    simp [gb, zb, u2]
theorem rep_putp (h : Rep1 γ ad la σ H) {k j i t : Nat} {x : Option Nat} (h0 : 0 < k ∧ k < 9 ∧ j < nf k) (ht : tg (100 * k + j) = t + 10) (hi : i < cn σ k)
    (hat : va_at (gD γ) vwCl (Ad γ ad k i, .inr (k, (oj γ ad σ k i).set j (va_rf (x.map (Ad γ ad t))))) H1) (oq : ∀ q : Nat, q ≠ Ad γ ad k i → H1[q]? = H[q]?) : Rep1 γ ad la (zp σ (100 * k + j) i x) H1 := by
  refine rep_put h h0 hi (fun _ => rfl) (fun _ => rfl) rfl (fun i' => rfl) (fun f' i' z => fv_zp z) (fun f' hf' => rfl) ?_ hat oq
  unfold fv
  rw [ht]
  show va_rf ((gp (zp σ (100 * k + j) i x) (100 * k + j) i).map (Ad γ ad (t + 10 - 10))) = _
  simp [gp, zp, u2]
/-- a cell of an array -/
theorem rep_arr (h : Rep1 γ ad la σ H) {f : Nat} (hf : 0 < al f) (hgn : ∀ c, cn σ' c = cn σ c) (hgl : ∀ k, gl σ' k = gl σ k) (hgo : go σ' = go σ) (hg0 : ∀ i, gi σ' 0 i = gi σ 0 i)
    (hfv : ∀ f' i', fv γ ad σ' f' i' = fv γ ad σ f' i') (har : ∀ f', f' ≠ f → arE γ σ' f' = arE γ σ f')
    (hat : va_at (gD γ) vwCl (gS γ (1000 + f) 0, arE γ σ' f) H1) (oq : ∀ q : Nat, q ≠ gS γ (1000 + f) 0 → H1[q]? = H[q]?) : Rep1 γ ad la σ' H1 := by
  have hlt : f < 900 := by
    unfold al at hf
    by_cases z : f / 100 < 9
    · omega
    · rw [List.getD_eq_getElem?_getD (l := alL), List.getElem?_eq_none (by simp [alL]; omega)] at hf
      exact absurd hf (by simp)
  have hex : ∀ c i, EX σ' la c i ↔ EX σ la c i := fun c i => by unfold EX; rw [hgn]
  have eAD : AD γ ad la (1000 + f) 0 = gS γ (1000 + f) 0 := by
    unfold AD Ad dy
    rw [if_neg (by omega), List.getD_eq_getElem?_getD, List.getElem?_eq_none (by simp; omega)]
    rfl
  have hex0 : EX σ la (1000 + f) 0 := by
    unfold EX
    rw [if_neg (by omega), if_neg (by omega), if_neg (by omega), if_neg (by omega)]
    exact ⟨rfl, by omega, by rw [Nat.add_sub_cancel_left]; exact hf⟩
  refine h.upd (1000 + f) 0 hex0 hex (fun c i' hc hne => ?_) hgl ?_ (by rw [eAD]; exact oq)
  · unfold CE
    by_cases c0 : c = 0
    · rw [if_pos c0, if_pos c0, hg0, hgl]
    rw [if_neg c0, if_neg c0]
    by_cases c9 : c = 9
    · rw [if_pos c9, if_pos c9, hgl]
    rw [if_neg c9, if_neg c9]
    by_cases cl9 : c < 9
    · rw [if_pos cl9, if_pos cl9]
      exact congrArg (fun x => (Sum.inr (c, x) : va_E)) (oj_same fun k' hk' => hfv _ _)
    rw [if_neg cl9, if_neg cl9]
    by_cases c3 : c = 3000
    · rw [if_pos c3, if_pos c3, hgo]
    rw [if_neg c3, if_neg c3]
    unfold EX at hc
    rw [if_neg c0, if_neg c9, if_neg cl9, if_neg c3] at hc
    exact har _ (fun z => hne ⟨by omega, hc.1⟩)
  · rw [eAD]
    have e1 : CE γ ad la σ' (1000 + f) 0 = arE γ σ' f := by
      unfold CE
      rw [if_neg (by omega), if_neg (by omega), if_neg (by omega), if_neg (by omega), Nat.add_sub_cancel_left]
    rw [e1]
    exact hat
theorem fv_arri {f j f' i' : Nat} {v : Int32} (ht : tg f = 2) : fv γ ad (zi σ f j v) f' i' = fv γ ad σ f' i' := by
  by_cases hf : f' = f
  · subst hf
    unfold fv
    rw [ht]
    rfl
  · exact fv_zi fun z => hf z.1
theorem fv_arrb {f j f' i' : Nat} {v : Bool} (ht : tg f = 2) : fv γ ad (zb σ f j v) f' i' = fv γ ad σ f' i' := by
  by_cases hf : f' = f
  · subst hf
    unfold fv
    rw [ht]
    rfl
  · exact fv_zb fun z => hf z.1
theorem rep_arri (h : Rep1 γ ad la σ H) {f j : Nat} {x : Int32} (hf : 0 < al f) (hb : ab f = false) 
    (hat : va_at (gD γ) vwCl (gS γ (1000 + f) 0, .inl (gcI γ, al f, .inl (upd (fun j => gi σ f j) j x))) H1) (oq : ∀ q : Nat, q ≠ gS γ (1000 + f) 0 → H1[q]? = H[q]?) : Rep1 γ ad la (zi σ f j x) H1 := by
  refine rep_arr h hf (fun _ => rfl) (fun _ => rfl) rfl (fun i' => ?_) (fun f' i' => fv_arri (al_tg hf)) (fun f' z => arE_zi z) ?_ oq
  · have hz : (0 : Nat) ≠ f := fun z => by rw [← z] at hf; exact absurd hf (by decide)
    simp [gi, zi, u2, hz]
  · have e : arE γ (zi σ f j x) f = .inl (gcI γ, al f, .inl (upd (fun j => gi σ f j) j x)) := by
      unfold arE
      rw [hb]
      refine congrArg (fun g => (Sum.inl (gcI γ, al f, .inl g) : va_E)) (funext fun q => ?_)
      simp [gi, zi, u2, upd]
    rw [e]
    exact hat
theorem rep_arrb (h : Rep1 γ ad la σ H) {f j : Nat} {x : Bool} (hf : 0 < al f) (hb : ab f = true) 
    (hat : va_at (gD γ) vwCl (gS γ (1000 + f) 0, .inl (gcZ γ, al f, .inl (upd (fun j => b2i (gb σ f j)) j (b2i x)))) H1) (oq : ∀ q : Nat, q ≠ gS γ (1000 + f) 0 → H1[q]? = H[q]?) : Rep1 γ ad la (zb σ f j x) H1 := by
  refine rep_arr h hf (fun _ => rfl) (fun _ => rfl) rfl (fun i' => rfl) (fun f' i' => fv_arrb (al_tg hf)) (fun f' z => arE_zb z) ?_ oq
  have e : arE γ (zb σ f j x) f = .inl (gcZ γ, al f, .inl (upd (fun j => b2i (gb σ f j)) j (b2i x))) := by
    unfold arE
    rw [hb]
    refine congrArg (fun g => (Sum.inl (gcZ γ, al f, .inl g) : va_E)) (funext fun q => ?_)
    by_cases hq : q = j
    · simp [gb, zb, u2, upd, hq]
    · simp [gb, zb, u2, upd, hq]
  rw [e]
  exact hat
end RP
