/-! ===== the methods as functions of the typed state: words that they are written in ===== -/
def lt {α β : Type} (a : α) (f : α → β) : β := f a
def ck {β : Type} (c : Bool) (k : Option β) : Option β := bif c then k else none
def dr {β : Type} (n : Nat) (o : Option Nat) (f : Nat → Option β) : Option β := match o with
  | none => none
  | some i => bif decide (i < n) then f i else none
def okr (n : Nat) (o : Option Nat) : Bool := match o with
  | none => true
  | some i => decide (i < n)
def wb {β : Type} (x : Int32) (f : Bool → Option β) : Option β := if x = 0 then f false else if x = 1 then f true else none
def ob1 {α β : Type} (o : Option α) (f : α → Option β) : Option β := match o with
  | none => none
  | some a => f a
def ob2 {α β : Type} (o : Option (α × St)) (f : α → St → Option β) : Option β := match o with
  | none => none
  | some a => f a.1 a.2
def xb1 {α β : Type} (o : Option (Except Nat α)) (fe : Nat → Option β) (f : α → Option β) : Option β := match o with
  | none => none
  | some (.error x) => fe x
  | some (.ok a) => f a
def xb2 {α β : Type} (o : Option (Except Nat α × St)) (fe : Nat → St → Option β) (f : α → St → Option β) : Option β := match o with
  | none => none
  | some (.error x, s) => fe x s
  | some (.ok a, s) => f a s
def ar {β : Type} (n : Nat) (x : Int32) (f : Nat → Option β) : Option β := if x < 0 ∨ n ≤ x.toNatClampNeg then none else f x.toNatClampNeg
def lg {β : Type} (σ : St) (k : Nat) (x : Int32) (f : Nat → Option β) : Option β := if x < 0 then none else match (gl σ k)[x.toNatClampNeg]? with
  | none => none
  | some j => bif decide (j < cn σ (ek k)) then f j else none
def ladd (σ : St) (k j : Nat) : St := zi (zl σ k (gl σ k ++ [j])) 0 k (gi σ 0 k + 1)
def lrem (σ : St) (k i : Nat) : St := zi (zl σ k ((gl σ k).eraseIdx i)) 0 k (gi σ 0 k + 1)
def oinr {S T : Type} (o : Option T) : Option (S ⊕ T) := match o with
  | none => none
  | some t => some (.inr t)
def lp {S T : Type} (b : S → Option (S ⊕ T)) : Nat → S → Option T
  | 0, _ => none
  | n + 1, s => match b s with
    | none => none
    | some (.inl s') => lp b n s'
    | some (.inr t) => some t
theorem lt_eq {α β : Type} {a o : α} {f : α → Option β} {z : Option β} (h : lt a f = z) (e : a = o) : f o = z := by subst e; exact h
theorem ck_some {β : Type} {c : Bool} {k : Option β} {z : β} (h : ck c k = some z) : c = true ∧ k = some z := by
  cases c
  · cases h
  · exact ⟨rfl, h⟩
theorem ck_lt {β : Type} {i n : Nat} {k : Option β} {z : β} (h : ck (decide (i < n)) k = some z) : i < n ∧ k = some z := ⟨of_decide_eq_true (ck_some h).1, (ck_some h).2⟩
theorem dr_some {β : Type} {n : Nat} {o : Option Nat} {f : Nat → Option β} {z : β} (h : dr n o f = some z) : ∃ i, o = some i ∧ i < n ∧ f i = some z := by
  cases o with
  | none => cases h
  | some i =>
    by_cases hi : i < n
    · refine ⟨i, rfl, hi, ?_⟩
      simp only [dr, hi, decide_true, cond_true] at h
      exact h
    · simp only [dr, hi, decide_false, cond_false] at h
      cases h
theorem wb_some {β : Type} {x : Int32} {f : Bool → Option β} {z : β} (h : wb x f = some z) : ∃ b, x = b2i b ∧ f b = some z := by
  unfold wb at h
  by_cases h0 : x = 0
  · rw [if_pos h0] at h
    exact ⟨false, h0, h⟩
  · rw [if_neg h0] at h
    by_cases h1 : x = 1
    · rw [if_pos h1] at h
      exact ⟨true, h1, h⟩
    · rw [if_neg h1] at h
      cases h
theorem ob1_some {α β : Type} {o : Option α} {f : α → Option β} {z : β} (h : ob1 o f = some z) : ∃ a, o = some a ∧ f a = some z := by
  cases o with
  | none => cases h
  | some a => exact ⟨a, rfl, h⟩
theorem ob2_some {α β : Type} {o : Option (α × St)} {f : α → St → Option β} {z : β} (h : ob2 o f = some z) : ∃ a s, o = some (a, s) ∧ f a s = some z := by
  cases o with
  | none => cases h
  | some a => exact ⟨a.1, a.2, rfl, h⟩
theorem xb1_some {α β : Type} {o : Option (Except Nat α)} {fe : Nat → Option β} {f : α → Option β} {z : β} (h : xb1 o fe f = some z) : ∃ r, o = some r ∧ (∀ x, r = .error x → fe x = some z) ∧ ∀ a, r = .ok a → f a = some z := by
  cases o with
  | none => cases h
  | some r =>
    refine ⟨r, rfl, fun x e => ?_, fun a e => ?_⟩ <;> subst e <;> exact h
theorem xb2_some {α β : Type} {o : Option (Except Nat α × St)} {fe : Nat → St → Option β} {f : α → St → Option β} {z : β} (h : xb2 o fe f = some z) : ∃ r s, o = some (r, s) ∧ (∀ x, r = .error x → fe x s = some z) ∧ ∀ a, r = .ok a → f a s = some z := by
  cases o with
  | none => cases h
  | some r =>
    obtain ⟨r, s⟩ := r
    refine ⟨r, s, rfl, fun x e => ?_, fun a e => ?_⟩ <;> subst e <;> exact h
theorem ar_some {β : Type} {n : Nat} {x : Int32} {f : Nat → Option β} {z : β} (h : ar n x f = some z) : vp_in x n ∧ f x.toNatClampNeg = some z := by
  unfold ar at h
  by_cases hx : x < 0 ∨ n ≤ x.toNatClampNeg
  · rw [if_pos hx] at h
    cases h
  · rw [if_neg hx] at h
    exact ⟨hx, h⟩
theorem lg_some {β : Type} {σ : St} {k : Nat} {x : Int32} {f : Nat → Option β} {z : β} (h : lg σ k x f = some z) : ¬ x < 0 ∧ ∃ j, (gl σ k)[x.toNatClampNeg]? = some j ∧ j < cn σ (ek k) ∧ f j = some z := by
  unfold lg at h
  by_cases hx : x < 0
  · rw [if_pos hx] at h
    cases h
  · rw [if_neg hx] at h
    refine ⟨hx, ?_⟩
    cases hj : (gl σ k)[x.toNatClampNeg]? with
    | none => rw [hj] at h; cases h
    | some j =>
      rw [hj] at h
      by_cases hc : j < cn σ (ek k)
      · simp only [hc, decide_true, cond_true] at h
        exact ⟨j, rfl, hc, h⟩
      · simp only [hc, decide_false, cond_false] at h
        cases h
theorem if_t {β : Type} {c : Prop} [Decidable c] {a b : Option β} {z : β} (h : (if c then a else b) = some z) (hc : c) : a = some z := by rw [if_pos hc] at h; exact h
theorem if_f {β : Type} {c : Prop} [Decidable c] {a b : Option β} {z : β} (h : (if c then a else b) = some z) (hc : ¬ c) : b = some z := by rw [if_neg hc] at h; exact h
theorem lp_succ {S T : Type} {b : S → Option (S ⊕ T)} {n : Nat} {s : S} {z : T} (h : lp b (n + 1) s = some z) : ∃ o, b s = some o ∧ (∀ s', o = .inl s' → lp b n s' = some z) ∧ ∀ t, o = .inr t → t = z := by
  unfold lp at h
  cases hb : b s with
  | none => rw [hb] at h; cases h
  | some o =>
    rw [hb] at h
    cases o with
    | inl s' => exact ⟨_, rfl, (fun s2 e => by cases e; exact h), (fun t e => by cases e)⟩
    | inr t => exact ⟨_, rfl, (fun s2 e => by cases e), (fun t' e => by cases e; exact Option.some.inj h)⟩
theorem lp_back {S T : Type} {b : S → Option (S ⊕ T)} {n : Nat} {s' : S} {o : S ⊕ T} {z : T} (hw : some (Sum.inl s') = some o) (h : ∀ s', o = .inl s' → lp b n s' = some z) : lp b n s' = some z := h s' (Option.some.inj hw).symm
theorem lp_out {S T : Type} {k : Option T} {o : S ⊕ T} {z : T} (hw : oinr k = some o) (h : ∀ t, o = .inr t → t = z) : k = some z := by
  cases k with
  | none => cases hw
  | some t => rw [h t (Option.some.inj hw).symm]
/-! their rows -/
section RM
variable {p : Program} {l : Launch} {e : Env} {R : Room} {s : State} {m : MethodId} {args : Array Value} {below : List Frame} {meth : Method} {c : Code} {H : Heap} {locs : List Loc} {cells slots : Nat} {Q : State → Prop}
variable {pc : Nat} {ls : Array Slot} {rest : List Value} {cc : ByteArray} {γ : GT} {ad : Nat → Nat → Nat} {σ σ' : St} {nL : Nat} {own : String}
theorem rw_ifeqZ (hX : CX γ p s m args c cc nL own) {b : Bool} {off : Int} {tgt : Nat} (hd : decode cc pc = .ok (.ifCond .eq off, 3)) (ht : (pc : Int) + off = (tgt : Int)) (kt : ¬ b = true → W p l e R s m args below meth c H locs cells slots Q (F0 m tgt ls rest)) (kf : b = true → W p l e R s m args below meth c H locs cells slots Q (F0 m (pc + 3) ls rest)) : W p l e R s m args below meth c H locs cells slots Q (F0 m pc ls (.int (b2i b) :: rest)) :=
  lv_if_eq hX.1.1 hX.1.2.1 hd ht (fun h => kt (by cases b <;> simp_all [b2i])) (fun h => kf (by cases b <;> simp_all [b2i]))
theorem rw_ifneZ (hX : CX γ p s m args c cc nL own) {b : Bool} {off : Int} {tgt : Nat} (hd : decode cc pc = .ok (.ifCond .ne off, 3)) (ht : (pc : Int) + off = (tgt : Int)) (kt : b = true → W p l e R s m args below meth c H locs cells slots Q (F0 m tgt ls rest)) (kf : ¬ b = true → W p l e R s m args below meth c H locs cells slots Q (F0 m (pc + 3) ls rest)) : W p l e R s m args below meth c H locs cells slots Q (F0 m pc ls (.int (b2i b) :: rest)) :=
  lv_if_ne hX.1.1 hX.1.2.1 hd ht (fun h => kt (by cases b <;> simp_all [b2i])) (fun h => kf (by cases b <;> simp_all [b2i]))
theorem rw_ifnull (hX : CX γ p s m args c cc nL own) {o : Option Nat} {g : Nat → Nat} {off : Int} {tgt : Nat} (hd : decode cc pc = .ok (.ifnull off, 3)) (ht : (pc : Int) + off = (tgt : Int)) (kt : o = none → W p l e R s m args below meth c H locs cells slots Q (F0 m tgt ls rest)) (kf : ¬ o = none → W p l e R s m args below meth c H locs cells slots Q (F0 m (pc + 3) ls rest)) : W p l e R s m args below meth c H locs cells slots Q (F0 m pc ls (va_rf (o.map g) :: rest)) := by
  cases o with
  | none => exact lv_ifnullN hX.1.1 hX.1.2.1 hd ht (kt rfl)
  | some i => exact lv_ifnull hX.1.1 hX.1.2.1 hd (kf (fun h => nomatch h))
theorem rw_ifnonnull (hX : CX γ p s m args c cc nL own) {o : Option Nat} {g : Nat → Nat} {off : Int} {tgt : Nat} (hd : decode cc pc = .ok (.ifnonnull off, 3)) (ht : (pc : Int) + off = (tgt : Int)) (kt : ¬ o = none → W p l e R s m args below meth c H locs cells slots Q (F0 m tgt ls rest)) (kf : o = none → W p l e R s m args below meth c H locs cells slots Q (F0 m (pc + 3) ls rest)) : W p l e R s m args below meth c H locs cells slots Q (F0 m pc ls (va_rf (o.map g) :: rest)) := by
  cases o with
  | none => exact lv_ifnonnullN hX.1.1 hX.1.2.1 hd (kf rfl)
  | some i => exact lv_ifnonnull hX.1.1 hX.1.2.1 hd ht (kt (fun h => nomatch h))
theorem ad_inj (hR : RS γ ad σ s H locs) (k : Nat) (hk : 0 < k ∧ k < 9) {o1 o2 : Option Nat} (h1 : okr (cn σ k) o1 = true) (h2 : okr (cn σ k) o2 = true) : o1.map (Ad γ ad k) = o2.map (Ad γ ad k) ↔ o1 = o2 := by
  obtain ⟨⟨la, hq⟩, -⟩ := hR
  refine ⟨fun h => ?_, fun h => by rw [h]⟩
  cases o1 with
  | none => cases o2 with
    | none => rfl
    | some j => cases h
  | some i => cases o2 with
    | none => cases h
    | some j =>
      have e : Ad γ ad k i = Ad γ ad k j := Option.some.inj h
      have hi : i < cn σ k := of_decide_eq_true h1
      have hj : j < cn σ k := of_decide_eq_true h2
      have x : ∀ i, i < cn σ k → EX σ la k i := fun i hi => by
        unfold EX
        rw [if_neg (by omega), if_neg (by omega), if_pos hk.2]
        exact hi
      have a : ∀ i, AD γ ad la k i = Ad γ ad k i := fun i => by unfold AD; rw [if_neg (by omega)]
      have := (hq.2.1 k i k j (x i hi) (x j hj) (by rw [a, a]; exact e)).2
      rw [this]
theorem rw_acmpeq (hX : CX γ p s m args c cc nL own) (hR : RS γ ad σ s H locs) (k : Nat) (hk : 0 < k ∧ k < 9) {o1 o2 : Option Nat} (h1 : okr (cn σ k) o1 = true) (h2 : okr (cn σ k) o2 = true) {off : Int} {tgt : Nat} (hd : decode cc pc = .ok (.if_acmp .eq off, 3)) (ht : (pc : Int) + off = (tgt : Int)) (kt : o1 = o2 → W p l e R s m args below meth c H locs cells slots Q (F0 m tgt ls rest)) (kf : ¬ o1 = o2 → W p l e R s m args below meth c H locs cells slots Q (F0 m (pc + 3) ls rest)) : W p l e R s m args below meth c H locs cells slots Q (F0 m pc ls (va_rf (o2.map (Ad γ ad k)) :: va_rf (o1.map (Ad γ ad k)) :: rest)) :=
  lv_acmp_eq hX.1.1 hX.1.2.1 hd ht (fun h => kt ((ad_inj hR k hk h1 h2).mp h)) (fun h => kf (fun z => h ((ad_inj hR k hk h1 h2).mpr z)))
theorem rw_acmpne (hX : CX γ p s m args c cc nL own) (hR : RS γ ad σ s H locs) (k : Nat) (hk : 0 < k ∧ k < 9) {o1 o2 : Option Nat} (h1 : okr (cn σ k) o1 = true) (h2 : okr (cn σ k) o2 = true) {off : Int} {tgt : Nat} (hd : decode cc pc = .ok (.if_acmp .ne off, 3)) (ht : (pc : Int) + off = (tgt : Int)) (kt : ¬ o1 = o2 → W p l e R s m args below meth c H locs cells slots Q (F0 m tgt ls rest)) (kf : o1 = o2 → W p l e R s m args below meth c H locs cells slots Q (F0 m (pc + 3) ls rest)) : W p l e R s m args below meth c H locs cells slots Q (F0 m pc ls (va_rf (o2.map (Ad γ ad k)) :: va_rf (o1.map (Ad γ ad k)) :: rest)) :=
  lv_acmp_ne hX.1.1 hX.1.2.1 hd ht (fun h => kt (fun z => h ((ad_inj hR k hk h1 h2).mpr z))) (fun h => kf ((ad_inj hR k hk h1 h2).mp h))
end RM
theorem lp_zero {S T : Type} {b : S → Option (S ⊕ T)} {s : S} {z : T} (h : lp b 0 s = some z) : False := by cases h
