/-! ===== a mark that the reference's unbinding does not look at ===== -/
theorem lp_map {S S' T T' : Type} {b : S → Option (S ⊕ T)} {b' : S' → Option (S' ⊕ T')} {ks : S → S'} {kt : T → T'} (h : ∀ s, b' (ks s) = (b s).map (Sum.map ks kt)) : ∀ fu s, lp b' fu (ks s) = (lp b fu s).map kt
  | 0, _ => rfl
  | fu + 1, s => by
    rw [lp, lp, h]
    cases b s with
    | none => rfl
    | some o =>
      cases o with
      | inl s' => exact lp_map h fu s'
      | inr t => rfl
theorem map_ite {α β : Type} {F : α → β} {p : Prop} [Decidable p] {a b : Option α} : Option.map F (if p then a else b) = if p then Option.map F a else Option.map F b := by
  by_cases h : p
  · rw [if_pos h, if_pos h]
  · rw [if_neg h, if_neg h]
theorem map_ar {α β : Type} {F : α → β} {n : Nat} {x : Int32} {f : Nat → Option α} : Option.map F (ar n x f) = ar n x (fun j => Option.map F (f j)) := by
  unfold ar
  rw [map_ite]
  rfl
theorem map_ob1 {α β γ : Type} {F : α → β} {o : Option γ} {f : γ → Option α} : Option.map F (ob1 o f) = ob1 o (fun j => Option.map F (f j)) := by
  cases o <;> rfl
theorem map_ob2 {α β γ : Type} {F : α → β} {o : Option (γ × St)} {f : γ → St → Option α} : Option.map F (ob2 o f) = ob2 o (fun j s => Option.map F (f j s)) := by
  cases o <;> rfl
theorem ob1_map {α β γ : Type} {g : γ → α} {o : Option γ} {f : α → Option β} : ob1 (o.map g) f = ob1 o (fun j => f (g j)) := by
  cases o <;> rfl
theorem ob2_map {γ β : Type} {g : St → St} {o : Option (γ × St)} {f : γ → St → Option β} : ob2 (o.map fun p => (p.1, g p.2)) f = ob2 o (fun j s => f j (g s)) := by
  cases o <;> rfl
theorem zb_comm {σ : St} {f i d : Nat} {v w : Bool} (h : f ≠ 818) : zb (zb σ 818 d v) f i w = zb (zb σ f i w) 818 d v := by
  unfold zb
  dsimp only
  congr 1
  congr 1
  funext f' i'
  unfold u2
  by_cases h1 : f' = f ∧ i' = i
  · rw [if_pos h1, if_neg (by omega), if_pos h1]
  · rw [if_neg h1]
    by_cases h2 : f' = 818 ∧ i' = d
    · rw [if_pos h2, if_pos h2]
    · rw [if_neg h2, if_neg h2, if_neg h1]
def kp (d : Nat) (v : Bool) (σ : St) : St := zb σ 818 d v
theorem kp_end {fu d : Nat} {v : Bool} {x : Int32} (σ : St) : f8_endCalls fu x (kp d v σ) = (f8_endCalls fu x σ).map fun p => (p.1, kp d v p.2) := by
  unfold f8_endCalls
  refine lp_map (b := fun s8 : Int32 × Int32 × St => f8_endCalls_b4 fu x s8.1 s8.2.1 s8.2.2) (b' := fun s8 : Int32 × Int32 × St => f8_endCalls_b4 fu x s8.1 s8.2.1 s8.2.2) (ks := fun p => (p.1, p.2.1, kp d v p.2.2)) (kt := fun p => (p.1, kp d v p.2)) (fun s => ?_) fu (0, 0, σ)
  obtain ⟨x2, x3, s⟩ := s
  show f8_endCalls_b4 fu x x2 x3 (kp d v s) = (f8_endCalls_b4 fu x x2 x3 s).map _
  unfold f8_endCalls_b4 f8_endCalls_j46
  simp only [map_ite, map_ar]
  rfl
theorem kp_let {fu d : Nat} {v : Bool} {x : Int32} (σ : St) : f8_letMaps fu x (kp d v σ) = (f8_letMaps fu x σ).map (kp d v) := by
  unfold f8_letMaps
  refine lp_map (b := fun s8 : Int32 × St => f8_letMaps_b2 fu x s8.1 s8.2) (b' := fun s8 : Int32 × St => f8_letMaps_b2 fu x s8.1 s8.2) (ks := fun p => (p.1, kp d v p.2)) (kt := kp d v) (fun s => ?_) fu (0, σ)
  obtain ⟨x2, s⟩ := s
  show f8_letMaps_b2 fu x x2 (kp d v s) = (f8_letMaps_b2 fu x x2 s).map _
  unfold f8_letMaps_b2 f8_letMaps_j33
  simp only [map_ite, map_ar]
  rfl
theorem kp_last {fu d : Nat} {v : Bool} {x : Int32} (σ : St) : f8_lastOf fu x (kp d v σ) = f8_lastOf fu x σ := by
  have h : ∀ a b, f8_lastOf_b4 fu x a b (kp d v σ) = f8_lastOf_b4 fu x a b σ := fun _ _ => rfl
  unfold f8_lastOf
  simp only [h]
theorem kp_event {fu d : Nat} {v : Bool} {x y : Int32} (σ : St) : f8_event fu x y (kp d v σ) = (f8_event fu x y σ).map (kp d v) := by
  unfold f8_event
  simp only [map_ar]
  rfl
theorem kp_b76 {fu d : Nat} {v : Bool} {x2 x3 x4 : Int32} (σ : St) : f8_unbindAll_b76 fu x2 x3 x4 (kp d v σ) = (f8_unbindAll_b76 fu x2 x3 x4 σ).map (Sum.map (fun p => (p.1, p.2.1, kp d v p.2.2)) (fun p => (p.1, kp d v p.2))) := by
  have hz : ∀ (s : St) (a b c e f g : Nat) (y : Int32), zi (zb (zb (zi (zb (zi (kp d v s) 812 a (-1)) 813 b false) 814 c (-1)) 822 e false) 817 f false) 819 g y = kp d v (zi (zb (zb (zi (zb (zi s 812 a (-1)) 813 b false) 814 c (-1)) 822 e false) 817 f false) 819 g y) := by
    intro s a b c e f g y
    unfold kp
    have e1 : zi (zb s 818 d v) 812 a (-1) = zb (zi s 812 a (-1)) 818 d v := rfl
    rw [e1, zb_comm (by decide)]
    have e2 : zi (zb (zb (zi s 812 a (-1)) 813 b false) 818 d v) 814 c (-1) = zb (zi (zb (zi s 812 a (-1)) 813 b false) 814 c (-1)) 818 d v := rfl
    rw [e2, zb_comm (by decide), zb_comm (by decide)]
    rfl
  unfold f8_unbindAll_b76
  rw [kp_end, ob2_map, map_ite, map_ob2]
  simp only [kp_let, ob1_map, map_ob1, map_ar, hz, kp_event, kp_last]
  rfl
theorem kp_unb {fu d : Nat} {v : Bool} {x : Int32} (σ : St) : f8_unbindAll fu x (kp d v σ) = (f8_unbindAll fu x σ).map fun p => (p.1, kp d v p.2) := by
  unfold f8_unbindAll
  refine lp_map (b := fun s8 : Int32 × Int32 => f8_unbindAll_b4 fu s8.1 s8.2 σ) (b' := fun s8 : Int32 × Int32 => f8_unbindAll_b4 fu s8.1 s8.2 (kp d v σ)) (ks := id) (kt := fun p => (p.1, kp d v p.2)) (fun s => ?_) fu (x, 0)
  obtain ⟨x2, x3⟩ := s
  show f8_unbindAll_b4 fu x2 x3 (kp d v σ) = (f8_unbindAll_b4 fu x2 x3 σ).map _
  unfold f8_unbindAll_b4 f8_unbindAll_j52 f8_unbindAll_j59
  rw [kp_last, map_ite]
  simp only [map_ar, map_ob1, map_ite]
  have hlp : ∀ v2, oinr (S := Int32 × Int32) (lp (fun s8 : Int32 × Int32 × St => f8_unbindAll_b76 fu x2 s8.1 s8.2.1 s8.2.2) fu (0, v2, kp d v σ)) = Option.map (Sum.map id fun p => (p.1, kp d v p.2)) (oinr (S := Int32 × Int32) (lp (fun s8 : Int32 × Int32 × St => f8_unbindAll_b76 fu x2 s8.1 s8.2.1 s8.2.2) fu (0, v2, σ))) := by
    intro v2
    have := lp_map (b := fun s8 : Int32 × Int32 × St => f8_unbindAll_b76 fu x2 s8.1 s8.2.1 s8.2.2) (b' := fun s8 : Int32 × Int32 × St => f8_unbindAll_b76 fu x2 s8.1 s8.2.1 s8.2.2) (ks := fun p => (p.1, p.2.1, kp d v p.2.2)) (kt := fun p => (p.1, kp d v p.2)) (fun s => kp_b76 (d := d) (v := v) s.2.2) fu (0, v2, σ)
    rw [show ((0 : Int32), v2, kp d v σ) = (fun p : Int32 × Int32 × St => (p.1, p.2.1, kp d v p.2.2)) (0, v2, σ) from rfl, this]
    cases lp (fun s8 : Int32 × Int32 × St => f8_unbindAll_b76 fu x2 s8.1 s8.2.1 s8.2.2) fu (0, v2, σ) <;> rfl
  have hoo : oinr (S := Int32 × Int32) (ob1 (f8_lastOf fu x2 σ) fun v2 => lp (fun s8 : Int32 × Int32 × St => f8_unbindAll_b76 fu x2 s8.1 s8.2.1 s8.2.2) fu (0, v2, kp d v σ)) = Option.map (Sum.map id fun p => (p.1, kp d v p.2)) (oinr (S := Int32 × Int32) (ob1 (f8_lastOf fu x2 σ) fun v2 => lp (fun s8 : Int32 × Int32 × St => f8_unbindAll_b76 fu x2 s8.1 s8.2.1 s8.2.2) fu (0, v2, σ))) := by
    cases f8_lastOf fu x2 σ with
    | none => rfl
    | some v2 => exact hlp v2
  rw [hoo]
  rfl
