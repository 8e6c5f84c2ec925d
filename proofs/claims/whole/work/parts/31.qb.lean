/-! ===== what the class's state keeps, and the reference's beside it: the parts that refusals read ===== -/
def CS (c : St) : Prop := gl c 0 = List.range (gn c 2) ∧ gn c 2 ≤ 24 ∧ gl c 2 = List.range (gn c 3) ∧ gn c 3 ≤ 8 ∧ gl c 3 = List.range (gn c 5) ∧ gn c 5 ≤ 40 ∧ gl c 4 = List.range (gn c 1) ∧ gn c 1 ≤ 100 ∧ gl c 5 = List.range 16
def isSz (s : Nat) : Prop := s = 0 ∨ s = 1 ∨ s = 2 ∨ s = 4 ∨ s = 8
def CD (c : St) : Prop := ∀ d, d < gn c 2 → gi c 200 d = nI d ∧ (∃ i, i < 32 ∧ gi c 201 d = nI i) ∧ (∃ s, isSz s ∧ gi c 202 d = nI s) ∧ (gi c 203 d = -1 ∨ ∃ l, l < 8 ∧ gi c 203 d = nI l) ∧ (∀ f, f = 205 ∨ f = 206 ∨ f = 207 → ∀ k, gp c f d = some k → k < d) ∧ (∀ q, gp c 210 d = some q → q < gn c 3 ∧ gb c 208 d = true)
/-- the list of the bound: who, and what they need before them -/
def CB (c : St) : Prop := (gl c 1).Nodup ∧ (∀ d, d ∈ gl c 1 ↔ d < gn c 2 ∧ gp c 210 d ≠ none) ∧ ∀ l1 d l2, gl c 1 = l1 ++ d :: l2 → ∀ f, f = 205 ∨ f = 206 ∨ f = 207 → ∀ k, gp c f d = some k → k ∈ l1
/-- windows -/
def CW (c : St) : Prop := ∀ d, d < gn c 2 → (gp c 210 d = none → gi c 211 d = -1) ∧ (gi c 202 d = 0 → gi c 211 d = -1) ∧ (gp c 210 d ≠ none → ∀ s, gi c 202 d = nI s → 0 < s → s < 9 → ∃ p, p + s ≤ 64 ∧ gi c 211 d = nI p)
def RQ (c m : St) : Prop := gi m 803 0 = nI (gn c 2) ∧ gi m 824 0 = nI (gn c 3) ∧
  (∀ d, d < gn c 2 → gi m 805 d = gi c 201 d ∧ gi m 806 d = gi c 202 d ∧ gi m 807 d = gi c 203 d ∧ gb m 808 d = gb c 204 d ∧ gi m 804 d = enc (gp c 205 d) ∧ gi m 809 d = enc (gp c 206 d) ∧ gi m 810 d = enc (gp c 207 d) ∧ gb m 811 d = gb c 208 d ∧ gi m 812 d = enc (gp c 210 d) ∧ gi m 814 d = gi c 211 d ∧ gb m 818 d = gb c 209 d) ∧
  ∀ q, q < gn c 3 → gi m 825 q = gi c 301 q ∧ gi m 826 q = gi c 302 q ∧ gi m 827 q = gi c 303 q ∧ gb m 828 q = gb c 304 q ∧ gi m 829 q = gi c 305 q
/-! the best driver -/
def dvS (c : St) (id q : Nat) (best : Option Nat) : Option Nat := if hb (gi c 301 q) id = true then (match best with
  | none => some q
  | some b => if gi c 302 q ≤ gi c 302 b then some b else some q) else best
def DRV (c : St) (id : Nat) : Option Nat := itr (dvS c id) (gn c 3) none
theorem dvS_lt {c : St} {id : Nat} : ∀ i, ∀ b, itr (dvS c id) i none = some b → b < i := by
  intro i
  induction i with
  | zero => intro b h; cases h
  | succ i ih =>
    intro b h
    unfold itr dvS at h
    split at h
    · split at h
      · cases h; omega
      · rename_i b' hb'
        have := ih b' hb'
        split at h
        · cases h; omega
        · cases h; omega
    · have := ih b h
      omega
theorem DRV_lt {c : St} {id b : Nat} (h : DRV c id = some b) : b < gn c 3 := dvS_lt _ b h
theorem q_best {c : St} {fu id : Nat} (hS : CS c) (hi : id < 32) (hf : 8 < fu) : f7_bestDriver fu (nI id) c = some (DRV c id) := by
  obtain ⟨-, -, h2, h8, -⟩ := hS
  have hlen : (gl c 2).length = gn c 3 := by rw [h2, List.length_range]
  unfold f7_bestDriver
  refine lp_up (fun i a => (a, nI i)) (dvS c id) (gn c 3) (fun i hlt => ?_) ?_ (by omega)
  · have hbb := dvS_lt (c := c) (id := id) i
    generalize itr (dvS c id) i none = a at hbb
    show f7_bestDriver_b4 fu (nI id) a (nI i) c = _
    unfold f7_bestDriver_b4
    rw [hlen, if_neg (by rw [nI_leN (by omega) (by omega)]; omega), lg_r _ h2 hlt (by omega) (Nat.le_refl _)]
    unfold f3_knows
    rw [ckd hlt]
    by_cases hk : hb (gi c 301 i) id = true
    · rw [if_pos ((knows_hb hi).mpr hk), ob1_k rfl, if_pos rfl]
      cases a with
      | none => simp [f7_bestDriver_j53, f7_bestDriver_j56, dvS, hk, nI_s]
      | some b =>
        have := hbb b rfl
        rw [if_neg (by simp), dr_k (by omega)]
        by_cases hr : gi c 302 i ≤ gi c 302 b
        · rw [if_pos hr]
          simp [f7_bestDriver_j53, f7_bestDriver_j56, dvS, hk, nI_s, hr]
        · rw [if_neg hr]
          simp [f7_bestDriver_j53, f7_bestDriver_j56, dvS, hk, nI_s, hr]
    · rw [if_neg (fun h => hk ((knows_hb hi).mp h)), ob1_k rfl, if_neg (by simp)]
      simp [f7_bestDriver_j56, dvS, hk, nI_s]
  · show f7_bestDriver_b4 fu (nI id) _ (nI (gn c 3)) c = _
    unfold f7_bestDriver_b4
    rw [hlen, if_pos (by rw [nI_leN (by omega) (by omega)]; omega)]
    rfl
theorem q_drv {c m : St} {fu id : Nat} (hS : CS c) (hQ : RQ c m) (hi : id < 32) (hf : 8 < fu) : f8_driverFor fu (nI id) m = some (enc (DRV c id)) := by
  obtain ⟨-, -, h2, h8, -⟩ := hS
  obtain ⟨-, hq3, -, hqd⟩ := hQ
  unfold f8_driverFor
  refine lp_up (fun i a => (enc a, nI i)) (dvS c id) (gn c 3) (a0 := none) (fun i hlt => ?_) ?_ (by omega)
  · have hbb := dvS_lt (c := c) (id := id) i
    generalize itr (dvS c id) i none = a at hbb
    obtain ⟨e1, e2, -⟩ := hqd i hlt
    show f8_driverFor_b4 fu (nI id) (enc a) (nI i) m = _
    unfold f8_driverFor_b4
    rw [hq3, if_neg (by rw [nI_leN (by omega) (by omega)]; omega), ar_k _ (by omega) (by omega), e1]
    by_cases hk : hb (gi c 301 i) id = true
    · rw [if_pos ((has_hb hi).mpr hk)]
      unfold f8_driverFor_j31
      rw [if_pos rfl]
      cases a with
      | none => simp [f8_driverFor_j58, f8_driverFor_j63, dvS, hk, nI_s, enc]
      | some b =>
        have := hbb b rfl
        obtain ⟨-, e3, -⟩ := hqd b (by omega)
        rw [enc_some, if_neg (nI_neg1 (by omega)), ar_k _ (by omega) (by omega), ar_k _ (by omega) (by omega), e2, e3]
        by_cases hr : gi c 302 i ≤ gi c 302 b
        · rw [if_pos hr]
          simp [f8_driverFor_j62, f8_driverFor_j63, dvS, hk, nI_s, hr, enc]
        · rw [if_neg hr]
          simp [f8_driverFor_j58, f8_driverFor_j63, dvS, hk, nI_s, hr, enc]
    · rw [if_neg (fun h => hk ((has_hb hi).mp h))]
      simp [f8_driverFor_j31, f8_driverFor_j62, f8_driverFor_j63, dvS, hk, nI_s]
  · show f8_driverFor_b4 fu (nI id) _ (nI (gn c 3)) m = _
    unfold f8_driverFor_b4
    rw [hq3, if_pos (by rw [nI_leN (by omega) (by omega)]; omega)]
    rfl
/-! the nearest ancestor with a window -/
def bd (c : St) (d : Nat) : Bool := (gp c 210 d).isSome
theorem bd_ne {c : St} {d : Nat} : bd c d = true ↔ gp c 210 d ≠ none := by
  unfold bd
  cases gp c 210 d <;> simp
theorem bd_nn {c : St} {d : Nat} : bd c d = false ↔ gp c 210 d = none := by
  unfold bd
  cases gp c 210 d <;> simp
/-- what a bound one needs is bound -/
theorem bd_need {c : St} (hB : CB c) {d : Nat} (hd : d < gn c 2) (h : bd c d = true) {f k : Nat} (hf : f = 205 ∨ f = 206 ∨ f = 207) (hk : gp c f d = some k) : bd c k = true ∧ k < gn c 2 := by
  obtain ⟨l1, l2, hl⟩ := List.append_of_mem ((hB.2.1 d).mpr ⟨hd, bd_ne.mp h⟩)
  have h1 := hB.2.2 l1 d l2 hl f hf k hk
  have h2 := (hB.2.1 k).mp (by rw [hl]; exact List.mem_append_left _ h1)
  exact ⟨bd_ne.mpr h2.2, h2.1⟩
def spF (c : St) : Nat → Option Nat → Option Nat
  | 0, _ => none
  | _ + 1, none => none
  | k + 1, some i => if gi c 211 i = -1 then spF c k (gp c 205 i) else some i
def SPC (c : St) (d : Nat) : Option Nat := spF c 25 (gp c 205 d)
theorem spF_lt {c : St} (hD : CD c) : ∀ k o i, (∀ j, o = some j → j < gn c 2) → spF c k o = some i → i < gn c 2 ∧ gi c 211 i ≠ -1 := by
  intro k
  induction k with
  | zero => intro o i _ h; cases h
  | succ k ih =>
    intro o i ho h
    cases o with
    | none => cases h
    | some j =>
      have hj := ho j rfl
      unfold spF at h
      split at h
      · exact ih _ i (fun j' hj' => Nat.lt_trans ((hD j hj).2.2.2.2.1 205 (Or.inl rfl) j' hj') hj) h
      · rename_i hne
        cases h
        exact ⟨hj, hne⟩
theorem q_spaceL {c : St} {b : Option Nat → Option (Option Nat ⊕ Option Nat)} {stop : Nat → Prop} (hD : CD c) (hn : gn c 2 ≤ 24) (hb0 : b none = some (.inr none)) (hb1 : ∀ i, i < gn c 2 → b (some i) = if gi c 211 i = -1 then some (.inl (gp c 205 i)) else some (.inr (some i))) : ∀ k o K fu, (∀ i, o = some i → i < k) → (∀ i, o = some i → i < gn c 2) → k ≤ K → k < fu → lp b fu o = some (spF c (K + 1) o) := by
  intro k
  induction k with
  | zero =>
    intro o K fu ho _ _ hf
    obtain ⟨f, rfl⟩ : ∃ f, fu = f + 1 := ⟨fu - 1, by omega⟩
    cases o with
    | none => rw [lp_e hb0]; rfl
    | some i => exact absurd (ho i rfl) (by omega)
  | succ k ih =>
    intro o K fu ho hon hK hf
    obtain ⟨f, rfl⟩ : ∃ f, fu = f + 1 := ⟨fu - 1, by omega⟩
    cases o with
    | none => rw [lp_e hb0]; rfl
    | some i =>
      have hi := hon i rfl
      have h1 := hb1 i hi
      obtain ⟨K', rfl⟩ : ∃ K', K = K' + 1 := ⟨K - 1, by omega⟩
      by_cases hg : gi c 211 i = -1
      · rw [if_pos hg] at h1
        have hp : ∀ j, gp c 205 i = some j → j < i := (hD i hi).2.2.2.2.1 205 (Or.inl rfl)
        rw [lp_s h1, ih (gp c 205 i) K' f (fun j hj => by have := hp j hj; have := ho i rfl; omega) (fun j hj => by have := hp j hj; omega) (by omega) (by omega)]
        show _ = some (if gi c 211 i = -1 then spF c (K' + 1) (gp c 205 i) else some i)
        rw [if_pos hg]
      · rw [if_neg hg] at h1
        rw [lp_e h1]
        show _ = some (if gi c 211 i = -1 then spF c (K' + 1) (gp c 205 i) else some i)
        rw [if_neg hg]
theorem q_space {c : St} {fu d : Nat} (hD : CD c) (hd : d < gn c 2) (hn : gn c 2 ≤ 24) (hf : 30 < fu) : f2_space fu d c = some (SPC c d) := by
  have hp : ∀ j, gp c 205 d = some j → j < d := (hD d hd).2.2.2.2.1 205 (Or.inl rfl)
  unfold f2_space
  rw [ckd hd]
  show lp (fun s8 => f2_space_b5 fu s8 c) fu (gp c 205 d) = _
  refine q_spaceL (stop := fun _ => True) hD hn ?_ (fun i hi => ?_) d (gp c 205 d) 24 fu hp (fun j hj => by have := hp j hj; omega) (by omega) (by omega)
  · rfl
  · simp [f2_space_b5, dr_k hi, lt, oinr]
/-- bound ones have a window just where they have a size -/
theorem win_sz {c : St} (hD : CD c) (hW : CW c) {i : Nat} (hi : i < gn c 2) (hb : bd c i = true) : gi c 202 i = 0 ↔ gi c 211 i = -1 := by
  obtain ⟨w1, w2, w3⟩ := hW i hi
  obtain ⟨s, hs, es⟩ := (hD i hi).2.2.1
  constructor
  · exact w2
  · intro h
    rcases hs with rfl | h2
    · exact es
    · have hs9 : 0 < s ∧ s < 9 := by omega
      obtain ⟨p, hp, ep⟩ := w3 (bd_ne.mp hb) s es hs9.1 hs9.2
      rw [ep] at h
      exact absurd h (nI_neg1 (by omega))
theorem q_spaceOf {c m : St} {fu d : Nat} (hS : CS c) (hD : CD c) (hB : CB c) (hW : CW c) (hQ : RQ c m) (hd : d < gn c 2) (hp0 : ∀ j, gp c 205 d = some j → bd c j = true) (hf : 30 < fu) : f8_spaceOf fu (nI d) m = some (enc (SPC c d)) := by
  have hn := hS.2.1
  have hp : ∀ j, gp c 205 d = some j → j < d := (hD d hd).2.2.2.2.1 205 (Or.inl rfl)
  obtain ⟨-, -, hqd, -⟩ := hQ
  unfold f8_spaceOf
  rw [ar_k _ (by omega) (by omega), (hqd d hd).2.2.2.2.1]
  have key : ∀ k o K f0, (∀ i, o = some i → i < k) → (∀ i, o = some i → i < gn c 2 ∧ bd c i = true) → k ≤ K → k < f0 → lp (fun s8 => f8_spaceOf_b7 fu s8 m) f0 (enc o) = some (enc (spF c (K + 1) o)) := by
    intro k
    induction k with
    | zero =>
      intro o K f0 ho _ _ hf
      obtain ⟨f, rfl⟩ : ∃ f, f0 = f + 1 := ⟨f0 - 1, by omega⟩
      cases o with
      | none => exact lp_e rfl
      | some i => exact absurd (ho i rfl) (by omega)
    | succ k ih =>
      intro o K f0 ho hon hK hf
      obtain ⟨f, rfl⟩ : ∃ f, f0 = f + 1 := ⟨f0 - 1, by omega⟩
      cases o with
      | none => exact lp_e rfl
      | some i =>
        obtain ⟨hi, hbi⟩ := hon i rfl
        obtain ⟨K', rfl⟩ : ∃ K', K = K' + 1 := ⟨K - 1, by omega⟩
        have hpi : ∀ j, gp c 205 i = some j → j < i := (hD i hi).2.2.2.2.1 205 (Or.inl rfl)
        have hw := win_sz hD hW hi hbi
        obtain ⟨-, e2, -, -, e5, -⟩ := hqd i hi
        have hb : f8_spaceOf_b7 fu (enc (some i)) m = if gi c 211 i = -1 then some (.inl (enc (gp c 205 i))) else some (.inr (enc (some i))) := by
          unfold f8_spaceOf_b7
          rw [enc_some, if_neg (nI_neg1 (by omega)), ar_k _ (by omega) (by omega), e2]
          by_cases hg : gi c 211 i = -1
          · rw [if_pos hg, if_pos (hw.mpr hg), ar_k _ (by omega) (by omega), e5]
          · rw [if_neg hg, if_neg (fun h => hg (hw.mp h))]
            rfl
        show _ = some (enc (if gi c 211 i = -1 then spF c (K' + 1) (gp c 205 i) else some i))
        by_cases hg : gi c 211 i = -1
        · rw [if_pos hg] at hb ⊢
          rw [lp_s hb]
          exact ih (gp c 205 i) K' f (fun j hj => by have := hpi j hj; have := ho i rfl; omega) (fun j hj => by have := bd_need hB hi hbi (Or.inl rfl) hj; exact ⟨this.2, this.1⟩) (by omega) (by omega)
        · rw [if_neg hg] at hb ⊢
          exact lp_e hb
  exact key d _ 24 fu hp (fun j hj => ⟨by have := hp j hj; omega, hp0 j hj⟩) (by omega) (by omega)
/-! room -/
def ovl (c : St) (k : Nat) (p s : Int32) : Bool := decide (¬ p + s ≤ gi c 211 k ∧ ¬ gi c 211 k + gi c 202 k ≤ p ∧ ¬ gi c 202 k ≤ 0)
def RMA (c : St) (p s : Int32) (sp : Option Nat) : Bool := (List.range (gn c 2)).all fun k => !(bd c k && (ovl c k p s && decide (SPC c k = sp)))
/-- all of the list is all of the bound -/
theorem all_bound {c : St} (hB : CB c) (P : Nat → Bool) : (gl c 1).all P = (List.range (gn c 2)).all fun k => !bd c k || P k := by
  rw [Bool.eq_iff_iff, List.all_eq_true, List.all_eq_true]
  constructor
  · intro h k hk
    by_cases hb : bd c k = true
    · rw [hb]
      exact h k ((hB.2.1 k).mpr ⟨List.mem_range.mp hk, bd_ne.mp hb⟩)
    · simp [Bool.not_eq_true _ ▸ hb]
  · intro h k hk
    have h2 := (hB.2.1 k).mp hk
    have h3 := h k (List.mem_range.mpr h2.1)
    rw [bd_ne.mpr h2.2] at h3
    simpa using h3
theorem SPC_lt {c : St} (hD : CD c) {d i : Nat} (hd : d < gn c 2) (h : SPC c d = some i) : i < gn c 2 := by
  have hp : ∀ j, gp c 205 d = some j → j < d := (hD d hd).2.2.2.2.1 205 (Or.inl rfl)
  exact (spF_lt hD 25 _ i (fun j hj => by have := hp j hj; omega) h).1
theorem okr_of {n : Nat} {o : Option Nat} (h : ∀ i, o = some i → i < n) : okr n o = true := by
  cases o with
  | none => rfl
  | some i => exact decide_eq_true (h i rfl)
theorem findSome_all {α T : Type} {l : List α} {P : α → Bool} {t : T} : ∀ (r : α → Option T), (∀ a ∈ l, r a = if P a then none else some t) → l.findSome? r = if l.all P then none else some t := by
  intro r h
  induction l with
  | nil => rfl
  | cons a l ih =>
    rw [List.findSome?_cons, h a List.mem_cons_self, List.all_cons]
    by_cases ha : P a = true
    · rw [if_pos ha, ha, Bool.true_and]
      exact ih fun b hb => h b (List.mem_cons_of_mem _ hb)
    · rw [if_neg ha]
      simp [ha]
/-- loops over the list of the bound that end at the first that does not fit -/
theorem lp_allB {T : Type} {c : St} (hB : CB c) (hn : gn c 2 ≤ 24) {b : Int32 → Option (Int32 ⊕ T)} {P : Nat → Bool} {tf tt : T} (hs : ∀ i k, (gl c 1)[i]? = some k → k < gn c 2 → bd c k = true → b (nI i) = if P k then some (.inl (nI (i + 1))) else some (.inr tf)) (he : b (nI (gl c 1).length) = some (.inr tt)) {fu : Nat} (hf : (gl c 1).length < fu) : lp b fu 0 = some (if (gl c 1).all P then tt else tf) := by
  have h0 : (0 : Int32) = nI 0 := rfl
  rw [h0, lp_find (b := b) nI (gl c 1).length (fun i => match (gl c 1)[i]? with | none => none | some k => if P k then none else some tf) (t0 := tt) (fun i hi => ?_) he hf]
  · congr 1
    have hx : (List.range (gl c 1).length).findSome? (fun i => match (gl c 1)[i]? with | none => none | some k => if P k then none else some tf) = (gl c 1).findSome? (fun k => if P k then none else some tf) := by
      generalize gl c 1 = l
      have : ∀ (l : List Nat), (List.range l.length).findSome? (fun i => match l[i]? with | none => none | some k => if P k then none else some tf) = l.findSome? (fun k => if P k then none else some tf) := by
        intro l
        induction l with
        | nil => rfl
        | cons a l ih =>
          rw [List.length_cons, List.range_succ_eq_map, List.findSome?_cons, List.findSome?_cons, List.findSome?_map]
          by_cases hP : P a = true
          · simp only [List.getElem?_cons_zero, hP, if_true]
            exact ih
          · simp only [List.getElem?_cons_zero, hP, if_false]
            rfl
      exact this l
    rw [hx, findSome_all (P := P) (t := tf) _ (fun k _ => rfl)]
    split <;> rfl
  · have hk : (gl c 1)[i]? = some (gl c 1)[i] := List.getElem?_eq_getElem hi
    have h2 := (hB.2.1 (gl c 1)[i]).mp (List.getElem_mem hi)
    rw [hs i _ hk h2.1 (bd_ne.mpr h2.2), hk]
    dsimp only
    split <;> rfl
theorem nodup_lt : ∀ (n : Nat) (l : List Nat), l.Nodup → (∀ x ∈ l, x < n) → l.length ≤ n
  | 0, [], _, _ => Nat.le_refl _
  | 0, x :: l, _, h => absurd (h x List.mem_cons_self) (Nat.not_lt_zero x)
  | n + 1, l, hn, h => by
    by_cases hm : n ∈ l
    · have h1 := nodup_lt n (l.erase n) (hn.erase n) (fun x hx => by
        have h2 := h x (List.mem_of_mem_erase hx)
        have h3 : x ≠ n := fun e => by subst e; exact (List.Nodup.not_mem_erase hn) hx
        omega)
      rw [List.length_erase_of_mem hm] at h1
      omega
    · have h1 := nodup_lt n l hn (fun x hx => by
        have h2 := h x hx
        have h3 : x ≠ n := fun e => by subst e; exact hm hx
        omega)
      omega
theorem bl_len {c : St} (hB : CB c) : (gl c 1).length ≤ gn c 2 := nodup_lt _ _ hB.1 fun k hk => ((hB.2.1 k).mp hk).1
theorem q_roomAt {c : St} {fu : Nat} {p s : Int32} {sp : Option Nat} (hS : CS c) (hD : CD c) (hB : CB c) (hsp : ∀ i, sp = some i → i < gn c 2) (hf : 30 < fu) : f7_isRoomAt fu p s sp c = some (RMA c p s sp) := by
  have hn := hS.2.1
  have hl := bl_len hB
  unfold f7_isRoomAt
  rw [lp_allB hB hn (P := fun k => !(ovl c k p s && decide (SPC c k = sp))) (tf := false) (tt := true) (fun i k hk hlt hbk => ?_) ?_ (by omega)]
  · rw [all_bound hB]
    unfold RMA
    have : (fun k => !bd c k || !(ovl c k p s && decide (SPC c k = sp))) = fun k => !(bd c k && (ovl c k p s && decide (SPC c k = sp))) := by
      funext k
      rw [Bool.not_and (bd c k)]
    rw [this]
    cases (List.range (gn c 2)).all fun k => !(bd c k && (ovl c k p s && decide (SPC c k = sp))) <;> rfl
  · show f7_isRoomAt_b3 fu p s sp (nI _) c = _
    unfold f7_isRoomAt_b3
    rw [if_pos (by rw [nI_leN (by omega) (by omega)]; omega)]
    rfl
  · have hi := (List.getElem?_eq_some_iff.mp hk).1
    show f7_isRoomAt_b3 fu p s sp (nI i) c = _
    unfold f7_isRoomAt_b3
    rw [if_neg (by rw [nI_leN (by omega) (by omega)]; omega), lg_k _ (by omega) hk (show k < cn c 2 from hlt)]
    have h60 : ∀ y0, f7_isRoomAt_j60 fu p s sp (nI i) k y0 c = if (!(decide (¬ gi c 202 k ≤ 0) && y0 && decide (SPC c k = sp))) = true then some (.inl (nI (i + 1))) else some (.inr false) := by
      intro y0
      unfold f7_isRoomAt_j60
      rw [ckd hlt]
      by_cases h0 : gi c 202 k ≤ 0
      · rw [if_pos h0]
        simp [h0, f7_isRoomAt_j86, nI_s]
      · rw [if_neg h0]
        cases y0
        · simp [f7_isRoomAt_j86, nI_s]
        · rw [if_pos rfl, ob1_k (q_space hD hlt hn hf), ckb (okr_of fun j hj => SPC_lt hD hlt hj), ckb (okr_of hsp)]
          by_cases he : SPC c k = sp
          · rw [if_pos he]
            simp [h0, he, oinr]
          · rw [if_neg he]
            simp [h0, he, f7_isRoomAt_j86, nI_s]
    by_cases h1 : p + s ≤ gi c 211 k
    · rw [if_pos h1, h60]
      simp [ovl, h1]
    · rw [if_neg h1]
      by_cases h2 : gi c 211 k + gi c 202 k ≤ p
      · rw [if_pos h2, h60]
        simp [ovl, h2]
      · rw [if_neg h2, h60]
        by_cases h0 : gi c 202 k ≤ 0
        · simp [ovl, h0]
        · by_cases he : SPC c k = sp
          · simp [ovl, h0, h1, h2, he]
          · simp [ovl, h0, he]
theorem itr_and {P : Nat → Bool} : ∀ N, itr (fun i a => a && P i) N true = (List.range N).all P
  | 0 => rfl
  | N + 1 => by
    rw [itr, itr_and N, List.range_succ, List.all_append]
    simp
theorem drv_ok {c : St} (hS : CS c) (hD : CD c) {d : Nat} (hd : d < gn c 2) : ∀ k, gp c 210 d = some k → k < 2 ^ 31 := fun k hk => by
  have := ((hD d hd).2.2.2.2.2 k hk).1
  have := hS.2.2.2.1
  omega
theorem need_ok {c : St} (hS : CS c) (hD : CD c) {d f : Nat} (hd : d < gn c 2) (hf : f = 205 ∨ f = 206 ∨ f = 207) : ∀ k, gp c f d = some k → k < 2 ^ 31 := fun k hk => by
  have := (hD d hd).2.2.2.2.1 f hf k hk
  have := hS.2.1
  omega
theorem q_isBound {c m : St} {fu d : Nat} (hS : CS c) (hD : CD c) (hQ : RQ c m) (hd : d < gn c 2) : f8_isBound fu (nI d) m = some (bd c d) := by
  have hn := hS.2.1
  have h1 := (hQ.2.2.1 d hd).2.2.2.2.2.2.2.2.1
  unfold f8_isBound
  rw [ar_k _ (by omega) (by omega), h1]
  by_cases hb : gp c 210 d = none
  · rw [if_pos ((enc_eqN (drv_ok hS hD hd)).mpr hb), bd_nn.mpr hb]
  · rw [if_neg (fun h => hb ((enc_eqN (drv_ok hS hD hd)).mp h)), bd_ne.mpr hb]
theorem q_isBoundC {c : St} {fu d : Nat} (hd : d < gn c 2) : f2_isBound fu d c = some (bd c d) := by
  unfold f2_isBound
  rw [ckd hd]
  unfold lt bd
  cases gp c 210 d <;> simp
theorem q_isRoom {c m : St} {fu d : Nat} {p : Int32} (hS : CS c) (hD : CD c) (hB : CB c) (hW : CW c) (hQ : RQ c m) (hd : d < gn c 2) (hu : bd c d = false) (hp0 : ∀ j, gp c 205 d = some j → bd c j = true) (hf : 30 < fu) : f8_isRoom fu (nI d) p m = some (RMA c p (gi c 202 d) (SPC c d)) := by
  have hn := hS.2.1
  unfold f8_isRoom
  refine lp_up (fun i a => (a, nI i)) (fun i a => a && !(bd c i && (ovl c i p (gi c 202 d) && decide (SPC c i = SPC c d)))) (gn c 2) (a0 := true) (fun i hlt => ?_) ?_ (by omega)
  · generalize itr _ i true = a
    show f8_isRoom_b5 fu (nI d) p a (nI i) m = _
    have h95 : ∀ y0, f8_isRoom_j95 fu (nI d) p a (nI i) y0 m = some (.inl (a && !y0, nI (i + 1))) := by
      intro y0
      cases a <;> cases y0 <;> simp [f8_isRoom_j95, f8_isRoom_j111, nI_s]
    unfold f8_isRoom_b5
    rw [hQ.1, if_neg (by rw [nI_leN (by omega) (by omega)]; omega)]
    by_cases hid : i = d
    · subst hid
      rw [if_pos rfl, h95, hu]
      simp
    · rw [if_neg (by rw [nI_inj (by omega) (by omega)]; exact hid), ob1_k (q_isBound hS hD hQ hlt)]
      by_cases hb : bd c i = true
      · rw [if_pos hb, ar_k _ (by omega) (by omega), (hQ.2.2.1 i hlt).2.1]
        by_cases h0 : gi c 202 i ≤ 0
        · rw [if_pos h0, h95]
          simp [ovl, h0]
        · have hpi : ∀ j, gp c 205 i = some j → bd c j = true := fun j hj => (bd_need hB hlt hb (Or.inl rfl) hj).1
          rw [if_neg h0, ob1_k (q_spaceOf hS hD hB hW hQ hlt hpi hf), ob1_k (q_spaceOf hS hD hB hW hQ hd hp0 hf)]
          by_cases he : SPC c i = SPC c d
          · rw [if_pos (by rw [he]), ar_k _ (by omega) (by omega), ar_k _ (by omega) (by omega), (hQ.2.2.1 i hlt).2.2.2.2.2.2.2.2.2.1, (hQ.2.2.1 i hlt).2.1]
            by_cases h1 : gi c 211 i + gi c 202 i ≤ p
            · rw [if_pos h1, h95]
              simp [ovl, h1]
            · rw [if_neg h1, ar_k _ (by omega) (by omega), ar_k _ (by omega) (by omega), (hQ.2.2.1 d hd).2.1, (hQ.2.2.1 i hlt).2.2.2.2.2.2.2.2.2.1]
              by_cases h2 : p + gi c 202 d ≤ gi c 211 i
              · rw [if_pos h2, h95]
                simp [ovl, h2]
              · rw [if_neg h2, h95]
                simp [ovl, h0, h1, h2, hb, he]
          · have hne : ¬ enc (SPC c i) = enc (SPC c d) := by
              rw [enc_eq (fun k hk => by have := SPC_lt hD hlt hk; omega) (fun k hk => by have := SPC_lt hD hd hk; omega)]
              exact he
            rw [if_neg hne, h95]
            simp [he]
      · rw [if_neg hb, h95]
        simp [hb]
  · show f8_isRoom_b5 fu (nI d) p _ (nI (gn c 2)) m = _
    unfold f8_isRoom_b5
    rw [hQ.1, if_pos (by rw [nI_leN (by omega) (by omega)]; omega), itr_and]
    rfl
theorem lp_scan {S T : Type} {b : S → Option (S ⊕ T)} (e : Nat → S) (st : Nat) (hst : 0 < st) (hi s : Nat) (Q : Nat → Prop) (P : Nat → Bool) (tn : T) (tp : Nat → T) (hQ : ∀ p, Q p → p + s ≤ hi → Q (p + st)) (hb : ∀ p, Q p → p + s ≤ hi → b (e p) = if P p then some (.inr (tp p)) else some (.inl (e (p + st)))) (he : ∀ p, Q p → ¬ p + s ≤ hi → b (e p) = some (.inr tn)) : ∀ k p fu, Q p → hi + 1 - p ≤ k → k < fu → (∃ j, P (p + j * st) = true ∧ p + j * st + s ≤ hi ∧ (∀ i, i < j → P (p + i * st) = false) ∧ lp b fu (e p) = some (tp (p + j * st))) ∨ ((∀ j, p + j * st + s ≤ hi → P (p + j * st) = false) ∧ lp b fu (e p) = some tn) := by
  intro k
  induction k with
  | zero =>
    intro p fu hq hk hf
    obtain ⟨f, rfl⟩ : ∃ f, fu = f + 1 := ⟨fu - 1, by omega⟩
    refine Or.inr ⟨fun j hj => ?_, lp_e (he p hq (by omega))⟩
    have := Nat.le_add_right p (j * st)
    omega
  | succ k ih =>
    intro p fu hq hk hf
    obtain ⟨f, rfl⟩ : ∃ f, fu = f + 1 := ⟨fu - 1, by omega⟩
    by_cases h : p + s ≤ hi
    · have h1 := hb p hq h
      by_cases hP : P p = true
      · rw [if_pos hP] at h1
        exact Or.inl ⟨0, by simpa using hP, by simpa using h, fun i hi => absurd hi (Nat.not_lt_zero i), by rw [lp_e h1]; simp⟩
      · rw [if_neg hP] at h1
        rw [lp_s h1]
        have e1 : ∀ j, p + st + j * st = p + (j + 1) * st := fun j => by rw [Nat.succ_mul]; omega
        rcases ih (p + st) f (hQ p hq h) (by omega) (by omega) with ⟨j, h2, h3, h4, h5⟩ | ⟨h2, h3⟩
        · rw [e1] at h2 h3 h5
          refine Or.inl ⟨j + 1, h2, h3, fun i hi => ?_, h5⟩
          cases i with
          | zero => simpa using hP
          | succ i => rw [← e1]; exact h4 i (by omega)
        · refine Or.inr ⟨fun j hj => ?_, h3⟩
          cases j with
          | zero => simpa using hP
          | succ j => rw [← e1] at hj ⊢; exact h2 j hj
    · refine Or.inr ⟨fun j hj => ?_, lp_e (he p hq h)⟩
      have := Nat.le_add_right p (j * st)
      omega
theorem find_some {N p : Nat} {F : Nat → Bool} (h : p < N) (hp : F p = true) (hq : ∀ q, q < p → F q = false) : (List.range N).find? F = some p := by
  rw [List.find?_range_eq_some]
  exact ⟨hp, List.mem_range.mpr h, fun j hj => by simp [hq j hj]⟩
theorem find_none {N : Nat} {F : Nat → Bool} (h : ∀ q, q < N → F q = false) : (List.range N).find? F = none := by
  rw [List.find?_range_eq_none]
  exact fun i hi => by simp [h i hi]
/-! the place of a window -/
def szn (c : St) (d : Nat) : Nat := (gi c 202 d).toNatClampNeg
theorem szn_eq {c : St} (hD : CD c) {d : Nat} (hd : d < gn c 2) : gi c 202 d = nI (szn c d) ∧ isSz (szn c d) := by
  obtain ⟨s, hs, e⟩ := (hD d hd).2.2.1
  have h9 : s < 9 := by rcases hs with h | h | h | h | h <;> omega
  unfold szn
  rw [e, nI_clamp (by omega)]
  exact ⟨rfl, hs⟩
def wlo (c : St) (d : Nat) : Nat := match SPC c d with
  | none => 0
  | some i => (gi c 211 i).toNatClampNeg
def whi (c : St) (d : Nat) : Nat := match SPC c d with
  | none => 64
  | some i => (gi c 211 i).toNatClampNeg + szn c i
def ROOM (c : St) (d : Nat) : Option Nat := (List.range 64).find? fun p => decide (wlo c d ≤ p ∧ p + szn c d ≤ whi c d ∧ p % szn c d = 0) && RMA c (nI p) (gi c 202 d) (SPC c d)
theorem ROOM_lt {c : St} {d p : Nat} (h : ROOM c d = some p) : p < 64 ∧ wlo c d ≤ p ∧ p + szn c d ≤ whi c d := by
  unfold ROOM at h
  rw [List.find?_range_eq_some] at h
  have h1 := h.1
  rw [Bool.and_eq_true, decide_eq_true_eq] at h1
  exact ⟨List.mem_range.mp h.2.1, h1.1.1, h1.1.2.1⟩
theorem spF_bd {c : St} (hB : CB c) (hD : CD c) : ∀ k o i, (∀ j, o = some j → j < gn c 2 ∧ bd c j = true) → spF c k o = some i → bd c i = true := by
  intro k
  induction k with
  | zero => intro o i _ h; cases h
  | succ k ih =>
    intro o i ho h
    cases o with
    | none => cases h
    | some j =>
      have hj := ho j rfl
      unfold spF at h
      split at h
      · exact ih _ i (fun j' hj' => by have := bd_need hB hj.1 hj.2 (Or.inl rfl) hj'; exact ⟨this.2, this.1⟩) h
      · cases h
        exact hj.2
/-- the space's window, when the parent is bound -/
theorem spc_win {c : St} (hS : CS c) (hD : CD c) (hB : CB c) (hW : CW c) {d i : Nat} (hd : d < gn c 2) (hp0 : ∀ j, gp c 205 d = some j → bd c j = true) (h : SPC c d = some i) : i < gn c 2 ∧ gi c 211 i = nI (gi c 211 i).toNatClampNeg ∧ (gi c 211 i).toNatClampNeg + szn c i ≤ 64 ∧ gi c 202 i = nI (szn c i) := by
  have hp : ∀ j, gp c 205 d = some j → j < d := (hD d hd).2.2.2.2.1 205 (Or.inl rfl)
  have h1 := spF_lt hD 25 _ i (fun j hj => by have := hp j hj; omega) h
  have h2 := spF_bd hB hD 25 _ i (fun j hj => ⟨by have := hp j hj; omega, hp0 j hj⟩) h
  obtain ⟨es, hs⟩ := szn_eq hD h1.1
  have hs0 : szn c i ≠ 0 := fun h0 => h1.2 ((win_sz hD hW h1.1 h2).mp (by rw [es, h0]; rfl))
  have hs9 : szn c i < 9 := by rcases hs with h | h | h | h | h <;> omega
  obtain ⟨p, hp, ep⟩ := (hW i h1.1).2.2 (bd_ne.mp h2) (szn c i) es (by omega) hs9
  rw [ep, nI_clamp (by omega)]
  exact ⟨h1.1, rfl, hp, es⟩
theorem whi_le {c : St} (hS : CS c) (hD : CD c) (hB : CB c) (hW : CW c) {d : Nat} (hd : d < gn c 2) (hp0 : ∀ j, gp c 205 d = some j → bd c j = true) : whi c d ≤ 64 ∧ wlo c d ≤ 64 := by
  unfold whi wlo
  cases h : SPC c d with
  | none => exact ⟨Nat.le_refl _, Nat.zero_le _⟩
  | some i =>
    have := spc_win hS hD hB hW hd hp0 h
    exact ⟨this.2.2.1, by show (gi c 211 i).toNatClampNeg ≤ 64; omega⟩
theorem and_sz : ∀ s, s < 9 → (s = 1 ∨ s = 2 ∨ s = 4 ∨ s = 8) → ∀ p, p < 64 → (nI p &&& (nI s - 1) = 0 ↔ p % s = 0) := by decide +kernel
theorem room_c {c : St} {fu d : Nat} (hS : CS c) (hD : CD c) (hB : CB c) (hW : CW c) (hd : d < gn c 2) (hp0 : ∀ j, gp c 205 d = some j → bd c j = true) (h0 : 0 < szn c d) (hf : 70 < fu) : f7_freePlace fu (some d) c = some (enc (ROOM c d)) := by
  have hn := hS.2.1
  obtain ⟨es, hs⟩ := szn_eq hD hd
  have hs9 : szn c d < 9 := by rcases hs with h | h | h | h | h <;> omega
  have hs4 : szn c d = 1 ∨ szn c d = 2 ∨ szn c d = 4 ∨ szn c d = 8 := by rcases hs with h | h | h | h | h <;> omega
  have hwl := whi_le hS hD hB hW hd hp0
  have main : lp (fun s8 => f7_freePlace_b41 fu (some d) (SPC c d) (nI (whi c d)) s8 c) fu (nI (wlo c d)) = some (enc (ROOM c d)) := by
    have hb1 : ∀ p, p ≤ 64 → p + szn c d ≤ whi c d → f7_freePlace_b41 fu (some d) (SPC c d) (nI (whi c d)) (nI p) c = if (decide (p % szn c d = 0) && RMA c (nI p) (gi c 202 d) (SPC c d)) then some (.inr (nI p)) else some (.inl (nI (p + 1))) := by
      intro p hq h
      unfold f7_freePlace_b41
      rw [dr_k hd, es, show nI p + nI (szn c d) = nI (p + szn c d) from (Int32.ofNat_add _ _).symm, if_neg (by rw [nI_ltN (by omega) (by omega)]; omega)]
      by_cases h6 : p % szn c d = 0
      · rw [if_pos ((and_sz _ hs9 hs4 p (by omega)).mpr h6), ob1_k (q_roomAt hS hD hB (fun i hi => SPC_lt hD hd hi) (by omega))]
        cases hr : RMA c (nI p) (nI (szn c d)) (SPC c d) <;> simp [h6, f7_freePlace_j82, oinr, nI_s]
      · rw [if_neg (fun h => h6 ((and_sz _ hs9 hs4 p (by omega)).mp h))]
        simp [h6, f7_freePlace_j82, nI_s]
    have he1 : ∀ p, p ≤ 64 → ¬ p + szn c d ≤ whi c d → f7_freePlace_b41 fu (some d) (SPC c d) (nI (whi c d)) (nI p) c = some (.inr (-1)) := by
      intro p hq h
      unfold f7_freePlace_b41
      rw [dr_k hd, es, show nI p + nI (szn c d) = nI (p + szn c d) from (Int32.ofNat_add _ _).symm, if_pos (by rw [nI_ltN (by omega) (by omega)]; omega)]
      rfl
    rcases lp_scan (b := fun s8 => f7_freePlace_b41 fu (some d) (SPC c d) (nI (whi c d)) s8 c) nI 1 (by omega) (whi c d) (szn c d) (fun p => p ≤ 64) (fun p => decide (p % szn c d = 0) && RMA c (nI p) (gi c 202 d) (SPC c d)) (-1) nI (fun p hq h => by omega) hb1 he1 65 (wlo c d) fu (by omega) (by omega) (by omega) with ⟨j, h1, h2, h3, h4⟩ | ⟨h1, h2⟩
    · rw [h4, Nat.mul_one] at *
      rw [Bool.and_eq_true, decide_eq_true_eq] at h1
      rw [ROOM, find_some (p := wlo c d + j) (by omega) (by rw [Bool.and_eq_true, decide_eq_true_eq]; exact ⟨⟨by omega, h2, h1.1⟩, h1.2⟩) (fun q hq => ?_)]
      · rfl
      · by_cases hl : wlo c d ≤ q
        · have h5 := h3 (q - wlo c d) (by omega)
          rw [Nat.mul_one, show wlo c d + (q - wlo c d) = q by omega] at h5
          by_cases h6 : q % szn c d = 0
          · simp [h6] at h5
            simp [h5]
          · simp [h6]
        · simp [hl]
    · rw [h2, ROOM, find_none fun q hq => ?_]
      · rfl
      · by_cases hl : wlo c d ≤ q ∧ q + szn c d ≤ whi c d
        · have h5 := h1 (q - wlo c d) (by rw [Nat.mul_one]; omega)
          rw [Nat.mul_one, show wlo c d + (q - wlo c d) = q by omega] at h5
          by_cases h6 : q % szn c d = 0
          · simp [h6] at h5
            simp [h5]
          · simp [h6]
        · rw [decide_eq_false (fun h => hl ⟨h.1, h.2.1⟩), Bool.false_and]
  unfold f7_freePlace
  rw [dr_k hd, ob1_k (q_space hD hd hn (by omega))]
  unfold whi wlo at main
  cases h : SPC c d with
  | none =>
    rw [h] at main
    rw [if_pos rfl]
    unfold f7_freePlace_j17
    rw [if_pos rfl]
    exact main
  | some i =>
    have hw := spc_win hS hD hB hW hd hp0 h
    rw [h] at main
    rw [if_neg (by simp), dr_k hw.1]
    unfold f7_freePlace_j17
    rw [if_neg (by simp), dr_k hw.1]
    unfold f7_freePlace_j36
    dsimp only at main
    obtain ⟨v, hv⟩ : ∃ v, (gi c 211 i).toNatClampNeg = v := ⟨_, rfl⟩
    rw [hv] at hw main
    have e1 : gi c 211 i + gi c 202 i = nI (v + szn c i) := by
      rw [hw.2.2.2, hw.2.1]
      exact (Int32.ofNat_add _ _).symm
    rw [e1, hw.2.1]
    exact main
theorem room_m {c m : St} {fu d : Nat} (hS : CS c) (hD : CD c) (hB : CB c) (hW : CW c) (hQ : RQ c m) (hd : d < gn c 2) (hu : bd c d = false) (hp0 : ∀ j, gp c 205 d = some j → bd c j = true) (h0 : 0 < szn c d) (hf : 70 < fu) : f8_roomFor fu (nI d) m = some (enc (ROOM c d)) := by
  have hn := hS.2.1
  obtain ⟨es, hs⟩ := szn_eq hD hd
  have hs9 : szn c d < 9 := by rcases hs with h | h | h | h | h <;> omega
  have hwl := whi_le hS hD hB hW hd hp0
  have em : gi m 806 d = nI (szn c d) := by rw [(hQ.2.2.1 d hd).2.1, es]
  have j83 : ∀ (x3 x4 : Int32) (p : Nat), f8_roomFor_j83 fu (nI d) x3 x4 (nI p) m = some (.inl (nI (p + szn c d))) := by
    intro x3 x4 p
    unfold f8_roomFor_j83
    rw [ar_k _ (by omega) (by omega), em, show nI p + nI (szn c d) = nI (p + szn c d) from (Int32.ofNat_add _ _).symm]
  have hb1 : ∀ p, p ≤ 64 ∧ p % szn c d = 0 → p + szn c d ≤ whi c d → f8_roomFor_b50 fu (nI d) (nI (wlo c d)) (nI (whi c d)) (nI p) m = if (decide (wlo c d ≤ p) && RMA c (nI p) (gi c 202 d) (SPC c d)) then some (.inr (nI p)) else some (.inl (nI (p + szn c d))) := by
    intro p hq h
    unfold f8_roomFor_b50
    rw [ar_k _ (by omega) (by omega), em, show nI p + nI (szn c d) = nI (p + szn c d) from (Int32.ofNat_add _ _).symm, if_neg (by rw [nI_ltN (by omega) (by omega)]; omega)]
    by_cases hl : wlo c d ≤ p
    · rw [if_neg (by rw [nI_ltN (by omega) (by omega)]; omega), ob1_k (q_isRoom hS hD hB hW hQ hd hu hp0 (by omega)), j83]
      cases hr : RMA c (nI p) (gi c 202 d) (SPC c d) <;> simp [hl, oinr]
    · rw [if_pos (by rw [nI_ltN (by omega) (by omega)]; omega), j83]
      simp [hl]
  have he1 : ∀ p, p ≤ 64 ∧ p % szn c d = 0 → ¬ p + szn c d ≤ whi c d → f8_roomFor_b50 fu (nI d) (nI (wlo c d)) (nI (whi c d)) (nI p) m = some (.inr (-1)) := by
    intro p hq h
    unfold f8_roomFor_b50
    rw [ar_k _ (by omega) (by omega), em, show nI p + nI (szn c d) = nI (p + szn c d) from (Int32.ofNat_add _ _).symm, if_pos (by rw [nI_ltN (by omega) (by omega)]; omega)]
    rfl
  have main : lp (fun s8 => f8_roomFor_b50 fu (nI d) (nI (wlo c d)) (nI (whi c d)) s8 m) fu 0 = some (enc (ROOM c d)) := by
    show lp (fun s8 => f8_roomFor_b50 fu (nI d) (nI (wlo c d)) (nI (whi c d)) s8 m) fu (nI 0) = _
    rcases lp_scan (b := fun s8 => f8_roomFor_b50 fu (nI d) (nI (wlo c d)) (nI (whi c d)) s8 m) nI (szn c d) h0 (whi c d) (szn c d) (fun p => p ≤ 64 ∧ p % szn c d = 0) (fun p => decide (wlo c d ≤ p) && RMA c (nI p) (gi c 202 d) (SPC c d)) (-1) nI (fun p hq h => ⟨by omega, by rw [Nat.add_mod_right]; exact hq.2⟩) hb1 he1 65 0 fu ⟨by omega, Nat.zero_mod _⟩ (by omega) (by omega) with ⟨j, h1, h2, h3, h4⟩ | ⟨h1, h2⟩
    · rw [h4]
      rw [Nat.zero_add] at h1 h2 ⊢
      rw [Bool.and_eq_true, decide_eq_true_eq] at h1
      rw [ROOM, find_some (p := j * szn c d) (by omega) (by rw [Bool.and_eq_true, decide_eq_true_eq]; exact ⟨⟨h1.1, h2, Nat.mul_mod_left _ _⟩, h1.2⟩) (fun q hq => ?_)]
      · rfl
      · by_cases hl : wlo c d ≤ q ∧ q % szn c d = 0
        · have e1 : q / szn c d * szn c d = q := Nat.div_mul_cancel (Nat.dvd_of_mod_eq_zero hl.2)
          have hlt : q / szn c d < j := by
            rw [Nat.div_lt_iff_lt_mul h0]
            exact hq
          have h5 := h3 (q / szn c d) hlt
          rw [Nat.zero_add, e1] at h5
          simp [hl.1] at h5
          simp [h5]
        · rw [decide_eq_false (fun h => hl ⟨h.1, h.2.2⟩), Bool.false_and]
    · rw [h2, ROOM, find_none fun q hq => ?_]
      · rfl
      · by_cases hl : wlo c d ≤ q ∧ q + szn c d ≤ whi c d ∧ q % szn c d = 0
        · have e1 : q / szn c d * szn c d = q := Nat.div_mul_cancel (Nat.dvd_of_mod_eq_zero hl.2.2)
          have h5 := h1 (q / szn c d)
          rw [Nat.zero_add, e1] at h5
          have h6 := h5 hl.2.1
          simp [hl.1] at h6
          simp [h6]
        · rw [decide_eq_false hl, Bool.false_and]
  unfold f8_roomFor
  rw [ob1_k (q_spaceOf hS hD hB hW hQ hd hp0 (by omega))]
  unfold whi wlo at main
  cases h : SPC c d with
  | none =>
    rw [h] at main
    rw [enc_none, if_pos rfl]
    unfold f8_roomFor_j21
    rw [if_pos rfl]
    exact main
  | some i =>
    have hw := spc_win hS hD hB hW hd hp0 h
    rw [h] at main
    rw [enc_some, if_neg (nI_neg1 (by omega)), ar_k _ (by omega) (by omega)]
    unfold f8_roomFor_j21
    rw [if_neg (nI_neg1 (by omega)), ar_k _ (by omega) (by omega), ar_k _ (by omega) (by omega)]
    unfold f8_roomFor_j45
    dsimp only at main
    obtain ⟨v, hv⟩ : ∃ v, (gi c 211 i).toNatClampNeg = v := ⟨_, rfl⟩
    rw [hv] at hw main
    have e0 : gi m 814 i = nI v := by rw [(hQ.2.2.1 i hw.1).2.2.2.2.2.2.2.2.2.1, hw.2.1]
    have e1 : gi m 814 i + gi m 806 i = nI (v + szn c i) := by
      rw [e0, (hQ.2.2.1 i hw.1).2.1, hw.2.2.2]
      exact (Int32.ofNat_add _ _).symm
    rw [e1, e0]
    exact main
/-! lines -/
def LNF (c : St) (d : Nat) : Bool := (List.range (gn c 2)).all fun k => !bd c k || (!decide (gi c 203 k = gi c 203 d) || (gb c 204 k && gb c 204 d))
theorem line_c {c : St} {fu d : Nat} (hS : CS c) (hD : CD c) (hB : CB c) (hd : d < gn c 2) (hf : 30 < fu) : f7_isLineFree fu (some d) c = some (LNF c d) := by
  have hn := hS.2.1
  have hl := bl_len hB
  have hb1 : ∀ i k, (gl c 1)[i]? = some k → k < gn c 2 → bd c k = true → f7_isLineFree_b2 fu (some d) (nI i) c = if (!decide (gi c 203 k = gi c 203 d) || (gb c 204 k && gb c 204 d)) then some (.inl (nI (i + 1))) else some (.inr false) := by
    intro i k hk hlt hbk
    have hi := (List.getElem?_eq_some_iff.mp hk).1
    unfold f7_isLineFree_b2
    rw [if_neg (by rw [nI_leN (by omega) (by omega)]; omega), lg_k _ (by omega) hk (show k < cn c 2 from hlt), dr_k hd]
    by_cases h1 : gi c 203 k = gi c 203 d
    · rw [if_pos h1]
      cases h2 : gb c 204 k <;> cases h3 : gb c 204 d <;> simp [h1, f7_isLineFree_j52, oinr, nI_s]
    · rw [if_neg h1]
      simp [h1, f7_isLineFree_j52, nI_s]
  unfold f7_isLineFree
  rw [lp_allB hB hn (b := fun s8 => f7_isLineFree_b2 fu (some d) s8 c) (P := fun k => !decide (gi c 203 k = gi c 203 d) || (gb c 204 k && gb c 204 d)) (tf := false) (tt := true) hb1 (by
    show f7_isLineFree_b2 fu (some d) (nI _) c = _
    unfold f7_isLineFree_b2
    rw [if_pos (by rw [nI_leN (by omega) (by omega)]; omega)]
    rfl) (by omega), all_bound hB]
  show some (if LNF c d then true else false) = _
  cases LNF c d <;> rfl
theorem line_m {c m : St} {fu d : Nat} (hS : CS c) (hD : CD c) (hQ : RQ c m) (hd : d < gn c 2) (hf : 30 < fu) : f8_isLineFree fu (nI d) m = some (LNF c d || decide (gi c 203 d = -1)) := by
  have hn := hS.2.1
  unfold f8_isLineFree
  refine lp_up (fun i a => (a, nI i)) (fun k a => a && (!bd c k || (!decide (gi c 203 k = gi c 203 d) || (gb c 204 k && gb c 204 d)))) (gn c 2) (a0 := true) (fun i hlt => ?_) ?_ (by omega)
  · generalize itr _ i true = a
    show f8_isLineFree_b4 fu (nI d) a (nI i) m = _
    unfold f8_isLineFree_b4
    obtain ⟨-, -, e3, e4, -⟩ := hQ.2.2.1 i hlt
    obtain ⟨-, -, d3, d4, -⟩ := hQ.2.2.1 d hd
    rw [hQ.1, if_neg (by rw [nI_leN (by omega) (by omega)]; omega)]
    cases a
    · simp [f8_isLineFree_j62, nI_s]
    · rw [if_pos rfl, ob1_k (q_isBound hS hD hQ hlt)]
      cases hbk : bd c i
      · simp [f8_isLineFree_j62, nI_s]
      · rw [if_pos rfl, ar_k _ (by omega) (by omega), ar_k _ (by omega) (by omega), e3, d3]
        by_cases h1 : gi c 203 i = gi c 203 d
        · rw [if_pos h1, ar_k _ (by omega) (by omega), e4]
          cases h2 : gb c 204 i
          · simp [h1, f8_isLineFree_j62, nI_s]
          · rw [if_pos rfl, ar_k _ (by omega) (by omega), d4]
            cases h3 : gb c 204 d <;> simp [h1, f8_isLineFree_j62, nI_s]
        · rw [if_neg h1]
          simp [h1, f8_isLineFree_j62, nI_s]
  · show f8_isLineFree_b4 fu (nI d) _ (nI (gn c 2)) m = _
    unfold f8_isLineFree_b4
    rw [hQ.1, if_pos (by rw [nI_leN (by omega) (by omega)]; omega), itr_and]
    show oinr (if LNF c d = true then some true else _) = _
    cases h : LNF c d
    · rw [if_neg (by simp), ar_k _ (by omega) (by omega), (hQ.2.2.1 d hd).2.2.1]
      by_cases h1 : gi c 203 d = -1 <;> simp [h1, oinr]
    · rfl
/-! refusals -/
def idn (c : St) (d : Nat) : Nat := (gi c 201 d).toNatClampNeg
theorem idn_eq {c : St} (hD : CD c) {d : Nat} (hd : d < gn c 2) : gi c 201 d = nI (idn c d) ∧ idn c d < 32 := by
  obtain ⟨i, hi, e⟩ := (hD d hd).2.1
  unfold idn
  rw [e, nI_clamp (by omega)]
  exact ⟨rfl, hi⟩
def lck (c : St) (o : Option Nat) : Bool := match o with
  | none => false
  | some k => !bd c k
def REF (c : St) (d : Nat) : Nat := match DRV c (idn c d) with
  | none => 1
  | some q => if lck c (gp c 205 d) then 2 else if lck c (gp c 206 d) || lck c (gp c 207 d) then 3 else if ¬ gi c 303 q ≤ gi c 305 q then 4 else if 0 < szn c d ∧ ROOM c d = none then 5 else
    if ¬ (gi c 203 d = -1) ∧ LNF c d = false then 6 else if gb c 209 d then 7 else 0
theorem REF_lt (c : St) (d : Nat) : REF c d < 8 := by
  unfold REF
  split
  · omega
  · repeat' split
    all_goals omega
theorem q_lck {c : St} {fu : Nat} {o : Option Nat} (h : ∀ k, o = some k → k < gn c 2) : f7_isLacking fu o c = some (lck c o) := by
  unfold f7_isLacking
  cases o with
  | none => rfl
  | some k =>
    rw [if_neg (by simp), dr_k (h k rfl), ob1_k (q_isBoundC (h k rfl))]
    unfold lck
    dsimp only
    cases bd c k <;> rfl
theorem q_open {c m : St} {fu : Nat} {o : Option Nat} (hS : CS c) (hD : CD c) (hQ : RQ c m) (h : ∀ k, o = some k → k < gn c 2) : f8_isOpen fu (enc o) m = some (!lck c o) := by
  have hn := hS.2.1
  unfold f8_isOpen
  cases o with
  | none => rfl
  | some k =>
    have hk := h k rfl
    rw [enc_some, if_neg (nI_neg1 (by omega)), ob1_k (q_isBound hS hD hQ hk)]
    unfold lck
    dsimp only
    cases bd c k <;> rfl
theorem need_lt {c : St} (hD : CD c) {d f : Nat} (hd : d < gn c 2) (hf : f = 205 ∨ f = 206 ∨ f = 207) : ∀ k, gp c f d = some k → k < gn c 2 := fun k hk => by
  have := (hD d hd).2.2.2.2.1 f hf k hk
  omega
theorem enc_room {c : St} {d : Nat} : enc (ROOM c d) = -1 ↔ ROOM c d = none := enc_eqN fun k hk => by
  have := (ROOM_lt hk).1
  omega
theorem ref_c {c : St} {fu d : Nat} (hS : CS c) (hD : CD c) (hB : CB c) (hW : CW c) (hd : d < gn c 2) (hf : 70 < fu) : f7_refusalOf fu (some d) c = some (nI (REF c d)) := by
  have hn := hS.2.1
  obtain ⟨ei, hi⟩ := idn_eq hD hd
  obtain ⟨es, hs⟩ := szn_eq hD hd
  have hs9 : szn c d < 9 := by rcases hs with h | h | h | h | h <;> omega
  have hj80 : ∀ r, r = (if ¬ (gi c 203 d = -1) ∧ LNF c d = false then 6 else if gb c 209 d then 7 else 0) → f7_refusalOf_j80 fu (some d) c = some (nI r) := by
    intro r hr
    subst hr
    unfold f7_refusalOf_j80
    rw [dr_k hd]
    have hj99 : f7_refusalOf_j99 fu (some d) c = some (nI (if gb c 209 d then 7 else 0)) := by
      unfold f7_refusalOf_j99
      rw [dr_k hd]
      cases gb c 209 d <;> rfl
    by_cases h1 : gi c 203 d = -1
    · rw [if_pos h1, hj99]
      simp [h1]
    · rw [if_neg h1, ob1_k (line_c hS hD hB hd (by omega))]
      cases h2 : LNF c d
      · rw [if_neg (by simp), if_pos ⟨h1, rfl⟩]
        rfl
      · rw [if_pos rfl, hj99]
        simp
  unfold f7_refusalOf
  rw [dr_k hd, ei, ob1_k (q_best hS hi (by omega))]
  cases hv : DRV c (idn c d) with
  | none =>
    have hR : REF c d = 1 := by simp [REF, hv]
    rw [hR]
    rfl
  | some q =>
    have hq := DRV_lt hv
    rw [if_neg (by simp)]
    simp only [lt]
    rw [ob1_k (q_lck (need_lt hD hd (Or.inl rfl)))]
    cases h5 : lck c (gp c 205 d)
    · rw [if_neg (by simp), ob1_k (q_lck (need_lt hD hd (Or.inr (Or.inl rfl))))]
      cases h6 : lck c (gp c 206 d)
      · rw [if_neg (by simp), ob1_k (q_lck (need_lt hD hd (Or.inr (Or.inr rfl))))]
        cases h7 : lck c (gp c 207 d)
        · rw [if_neg (by simp), dr_k hq]
          by_cases hv2 : gi c 303 q ≤ gi c 305 q
          · rw [if_pos hv2, es]
            by_cases hz : 0 < szn c d
            · have hp0 : ∀ j, gp c 205 d = some j → bd c j = true := fun j hj => by
                rw [hj] at h5
                simpa [lck] using h5
              rw [if_neg (by rw [show (0 : Int32) = nI 0 from rfl, nI_leN (by omega) (by omega)]; omega), ob1_k (room_c hS hD hB hW hd hp0 hz hf)]
              by_cases hr : ROOM c d = none
              · rw [if_pos (enc_room.mpr hr)]
                have hR : REF c d = 5 := by simp only [REF, hv, h5, h6, h7, hv2, hz, hr]; simp
                rw [hR]
                rfl
              · rw [if_neg (fun h => hr (enc_room.mp h))]
                refine hj80 _ ?_
                simp only [REF, hv, h5, h6, h7, hv2]
                simp [hr]
            · rw [if_pos (by rw [show (0 : Int32) = nI 0 from rfl, nI_leN (by omega) (by omega)]; omega)]
              refine hj80 _ ?_
              simp only [REF, hv, h5, h6, h7, hv2, hz]
              simp
          · rw [if_neg hv2]
            have hR : REF c d = 4 := by simp only [REF, hv, h5, h6, h7, hv2]; simp
            rw [hR]
            rfl
        · have hR : REF c d = 3 := by simp only [REF, hv, h5, h6, h7]; simp
          rw [hR, if_pos rfl]
          rfl
      · have hR : REF c d = 3 := by simp only [REF, hv, h5, h6]; simp
        rw [hR, if_pos rfl]
        rfl
    · have hR : REF c d = 2 := by simp only [REF, hv, h5]; simp
      rw [hR]
      rfl
theorem ref_m {c m : St} {fu d : Nat} (hS : CS c) (hD : CD c) (hB : CB c) (hW : CW c) (hQ : RQ c m) (hd : d < gn c 2) (hu : bd c d = false) (hf : 70 < fu) : f8_refused fu (nI d) m = some (nI (REF c d)) := by
  have hn := hS.2.1
  obtain ⟨ei, hi⟩ := idn_eq hD hd
  obtain ⟨es, hs⟩ := szn_eq hD hd
  have hs9 : szn c d < 9 := by rcases hs with h | h | h | h | h <;> omega
  obtain ⟨m1, m2, m3, m4, m5, m6, m7, m8, m9, m10, m11⟩ := hQ.2.2.1 d hd
  have hj98 : ∀ r, r = (if ¬ (gi c 203 d = -1) ∧ LNF c d = false then 6 else if gb c 209 d then 7 else 0) → f8_refused_j98 fu (nI d) m = some (nI r) := by
    intro r hr
    subst hr
    unfold f8_refused_j98
    rw [ob1_k (line_m hS hD hQ hd (by omega))]
    by_cases h1 : gi c 203 d = -1
    · rw [if_pos (by simp [h1]), ar_k _ (by omega) (by omega), m11]
      cases gb c 209 d <;> simp [h1] <;> rfl
    · cases h2 : LNF c d
      · rw [if_neg (by simp [h1]), if_pos ⟨h1, rfl⟩]
        rfl
      · rw [if_pos (by simp), ar_k _ (by omega) (by omega), m11]
        cases gb c 209 d <;> simp <;> rfl
  unfold f8_refused
  rw [ar_k _ (by omega) (by omega), m1, ei, ob1_k (q_drv hS hQ hi (by omega))]
  cases hv : DRV c (idn c d) with
  | none =>
    have hR : REF c d = 1 := by simp [REF, hv]
    rw [hR]
    rfl
  | some q =>
    have hq := DRV_lt hv
    have hq8 := hS.2.2.2.1
    obtain ⟨-, -, q3, -, q5⟩ := hQ.2.2.2 q hq
    rw [enc_some, if_neg (nI_neg1 (by omega)), ar_k _ (by omega) (by omega), m5, ob1_k (q_open hS hD hQ (need_lt hD hd (Or.inl rfl)))]
    cases h5 : lck c (gp c 205 d)
    · rw [if_pos (by simp), ar_k _ (by omega) (by omega), m6, ob1_k (q_open hS hD hQ (need_lt hD hd (Or.inr (Or.inl rfl))))]
      cases h6 : lck c (gp c 206 d)
      · rw [if_pos (by simp), ar_k _ (by omega) (by omega), m7, ob1_k (q_open hS hD hQ (need_lt hD hd (Or.inr (Or.inr rfl))))]
        cases h7 : lck c (gp c 207 d)
        · rw [if_pos (by simp), ar_k _ (by omega) (by omega), ar_k _ (by omega) (by omega), q3, q5]
          by_cases hv2 : gi c 303 q ≤ gi c 305 q
          · rw [if_pos hv2, ar_k _ (by omega) (by omega), m2, es]
            by_cases hz : 0 < szn c d
            · have hp0 : ∀ j, gp c 205 d = some j → bd c j = true := fun j hj => by
                rw [hj] at h5
                simpa [lck] using h5
              rw [if_neg (by rw [show (0 : Int32) = nI 0 from rfl, nI_leN (by omega) (by omega)]; omega), ob1_k (room_m hS hD hB hW hQ hd hu hp0 hz hf)]
              by_cases hr : ROOM c d = none
              · rw [if_pos (enc_room.mpr hr)]
                have hR : REF c d = 5 := by simp only [REF, hv, h5, h6, h7, hv2, hz, hr]; simp
                rw [hR]
                rfl
              · rw [if_neg (fun h => hr (enc_room.mp h))]
                refine hj98 _ ?_
                simp only [REF, hv, h5, h6, h7, hv2]
                simp [hr]
            · rw [if_pos (by rw [show (0 : Int32) = nI 0 from rfl, nI_leN (by omega) (by omega)]; omega)]
              refine hj98 _ ?_
              simp only [REF, hv, h5, h6, h7, hv2, hz]
              simp
          · rw [if_neg hv2]
            have hR : REF c d = 4 := by simp only [REF, hv, h5, h6, h7, hv2]; simp
            rw [hR]
            rfl
        · have hR : REF c d = 3 := by simp only [REF, hv, h5, h6, h7]; simp
          rw [hR, if_neg (by simp)]
          rfl
      · have hR : REF c d = 3 := by simp only [REF, hv, h5, h6]; simp
        rw [hR, if_neg (by simp)]
        rfl
    · have hR : REF c d = 2 := by simp only [REF, hv, h5]; simp
      rw [hR, if_neg (by simp)]
      rfl
