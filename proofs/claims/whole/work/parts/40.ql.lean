/-! ===== the first and the last of a set ===== -/
def bstS (P : Nat → Bool) (κ : Nat → Nat → Bool) (i : Nat) (b : Option Nat) : Option Nat := if P i = true then (match b with
  | none => some i
  | some b => if κ b i = true then some b else some i) else b
def bst (P : Nat → Bool) (κ : Nat → Nat → Bool) (N : Nat) : Option Nat := itr (bstS P κ) N none
theorem bst_spec {P : Nat → Bool} {κ : Nat → Nat → Bool} (ht : ∀ a b, κ a b = true ∨ κ b a = true) (htr : ∀ a b c, κ a b = true → κ b c = true → κ a c = true) : ∀ N, (bst P κ N = none ∧ ∀ i, i < N → P i = false) ∨ ∃ b, b < N ∧ bst P κ N = some b ∧ P b = true ∧ ∀ i, i < N → P i = true → κ b i = true := by
  intro N
  induction N with
  | zero => exact Or.inl ⟨rfl, fun i hi => by omega⟩
  | succ N ih =>
    have hu : bst P κ (N + 1) = bstS P κ N (bst P κ N) := rfl
    rw [hu]
    unfold bstS
    by_cases hP : P N = true
    · rw [if_pos hP]
      rcases ih with ⟨h1, h2⟩ | ⟨b, h1, h2, h3, h4⟩
      · rw [h1]
        refine Or.inr ⟨N, by omega, rfl, hP, fun i hi hi2 => ?_⟩
        by_cases hiN : i = N
        · subst hiN
          rcases ht i i with h | h <;> exact h
        · rw [h2 i (by omega)] at hi2; cases hi2
      · rw [h2]
        dsimp only
        by_cases hk : κ b N = true
        · rw [if_pos hk]
          refine Or.inr ⟨b, by omega, rfl, h3, fun i hi hi2 => ?_⟩
          by_cases hiN : i = N
          · subst hiN; exact hk
          · exact h4 i (by omega) hi2
        · rw [if_neg hk]
          have hk2 : κ N b = true := (ht b N).resolve_left hk
          refine Or.inr ⟨N, by omega, rfl, hP, fun i hi hi2 => ?_⟩
          by_cases hiN : i = N
          · subst hiN
            rcases ht i i with h | h <;> exact h
          · exact htr N b i hk2 (h4 i (by omega) hi2)
    · rw [if_neg hP]
      rcases ih with ⟨h1, h2⟩ | ⟨b, h1, h2, h3, h4⟩
      · refine Or.inl ⟨h1, fun i hi => ?_⟩
        by_cases hiN : i = N
        · subst hiN; simpa using hP
        · exact h2 i (by omega)
      · refine Or.inr ⟨b, by omega, h2, h3, fun i hi hi2 => ?_⟩
        by_cases hiN : i = N
        · subst hiN; exact absurd hi2 hP
        · exact h4 i (by omega) hi2
def kL (m : St) (b i : Nat) : Bool := decide (ord m i ≤ ord m b)
def kF (m : St) (b i : Nat) : Bool := decide (ord m b ≤ ord m i)
theorem kL_t (m : St) (a b : Nat) : kL m a b = true ∨ kL m b a = true := by
  unfold kL
  rw [decide_eq_true_eq, decide_eq_true_eq]
  omega
theorem kF_t (m : St) (a b : Nat) : kF m a b = true ∨ kF m b a = true := by
  unfold kF
  rw [decide_eq_true_eq, decide_eq_true_eq]
  omega
theorem kL_r (m : St) (a b c : Nat) : kL m a b = true → kL m b c = true → kL m a c = true := by
  unfold kL
  rw [decide_eq_true_eq, decide_eq_true_eq, decide_eq_true_eq]
  omega
theorem kF_r (m : St) (a b c : Nat) : kF m a b = true → kF m b c = true → kF m a c = true := by
  unfold kF
  rw [decide_eq_true_eq, decide_eq_true_eq, decide_eq_true_eq]
  omega
theorem pw_mid {m : St} {l1 l2 : List Nat} {d : Nat} (h : (l1 ++ d :: l2).Pairwise (fun x y => ord m x < ord m y)) : (∀ x ∈ l1, ord m x < ord m d) ∧ ∀ x ∈ l2, ord m d < ord m x :=
  ⟨fun x hx => (List.pairwise_append.mp h).2.2 x hx d (by simp), fun x hx => (List.pairwise_cons.mp (List.pairwise_append.mp h).2.1).1 x hx⟩
theorem bst_last {e N : Nat} {c m : St} {P : Nat → Bool} {l1 l2 : List Nat} {d : Nat} (hO : RO e c m) (hP : ∀ i, i < N → P i = true → i ∈ gl c 1) (hl : gl c 1 = l1 ++ d :: l2) (hd : d < N) (hPd : P d = true) (h2 : ∀ x ∈ l2, P x = false) : bst P (kL m) N = some d := by
  obtain ⟨b0, -, -, o3, -⟩ := hO
  rw [hl] at o3
  have hpw := pw_mid o3
  rcases bst_spec (P := P) (kL_t m) (kL_r m) N with ⟨-, h⟩ | ⟨b, h3, h4, h5, h6⟩
  · rw [h d hd] at hPd; cases hPd
  · rw [h4]
    have hb := hP b h3 h5
    rw [hl, List.mem_append, List.mem_cons] at hb
    have h7 := h6 d hd hPd
    unfold kL at h7
    rw [decide_eq_true_eq] at h7
    rcases hb with hb | hb | hb
    · have := hpw.1 b hb; omega
    · rw [hb]
    · rw [h2 b hb] at h5; cases h5
theorem bst_first {e N : Nat} {c m : St} {P : Nat → Bool} {l1 l2 : List Nat} {d : Nat} (hO : RO e c m) (hP : ∀ i, i < N → P i = true → i ∈ gl c 1) (hl : gl c 1 = l1 ++ d :: l2) (hd : d < N) (hPd : P d = true) (h2 : ∀ x ∈ l1, P x = false) : bst P (kF m) N = some d := by
  obtain ⟨b0, -, -, o3, -⟩ := hO
  rw [hl] at o3
  have hpw := pw_mid o3
  rcases bst_spec (P := P) (kF_t m) (kF_r m) N with ⟨-, h⟩ | ⟨b, h3, h4, h5, h6⟩
  · rw [h d hd] at hPd; cases hPd
  · rw [h4]
    have hb := hP b h3 h5
    rw [hl, List.mem_append, List.mem_cons] at hb
    have h7 := h6 d hd hPd
    unfold kF at h7
    rw [decide_eq_true_eq] at h7
    rcases hb with hb | hb | hb
    · rw [h2 b hb] at h5; cases h5
    · rw [hb]
    · have := hpw.2 b hb; omega
theorem bst_none {N : Nat} {P : Nat → Bool} {κ : Nat → Nat → Bool} (h : ∀ i, i < N → P i = false) : bst P κ N = none := by
  induction N with
  | zero => rfl
  | succ N ih =>
    have hu : bst P κ (N + 1) = bstS P κ N (bst P κ N) := rfl
    rw [hu, ih fun i hi => h i (by omega)]
    unfold bstS
    rw [if_neg (by rw [h N (by omega)]; simp)]
def nhb (x : Int32) (o : Option Nat) : Bool := match o with
  | none => false
  | some k => hb x k
theorem q_has {fu : Nat} {x : Int32} {o : Option Nat} {m : St} (h : ∀ k, o = some k → k < 32) : f8_has fu x (enc o) m = some (nhb x o) := by
  unfold f8_has nhb
  cases o with
  | none => rfl
  | some k =>
    have hk := h k rfl
    rw [enc_some, if_neg (nI_neg1 (by omega))]
    dsimp only
    by_cases hz : hb x k = true
    · rw [if_pos ((has_hb hk).mpr hz), hz]
    · rw [if_neg (fun y => hz ((has_hb hk).mp y))]
      simp at hz
      rw [hz]
theorem q_hasN {fu k : Nat} {x : Int32} {m : St} (hk : k < 32) : f8_has fu x (nI k) m = some (hb x k) := q_has (o := some k) fun j hj => by cases hj; exact hk
theorem ord_nI {e : Nat} {c m : St} (hB : CB c) (hO : RO e c m) {d : Nat} (hd : d < gn c 2) (hb : bd c d = true) : gi m 820 d = nI (ord m d) ∧ ord m d ≤ e := by
  obtain ⟨b, o1, -, -, o4⟩ := hO
  have := o4 d ((hB.2.1 d).mpr ⟨hd, bd_ne.mp hb⟩)
  exact ⟨this.1, by omega⟩
theorem bst_P {P : Nat → Bool} {κ : Nat → Nat → Bool} : ∀ N b, bst P κ N = some b → b < N ∧ P b = true := by
  intro N
  induction N with
  | zero => intro b h; cases h
  | succ N ih =>
    intro b h
    have hu : bst P κ (N + 1) = bstS P κ N (bst P κ N) := rfl
    rw [hu] at h
    unfold bstS at h
    by_cases hP : P N = true
    · rw [if_pos hP] at h
      cases hb : bst P κ N with
      | none =>
        rw [hb] at h
        cases h
        exact ⟨by omega, hP⟩
      | some b' =>
        rw [hb] at h
        dsimp only at h
        by_cases hk : κ b' N = true
        · rw [if_pos hk] at h
          cases h
          exact ⟨by have := (ih b hb).1; omega, (ih b hb).2⟩
        · rw [if_neg hk] at h
          cases h
          exact ⟨by omega, hP⟩
    · rw [if_neg hP] at h
      exact ⟨by have := (ih b h).1; omega, (ih b h).2⟩
def inS (c : St) (x : Int32) (i : Nat) : Bool := hb x i && bd c i
theorem q_lastOf {fu e : Nat} {c m : St} {x : Int32} (hS : CS c) (hD : CD c) (hB : CB c) (hQ : RQ c m) (hO : RO e c m) (he : e < 2 ^ 31) (hf : 200 ≤ fu) : f8_lastOf fu x m = some (enc (bst (inS c x) (kL m) (gn c 2))) := by
  have h24 := hS.2.1
  unfold f8_lastOf
  refine lp_up (fun i a => (enc a, nI i)) (bstS (inS c x) (kL m)) (gn c 2) (a0 := none) (fun i hi => ?_) ?_ (by omega)
  · have hP := bst_P (P := inS c x) (κ := kL m) i
    have hu : bst (inS c x) (kL m) i = itr (bstS (inS c x) (kL m)) i none := rfl
    rw [hu] at hP
    generalize itr (bstS (inS c x) (kL m)) i none = a at hP
    show f8_lastOf_b4 fu x (enc a) (nI i) m = _
    unfold f8_lastOf_b4
    rw [hQ.1, if_neg (by rw [nI_leN (by omega) (by omega)]; omega), ob1_k (q_hasN (show i < 32 by omega))]
    cases hh : hb x i
    · rw [if_neg (by simp)]
      simp [f8_lastOf_j52, f8_lastOf_j53, nI_s, bstS, inS, hh]
    · rw [if_pos rfl, ob1_k (q_isBound hS hD hQ hi)]
      cases hbd : bd c i
      · rw [if_neg (by simp)]
        simp [f8_lastOf_j52, f8_lastOf_j53, nI_s, bstS, inS, hbd]
      · rw [if_pos rfl]
        cases a with
        | none =>
          rw [enc_none, if_pos rfl]
          simp [f8_lastOf_j48, f8_lastOf_j53, nI_s, bstS, inS, hh, hbd, enc]
        | some b =>
          obtain ⟨hb1, hb2⟩ := hP b rfl
          unfold inS at hb2
          rw [Bool.and_eq_true] at hb2
          have o1 := ord_nI hB hO hi hbd
          have o2 := ord_nI hB hO (show b < gn c 2 by omega) hb2.2
          rw [enc_some, if_neg (nI_neg1 (by omega)), ar_k _ (by omega) (by omega), ar_k _ (by omega) (by omega), o1.1, o2.1]
          by_cases hle : ord m i ≤ ord m b
          · rw [if_pos (by rw [nI_leN (by omega) (by omega)]; exact hle)]
            simp [f8_lastOf_j52, f8_lastOf_j53, nI_s, bstS, inS, hh, hbd, kL, hle, enc]
          · rw [if_neg (by rw [nI_leN (by omega) (by omega)]; exact hle)]
            simp [f8_lastOf_j48, f8_lastOf_j53, nI_s, bstS, inS, hh, hbd, kL, hle, enc]
  · show f8_lastOf_b4 fu x _ (nI (gn c 2)) m = _
    unfold f8_lastOf_b4
    rw [hQ.1, if_pos (by rw [nI_leN (by omega) (by omega)]; omega)]
    rfl
theorem q_firstOf {fu e : Nat} {c m : St} {x : Int32} (hS : CS c) (hD : CD c) (hB : CB c) (hQ : RQ c m) (hO : RO e c m) (he : e < 2 ^ 31) (hf : 200 ≤ fu) : f8_firstOf fu x m = some (enc (bst (inS c x) (kF m) (gn c 2))) := by
  have h24 := hS.2.1
  unfold f8_firstOf
  refine lp_up (fun i a => (enc a, nI i)) (bstS (inS c x) (kF m)) (gn c 2) (a0 := none) (fun i hi => ?_) ?_ (by omega)
  · have hP := bst_P (P := inS c x) (κ := kF m) i
    have hu : bst (inS c x) (kF m) i = itr (bstS (inS c x) (kF m)) i none := rfl
    rw [hu] at hP
    generalize itr (bstS (inS c x) (kF m)) i none = a at hP
    show f8_firstOf_b4 fu x (enc a) (nI i) m = _
    unfold f8_firstOf_b4
    rw [hQ.1, if_neg (by rw [nI_leN (by omega) (by omega)]; omega), ob1_k (q_hasN (show i < 32 by omega))]
    cases hh : hb x i
    · rw [if_neg (by simp)]
      simp [f8_firstOf_j52, f8_firstOf_j53, nI_s, bstS, inS, hh]
    · rw [if_pos rfl, ob1_k (q_isBound hS hD hQ hi)]
      cases hbd : bd c i
      · rw [if_neg (by simp)]
        simp [f8_firstOf_j52, f8_firstOf_j53, nI_s, bstS, inS, hbd]
      · rw [if_pos rfl]
        cases a with
        | none =>
          rw [enc_none, if_pos rfl]
          simp [f8_firstOf_j48, f8_firstOf_j53, nI_s, bstS, inS, hh, hbd, enc]
        | some b =>
          obtain ⟨hb1, hb2⟩ := hP b rfl
          unfold inS at hb2
          rw [Bool.and_eq_true] at hb2
          have o1 := ord_nI hB hO hi hbd
          have o2 := ord_nI hB hO (show b < gn c 2 by omega) hb2.2
          rw [enc_some, if_neg (nI_neg1 (by omega)), ar_k _ (by omega) (by omega), ar_k _ (by omega) (by omega), o1.1, o2.1]
          by_cases hle : ord m b ≤ ord m i
          · rw [if_pos (by rw [nI_leN (by omega) (by omega)]; exact hle)]
            simp [f8_firstOf_j52, f8_firstOf_j53, nI_s, bstS, inS, hh, hbd, kF, hle, enc]
          · rw [if_neg (by rw [nI_leN (by omega) (by omega)]; exact hle)]
            simp [f8_firstOf_j48, f8_firstOf_j53, nI_s, bstS, inS, hh, hbd, kF, hle, enc]
  · show f8_firstOf_b4 fu x _ (nI (gn c 2)) m = _
    unfold f8_firstOf_b4
    rw [hQ.1, if_pos (by rw [nI_leN (by omega) (by omega)]; omega)]
    rfl
/-- of those that sleep by the suspension the first -/
theorem q_firstSlept {fu e : Nat} {c m : St} (hS : CS c) (hB : CB c) (hQ : RQ c m) (hO : RO e c m) (hb822 : ∀ i, i < gn c 2 → gb m 822 i = true → bd c i = true) (he : e < 2 ^ 31) (hf : 200 ≤ fu) : f8_firstSlept fu m = some (enc (bst (gb m 822) (kF m) (gn c 2))) := by
  have h24 := hS.2.1
  unfold f8_firstSlept
  refine lp_up (fun i a => (enc a, nI i)) (bstS (gb m 822) (kF m)) (gn c 2) (a0 := none) (fun i hi => ?_) ?_ (by omega)
  · have hP := bst_P (P := gb m 822) (κ := kF m) i
    have hu : bst (gb m 822) (kF m) i = itr (bstS (gb m 822) (kF m)) i none := rfl
    rw [hu] at hP
    generalize itr (bstS (gb m 822) (kF m)) i none = a at hP
    show f8_firstSlept_b4 fu (enc a) (nI i) m = _
    unfold f8_firstSlept_b4
    rw [hQ.1, if_neg (by rw [nI_leN (by omega) (by omega)]; omega), ar_k _ (by omega) (by omega)]
    cases hh : gb m 822 i
    · rw [if_neg (by simp)]
      simp [f8_firstSlept_j45, f8_firstSlept_j46, nI_s, bstS, hh]
    · rw [if_pos rfl]
      cases a with
      | none =>
        rw [enc_none, if_pos rfl]
        simp [f8_firstSlept_j41, f8_firstSlept_j46, nI_s, bstS, hh, enc]
      | some b =>
        obtain ⟨hb1, hb2⟩ := hP b rfl
        have o1 := ord_nI hB hO hi (hb822 i hi hh)
        have o2 := ord_nI hB hO (show b < gn c 2 by omega) (hb822 b (by omega) hb2)
        rw [enc_some, if_neg (nI_neg1 (by omega)), ar_k _ (by omega) (by omega), ar_k _ (by omega) (by omega), o1.1, o2.1]
        by_cases hle : ord m b ≤ ord m i
        · rw [if_pos (by rw [nI_leN (by omega) (by omega)]; exact hle)]
          simp [f8_firstSlept_j45, f8_firstSlept_j46, nI_s, bstS, hh, kF, hle, enc]
        · rw [if_neg (by rw [nI_leN (by omega) (by omega)]; exact hle)]
          simp [f8_firstSlept_j41, f8_firstSlept_j46, nI_s, bstS, hh, kF, hle, enc]
  · show f8_firstSlept_b4 fu _ (nI (gn c 2)) m = _
    unfold f8_firstSlept_b4
    rw [hQ.1, if_pos (by rw [nI_leN (by omega) (by omega)]; omega)]
    rfl
