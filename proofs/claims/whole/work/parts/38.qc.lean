/-! ===== calls that end, maps that are let go ===== -/
theorem up2 {A B SC SM TC TM : Type} {bC : SC → Option (SC ⊕ TC)} {bM : SM → Option (SM ⊕ TM)} (eC : Nat → A → SC) (eM : Nat → B → SM) (R : Nat → A → B → Prop) (N : Nat) (hs : ∀ i a b, i < N → R i a b → ∃ a' b', bC (eC i a) = some (.inl (eC (i + 1) a')) ∧ bM (eM i b) = some (.inl (eM (i + 1) b')) ∧ R (i + 1) a' b') {a : A} {b : B} (h0 : R 0 a b) : ∃ a' b', R N a' b' ∧ Rn bC N (eC 0 a) (eC N a') ∧ Rn bM N (eM 0 b) (eM N b') := by
  have key : ∀ k, k ≤ N → ∃ a' b', R k a' b' ∧ Rn bC k (eC 0 a) (eC k a') ∧ Rn bM k (eM 0 b) (eM k b') := by
    intro k
    induction k with
    | zero => intro _; exact ⟨a, b, h0, Rn.nil, Rn.nil⟩
    | succ k ih =>
      intro hk
      obtain ⟨a1, b1, h1, h2, h3⟩ := ih (by omega)
      obtain ⟨a2, b2, h4, h5, h6⟩ := hs k a1 b1 (by omega) h1
      exact ⟨a2, b2, h6, h2.app (Rn.one h4), h3.app (Rn.one h5)⟩
  exact key N (Nat.le_refl _)
theorem up1 {A S T : Type} {b : S → Option (S ⊕ T)} (en : Nat → A → S) (R : Nat → A → Prop) (N : Nat) (hs : ∀ i a, i < N → R i a → ∃ a', b (en i a) = some (.inl (en (i + 1) a')) ∧ R (i + 1) a') {a : A} (h0 : R 0 a) : ∃ a', R N a' ∧ Rn b N (en 0 a) (en N a') := by
  have key : ∀ k, k ≤ N → ∃ a', R k a' ∧ Rn b k (en 0 a) (en k a') := by
    intro k
    induction k with
    | zero => intro _; exact ⟨a, h0, Rn.nil⟩
    | succ k ih =>
      intro hk
      obtain ⟨a1, h1, h2⟩ := ih (by omega)
      obtain ⟨a2, h4, h6⟩ := hs k a1 (by omega) h1
      exact ⟨a2, h6, h2.app (Rn.one h4)⟩
  exact key N (Nat.le_refl _)
theorem nI_e0' {r : Nat} (h : r < 2 ^ 31) : nI r = 0 ↔ r = 0 := by rw [z0, nI_inj h (by omega)]
/-- the device of a call -/
def cdv (c : St) (k : Nat) : Option Nat := match gp c 100 k with
  | none => none
  | some h => gp c 500 h
theorem cdv_of {c : St} {k h d : Nat} (h1 : gp c 100 k = some h) (h2 : gp c 500 h = some d) : cdv c k = some d := by
  unfold cdv
  rw [h1]
  exact h2
/-- what calls and handles are: the shape alone -/
def CKs (c : St) : Prop := ∀ k, k < gn c 1 → ∃ h d, h < gn c 5 ∧ d < gn c 2 ∧ gp c 100 k = some h ∧ gp c 500 h = some d
theorem CK.s {t : Nat} {c : St} (h : CK t c) : CKs c := fun k hk => by
  obtain ⟨h1, d, h2, h3, h4, h5, -⟩ := h k hk
  exact ⟨h1, d, h2, h3, h4, h5⟩
theorem q_abort {fu e t d : Nat} {c m : St} (hS : CS c) (hH : HK e t c m) (hd : d < gn c 2) (hf : 200 ≤ fu) :
    ∃ x c' m', f7_abortCallsOf fu (some d) c = some (x, c') ∧ f8_endCalls fu (nI d) m = some (x, m') ∧ FR [102] c c' ∧ FR [837] m m' ∧ (∀ k, k < gn c 1 → gi m' 837 k = gi c' 102 k) ∧ ∀ k, k < gn c 1 → gi c' 102 k = 0 → gi c 102 k = 0 ∧ cdv c k ≠ some d := by
  obtain ⟨-, n24, -, -, -, n40, l4, n100, -⟩ := hS
  obtain ⟨hCH, hCK, hR, hK⟩ := hH
  obtain ⟨⟨x, c'⟩, ⟨x', m'⟩, hr, r7, r8⟩ := up2 (bC := fun s8 : Int32 × Int32 × St => f7_abortCallsOf_b4 fu (some d) s8.1 s8.2.1 s8.2.2) (bM := fun s8 : Int32 × Int32 × St => f8_endCalls_b4 fu (nI d) s8.1 s8.2.1 s8.2.2) (fun i a => (a.1, nI i, a.2)) (fun i a => (a.1, nI i, a.2))
    (fun i a b => a.1 = b.1 ∧ FR [102] c a.2 ∧ FR [837] m b.2 ∧ (∀ k, k < gn c 1 → gi b.2 837 k = gi a.2 102 k) ∧ (∀ k, k < gn c 1 → gi a.2 102 k = 0 → gi c 102 k = 0) ∧ ∀ k, k < i → gi a.2 102 k = 0 → cdv c k ≠ some d) (gn c 1)
    (fun i a b hi hr => by
      obtain ⟨x, c1⟩ := a
      obtain ⟨x', m1⟩ := b
      obtain ⟨e1, f1, f2, h1, h0, h2⟩ := hr
      dsimp only at e1 f1 f2 h1 h2 h0
      subst e1
      obtain ⟨h, d', hh, hd', k1, k2, -⟩ := hCK i hi
      obtain ⟨u1, u2, -⟩ := hR.2.2 h d' hh k2
      have hk := hK.2 i hi
      have k1' : gp c1 100 i = some h := by rw [f1.p (by decide)]; exact k1
      have k2' : gp c1 500 h = some d' := by rw [f1.p (by decide)]; exact k2
      have m1' : gi m1 835 i = nI h := by rw [f2.i (by decide), hk.1, k1]; rfl
      have m2' : gi m1 831 h = nI d' := by rw [f2.i (by decide)]; exact u1
      have n1 := f1.n (k := 1) (by decide)
      have n2 := f1.n (k := 2) (by decide)
      have n5 := f1.n (k := 5) (by decide)
      have c7 : f7_abortCallsOf_b4 fu (some d) x (nI i) c1 = if d' = d then (if gi c1 102 i = 0 then some (.inl (x + 1, nI (i + 1), zi c1 102 i 2)) else some (.inl (x, nI (i + 1), c1))) else some (.inl (x, nI (i + 1), c1)) := by
        unfold f7_abortCallsOf_b4 lt
        rw [f1.l (k := 4) (by decide), l4, List.length_range, if_neg (by rw [nI_leN (by omega) (by omega)]; omega), lg_r (σ := c1) (k := 4) _ (by rw [f1.l (k := 4) (by decide)]; exact l4) hi (by omega) (show gn c 1 ≤ gn c1 1 by omega)]
        dsimp only
        rw [k1', dr_k (by omega)]
        rw [k2', ckb (okr_of fun j hj => by cases hj; omega), ckb (okr_of fun j hj => by cases hj; omega)]
        by_cases hdd : d' = d
        · rw [if_pos (by rw [hdd]), if_pos hdd]
          unfold f1_abortIfGoing
          rw [ckd (by omega)]
          by_cases h0 : gi c1 102 i = 0
          · rw [if_pos h0, if_pos h0]
            simp [ob2, f7_abortCallsOf_j51, nI_s]
          · rw [if_neg h0, if_neg h0]
            simp [ob2, f7_abortCallsOf_j51, nI_s]
        · rw [if_neg (fun z => hdd (Option.some.inj z)), if_neg hdd]
          simp [f7_abortCallsOf_j51, nI_s]
      have c8 : f8_endCalls_b4 fu (nI d) x (nI i) m1 = if d' = d then (if gi c1 102 i = 0 then some (.inl (x + 1, nI (i + 1), zi m1 837 i 2)) else some (.inl (x, nI (i + 1), m1))) else some (.inl (x, nI (i + 1), m1)) := by
        unfold f8_endCalls_b4
        rw [f2.i (by decide), hK.1, if_neg (by rw [nI_leN (by omega) (by omega)]; omega), ar_k _ (by omega) (by omega), h1 i hi]
        by_cases h0 : gi c1 102 i = 0
        · rw [if_pos h0, ar_k _ (by omega) (by omega), m1', ar_k _ (by omega) (by omega), m2']
          by_cases hdd : d' = d
          · rw [if_pos (by rw [hdd]), if_pos hdd, if_pos h0, ar_k _ (by omega) (by omega)]
            simp [f8_endCalls_j46, nI_s]
          · rw [if_neg (fun z => hdd ((nI_inj (by omega) (by omega)).mp z)), if_neg hdd]
            simp [f8_endCalls_j46, nI_s]
        · rw [if_neg h0]
          by_cases hdd : d' = d
          · rw [if_pos hdd, if_neg h0]
            simp [f8_endCalls_j46, nI_s]
          · rw [if_neg hdd]
            simp [f8_endCalls_j46, nI_s]
      have hcd := cdv_of k1 k2
      by_cases hdd : d' = d
      · by_cases h0' : gi c1 102 i = 0
        · refine ⟨(x + 1, zi c1 102 i 2), (x + 1, zi m1 837 i 2), ?_, ?_, rfl, f1.zi (by decide), f2.zi (by decide), fun k hk => ?_, fun k hk => ?_, fun k hk => ?_⟩
          · show f7_abortCallsOf_b4 fu (some d) x (nI i) c1 = _
            rw [c7, if_pos hdd, if_pos h0']
          · show f8_endCalls_b4 fu (nI d) x (nI i) m1 = _
            rw [c8, if_pos hdd, if_pos h0']
          · show gi (zi m1 837 i 2) 837 k = gi (zi c1 102 i 2) 102 k
            simp only [gi_zi]
            by_cases hki : k = i
            · simp [hki]
            · simp [hki, h1 k hk]
          · show gi (zi c1 102 i 2) 102 k = 0 → _
            simp only [gi_zi]
            by_cases hki : k = i
            · simp [hki]
            · simp only [hki, and_false, if_false]
              exact h0 k hk
          · show gi (zi c1 102 i 2) 102 k = 0 → _
            simp only [gi_zi]
            by_cases hki : k = i
            · simp [hki]
            · simp only [hki, and_false, if_false]
              exact h2 k (by omega)
        · refine ⟨(x, c1), (x, m1), ?_, ?_, rfl, f1, f2, h1, h0, fun k hk hz => ?_⟩
          · show f7_abortCallsOf_b4 fu (some d) x (nI i) c1 = _
            rw [c7, if_pos hdd, if_neg h0']
          · show f8_endCalls_b4 fu (nI d) x (nI i) m1 = _
            rw [c8, if_pos hdd, if_neg h0']
          · by_cases hki : k = i
            · subst hki
              exact absurd hz h0'
            · exact h2 k (by omega) hz
      · refine ⟨(x, c1), (x, m1), ?_, ?_, rfl, f1, f2, h1, h0, fun k hk hz => ?_⟩
        · show f7_abortCallsOf_b4 fu (some d) x (nI i) c1 = _
          rw [c7, if_neg hdd]
        · show f8_endCalls_b4 fu (nI d) x (nI i) m1 = _
          rw [c8, if_neg hdd]
        · by_cases hki : k = i
          · subst hki
            rw [hcd]
            exact fun z => hdd (Option.some.inj z)
          · exact h2 k (by omega) hz)
    (a := (0, c)) (b := (0, m)) ⟨rfl, FR.rf, FR.rf, fun k hk => (hK.2 k hk).2.2, fun _ _ h => h, fun k hk => by omega⟩
  obtain ⟨e1, f1, f2, h1, h0, h2⟩ := hr
  dsimp only at e1 f1 f2 h1 h2 h0
  subst e1
  refine ⟨x, c', m', ?_, ?_, f1, f2, h1, fun k hk hz => ⟨h0 k hk hz, h2 k hk hz⟩⟩
  · unfold f7_abortCallsOf
    refine r7.fin ?_ (by omega)
    show f7_abortCallsOf_b4 fu (some d) x (nI (gn c 1)) c' = _
    unfold f7_abortCallsOf_b4
    rw [f1.l (k := 4) (by decide), l4, List.length_range, if_pos (by rw [nI_leN (by omega) (by omega)]; omega)]
    rfl
  · unfold f8_endCalls
    refine r8.fin ?_ (by omega)
    show f8_endCalls_b4 fu (nI d) x (nI (gn c 1)) m' = _
    unfold f8_endCalls_b4
    rw [f2.i (by decide), hK.1, if_pos (by rw [nI_leN (by omega) (by omega)]; omega)]
    rfl
/-- the calls behind that -/
theorem HK.ab {e t d : Nat} {c m c' m' : St} (hH : HK e t c m) (f1 : FR [102] c c') (f2 : FR [837] m m') (h1 : ∀ k, k < gn c 1 → gi m' 837 k = gi c' 102 k) (h2 : ∀ k, k < gn c 1 → gi c' 102 k = 0 → gi c 102 k = 0 ∧ cdv c k ≠ some d) : HK e t c' m' := by
  obtain ⟨hCH, hCK, hR, hK⟩ := hH
  refine ⟨hCH.fr f1 (by decide), fun k hk => ?_, hR.fr f1 f2 (by decide) (by decide) (Nat.le_refl _), ?_, fun k hk => ?_⟩
  · rw [f1.n (k := 1) (by decide)] at hk
    obtain ⟨h, d', hh, hd', k1, k2, k3⟩ := hCK k hk
    refine ⟨h, d', by rw [f1.n (k := 5) (by decide)]; exact hh, by rw [f1.n (k := 2) (by decide)]; exact hd', by rw [f1.p (by decide)]; exact k1, by rw [f1.p (by decide)]; exact k2, fun hz => ?_⟩
    rw [f1.b (by decide), f1.i (f := 101) (by decide)]
    exact k3 (h2 k hk hz).1
  · rw [f1.n (k := 1) (by decide), f2.i (by decide)]; exact hK.1
  · rw [f1.n (k := 1) (by decide)] at hk
    rw [f2.i (f := 835) (by decide), f2.i (f := 836) (by decide), f1.p (by decide), f1.i (f := 101) (by decide)]
    exact ⟨(hK.2 k hk).1, (hK.2 k hk).2.1, h1 k hk⟩
theorem q_maps {fu d : Nat} {c m : St} (hS : CS c) (hSl : RSl c m) (hd : d < gn c 2) (hf : 200 ≤ fu) :
    ∃ c' m', f7_letMapsGo fu (some d) c = some c' ∧ f8_letMaps fu (nI d) m = some m' ∧ FR [600] c c' ∧ FR [839] m m' ∧ RSl c' m' := by
  obtain ⟨-, n24, -, -, -, -, -, -, l5⟩ := hS
  obtain ⟨c', m', hr, r7, r8⟩ := up2 (bC := fun s8 : Int32 × St => f7_letMapsGo_b2 fu (some d) s8.1 s8.2) (bM := fun s8 : Int32 × St => f8_letMaps_b2 fu (nI d) s8.1 s8.2) (fun i a => (nI i, a)) (fun i a => (nI i, a))
    (fun i a b => FR [600] c a ∧ FR [839] m b ∧ RSl a b) 16
    (fun i c1 m1 hi hr => by
      obtain ⟨f1, f2, h1⟩ := hr
      obtain ⟨s1, s2, s3⟩ := h1 i hi
      have n2 := f1.n (k := 2) (by decide)
      have hs1 : ∀ k, gp c1 600 i = some k → k < 2 ^ 31 := fun k hk => by have := s1 k hk; omega
      have c7 : f7_letMapsGo_b2 fu (some d) (nI i) c1 = if gp c1 600 i = some d then some (.inl (nI (i + 1), zp c1 600 i none)) else some (.inl (nI (i + 1), c1)) := by
        unfold f7_letMapsGo_b2 lt
        rw [f1.l (k := 5) (by decide), l5, List.length_range, if_neg (by rw [nI_leN (by omega) (by omega)]; omega), lg_r (σ := c1) (k := 5) _ (by rw [f1.l (k := 5) (by decide)]; exact l5) hi (by omega) (show 16 ≤ 16 from Nat.le_refl _)]
        dsimp only
        rw [ckb (okr_of s1), ckb (okr_of fun j hj => by cases hj; omega)]
        unfold f7_letMapsGo_j38
        rw [nI_s]
      have c8 : f8_letMaps_b2 fu (nI d) (nI i) m1 = if gp c1 600 i = some d then some (.inl (nI (i + 1), zi m1 839 i (-1))) else some (.inl (nI (i + 1), zi m1 839 i (gi m1 839 i))) := by
        unfold f8_letMaps_b2
        rw [if_neg (by rw [show (16 : Int32) = nI 16 from rfl, nI_leN (by omega) (by omega)]; omega), ar_k _ hi (by omega), s2]
        unfold f8_letMaps_j33
        by_cases hdd : gp c1 600 i = some d
        · rw [if_pos (by rw [hdd]; rfl), if_pos hdd, ar_k _ hi (by omega), nI_s]
        · rw [if_neg (show ¬ enc (gp c1 600 i) = nI d from fun z => hdd ((enc_eq (q := some d) hs1 (fun k hk => by cases hk; omega)).mp z)), if_neg hdd, ar_k _ hi (by omega), ar_k _ hi (by omega), nI_s, s2]
      by_cases hdd : gp c1 600 i = some d
      · refine ⟨zp c1 600 i none, zi m1 839 i (-1), ?_, ?_, f1.zp (by decide), f2.zi (by decide), fun s hs => ?_⟩
        · show f7_letMapsGo_b2 fu (some d) (nI i) c1 = _
          rw [c7, if_pos hdd]
        · show f8_letMaps_b2 fu (nI d) (nI i) m1 = _
          rw [c8, if_pos hdd]
        · obtain ⟨t1, t2, t3⟩ := h1 s hs
          simp only [gp_zp, gi_zi, gi_zp, gn_zp]
          by_cases hsi : s = i
          · simp [hsi, enc_none]
            exact s3
          · simp [hsi]
            exact ⟨t1, t2, t3⟩
      · refine ⟨c1, zi m1 839 i (gi m1 839 i), ?_, ?_, f1, f2.zi (by decide), fun s hs => ?_⟩
        · show f7_letMapsGo_b2 fu (some d) (nI i) c1 = _
          rw [c7, if_neg hdd]
        · show f8_letMaps_b2 fu (nI d) (nI i) m1 = _
          rw [c8, if_neg hdd]
        · obtain ⟨t1, t2, t3⟩ := h1 s hs
          simp only [gi_zi]
          by_cases hsi : s = i
          · subst hsi
            simp
            exact ⟨s1, s2, s3⟩
          · simp [hsi]
            exact ⟨t1, t2, t3⟩)
    (a := c) (b := m) ⟨FR.rf, FR.rf, hSl⟩
  obtain ⟨f1, f2, h1⟩ := hr
  refine ⟨c', m', ?_, ?_, f1, f2, h1⟩
  · unfold f7_letMapsGo
    refine r7.fin ?_ (by omega)
    show f7_letMapsGo_b2 fu (some d) (nI 16) c' = _
    unfold f7_letMapsGo_b2
    rw [f1.l (k := 5) (by decide), l5, List.length_range, if_pos (by decide)]
    rfl
  · unfold f8_letMaps
    refine r8.fin ?_ (by omega)
    show f8_letMaps_b2 fu (nI d) (nI 16) m' = _
    unfold f8_letMaps_b2
    rw [if_pos (by decide)]
    rfl
