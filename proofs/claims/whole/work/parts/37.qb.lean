/-! ===== the rounds of binding ===== -/
theorem lp_first {S T : Type} {b : S → Option (S ⊕ T)} (en : Nat → S) (N : Nat) (P : Nat → Bool) (tp : Nat → T) (tn : T) (hb : ∀ p, p < N → b (en p) = if P p then some (.inr (tp p)) else some (.inl (en (p + 1)))) (he : b (en N) = some (.inr tn)) {fu : Nat} (hf : N < fu) : (∃ i, i < N ∧ P i = true ∧ (∀ j, j < i → P j = false) ∧ lp b fu (en 0) = some (tp i)) ∨ ((∀ j, j < N → P j = false) ∧ lp b fu (en 0) = some tn) := by
  have key : ∀ k p fu, p + k = N → k < fu → (∃ i, p ≤ i ∧ i < N ∧ P i = true ∧ (∀ j, p ≤ j → j < i → P j = false) ∧ lp b fu (en p) = some (tp i)) ∨ ((∀ j, p ≤ j → j < N → P j = false) ∧ lp b fu (en p) = some tn) := by
    intro k
    induction k with
    | zero =>
      intro p fu hp hf
      obtain ⟨f, rfl⟩ : ∃ f, fu = f + 1 := ⟨fu - 1, by omega⟩
      have : p = N := by omega
      subst this
      exact Or.inr ⟨fun j h1 h2 => by omega, lp_e he⟩
    | succ k ih =>
      intro p fu hp hf
      obtain ⟨f, rfl⟩ : ∃ f, fu = f + 1 := ⟨fu - 1, by omega⟩
      have h1 := hb p (by omega)
      by_cases hP : P p = true
      · rw [if_pos hP] at h1
        exact Or.inl ⟨p, Nat.le_refl _, by omega, hP, fun j h1 h2 => by omega, lp_e h1⟩
      · rw [if_neg hP] at h1
        rw [lp_s h1]
        rcases ih (p + 1) f (by omega) (by omega) with ⟨i, h2, h3, h4, h5, h6⟩ | ⟨h2, h3⟩
        · refine Or.inl ⟨i, by omega, h3, h4, fun j h7 h8 => ?_, h6⟩
          by_cases hj : j = p
          · subst hj; simpa using hP
          · exact h5 j (by omega) h8
        · refine Or.inr ⟨fun j h7 h8 => ?_, h3⟩
          by_cases hj : j = p
          · subst hj; simpa using hP
          · exact h2 j (by omega) h8
  rcases key N 0 fu (by omega) hf with ⟨i, _, h3, h4, h5, h6⟩ | ⟨h2, h3⟩
  · exact Or.inl ⟨i, h3, h4, fun j hj => h5 j (Nat.zero_le _) hj, h6⟩
  · exact Or.inr ⟨fun j hj => h2 j (Nat.zero_le _) hj, h3⟩
theorem Rn_to {S T : Type} {b : S → Option (S ⊕ T)} (en : Nat → S) (N : Nat) (h : ∀ i, i < N → b (en i) = some (.inl (en (i + 1)))) : Rn b N (en 0) (en N) := by
  have : ∀ k, k ≤ N → Rn b k (en 0) (en k) := by
    intro k
    induction k with
    | zero => intro _; exact Rn.nil
    | succ k ih => intro hk; exact (ih (by omega)).app (Rn.one (h k (by omega)))
  exact this N (Nat.le_refl _)
def cand (c : St) (d : Nat) : Bool := gb c 208 d && (!bd c d && decide (REF c d = 0))
theorem nI_e0 {r : Nat} (h : r < 8) : nI r = 0 ↔ r = 0 := by rw [z0, nI_inj (by omega) (by omega)]
theorem q_low {fu : Nat} {c : St} (hS : CS c) (hD : CD c) (hB : CB c) (hW : CW c) (hf : 200 ≤ fu) : (∃ d, d < gn c 2 ∧ cand c d = true ∧ (∀ j, j < d → cand c j = false) ∧ f7_lowestNotRefused fu c = some (some d)) ∨ ((∀ j, j < gn c 2 → cand c j = false) ∧ f7_lowestNotRefused fu c = some none) := by
  have h24 := hS.2.1
  unfold f7_lowestNotRefused
  refine lp_first (b := fun s8 => f7_lowestNotRefused_b2 fu s8 c) nI (gn c 2) (cand c) (fun d => some d) none (fun i hi => ?_) ?_ (by omega)
  · show f7_lowestNotRefused_b2 fu (nI i) c = _
    unfold f7_lowestNotRefused_b2
    rw [hS.1, List.length_range, if_neg (by rw [nI_leN (by omega) (by omega)]; omega), lg_r _ hS.1 hi (by omega) (show gn c 2 ≤ gn c 2 from Nat.le_refl _)]
    unfold cand
    cases h8 : gb c 208 i
    · rw [if_neg (by simp)]
      simp [f7_lowestNotRefused_j49, nI_s]
    · rw [if_pos rfl, ob1_k (q_isBoundC hi)]
      cases hb : bd c i
      · rw [if_neg (by simp), ob1_k (ref_c hS hD hB hW hi (by omega))]
        by_cases h0 : REF c i = 0
        · rw [if_pos ((nI_e0 (REF_lt c i)).mpr h0)]
          simp [h0, oinr]
        · rw [if_neg (fun z => h0 ((nI_e0 (REF_lt c i)).mp z))]
          simp [h0, f7_lowestNotRefused_j49, nI_s]
      · rw [if_pos rfl]
        simp [f7_lowestNotRefused_j49, nI_s]
  · show f7_lowestNotRefused_b2 fu (nI (gn c 2)) c = _
    unfold f7_lowestNotRefused_b2
    rw [hS.1, List.length_range, if_pos (by rw [nI_leN (by omega) (by omega)]; omega)]
    rfl
abbrev bB (fu : Nat) : Int32 × St → Option ((Int32 × St) ⊕ St) := fun s8 => f7_bindWhatCanBe_b2 fu s8.1 s8.2
abbrev sB (fu : Nat) : Bool × St → Option ((Bool × St) ⊕ St) := fun s8 => f8_settle_b13 fu s8.1 s8.2
abbrev sI (fu : Nat) : Bool × Int32 × St → Option ((Bool × Int32 × St) ⊕ ((Bool × St) ⊕ St)) := fun s8 => f8_settle_b21 fu s8.1 s8.2.1 s8.2.2
theorem sI_no {fu d : Nat} {c m : St} (hS : CS c) (hD : CD c) (hB : CB c) (hW : CW c) (hQ : RQ c m) (hd : d < gn c 2) (hf : 200 ≤ fu) : f8_settle_b21 fu false (nI d) m = f8_settle_j63 fu (nI d) (cand c d) m := by
  have h24 := hS.2.1
  unfold f8_settle_b21
  rw [hQ.1, if_neg (by rw [nI_leN (by omega) (by omega)]; omega), if_neg (by simp), ar_k _ (show d < 24 by omega) (by omega), (hQ.2.2.1 d hd).2.2.2.2.2.2.2.1]
  unfold cand
  cases h8 : gb c 208 d
  · rw [if_neg (by simp)]; rfl
  · rw [if_pos rfl, ob1_k (q_isBound hS hD hQ hd)]
    cases hb : bd c d
    · rw [if_neg (by simp), ob1_k (ref_m hS hD hB hW hQ hd hb (by omega))]
      by_cases h0 : REF c d = 0
      · rw [if_pos ((nI_e0 (REF_lt c d)).mpr h0)]
        simp [h0]
      · rw [if_neg (fun z => h0 ((nI_e0 (REF_lt c d)).mp z))]
        simp [h0]
    · rw [if_pos rfl]; rfl
theorem sI_end {fu i : Nat} {x : Bool} {m : St} {n : Nat} (hn : n ≤ 24) (hi : i ≤ 24) (h : gi m 803 0 = nI n) (hx : n ≤ i ∨ x = true) : f8_settle_b21 fu x (nI i) m = some (.inr (.inl (x, m))) := by
  unfold f8_settle_b21
  rw [h]
  by_cases h1 : n ≤ i
  · rw [if_pos (by rw [nI_leN (by omega) (by omega)]; exact h1)]; rfl
  · rw [if_neg (by rw [nI_leN (by omega) (by omega)]; exact h1), if_pos (hx.resolve_left h1)]; rfl
theorem q_scan0 {fu : Nat} {c m : St} (hS : CS c) (hD : CD c) (hB : CB c) (hW : CW c) (hQ : RQ c m) (hf : 200 ≤ fu) (hc : ∀ j, j < gn c 2 → cand c j = false) : sB fu (true, m) = some (.inl (false, m)) := by
  have h24 := hS.2.1
  show f8_settle_b13 fu true m = _
  unfold f8_settle_b13
  rw [if_pos rfl]
  have s1 : Rn (sI fu) (gn c 2) (false, nI 0, m) (false, nI (gn c 2), m) := Rn_to (fun i => (false, nI i, m)) (gn c 2) fun i hi => by
    show f8_settle_b21 fu false (nI i) m = _
    rw [sI_no hS hD hB hW hQ hi hf, hc i hi]
    unfold f8_settle_j63
    rw [if_neg (by simp)]
    unfold f8_settle_j73
    rw [nI_s]
  exact s1.fin (sI_end h24 (by omega) hQ.1 (Or.inl (Nat.le_refl _))) (by omega)
theorem q_scan1 {fu d : Nat} {c m m' : St} (hS : CS c) (hD : CD c) (hB : CB c) (hW : CW c) (hQ : RQ c m) (hf : 200 ≤ fu) (hd : d < gn c 2) (hc : cand c d = true) (hc0 : ∀ j, j < d → cand c j = false) (hb : f8_bindNow fu (nI d) m = some m') (hn : gi m' 803 0 = nI (gn c 2)) : sB fu (true, m) = some (.inl (true, m')) := by
  have h24 := hS.2.1
  show f8_settle_b13 fu true m = _
  unfold f8_settle_b13
  rw [if_pos rfl]
  have s1 : Rn (sI fu) d (false, nI 0, m) (false, nI d, m) := Rn_to (fun i => (false, nI i, m)) d fun i hi => by
    show f8_settle_b21 fu false (nI i) m = _
    rw [sI_no hS hD hB hW hQ (by omega) hf, hc0 i hi]
    unfold f8_settle_j63
    rw [if_neg (by simp)]
    unfold f8_settle_j73
    rw [nI_s]
  have s2 : Rn (sI fu) 1 (false, nI d, m) (true, nI (d + 1), m') := Rn.one (by
    show f8_settle_b21 fu false (nI d) m = _
    rw [sI_no hS hD hB hW hQ hd hf, hc]
    unfold f8_settle_j63
    rw [if_pos rfl, hb, ob1_k rfl]
    unfold f8_settle_j73
    rw [nI_s])
  exact (s1.app s2).fin (sI_end h24 (by omega) hn (Or.inr rfl)) (by omega)
theorem sB_end {fu : Nat} {m : St} : sB fu (false, m) = some (.inr m) := by
  show f8_settle_b13 fu false m = _
  unfold f8_settle_b13
  rw [if_neg (by simp)]
  rfl
def ub (c : St) : Nat := (List.range (gn c 2)).countP fun d => !bd c d
theorem q_rounds {fu t : Nat} (hf : 200 ≤ fu) : ∀ k e c m r f7 f8, INV e t c m → gb c 709 0 = false → ub c ≤ k → r + k ≤ 24 → k + 1 < f7 → k + 1 < f8 → e + 25 * k + 30 < 2 ^ 31 →
    ∃ e' c' m', lp (bB fu) f7 (nI r, c) = some c' ∧ lp (sB fu) f8 (true, m) = some m' ∧ INV e' t c' m' ∧ SETn c' ∧ e ≤ e' ∧ e' ≤ e + 25 * k ∧ FR BF7 c c' ∧ FR BF8 m m' ∧ (∀ j, bd c j = true → bd c' j = true) ∧ (∀ d, d < gn c 2 → cand c d = true → (∀ j, j < d → cand c j = false) → bd c' d = true) ∧ (∀ j, gb m 822 j = false → gb m' 822 j = false) ∧ ∀ j, bd c' j = true → bd c j = true ∨ gb c 209 j = false := by
  intro k
  induction k with
  | zero =>
    intro e c m r f7 f8 h hs hu hr h7 h8 he
    obtain ⟨hS, hD, hB, hW, hT, hQ, hO⟩ := h.1
    have hall : ∀ j, j < gn c 2 → cand c j = false := by
      intro j hj
      have h1 : (List.range (gn c 2)).countP (fun d => !bd c d) = 0 := by unfold ub at hu; omega
      rw [List.countP_eq_zero] at h1
      have := h1 j (List.mem_range.mpr hj)
      unfold cand
      cases hb : bd c j
      · rw [hb] at this; simp at this
      · simp
    obtain ⟨a, rfl⟩ : ∃ a, f7 = a + 1 := ⟨f7 - 1, by omega⟩
    obtain ⟨b, rfl⟩ : ∃ b, f8 = b + 2 := ⟨f8 - 2, by omega⟩
    refine ⟨e, c, m, ?_, ?_, h, fun d hd h1 h2 h3 => ?_, Nat.le_refl _, by omega, FR.rf, FR.rf, fun _ h => h, fun d hd hc _ => absurd (hall d hd ▸ hc) (by simp), fun _ h => h, fun _ h => Or.inl h⟩
    · refine lp_e ?_
      show f7_bindWhatCanBe_b2 fu (nI r) c = _
      unfold f7_bindWhatCanBe_b2
      by_cases h24 : 24 ≤ r
      · rw [if_pos (by rw [show (24 : Int32) = nI 24 from rfl, nI_leN (by omega) (by omega)]; exact h24)]; rfl
      · rw [if_neg (by rw [show (24 : Int32) = nI 24 from rfl, nI_leN (by omega) (by omega)]; exact h24), if_neg (by rw [hs]; simp)]
        rcases q_low (fu := fu) hS hD hB hW hf with ⟨d, hd, hc, -, -⟩ | ⟨-, h1⟩
        · rw [hall d hd] at hc; cases hc
        · rw [h1, ob1_k rfl, if_pos rfl]; rfl
    · rw [lp_s (q_scan0 hS hD hB hW hQ hf hall), lp_e sB_end]
    · have := hall d hd
      unfold cand at this
      rw [h1, h2] at this
      simp [h3] at this
  | succ k ih =>
    intro e c m r f7 f8 h hs hu hr h7 h8 he
    obtain ⟨hS, hD, hB, hW, hT, hQ, hO⟩ := h.1
    obtain ⟨a, rfl⟩ : ∃ a, f7 = a + 1 := ⟨f7 - 1, by omega⟩
    obtain ⟨b, rfl⟩ : ∃ b, f8 = b + 2 := ⟨f8 - 2, by omega⟩
    have hcl : ∀ o, f7_lowestNotRefused fu c = some o → bB fu (nI r, c) = if o = none then some (.inr c) else ob1 (f7_attach fu o c) fun σ8 => some (.inl (nI (r + 1), σ8)) := by
      intro o ho
      show f7_bindWhatCanBe_b2 fu (nI r) c = _
      unfold f7_bindWhatCanBe_b2
      rw [if_neg (by rw [show (24 : Int32) = nI 24 from rfl, nI_leN (by omega) (by omega)]; omega), if_neg (by rw [hs]; simp), ho, ob1_k rfl, nI_s]
      rfl
    rcases q_low (fu := fu) hS hD hB hW hf with ⟨d, hd, hc, hc0, h1⟩ | ⟨hall, h1⟩
    · have hc' := hc
      unfold cand at hc'
      rw [Bool.and_eq_true, Bool.and_eq_true, decide_eq_true_eq, Bool.not_eq_true'] at hc'
      obtain ⟨e1, c1, m1, a1, a2, a3, a4, a5, a6, a7, a8, a9⟩ := q_attach h hd hc'.1 hc'.2.1 hc'.2.2 (by omega) hf
      have n2 := a6.n (k := 2) (by decide)
      have hub : ub c1 + 1 = ub c := by
        unfold ub
        rw [n2]
        refine countP_pt (gn c 2) hd (by simp [hc'.2.1]) (by simp [a8]) (fun j hj hne => by rw [a8, if_neg hne])
      obtain ⟨e2, c2, m2, b1, b2, b3, b4, b5, b6, b7, b8, b9, b10, b11, b12⟩ := ih e1 c1 m1 (r + 1) a (b + 1) a3 (by rw [a6.b (by decide)]; exact hs) (by omega) (by omega) (by omega) (by omega) (by omega)
      have hmono : ∀ j, bd c j = true → bd c1 j = true := fun j hj => by rw [a8, hj]; simp
      refine ⟨e2, c2, m2, ?_, ?_, b3, b4, by omega, by omega, a6.tr b7, a7.tr b8, fun j hj => b9 j (hmono j hj), fun d' hd' hc2 hc3 => ?_, fun j hj => b11 j (a9 j hj), fun j hj => ?_⟩
      · have s1 := hcl _ h1
        rw [if_neg (by simp), a1, ob1_k rfl] at s1
        rw [lp_s s1]
        exact b1
      · rw [lp_s (q_scan1 hS hD hB hW hQ hf hd hc hc0 a2 (by rw [a7.i (by decide)]; exact hQ.1))]
        exact b2
      · have : d' = d := by
          rcases Nat.lt_trichotomy d' d with h | h | h
          · rw [hc0 d' h] at hc2; cases hc2
          · exact h
          · rw [hc3 d h] at hc; cases hc
        subst this
        exact b9 d' (by rw [a8]; simp)
      · rw [← a6.b (f := 209) (by decide)]
        rcases b12 j hj with hz | hz
        · rw [a8] at hz
          by_cases hjd : j = d
          · rw [a6.b (f := 209) (by decide), hjd]
            exact Or.inr (REF_0 hc'.2.2).2.2.2
          · rw [if_neg hjd] at hz
            exact Or.inl hz
        · exact Or.inr hz
    · refine ⟨e, c, m, ?_, ?_, h, fun d hd x1 x2 x3 => ?_, Nat.le_refl _, by omega, FR.rf, FR.rf, fun _ h => h, fun d hd hc _ => absurd (hall d hd ▸ hc) (by simp), fun _ h => h, fun _ h => Or.inl h⟩
      · have s1 := hcl _ h1
        rw [if_pos rfl] at s1
        exact lp_e s1
      · rw [lp_s (q_scan0 hS hD hB hW hQ hf hall), lp_e sB_end]
      · have := hall d hd
        unfold cand at this
        rw [x1, x2] at this
        simp [x3] at this
/-- behind a call all is bound that can be: class and reference alike -/
theorem q_bind2 {fu e t : Nat} {c m : St} (h : INV e t c m) (he : e + 700 < 2 ^ 31) (hf : 200 ≤ fu) :
    ∃ e' c' m', f7_bindWhatCanBe fu c = some c' ∧ f8_settle fu m = some m' ∧ INV e' t c' m' ∧ SET c' ∧ e ≤ e' ∧ e' ≤ e + 600 ∧ FR BF7 c c' ∧ FR BF8 m m' ∧ (∀ j, bd c j = true → bd c' j = true) ∧ (gb c 709 0 = false → ∀ d, d < gn c 2 → cand c d = true → (∀ j, j < d → cand c j = false) → bd c' d = true) ∧ (∀ j, gb m 822 j = false → gb m' 822 j = false) ∧ (gb c 709 0 = true → c' = c ∧ m' = m) ∧ ∀ j, bd c' j = true → bd c j = true ∨ gb c 209 j = false := by
  have hX := h.2.2.2.2.2.1.2.2
  cases hs : gb c 709 0 with
  | true =>
    refine ⟨e, c, m, ?_, ?_, h, fun z => (by rw [hs] at z; cases z), Nat.le_refl _, by omega, FR.rf, FR.rf, fun _ h => h, fun z => (by cases z), fun _ h => h, fun _ => ⟨rfl, rfl⟩, fun _ h => Or.inl h⟩
    · unfold f7_bindWhatCanBe
      refine lp_e (b := bB fu) ?_
      show f7_bindWhatCanBe_b2 fu 0 c = _
      unfold f7_bindWhatCanBe_b2
      rw [if_neg (by decide), if_pos hs]
      rfl
    · unfold f8_settle
      rw [if_pos (hX.trans hs)]
      unfold f8_settle_j12
      obtain ⟨b, rfl⟩ : ∃ b, fu = b + 1 := ⟨fu - 1, by omega⟩
      exact lp_e (b := sB (b + 1)) sB_end
  | false =>
    have h24 := h.1.1.2.1
    have hu : ub c ≤ 24 := by
      unfold ub
      have := List.countP_le_length (p := fun d => !bd c d) (l := List.range (gn c 2))
      rw [List.length_range] at this
      omega
    obtain ⟨e', c', m', a1, a2, a3, a4, a5, a6, a7, a8, a9, a10, a11, a12⟩ := q_rounds hf 24 e c m 0 26 fu h hs hu (by omega) (by omega) (by omega) (by omega)
    refine ⟨e', c', m', a1, ?_, a3, fun _ => a4, a5, by omega, a7, a8, a9, fun _ => a10, a11, fun z => (by cases z), a12⟩
    unfold f8_settle
    rw [if_neg (by rw [hX, hs]; simp)]
    exact a2
/-- where all is settled, or the world suspended, the reference's settling is nothing -/
theorem q_set0 {fu e t : Nat} {c m : St} (h : INV e t c m) (hs : SET c) (hf : 200 ≤ fu) : f8_settle fu m = some m := by
  have hX := h.2.2.2.2.2.1.2.2
  obtain ⟨hS, hD, hB, hW, hT, hQ, hO⟩ := h.1
  obtain ⟨b, hb⟩ : ∃ b, fu = b + 2 := ⟨fu - 2, by omega⟩
  unfold f8_settle
  rw [hX]
  cases h9 : gb c 709 0 with
  | true =>
    rw [if_pos rfl]
    unfold f8_settle_j12
    conv => lhs; rw [show lp (fun s8 => f8_settle_b13 fu s8.1 s8.2) fu (false, m) = lp (sB fu) (b + 2) (false, m) by rw [hb]]
    exact lp_e sB_end
  | false =>
    rw [if_neg (by simp)]
    unfold f8_settle_j12
    conv => lhs; rw [show lp (fun s8 => f8_settle_b13 fu s8.1 s8.2) fu (true, m) = lp (sB fu) (b + 2) (true, m) by rw [hb]]
    rw [lp_s (q_scan0 hS hD hB hW hQ hf fun j hj => ?_), lp_e sB_end]
    unfold cand
    cases h8 : gb c 208 j
    · rfl
    · cases h1 : bd c j
      · have := hs h9 j hj h8 h1
        simp [this]
      · rfl
/-- the class's binding too -/
theorem q_set7 {fu e t : Nat} {c m : St} (h : INV e t c m) (hs : SET c) (hf : 200 ≤ fu) : f7_bindWhatCanBe fu c = some c := by
  obtain ⟨hS, hD, hB, hW, hT, hQ, hO⟩ := h.1
  unfold f7_bindWhatCanBe
  refine lp_e (b := bB fu) ?_
  show f7_bindWhatCanBe_b2 fu 0 c = _
  unfold f7_bindWhatCanBe_b2
  rw [if_neg (by decide)]
  cases h9 : gb c 709 0 with
  | true => rw [if_pos rfl]; rfl
  | false =>
    rw [if_neg (by simp)]
    rcases q_low (fu := fu) hS hD hB hW hf with ⟨d, hd, hc, -, -⟩ | ⟨-, h1⟩
    · unfold cand at hc
      rw [Bool.and_eq_true, Bool.and_eq_true, decide_eq_true_eq, Bool.not_eq_true'] at hc
      exact absurd hc.2.2 (hs h9 d hd hc.1 hc.2.1)
    · rw [h1, ob1_k rfl, if_pos rfl]; rfl
