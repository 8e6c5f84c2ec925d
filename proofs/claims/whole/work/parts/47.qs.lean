/-! ===== the world is suspended, and resumed ===== -/
abbrev wB7 (fu : Nat) : Int32 × Int32 × St → Option ((Int32 × Int32 × St) ⊕ (Int32 × St)) := fun s8 => f7_wakeTheSuspended_b4 fu s8.1 s8.2.1 s8.2.2
/-- who of the rest sleeps by the suspension: all that it needs is awake, or of the rest too -/
def SLP (l2 : List Nat) (c : St) : Prop := ∀ y ∈ l2, gb c 216 y = true → gb c 212 y = false ∧ ∀ f, isN3 f → ∀ k, gp c f y = some k → gb c 212 k = true ∨ (gb c 216 k = true ∧ k ∈ l2)
def XF7 : List Nat := [212, 213, 214, 216, 400, 401, 402]
theorem q_wts {fu t : Nat} {T : Type} {b8 : Int32 × St → Option ((Int32 × St) ⊕ T)} (hf : 200 ≤ fu) (hb8 : ∀ d m m' v, d < 24 → gb m 802 0 = false → f8_wake fu (nI d) m = some m' → f8_firstSlept fu m' = some v → b8 (nI d, m) = some (.inl (v, m'))) : ∀ n l1 l2 e c m cnt f7, l2.length = n → INV e t c m → gb m 802 0 = false → gl c 1 = l1 ++ l2 → (∀ y, y < gn c 2 → y ∉ l2 → gb c 216 y = false) → (∀ y, y < gn c 2 → gb m 822 y = gb c 216 y) → SLP l2 c → n < f7 → e + asl c < 2 ^ 31 →
    ∃ v e' c' m' cnt' k, k ≤ n ∧ f8_firstSlept fu m = some v ∧ lp (wB7 fu) f7 (cnt, nI l1.length, c) = some (cnt', c') ∧ Rn b8 k (v, m) (-1, m') ∧ INV e' t c' m' ∧ e ≤ e' ∧ e' + asl c' = e + asl c ∧ FR XF7 c c' ∧ FR WF8 m m' ∧ (cnt = gi m 847 0 → cnt' = gi m' 847 0) ∧ (∀ y, gb m 822 y = false → gb m' 822 y = false) ∧ ∀ y, y < gn c 2 → gb c' 216 y = false ∧ gb m' 822 y = false := by
  intro n
  induction n with
  | zero =>
    intro l1 l2 e c m cnt f7 hn h h802 hl h1 h2 h3 h7 he
    have hl2 : l2 = [] := List.length_eq_zero_iff.mp hn
    subst hl2
    rw [List.append_nil] at hl
    obtain ⟨a, rfl⟩ : ∃ a, f7 = a + 1 := ⟨f7 - 1, by omega⟩
    obtain ⟨hS, hD, hB, hW, hT, hQ, hO⟩ := h.1
    have hlen := bl_len hB
    have h24 := hS.2.1
    have hno : ∀ i, i < gn c 2 → gb m 822 i = false := fun i hi => by rw [h2 i hi, h1 i hi (by simp)]
    refine ⟨-1, e, c, m, cnt, 0, Nat.le_refl _, ?_, ?_, Rn.nil, h, Nat.le_refl _, rfl, FR.rf, FR.rf, fun z => z, fun _ z => z, fun y hy => ⟨h1 y hy (by simp), hno y hy⟩⟩
    · rw [q_firstSlept hS hB hQ hO (fun i hi hz => by rw [hno i hi] at hz; cases hz) (by omega) hf, bst_none hno]; rfl
    · refine lp_e ?_
      show f7_wakeTheSuspended_b4 fu cnt (nI l1.length) c = _
      unfold f7_wakeTheSuspended_b4
      rw [hl] at hlen
      rw [hl, if_pos (by rw [nI_leN (by omega) (by omega)]; omega)]
      rfl
  | succ n ih =>
    intro l1 l2 e c m cnt f7 hn h h802 hl h1 h2 h3 h7 he
    obtain ⟨a, rfl⟩ : ∃ a, f7 = a + 1 := ⟨f7 - 1, by omega⟩
    cases l2 with
    | nil => cases hn
    | cons d l2 =>
    have hn1 : l2.length = n := by simp at hn; exact hn
    obtain ⟨hS, hD, hB, hW, hT, hQ, hO⟩ := h.1
    have hlen := bl_len hB
    have h24 := hS.2.1
    have hasl := asl_le h24
    have hll : l1.length < (gl c 1).length := by rw [hl]; simp
    have hdm : d ∈ gl c 1 := by rw [hl]; simp
    have hd := ((hB.2.1 d).mp hdm).1
    have hbd : bd c d = true := bd_ne.mpr ((hB.2.1 d).mp hdm).2
    have hgn : (gl c 1)[l1.length]? = some d := by
      rw [hl, List.getElem?_append_right (Nat.le_refl _), Nat.sub_self]
      rfl
    have hnd : (l1 ++ d :: l2).Nodup := hl ▸ hB.1
    have hdk : d ∉ l1 := fun hm => (List.nodup_append.mp hnd).2.2 d hm d (by simp) rfl
    have hdk2 : d ∉ l2 := (List.nodup_cons.mp (List.nodup_append.mp hnd).2.1).1
    have hl' : gl c 1 = (l1 ++ [d]) ++ l2 := by rw [hl]; simp
    have hlen1 : (l1 ++ [d]).length = l1.length + 1 := by simp
    have hneed : ∀ f, isN3 f → ∀ k, gp c f d = some k → k ∈ l1 := fun f hf3 k hk => hB.2.2 l1 d l2 hl f hf3 k hk
    have hnl : ∀ k, k ∈ l1 → k ∉ d :: l2 := fun k hk hm => (List.nodup_append.mp hnd).2.2 k hk k hm rfl
    have hun7 : wB7 fu (cnt, nI l1.length, c) = if gb c 216 d = true then ob1 (f7_wake fu (some d) 0 (zb c 216 d false)) fun σ8 => some (.inl (cnt + 1, nI (l1.length + 1), σ8)) else some (.inl (cnt, nI (l1.length + 1), c)) := by
      show f7_wakeTheSuspended_b4 fu cnt (nI l1.length) c = _
      unfold f7_wakeTheSuspended_b4 f7_wakeTheSuspended_j48
      rw [if_neg (by rw [nI_leN (by omega) (by omega)]; omega), lg_k (σ := c) (k := 1) _ (by omega) hgn (show d < gn c 2 from hd), nI_s]
    cases h216 : gb c 216 d with
    | false =>
      rw [h216, if_neg (by simp)] at hun7
      obtain ⟨v, e', c', m', cnt', k, b0, b1, b2, b3, b4, b5, b6, b7, b8', b9, b11, b10⟩ := ih (l1 ++ [d]) l2 e c m cnt a hn1 h h802 hl' (fun y hy hy2 => by
        by_cases hyd : y = d
        · rw [hyd]; exact h216
        · exact h1 y hy (by simp [hyd, hy2])) h2 (fun y hy hz => by
        obtain ⟨x1, x2⟩ := h3 y (by simp [hy]) hz
        refine ⟨x1, fun f hf3 k hk => ?_⟩
        rcases x2 f hf3 k hk with x3 | ⟨x3, x4⟩
        · exact Or.inl x3
        · rw [List.mem_cons] at x4
          rcases x4 with rfl | x4
          · rw [h216] at x3; cases x3
          · exact Or.inr ⟨x3, x4⟩) (by omega) he
      rw [hlen1] at b2
      exact ⟨v, e', c', m', cnt', k, by omega, b1, by rw [lp_s hun7]; exact b2, b3, b4, b5, b6, b7, b8', b9, b11, b10⟩
    | true =>
      rw [h216, if_pos rfl] at hun7
      obtain ⟨hasd, hnd3⟩ := h3 d (by simp) h216
      obtain ⟨c0, hc0⟩ : ∃ c0, c0 = zb c 216 d false := ⟨_, rfl⟩
      have f0 : FR [216] c c0 := by rw [hc0]; exact FR.rf.zb (by decide)
      have hi0 : INV e t c0 m := h.fr f0 (FR.rf (F := [])) (by decide) (by simp)
      have n0 := f0.n (k := 2) (by decide)
      have hd0 : d < gn c0 2 := by rw [n0]; exact hd
      have hb0 : bd c0 d = true := by rw [bd_fr f0 (by decide)]; exact hbd
      have has0 : gb c0 212 d = false := by rw [f0.b (by decide)]; exact hasd
      have hne0 : ∀ f, isN3 f → ∀ k, gp c0 f d = some k → gb c0 212 k = true := by
        intro f hf3 k hk
        rw [isN3_p f0 (by decide) hf3] at hk
        rw [f0.b (by decide)]
        rcases hnd3 f hf3 k hk with x3 | ⟨x3, x4⟩
        · exact x3
        · exact absurd x4 (hnl k (hneed f hf3 k hk))
      have ha0 : asl c0 = asl c := asl_fr f0 (by decide)
      obtain ⟨e1, c1, m1, w1, w2, w3, w4⟩ := q_wake (fu := fu) (dp := 0) hi0.wrl hd0 hb0 (by rw [ha0]; exact he) hf (by omega)
      have hlog := hi0.2.2.2.2.2.2.1
      have hc1 := q_wake1 (fu := fu) (e := e) (D := 28) (dp := 0) hi0.1.2.1 hd0 (by omega) has0 hne0 (by omega) hlog (by omega)
      have hcc : c1 = W7 e d c0 := Option.some.inj (w1.symm.trans hc1)
      have hi1 := hi0.wk w3
      have hs1 := w3.2.2.2.2.2.2.1
      have hle1 := w3.2.2.2.2.2.2.2.1
      have haw := asl_w (e := e) hd0 has0
      have he1 : e1 = e + 1 := by rw [hcc] at hs1; omega
      have f1 : FR XF7 c c1 := (f0.mono (by decide)).tr (w3.2.1.mono (by decide))
      have g1 := w3.2.2.1
      have h212 : ∀ j, gb c1 212 j = if j = d then true else gb c 212 j := fun j => by
        rw [hcc, W7_b, f0.b (by decide)]
      have h216' : ∀ j, gb c1 216 j = if j = d then false else gb c 216 j := fun j => by
        rw [w3.2.1.b (by decide), hc0, gb_zb]
        by_cases hjd : j = d
        · simp [hjd]
        · simp [hjd]
      have h822 : ∀ j, gb m1 822 j = if j = d then false else gb m 822 j := fun j => by
        rw [w3.2.2.2.2.2.1, f0.b (by decide), h212]
        by_cases hjd : j = d
        · subst hjd
          rw [hasd]
          simp
        · rw [if_neg hjd, if_neg hjd]
          cases gb c 212 j <;> simp
      have h847 : gi m1 847 0 = gi m 847 0 + 1 := by
        rw [w3.2.2.2.2.2.2.2.2, he1, Nat.add_sub_cancel_left]
        rfl
      have hfirst : f8_firstSlept fu m = some (nI d) := by
        rw [q_firstSlept hS hB hQ hO (fun i hi hz => ?_) (by omega) hf, bst_first hO (fun i hi hz => ?_) hl hd (by rw [h2 d hd]; exact h216) (fun y hy => ?_)]
        · rfl
        · rw [h2 i hi] at hz
          refine (hB.2.1 i).mpr ⟨hi, ?_⟩
          have : i ∈ d :: l2 := Classical.byContradiction fun hn => by rw [h1 i hi hn] at hz; cases hz
          exact ((hB.2.1 i).mp (by rw [hl]; exact List.mem_append_right _ this)).2
        · have hym : y ∈ gl c 1 := by rw [hl]; exact List.mem_append_left _ hy
          rw [h2 y ((hB.2.1 y).mp hym).1, h1 y ((hB.2.1 y).mp hym).1 (hnl y hy)]
        · rw [h2 i hi] at hz
          have : i ∈ d :: l2 := Classical.byContradiction fun hn => by rw [h1 i hi hn] at hz; cases hz
          exact bd_ne.mpr ((hB.2.1 i).mp (by rw [hl]; exact List.mem_append_right _ this)).2
      obtain ⟨v, e', c', m', cnt', k, b0, b1, b2, b3, b4, b5, b6, b7, b8', b9, b11, b10⟩ := ih (l1 ++ [d]) l2 e1 c1 m1 (cnt + 1) a hn1 hi1 (by rw [g1.b (by decide)]; exact h802) (by rw [f1.l (k := 1) (by decide)]; exact hl') (fun y hy hy2 => by
        rw [f1.n (k := 2) (by decide)] at hy
        rw [h216']
        by_cases hyd : y = d
        · rw [if_pos hyd]
        · rw [if_neg hyd]
          exact h1 y hy (by simp [hyd, hy2])) (fun y hy => by
        rw [f1.n (k := 2) (by decide)] at hy
        rw [h216', h822, h2 y hy]) (fun y hy hz => by
        have hyd : y ≠ d := fun z => hdk2 (z ▸ hy)
        rw [h216', if_neg hyd] at hz
        obtain ⟨x1, x2⟩ := h3 y (by simp [hy]) hz
        rw [h212, if_neg hyd]
        refine ⟨x1, fun f hf3 k hk => ?_⟩
        rw [isN3_p f1 (by decide) hf3] at hk
        rw [h212, h216']
        by_cases hkd : k = d
        · exact Or.inl (by rw [if_pos hkd])
        · rw [if_neg hkd, if_neg hkd]
          rcases x2 f hf3 k hk with x3 | ⟨x3, x4⟩
          · exact Or.inl x3
          · rw [List.mem_cons] at x4
            exact Or.inr ⟨x3, x4.resolve_left hkd⟩) (by omega) (by omega)
      rw [hlen1] at b2
      refine ⟨nI d, e', c', m', cnt', k + 1, by omega, hfirst, ?_, ?_, b4, by omega, by omega, f1.tr b7, g1.tr b8', fun z => b9 (by rw [h847, z]), fun y hy => b11 y (by rw [h822, hy]; simp), fun y hy => b10 y (by rw [f1.n (k := 2) (by decide)]; exact hy)⟩
      · unfold f7_wake at hun7
        rw [z0, ← hc0, w1, ob1_k rfl] at hun7
        rw [lp_s hun7]
        exact b2
      · have := (Rn.one (hb8 d m m1 v (by omega) h802 w2 b1)).app b3
        rw [Nat.add_comm] at this
        exact this
