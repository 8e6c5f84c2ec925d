/-! ===== the quiet fall asleep; ticks pass ===== -/
abbrev zB7 (fu : Nat) : Int32 × St → Option ((Int32 × St) ⊕ St) := fun s8 => f7_putIdleToSleep_b10 fu s8.1 s8.2
abbrev zB8 (fu : Nat) : Int32 × Int32 × St → Option ((Int32 × Int32 × St) ⊕ St) := fun s8 => f8_tick_b158 fu s8.1 s8.2.1 s8.2.2
def ZF7 : List Nat := [212, 400, 401, 402]
def ZF8 : List Nat := [813, 816, 842, 843, 844]
theorem q_sleep {fu t : Nat} (hf : 200 ≤ fu) : ∀ n l1 l2 e c m q f7 f8, l1.length = n → INV e t c m → gl c 1 = l1 ++ l2 → (∀ y ∈ l1, hb q y = idl c y) → (∀ y ∈ l2, hb q y = false) → (∀ y ∈ l1, hb q y = true → (∀ j, j < gn c 2 → gb c 212 j = true → ∀ f, isN3 f → gp c f j ≠ some y) ∧ ∀ k, k < gn c 1 → gi c 102 k = 0 → cdv c k ≠ some y) → n < f7 → n < f8 → e + n + 1 < 2 ^ 31 →
    ∃ v e' c' m', f8_lastOf fu q m = some v ∧ lp (zB7 fu) f7 (dn n, c) = some c' ∧ lp (zB8 fu) f8 (q, v, m) = some m' ∧ INV e' t c' m' ∧ e ≤ e' ∧ e' ≤ e + n ∧ FR ZF7 c c' ∧ FR ZF8 m m' := by
  intro n
  induction n with
  | zero =>
    intro l1 l2 e c m q f7 f8 hn h hl h1 h2 h3 h7 h8 he
    have hl1 : l1 = [] := List.length_eq_zero_iff.mp hn
    subst hl1
    obtain ⟨a, rfl⟩ : ∃ a, f7 = a + 1 := ⟨f7 - 1, by omega⟩
    obtain ⟨b, rfl⟩ : ∃ b, f8 = b + 1 := ⟨f8 - 1, by omega⟩
    obtain ⟨hS, hD, hB, hW, hT, hQ, hO⟩ := h.1
    have hno : ∀ i, i < gn c 2 → inS c q i = false := by
      intro i hi
      unfold inS
      cases hbd : bd c i
      · simp
      · have : i ∈ gl c 1 := (hB.2.1 i).mpr ⟨hi, bd_ne.mp hbd⟩
        rw [hl] at this
        rw [h2 i this]
        rfl
    refine ⟨-1, e, c, m, ?_, ?_, ?_, h, Nat.le_refl _, by omega, FR.rf, FR.rf⟩
    · rw [q_lastOf hS hD hB hQ hO (by omega) hf, bst_none hno]; rfl
    · refine lp_e ?_
      show f7_putIdleToSleep_b10 fu (dn 0) c = _
      unfold f7_putIdleToSleep_b10
      rw [if_pos dn_0]
      rfl
    · refine lp_e ?_
      show f8_tick_b158 fu q (-1) m = _
      unfold f8_tick_b158
      rw [if_pos rfl]
      rfl
  | succ n ih =>
    intro l1 l2 e c m q f7 f8 hn h hl h1 h2 h3 h7 h8 he
    obtain ⟨a, rfl⟩ : ∃ a, f7 = a + 1 := ⟨f7 - 1, by omega⟩
    obtain ⟨b, rfl⟩ : ∃ b, f8 = b + 1 := ⟨f8 - 1, by omega⟩
    obtain ⟨k1, d, rfl⟩ : ∃ k1 d, l1 = k1 ++ [d] := by
      rcases List.eq_nil_or_concat l1 with h | ⟨k, d, h⟩
      · subst h; cases hn
      · exact ⟨k, d, by rw [h, List.concat_eq_append]⟩
    have hn1 : k1.length = n := by simp at hn; exact hn
    have hl' : gl c 1 = k1 ++ d :: l2 := by rw [hl]; simp
    obtain ⟨hS, hD, hB, hW, hT, hQ, hO⟩ := h.1
    have hlen := bl_len hB
    have h24 := hS.2.1
    have hll : n < (gl c 1).length := by rw [hl']; simp; omega
    have hdm : d ∈ gl c 1 := by rw [hl']; simp
    have hd := ((hB.2.1 d).mp hdm).1
    have hbd : bd c d = true := bd_ne.mpr ((hB.2.1 d).mp hdm).2
    have hgn : (gl c 1)[n]? = some d := by
      rw [hl', ← hn1, List.getElem?_append_right (Nat.le_refl _), Nat.sub_self]
      rfl
    have hqd : hb q d = idl c d := h1 d (by simp)
    have hnd : (k1 ++ d :: l2).Nodup := hl' ▸ hB.1
    have hdk : d ∉ k1 := fun hm => (List.nodup_append.mp hnd).2.2 d hm d (by simp) rfl
    have hlog7 := h.2.2.2.2.2.2.1
    have hlog8 := h.2.2.2.2.2.2.2.1
    have hstep7 : zB7 fu (dn (n + 1), c) = if idl c d = true then some (.inl (dn n, S7 e d c)) else some (.inl (dn n, c)) := by
      show f7_putIdleToSleep_b10 fu (dn (n + 1)) c = _
      unfold f7_putIdleToSleep_b10 f7_putIdleToSleep_j51
      rw [dn_s, if_neg (nI_nlt0 (by omega)), lg_k (σ := c) (k := 1) _ (by omega) hgn (show d < gn c 2 from hd), dn_p]
      unfold idl
      cases gb c 212 d
      · simp
      · rw [if_pos rfl]
        by_cases hlt : gi c 708 0 - gi c 214 d < 5
        · rw [if_pos hlt]
          simp [hlt]
        · rw [if_neg hlt, q_fall7 hD hd hlog7 (by omega), ob1_k rfl]
          simp [hlt]
    cases hx : idl c d with
    | false =>
      rw [hx, if_neg (by simp)] at hstep7
      obtain ⟨v, e', c', m', b1, b2, b3, b4, b5, b6, b7, b8⟩ := ih k1 (d :: l2) e c m q a (b + 1) hn1 h hl' (fun y hy => h1 y (by simp [hy])) (fun y hy => by
        rw [List.mem_cons] at hy
        rcases hy with rfl | hy
        · rw [hqd, hx]
        · exact h2 y hy) (fun y hy => h3 y (by simp [hy])) (by omega) (by omega) (by omega)
      exact ⟨v, e', c', m', b1, by rw [lp_s hstep7]; exact b2, b3, b4, b5, by omega, b7, b8⟩
    | true =>
      rw [hx, if_pos rfl] at hstep7
      rw [hx] at hqd
      obtain ⟨hn3, hk3⟩ := h3 d (by simp) hqd
      have f := S7_fr (e := e) (d := d) (c := c)
      have g := S8_fr (e := e) (d := d) (m := m)
      have hi1 := S_inv h hd hbd hn3 hk3
      have hg1 := f.l (k := 1) (by decide)
      have hlt32 : ∀ y, y ∈ gl c 1 → y < 32 := fun y hy => by have := ((hB.2.1 y).mp hy).1; omega
      have hrm : ∀ y, y < 32 → hb (q &&& ((1 <<< (nI d &&& 31)) ^^^ (-1))) y = (hb q y && !decide (y = d)) := fun y hy => hb_rm (by omega) hy
      obtain ⟨v, e', c', m', b1, b2, b3, b4, b5, b6, b7, b8⟩ := ih k1 (d :: l2) (e + 1) (S7 e d c) (S8 e d m) (q &&& ((1 <<< (nI d &&& 31)) ^^^ (-1))) a b hn1 hi1 (by rw [hg1]; exact hl') (fun y hy => by
        have hyd : y ≠ d := fun z => hdk (z ▸ hy)
        rw [hrm y (hlt32 y (by rw [hl']; simp [hy])), h1 y (by simp [hy])]
        unfold idl
        rw [S7_212, if_neg hyd, f.i (by decide), f.i (by decide)]
        simp [hyd]) (fun y hy => by
        rw [hrm y (hlt32 y (by rw [hl']; simp [hy]))]
        rw [List.mem_cons] at hy
        rcases hy with rfl | hy
        · simp
        · rw [h2 y hy]; rfl) (fun y hy hz => by
        have hyd : y ≠ d := fun z => hdk (z ▸ hy)
        rw [hrm y (hlt32 y (by rw [hl']; simp [hy]))] at hz
        have hz2 : hb q y = true := (Bool.and_eq_true _ _ ▸ hz).1
        obtain ⟨x1, x2⟩ := h3 y (by simp [hy]) hz2
        refine ⟨fun j hj hj1 f' hf3 hk => ?_, fun k hk hk0 => ?_⟩
        · rw [f.n (k := 2) (by decide)] at hj
          rw [S7_212] at hj1
          rw [isN3_p f (by decide) hf3] at hk
          by_cases hjd : j = d
          · rw [if_pos hjd] at hj1; cases hj1
          · rw [if_neg hjd] at hj1
            exact x1 j hj hj1 f' hf3 hk
        · rw [f.n (k := 1) (by decide)] at hk
          rw [f.i (by decide)] at hk0
          have hc := x2 k hk hk0
          unfold cdv at hc ⊢
          rw [f.p (f := 100) (by decide)]
          cases h100 : gp c 100 k with
          | none => simp
          | some h => rw [h100] at hc; dsimp only at hc ⊢; rw [f.p (f := 500) (by decide)]; exact hc) (by omega) (by omega) (by omega)
      refine ⟨nI d, e', c', m', ?_, by rw [lp_s hstep7]; exact b2, ?_, b4, by omega, by omega, FR.tr f b7, FR.tr g b8⟩
      · rw [q_lastOf hS hD hB hQ hO (by omega) hf, bst_last hO (fun i hi hz => ?_) hl' hd (by unfold inS; rw [hqd, hbd]; rfl) (fun y hy => by unfold inS; rw [h2 y hy]; rfl)]
        · rfl
        · unfold inS at hz
          rw [Bool.and_eq_true] at hz
          exact (hB.2.1 i).mpr ⟨hi, bd_ne.mp hz.2⟩
      · have s8 : zB8 fu (q, nI d, m) = some (.inl (q &&& ((1 <<< (nI d &&& 31)) ^^^ (-1)), v, S8 e d m)) := by
          show f8_tick_b158 fu q (nI d) m = _
          unfold f8_tick_b158
          rw [if_neg (nI_neg1 (by omega)), q_fall8 (by omega) hlog8 (by omega), ob1_k rfl, b1, ob1_k rfl]
        rw [lp_s s8]
        exact b3
def PF7 : List Nat := [102, 212, 214, 400, 401, 402, 708]
def PF8 : List Nat := [801, 813, 816, 821, 837, 842, 843, 844]
theorem q_tick {fu e t : Nat} {c m : St} (h : INV e t c m) (ht : t + 30 < 2 ^ 31) (he : e + 30 < 2 ^ 31) (hf : 200 ≤ fu) :
    ∃ e' c2 c3 c' m', f7_finishCalls fu (zi c 708 0 (gi c 708 0 + 1)) = some c2 ∧ f7_touchTheHeld fu c2 = some c3 ∧ f7_putIdleToSleep fu c3 = some c' ∧ f8_tick fu m = some m' ∧ INV e' (t + 1) c' m' ∧ e ≤ e' ∧ e' ≤ e + 24 ∧ FR PF7 c c' ∧ FR PF8 m m' := by
  have hT7 := h.2.1.2.2.1
  have hT8 := h.2.1.2.2.2.1
  obtain ⟨c2, m2, a1, a2, a3, f2, g2⟩ := q_finish (fu := fu) h ht hf
  obtain ⟨c3, b1, f3, b3⟩ := q_touch7 (fu := fu) a3 hf
  obtain ⟨q, m3, d1, g3, d3, d4⟩ := q_touch8 (fu := fu) a3 f3 b3 hf
  obtain ⟨hS, hD, hB, hW, hT, hQ, hO⟩ := d3.1
  have hlen := bl_len hB
  have h24 := hS.2.1
  have n3 := f3.n (k := 2) (by decide)
  have h40 := hS.2.2.2.2.2.1
  have h100 := hS.2.2.2.2.2.2.2.1
  have hmm : ∀ y, y ∈ gl c3 1 → y < gn c2 2 := fun y hy => by have := ((hB.2.1 y).mp hy).1; omega
  have hheld : ∀ y, y ∈ gl c3 1 → hb q y = true → hld c2 y = false := by
    intro y hy hz
    have hy2 := hmm y hy
    rw [d4 y hy2] at hz
    cases hh : hld c2 y
    · rfl
    · have e1 := b3 y hy2
      rw [hh, if_pos rfl] at e1
      unfold idl at hz
      rw [e1, f3.i (by decide), Int32.sub_self] at hz
      simp at hz
  obtain ⟨v, e', c', m', k1, k2, k3, k4, k5, k6, k7, k8⟩ := q_sleep hf (gl c3 1).length (gl c3 1) [] e c3 m3 q fu fu rfl d3 (by simp) (fun y hy => d4 y (hmm y hy)) (fun y hy => by cases hy) (fun y hy hz => by
    have hh := hheld y hy hz
    unfold hld at hh
    rw [Bool.or_eq_false_iff] at hh
    refine ⟨fun j hj hj1 f' hf3 hk => ?_, fun k hk hk0 hcd => ?_⟩
    · have : HNb c2 y = true := HNb_iff.mpr ⟨j, by omega, by rw [← f3.b (by decide)]; exact hj1, f', hf3, by rw [← isN3_p f3 (by decide) hf3]; exact hk⟩
      rw [this] at hh
      cases hh.2
    · have : HCb c2 y = true := HCb_iff.mpr ⟨k, by rw [← f3.n (k := 1) (by decide)]; exact hk, by rw [← f3.i (f := 102) (by decide)]; exact hk0, by
        unfold cdv at hcd ⊢
        rw [f3.p (f := 100) (by decide)] at hcd
        cases h100 : gp c2 100 k with
        | none => rw [h100] at hcd; cases hcd
        | some h => rw [h100] at hcd; dsimp only at hcd ⊢; rw [← f3.p (f := 500) (by decide)]; exact hcd⟩
      rw [this] at hh
      cases hh.1) (by omega) (by omega) (by omega)
  refine ⟨e', c2, c3, c', m', ?_, b1, ?_, ?_, k4, k5, by omega, ((f2.mono (by decide)).tr (f3.mono (by decide))).tr (k7.mono (by decide)), ((g2.mono (by decide)).tr (g3.mono (by decide))).tr (k8.mono (by decide))⟩
  · rw [hT7, nI_s]; exact a1
  · exact k2
  · unfold f8_tick
    rw [hT8, nI_s]
    have n1 : gn c 1 ≤ 100 := h.1.1.2.2.2.2.2.2.2.1
    refine a2.fin ?_ (by omega)
    show f8_tick_b12 fu (nI (gn c 1)) m2 = _
    have hh834 : gi m2 834 0 = nI (gn c 1) := by rw [g2.i (by decide)]; exact h.2.2.2.1.2.2.2.1
    unfold f8_tick_b12
    rw [hh834, if_pos (by rw [nI_leN (by omega) (by omega)]; omega)]
    show oinr (lp (fun s8 : Int32 × Int32 × St => f8_tick_b68 fu s8.1 s8.2.1 s8.2.2) fu (0, nI 0, m2)) = _
    rw [d1.fin (t := m') ?_ (by omega)]
    · rfl
    · show f8_tick_b68 fu q (nI (gn c2 2)) m3 = _
      unfold f8_tick_b68
      rw [hQ.1, n3, if_pos (by rw [nI_leN (by omega) (by omega)]; omega), k1, ob1_k rfl]
      show oinr (lp (zB8 fu) fu (q, v, m3)) = _
      rw [k3]
      rfl
