/-! ===== a tick ===== -/
theorem q_finish {fu e t : Nat} {c m : St} (h : INV e t c m) (ht : t + 30 < 2 ^ 31) (hf : 200 ≤ fu) :
    ∃ c2 m2, f7_finishCalls fu (zi c 708 0 (nI (t + 1))) = some c2 ∧ Rn (fun s8 : Int32 × St => f8_tick_b12 fu s8.1 s8.2) (gn c 1) (nI 0, zi m 801 0 (nI (t + 1))) (nI (gn c 1), m2) ∧ INV e (t + 1) c2 m2 ∧ FR [102, 708] c c2 ∧ FR [801, 837] m m2 := by
  obtain ⟨hQ, ⟨hA, hR, hT7, hT8, hT9⟩, hP, hH, hSl, hX, hL⟩ := h
  obtain ⟨-, n24, -, -, -, n40, l4, n100, -⟩ := hQ.1
  obtain ⟨hCH, hCK, hR2, hK⟩ := hH
  obtain ⟨c1, hc1⟩ : ∃ c1, c1 = zi c 708 0 (nI (t + 1)) := ⟨_, rfl⟩
  obtain ⟨m1, hm1⟩ : ∃ m1, m1 = zi m 801 0 (nI (t + 1)) := ⟨_, rfl⟩
  have f0 : FR [708] c c1 := by rw [hc1]; exact FR.rf.zi (by decide)
  have g0 : FR [801] m m1 := by rw [hm1]; exact FR.rf.zi (by decide)
  have h708 : gi c1 708 0 = nI (t + 1) := by rw [hc1]; simp [gi_zi]
  have h801 : gi m1 801 0 = nI (t + 1) := by rw [hm1]; simp [gi_zi]
  obtain ⟨c2, m2, hr, r7, r8⟩ := up2 (bC := fun s8 : Int32 × St => f7_finishCalls_b2 fu s8.1 s8.2) (bM := fun s8 : Int32 × St => f8_tick_b12 fu s8.1 s8.2) (fun i a => (nI i, a)) (fun i a => (nI i, a))
    (fun i a b => FR [102] c1 a ∧ FR [837] m1 b ∧ ∀ k, k < gn c 1 → gi b 837 k = gi a 102 k ∧ (gi a 102 k = 0 → gi c 102 k = 0 ∧ (k < i → ∃ x, gi c 101 k = nI x ∧ t + 1 < x ∧ x ≤ t + 20))) (gn c 1)
    (fun i a b hi hr => by
      obtain ⟨f1, g1, h1⟩ := hr
      obtain ⟨y1, y2⟩ := h1 i hi
      have n1 : gn a 1 = gn c 1 := by rw [f1.n (k := 1) (by decide), f0.n (k := 1) (by decide)]
      have hl4 : gl a 4 = List.range (gn c 1) := by rw [f1.l (k := 4) (by decide), f0.l (k := 4) (by decide)]; exact l4
      have c7 : f7_finishCalls_b2 fu (nI i) a = if gi a 102 i = 0 then (if nI (t + 1) < gi c 101 i then some (.inl (nI (i + 1), a)) else some (.inl (nI (i + 1), zi a 102 i 1))) else some (.inl (nI (i + 1), a)) := by
        unfold f7_finishCalls_b2
        rw [hl4, List.length_range, if_neg (by rw [nI_leN (by omega) (by omega)]; omega), lg_r (σ := a) (k := 4) _ hl4 hi (by omega) (show gn c 1 ≤ gn a 1 by omega), f1.i (f := 708) (by decide), h708, f1.i (f := 101) (by decide), f0.i (f := 101) (by decide)]
        unfold f7_finishCalls_j48
        rw [nI_s]
      have c8 : f8_tick_b12 fu (nI i) b = if gi a 102 i = 0 then (if gi c 101 i = nI (t + 1) then some (.inl (nI (i + 1), zi b 837 i 1)) else some (.inl (nI (i + 1), zi b 837 i (gi b 837 i)))) else some (.inl (nI (i + 1), zi b 837 i (gi b 837 i))) := by
        unfold f8_tick_b12 f8_tick_j51 f8_tick_j57
        rw [g1.i (f := 834) (by decide), g0.i (f := 834) (by decide), hK.1, if_neg (by rw [nI_leN (by omega) (by omega)]; omega), ar_k _ (by omega) (by omega), y1]
        by_cases h0 : gi a 102 i = 0
        · rw [if_pos h0, if_pos h0, ar_k _ (by omega) (by omega), g1.i (f := 836) (by decide), g0.i (f := 836) (by decide), (hK.2 i hi).2.1, g1.i (f := 801) (by decide), h801]
          by_cases h2 : gi c 101 i = nI (t + 1)
          · rw [if_pos h2, if_pos h2, ar_k _ (by omega) (by omega), nI_s]
          · rw [if_neg h2, if_neg h2, ar_k _ (by omega) (by omega), ar_k _ (by omega) (by omega), nI_s, y1]
        · rw [if_neg h0, if_neg h0, ar_k _ (by omega) (by omega), ar_k _ (by omega) (by omega), nI_s, y1]
      have hsame : ∀ k, k < gn c 1 → gi (zi b 837 i (gi b 837 i)) 837 k = gi b 837 k := by
        intro k _
        rw [gi_zi]
        by_cases hki : k = i
        · subst hki; simp
        · simp [hki]
      by_cases h0 : gi a 102 i = 0
      · obtain ⟨z1, -⟩ := y2 h0
        obtain ⟨h, d', hh, hd', k1, k2, k3⟩ := hCK i hi
        obtain ⟨-, x, x1, x2, x3⟩ := k3 z1
        have hlt : nI (t + 1) < gi c 101 i ↔ t + 1 < x := by rw [x1, nI_ltN (by omega) (by omega)]
        have heq : gi c 101 i = nI (t + 1) ↔ x = t + 1 := by rw [x1, nI_inj (by omega) (by omega)]
        rw [if_pos h0] at c7 c8
        by_cases h2 : t + 1 < x
        · rw [if_pos (hlt.mpr h2)] at c7
          rw [if_neg (fun z => by have := heq.mp z; omega)] at c8
          refine ⟨a, _, c7, c8, f1, g1.zi (by decide), fun k hk => ?_⟩
          rw [hsame k hk]
          refine ⟨(h1 k hk).1, fun hz => ⟨((h1 k hk).2 hz).1, fun hki => ?_⟩⟩
          by_cases hki2 : k = i
          · subst hki2
            exact ⟨x, x1, h2, x3⟩
          · exact ((h1 k hk).2 hz).2 (by omega)
        · rw [if_neg (fun z => h2 (hlt.mp z))] at c7
          rw [if_pos (heq.mpr (by omega))] at c8
          refine ⟨_, _, c7, c8, f1.zi (by decide), g1.zi (by decide), fun k hk => ?_⟩
          simp only [gi_zi]
          by_cases hki2 : k = i
          · simp [hki2]
          · simp only [hki2, and_false, if_false]
            refine ⟨(h1 k hk).1, fun hz => ⟨((h1 k hk).2 hz).1, fun hki => ((h1 k hk).2 hz).2 (by omega)⟩⟩
      · rw [if_neg h0] at c7 c8
        refine ⟨a, _, c7, c8, f1, g1.zi (by decide), fun k hk => ?_⟩
        rw [hsame k hk]
        refine ⟨(h1 k hk).1, fun hz => ⟨((h1 k hk).2 hz).1, fun hki => ?_⟩⟩
        by_cases hki2 : k = i
        · subst hki2
          exact absurd hz h0
        · exact ((h1 k hk).2 hz).2 (by omega))
    (a := c1) (b := m1) ⟨FR.rf, FR.rf, fun k hk => by
      rw [f0.i (by decide), g0.i (by decide)]
      exact ⟨(hK.2 k hk).2.2, fun hz => ⟨hz, fun z => by omega⟩⟩⟩
  obtain ⟨f1, g1, h1⟩ := hr
  have F : FR [102, 708] c c2 := (f0.mono (by decide)).tr (f1.mono (by decide))
  have G : FR [801, 837] m m2 := (g0.mono (by decide)).tr (g1.mono (by decide))
  have n1 := F.n (k := 1) (by decide)
  have n2 := F.n (k := 2) (by decide)
  refine ⟨c2, m2, ?_, by rw [← hm1]; exact r8, ⟨hQ.fr F G (by decide) (by decide) (Nat.le_refl _), ⟨hA.fr F (by decide), hR.fr F G (by decide) (by decide), ?_, ?_, fun d h1 h2 => by rw [F.n (k := 2) (by decide)] at h1; rw [G.b (by decide)]; exact hT9 d h1 h2⟩, hP.fr F G (by decide) (by decide), ⟨hCH.fr F (by decide), fun k hk => ?_, hR2.fr F G (by decide) (by decide) (Nat.le_refl _), ?_, fun k hk => ?_⟩, hSl.fr F G (by decide) (by decide), hX.fr F G (by decide) (by decide), hL.fr F G (by decide) (by decide)⟩, F, G⟩
  · rw [← hc1]
    unfold f7_finishCalls
    refine r7.fin ?_ (by omega)
    show f7_finishCalls_b2 fu (nI (gn c 1)) c2 = _
    unfold f7_finishCalls_b2
    rw [F.l (k := 4) (by decide), l4, List.length_range, if_pos (by rw [nI_leN (by omega) (by omega)]; omega)]
    rfl
  · rw [f1.i (by decide)]; exact h708
  · rw [g1.i (by decide)]; exact h801
  · rw [n1] at hk
    obtain ⟨h, d', hh, hd', k1, k2, k3⟩ := hCK k hk
    refine ⟨h, d', by rw [F.n (k := 5) (by decide)]; exact hh, by rw [n2]; exact hd', by rw [F.p (by decide)]; exact k1, by rw [F.p (by decide)]; exact k2, fun hz => ?_⟩
    obtain ⟨z1, z2⟩ := (h1 k hk).2 hz
    obtain ⟨x, x1, x2, x3⟩ := z2 hk
    rw [F.b (by decide), F.i (f := 101) (by decide)]
    exact ⟨(k3 z1).1, x, x1, x2, by omega⟩
  · rw [n1, G.i (by decide)]; exact hK.1
  · rw [n1] at hk
    rw [G.i (f := 835) (by decide), G.i (f := 836) (by decide), F.p (by decide), F.i (f := 101) (by decide), (h1 k hk).1]
    exact ⟨(hK.2 k hk).1, (hK.2 k hk).2.1, rfl⟩
def hld (c : St) (d : Nat) : Bool := HCb c d || HNb c d
/-- the held are touched: the class -/
theorem q_touch7 {fu e t : Nat} {c m : St} (h : INV e t c m) (hf : 200 ≤ fu) :
    ∃ c3, f7_touchTheHeld fu c = some c3 ∧ FR [214] c c3 ∧ ∀ d, d < gn c 2 → gi c3 214 d = if hld c d = true then gi c 708 0 else gi c 214 d := by
  obtain ⟨hQ, ⟨hA, hR, hT7, hT8, hT9⟩, hP, hH, hSl, hX, hL⟩ := h
  obtain ⟨hS, hD, hB, -⟩ := hQ
  have hS' := hS
  obtain ⟨-, n24, -, -, -, n40, l4, n100, -⟩ := hS'
  have hlen := bl_len hB
  obtain ⟨c1, ⟨f1, h1⟩, r1⟩ := up1 (b := fun s8 : Int32 × St => f7_touchTheHeld_b2 fu s8.1 s8.2) (fun i a => (nI i, a))
    (fun i a => FR [214] c a ∧ ∀ d, gi a 214 d = if (List.range i).any (hcP c d) = true then gi c 708 0 else gi c 214 d) (gn c 1)
    (fun i a hi hr => by
      obtain ⟨f1, h1⟩ := hr
      obtain ⟨h, d', hh, hd', k1, k2, -⟩ := hH.2.1 i hi
      have n1 := f1.n (k := 1) (by decide)
      have n2 := f1.n (k := 2) (by decide)
      have n5 := f1.n (k := 5) (by decide)
      have hl4 : gl a 4 = List.range (gn c 1) := by rw [f1.l (k := 4) (by decide)]; exact l4
      have c7 : f7_touchTheHeld_b2 fu (nI i) a = if gi c 102 i = 0 then some (.inl (nI (i + 1), zi a 214 d' (gi c 708 0))) else some (.inl (nI (i + 1), a)) := by
        unfold f7_touchTheHeld_b2 lt
        rw [hl4, List.length_range, if_neg (by rw [nI_leN (by omega) (by omega)]; omega), lg_r (σ := a) (k := 4) _ hl4 hi (by omega) (show gn c 1 ≤ gn a 1 by omega), f1.i (f := 102) (by decide)]
        by_cases h0 : gi c 102 i = 0
        · rw [if_pos h0, if_pos h0]
          dsimp only
          rw [f1.p (by decide), k1, dr_k (by omega), f1.p (by decide), k2, dr_k (by omega), f1.i (f := 708) (by decide)]
          unfold f7_touchTheHeld_j46
          rw [nI_s]
        · rw [if_neg h0, if_neg h0]
          unfold f7_touchTheHeld_j46
          rw [nI_s]
      have hP : ∀ d, hcP c d i = (decide (gi c 102 i = 0) && decide (d' = d)) := fun d => by
        unfold hcP
        rw [cdv_of k1 k2]
        simp
      by_cases h0 : gi c 102 i = 0
      · rw [if_pos h0] at c7
        refine ⟨_, c7, f1.zi (by decide), fun d => ?_⟩
        rw [gi_zi, h1 d, List.range_succ, List.any_append]
        by_cases hdd : d = d'
        · subst hdd
          simp [hP, h0]
        · simp [hP, h0, hdd, Ne.symm hdd]
      · rw [if_neg h0] at c7
        refine ⟨_, c7, f1, fun d => ?_⟩
        rw [h1 d, List.range_succ, List.any_append]
        simp [hP, h0])
    (a := c) ⟨FR.rf, fun d => by simp⟩
  obtain ⟨c3, ⟨f3, h3⟩, r3⟩ := up1 (b := fun s8 : Int32 × St => f7_touchTheHeld_b54 fu s8.1 s8.2) (fun i a => (nI i, a))
    (fun i a => FR [214] c a ∧ ∀ d, gi a 214 d = if ((gl c 1).take i).any (hnP c d) = true then gi c 708 0 else gi c1 214 d) (gl c 1).length
    (fun i a hi hr => by
      obtain ⟨f1, h1⟩ := hr
      have hg : (gl c 1)[i]? = some (gl c 1)[i] := List.getElem?_eq_getElem hi
      obtain ⟨k, hk⟩ : ∃ k, k = (gl c 1)[i] := ⟨_, rfl⟩
      rw [← hk] at hg
      have hkm : k ∈ gl c 1 := List.mem_of_getElem? hg
      have hkn := ((hB.2.1 k).mp hkm).1
      have n2 := f1.n (k := 2) (by decide)
      have htk : (gl c 1).take (i + 1) = (gl c 1).take i ++ [k] := by
        rw [List.take_succ, hg]
        rfl
      have hlt : ∀ f, isN3 f → ∀ x, gp c f k = some x → x < gn c 2 := fun f hf x hx => by have := (hD k hkn).2.2.2.2.1 f hf x hx; omega
      have htc : ∀ (a : St) (o : Option Nat), FR [214] c a → (∀ x, o = some x → x < gn c 2) → ∃ a', f7_touch fu o a = some a' ∧ FR [214] c a' ∧ ∀ d, gi a' 214 d = if o = some d then gi c 708 0 else gi a 214 d := by
        intro a o fa ho
        unfold f7_touch
        cases o with
        | none => exact ⟨a, by rw [if_pos rfl], fa, fun d => by simp⟩
        | some x =>
          refine ⟨zi a 214 x (gi c 708 0), ?_, fa.zi (by decide), fun d => ?_⟩
          · rw [if_neg (by simp), dr_k (by rw [fa.n (k := 2) (by decide)]; exact ho x rfl), fa.i (by decide)]
          · rw [gi_zi]
            by_cases hdx : d = x
            · simp [hdx]
            · simp [hdx, Ne.symm hdx]
      cases h212 : gb c 212 k with
      | false =>
        refine ⟨a, ?_, f1, fun d => ?_⟩
        · show f7_touchTheHeld_b54 fu (nI i) a = _
          unfold f7_touchTheHeld_b54
          rw [f1.l (k := 1) (by decide), if_neg (by rw [nI_leN (by omega) (by omega)]; omega), lg_k (σ := a) (k := 1) _ (by omega) (by rw [f1.l (k := 1) (by decide)]; exact hg) (show k < gn a 2 by omega), f1.b (by decide), h212, if_neg (by simp)]
          unfold f7_touchTheHeld_j108
          rw [nI_s]
        · rw [h1 d, htk, List.any_append]
          simp [hnP, h212]
      | true =>
        obtain ⟨a1, x1, x2, x3⟩ := htc a (gp c 205 k) f1 (hlt 205 (Or.inl rfl))
        obtain ⟨a2, y1, y2, y3⟩ := htc a1 (gp c 206 k) x2 (hlt 206 (Or.inr (Or.inl rfl)))
        obtain ⟨a3, w1, w2, w3⟩ := htc a2 (gp c 207 k) y2 (hlt 207 (Or.inr (Or.inr rfl)))
        refine ⟨a3, ?_, w2, fun d => ?_⟩
        · show f7_touchTheHeld_b54 fu (nI i) a = _
          unfold f7_touchTheHeld_b54 lt
          rw [f1.l (k := 1) (by decide), if_neg (by rw [nI_leN (by omega) (by omega)]; omega), lg_k (σ := a) (k := 1) _ (by omega) (by rw [f1.l (k := 1) (by decide)]; exact hg) (show k < gn a 2 by omega), f1.b (by decide), h212, if_pos rfl]
          dsimp only
          rw [f1.p (by decide), x1, ob1_k rfl, ckd (by rw [x2.n (k := 2) (by decide)]; exact hkn), x2.p (by decide), y1, ob1_k rfl, ckd (by rw [y2.n (k := 2) (by decide)]; exact hkn), y2.p (by decide), w1, ob1_k rfl]
          unfold f7_touchTheHeld_j108
          rw [nI_s]
        · rw [w3, y3, x3, h1 d, htk, List.any_append]
          have hP : hnP c d k = (decide (gp c 205 k = some d) || (decide (gp c 206 k = some d) || decide (gp c 207 k = some d))) := by
            unfold hnP
            rw [h212, Bool.true_and]
          rw [show [k].any (hnP c d) = hnP c d k by simp, hP]
          by_cases e5 : gp c 205 k = some d <;> by_cases e6 : gp c 206 k = some d <;> by_cases e7 : gp c 207 k = some d <;> simp [e5, e6, e7])
    (a := c1) ⟨f1, fun d => by simp⟩
  refine ⟨c3, ?_, f3, fun d hd => ?_⟩
  · unfold f7_touchTheHeld
    refine r1.fin ?_ (by omega)
    show f7_touchTheHeld_b2 fu (nI (gn c 1)) c1 = _
    unfold f7_touchTheHeld_b2
    rw [f1.l (k := 4) (by decide), l4, List.length_range, if_pos (by rw [nI_leN (by omega) (by omega)]; omega)]
    show oinr (lp (fun s8 : Int32 × St => f7_touchTheHeld_b54 fu s8.1 s8.2) fu (nI 0, c1)) = _
    rw [r3.fin (t := c3) ?_ (by omega)]
    · rfl
    · show f7_touchTheHeld_b54 fu (nI (gl c 1).length) c3 = _
      unfold f7_touchTheHeld_b54
      rw [f3.l (k := 1) (by decide), if_pos (by rw [nI_leN (by omega) (by omega)]; omega)]
      rfl
  · rw [h3 d, h1 d, List.take_length]
    have hN : (gl c 1).any (hnP c d) = HNb c d := by
      unfold HNb
      rw [Bool.eq_iff_iff, List.any_eq_true, List.any_eq_true]
      constructor
      · rintro ⟨x, hx, hz⟩
        exact ⟨x, List.mem_range.mpr ((hB.2.1 x).mp hx).1, hz⟩
      · rintro ⟨x, hx, hz⟩
        have hx' := List.mem_range.mp hx
        exact ⟨x, (hB.2.1 x).mpr ⟨hx', bd_ne.mp (hA x hx' (hnP_iff.mp hz).1).1⟩, hz⟩
    rw [hN]
    unfold hld
    show _ = if (HCb c d || HNb c d) = true then _ else _
    unfold HCb
    cases (List.range (gn c 1)).any (hcP c d) <;> cases HNb c d <;> simp
/-- who is quiet -/
def idl (c : St) (d : Nat) : Bool := gb c 212 d && !decide (gi c 708 0 - gi c 214 d < 5)
/-- the held are touched, the quiet are found: the reference -/
theorem q_touch8 {fu e t : Nat} {c m c3 : St} (h : INV e t c m) (f3 : FR [214] c c3) (h3 : ∀ d, d < gn c 2 → gi c3 214 d = if hld c d = true then gi c 708 0 else gi c 214 d) (hf : 200 ≤ fu) :
    ∃ q m3, Rn (fun s8 : Int32 × Int32 × St => f8_tick_b68 fu s8.1 s8.2.1 s8.2.2) (gn c 2) (0, nI 0, m) (q, nI (gn c 2), m3) ∧ FR [821] m m3 ∧ INV e t c3 m3 ∧ ∀ d, d < gn c 2 → hb q d = idl c3 d := by
  obtain ⟨hQ, ⟨hA, hR, hT7, hT8, hT9⟩, hP, hH, hSl, hX, hL⟩ := h
  have n24 := hQ.1.2.1
  obtain ⟨⟨q, m3⟩, ⟨g3, k1, k2, k3⟩, r8⟩ := up1 (b := fun s8 : Int32 × Int32 × St => f8_tick_b68 fu s8.1 s8.2.1 s8.2.2) (fun i a => (a.1, nI i, a.2))
    (fun i (a : Int32 × St) => FR [821] m a.2 ∧ (∀ d, d < i → gb c 212 d = true → gi a.2 821 d = gi c3 214 d) ∧ (∀ d, i ≤ d → gi a.2 821 d = gi m 821 d) ∧ ∀ d, d < 32 → hb a.1 d = (decide (d < i) && idl c3 d)) (gn c 2)
    (fun i a hi hr => by
      obtain ⟨x, b⟩ := a
      obtain ⟨g1, k1, k2, k3⟩ := hr
      dsimp only at g1 k1 k2 k3
      have hRi := hR i hi
      have h813 : gb b 813 i = gb c 212 i := by rw [g1.b (by decide)]; exact hRi.1
      have h801 : gi b 801 0 = gi c3 708 0 := by rw [g1.i (by decide), hT8, f3.i (by decide), hT7]
      have h212 : gb c3 212 i = gb c 212 i := f3.b (by decide) i
      have hj144 : ∀ y0 y1 (σ : St), f8_tick_j144 fu (nI i) y0 y1 σ = some (.inl (y0 ||| y1, nI (i + 1), σ)) := fun y0 y1 σ => by
        unfold f8_tick_j144
        rw [nI_s]
      have hbits : ∀ v : Bool, (v = idl c3 i) → ∀ d, d < 32 → hb (x ||| (if v = true then 1 <<< (nI i &&& 31) else 0)) d = (decide (d < i + 1) && idl c3 d) := by
        intro v hv d hd
        rw [hb_or, k3 d hd]
        by_cases hdi : d = i
        · subst hdi
          rw [← hv]
          cases v
          · simp [hb_0]
          · simp [hb_1 (show d < 32 by omega) hd]
        · have e1 : decide (d < i + 1) = decide (d < i) := by
            by_cases hlt : d < i
            · simp [hlt]; omega
            · simp [hlt]; omega
          rw [e1]
          cases v
          · simp [hb_0]
          · simp [hb_1 (show i < 32 by omega) hd, hdi]
      cases hon : gb c 212 i with
      | false =>
        refine ⟨(x, zi b 821 i (gi b 821 i)), ?_, g1.zi (by decide), fun d hd hd2 => ?_, fun d hd => ?_, ?_⟩
        · show f8_tick_b68 fu x (nI i) b = _
          unfold f8_tick_b68
          rw [g1.i (f := 803) (by decide), hQ.2.2.2.2.2.1.1, if_neg (by rw [nI_leN (by omega) (by omega)]; omega), ar_k _ (by omega) (by omega), h813, hon, if_neg (by simp)]
          unfold f8_tick_j105 f8_tick_j111
          rw [ar_k _ (by omega) (by omega), ar_k _ (by omega) (by omega), ar_k _ (by omega) (by omega), gb_zi, h813, hon, if_neg (by simp), hj144, Int32.or_zero]
        · show gi (zi b 821 i (gi b 821 i)) 821 d = _
          rw [gi_zi]
          by_cases hdi : d = i
          · subst hdi
            rw [hon] at hd2; cases hd2
          · rw [if_neg (by omega)]
            exact k1 d (by omega) hd2
        · show gi (zi b 821 i (gi b 821 i)) 821 d = _
          rw [gi_zi, if_neg (by omega)]
          exact k2 d (by omega)
        · have := hbits false (by unfold idl; rw [h212, hon]; rfl)
          simp only [Bool.false_eq_true, if_false, Int32.or_zero] at this
          exact this
      | true =>
        have hheld := q_isHeld (fu := fu) hQ.1 hQ.2.1 (hQ.2.2.2.2.2.1.fr (F := []) FR.rf g1 (by simp) (by decide)) (hH.fr (F := []) FR.rf g1 (by simp) (by decide) (Nat.le_refl _)) (fun j hj => by rw [g1.b (by decide)]; exact (hR j hj).1) hi hf
        have hi214 := h3 i hi
        have hv821 : gi m 821 i = gi c 214 i := hRi.2.2.2 hon
        have hn708 : gi c3 708 0 = gi c 708 0 := f3.i (by decide) 0
        obtain ⟨v, hv⟩ : ∃ v, v = gi c3 214 i := ⟨_, rfl⟩
        have hstep : f8_tick_b68 fu x (nI i) b = some (.inl (x ||| (if idl c3 i = true then 1 <<< (nI i &&& 31) else 0), nI (i + 1), zi b 821 i v)) := by
          have h111 : ∀ y, y = v → f8_tick_j111 fu x (nI i) (nI i) y b = some (.inl (x ||| (if idl c3 i = true then 1 <<< (nI i &&& 31) else 0), nI (i + 1), zi b 821 i v)) := by
            intro y hy
            subst hy
            unfold f8_tick_j111
            have z1 : gi (zi b 821 i y) 801 0 = gi c3 708 0 := by rw [gi_zi, if_neg (by omega)]; exact h801
            have z2 : gi (zi b 821 i y) 821 i = gi c3 214 i := by rw [gi_zi, if_pos ⟨rfl, rfl⟩]; exact hv
            rw [ar_k _ (by omega) (by omega), ar_k _ (by omega) (by omega), gb_zi, h813, hon, if_pos rfl, ar_k _ (by omega) (by omega), z1, z2]
            unfold idl
            rw [h212, hon, Bool.true_and]
            by_cases hlt : gi c3 708 0 - gi c3 214 i < 5
            · rw [if_pos hlt, hj144]
              simp [hlt]
            · rw [if_neg hlt, hj144]
              simp [hlt]
          unfold f8_tick_b68
          rw [g1.i (f := 803) (by decide), hQ.2.2.2.2.2.1.1, if_neg (by rw [nI_leN (by omega) (by omega)]; omega), ar_k _ (by omega) (by omega), h813, hon, if_pos rfl, hheld, ob1_k rfl]
          have hld_e : (HCb c i || HNb c i) = hld c i := rfl
          rw [hld_e]
          cases hh : hld c i
          · rw [if_neg (by simp)]
            unfold f8_tick_j105
            rw [ar_k _ (by omega) (by omega)]
            refine h111 _ ?_
            rw [k2 i (Nat.le_refl _), hv, hi214, hh, hv821]
            simp
          · rw [if_pos rfl]
            refine h111 _ ?_
            rw [h801, hv, hi214, hh, hn708]
            simp
        refine ⟨(_, zi b 821 i v), hstep, g1.zi (by decide), fun d hd hd2 => ?_, fun d hd => ?_, hbits _ rfl⟩
        · show gi (zi b 821 i v) 821 d = _
          rw [gi_zi]
          by_cases hdi : d = i
          · subst hdi
            rw [if_pos ⟨rfl, rfl⟩]
            exact hv
          · rw [if_neg (by omega)]
            exact k1 d (by omega) hd2
        · show gi (zi b 821 i v) 821 d = _
          rw [gi_zi, if_neg (by omega)]
          exact k2 d (by omega))
    (a := (0, m)) ⟨FR.rf, fun d hd => by omega, fun d _ => rfl, fun d _ => by simp [hb_0]⟩
  dsimp only at g3 k1 k2 k3
  refine ⟨q, m3, r8, g3, ⟨hQ.fr f3 g3 (by decide) (by decide) (Nat.le_refl _), ⟨hA.fr f3 (by decide), fun j hj => ?_, ?_, ?_, fun d h1 h2 => by rw [f3.n (k := 2) (by decide)] at h1; rw [g3.b (by decide)]; exact hT9 d h1 h2⟩, hP.fr f3 g3 (by decide) (by decide), hH.fr f3 g3 (by decide) (by decide) (Nat.le_refl _), hSl.fr f3 g3 (by decide) (by decide), hX.fr f3 g3 (by decide) (by decide), hL.fr f3 g3 (by decide) (by decide)⟩, fun d hd => ?_⟩
  · rw [f3.n (k := 2) (by decide)] at hj
    obtain ⟨x1, x2, x3, x4⟩ := hR j hj
    rw [g3.b (by decide), f3.b (by decide), bd_fr f3 (by decide), g3.i (f := 815) (by decide), g3.i (f := 816) (by decide), f3.i (f := 213) (by decide)]
    exact ⟨x1, x2, x3, fun hz => k1 j hj hz⟩
  · rw [f3.i (by decide)]; exact hT7
  · rw [g3.i (by decide)]; exact hT8
  · rw [k3 d (by omega)]
    simp [hd]
