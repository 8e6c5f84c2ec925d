/-! ===== who is at or below a device; those that are taken away ===== -/
def abF (c : St) (top : Nat) : Nat → Option Nat → Bool
  | 0, _ => false
  | _ + 1, none => false
  | k + 1, some i => if i = top then true else abF c top k (gp c 205 i)
def aob (c : St) (top d : Nat) : Bool := abF c top 25 (some d)
theorem abF_st {c : St} {top : Nat} (hD : CD c) : ∀ k o K K', (∀ i, o = some i → i < k ∧ i < gn c 2) → k ≤ K → k ≤ K' → abF c top (K + 1) o = abF c top (K' + 1) o := by
  intro k
  induction k with
  | zero =>
    intro o K K' ho _ _
    cases o with
    | none => rfl
    | some i => have := (ho i rfl).1; omega
  | succ k ih =>
    intro o K K' ho h1 h2
    cases o with
    | none => rfl
    | some i =>
      obtain ⟨K, rfl⟩ : ∃ j, K = j + 1 := ⟨K - 1, by omega⟩
      obtain ⟨K', rfl⟩ : ∃ j, K' = j + 1 := ⟨K' - 1, by omega⟩
      have hi := ho i rfl
      unfold abF
      rw [ih (gp c 205 i) K K' (fun j hj => by have := (hD i hi.2).2.2.2.2.1 205 (Or.inl rfl) j hj; omega) (by omega) (by omega)]
theorem aob_r {c : St} {top d : Nat} (hD : CD c) (hn : gn c 2 ≤ 24) (hd : d < gn c 2) : aob c top d = if d = top then true else match gp c 205 d with
  | none => false
  | some p => aob c top p := by
  unfold aob
  rw [show abF c top 25 (some d) = if d = top then true else abF c top 24 (gp c 205 d) from rfl]
  cases hp : gp c 205 d with
  | none => rfl
  | some p =>
    dsimp only
    have := (hD d hd).2.2.2.2.1 205 (Or.inl rfl) p hp
    rw [abF_st hD (p + 1) (some p) 23 24 (fun j hj => by cases hj; omega) (by omega) (by omega)]
theorem aob_lt {c : St} {top : Nat} (hD : CD c) (hn : gn c 2 ≤ 24) : ∀ d, d < gn c 2 → d < top → aob c top d = false := by
  intro d
  induction d using Nat.strongRecOn with
  | ind d ih =>
    intro hd ht
    rw [aob_r hD hn hd, if_neg (by omega)]
    cases hp : gp c 205 d with
    | none => rfl
    | some p =>
      have := (hD d hd).2.2.2.2.1 205 (Or.inl rfl) p hp
      exact ih p this (by omega) (by omega)
theorem aob_fr {F : List Nat} {c c' : St} (hf : FR F c c') (hd : 205 ∉ F) (top d : Nat) : aob c' top d = aob c top d := by
  have : ∀ k o, abF c' top k o = abF c top k o := by
    intro k
    induction k with
    | zero => intro o; rfl
    | succ k ih =>
      intro o
      cases o with
      | none => rfl
      | some i =>
        unfold abF
        rw [hf.p hd, ih]
  exact this 25 (some d)
theorem q_aob {fu top d : Nat} {c : St} (hD : CD c) (hn : gn c 2 ≤ 24) (hd : d < gn c 2) (ht : top < gn c 2) (hf : 200 ≤ fu) : f2_isAtOrBelow fu d (some top) c = some (aob c top d) := by
  have key : ∀ k o K f0, (∀ i, o = some i → i < k ∧ i < gn c 2) → k ≤ K → k < f0 → lp (fun s8 => f2_isAtOrBelow_b2 fu (some top) s8 c) f0 o = some (abF c top (K + 1) o) := by
    intro k
    induction k with
    | zero =>
      intro o K f0 ho _ hf0
      obtain ⟨f, rfl⟩ : ∃ f, f0 = f + 1 := ⟨f0 - 1, by omega⟩
      cases o with
      | none => exact lp_e rfl
      | some i => have := (ho i rfl).1; omega
    | succ k ih =>
      intro o K f0 ho hK hf0
      obtain ⟨f, rfl⟩ : ∃ f, f0 = f + 1 := ⟨f0 - 1, by omega⟩
      cases o with
      | none => exact lp_e rfl
      | some i =>
        obtain ⟨K, rfl⟩ : ∃ j, K = j + 1 := ⟨K - 1, by omega⟩
        have hi := ho i rfl
        have hb : f2_isAtOrBelow_b2 fu (some top) (some i) c = if i = top then some (.inr true) else some (.inl (gp c 205 i)) := by
          unfold f2_isAtOrBelow_b2 lt
          rw [if_neg (by simp), ckb (okr_of fun j hj => by cases hj; exact hi.2), ckb (okr_of fun j hj => by cases hj; exact ht), dr_k hi.2]
          by_cases h : i = top
          · rw [if_pos (by rw [h]), if_pos h]; rfl
          · rw [if_neg (fun z => h (Option.some.inj z)), if_neg h]
        unfold abF
        by_cases h : i = top
        · rw [if_pos h] at hb ⊢
          exact lp_e hb
        · rw [if_neg h] at hb ⊢
          rw [lp_s hb]
          exact ih (gp c 205 i) K f (fun j hj => by have := (hD i hi.2).2.2.2.2.1 205 (Or.inl rfl) j hj; omega) (by omega) (by omega)
  unfold f2_isAtOrBelow
  exact key 24 (some d) 24 fu (fun i hi => by cases hi; omega) (by omega) (by omega)
/-- the reference's set of those -/
theorem q_below {fu top : Nat} {c m m0 : St} (hS : CS c) (hD : CD c) (hT : CT c) (hQ : RQ c m) (ht : top < gn c 2) (hth : gb c 208 top = true) :
    ∃ s', Rn (fun s8 : Int32 × Int32 => f8_unplug_b47 fu s8.1 s8.2 m) (gn c 2 - (top + 1)) (1 <<< (nI top &&& 31), nI (top + 1)) (s', nI (gn c 2)) ∧ ∀ d, d < gn c 2 → hb s' d = (gb c 208 d && aob c top d) := by
  have h24 := hS.2.1
  have hab := fun d (hd : d < gn c 2) => aob_r (top := top) hD h24 hd
  obtain ⟨s', hr, r8⟩ := up1 (b := fun s8 : Int32 × Int32 => f8_unplug_b47 fu s8.1 s8.2 m) (fun i a => (a, nI (top + 1 + i)))
    (fun i a => (∀ d, d < top + 1 + i → hb a d = (gb c 208 d && aob c top d)) ∧ ∀ d, top + 1 + i ≤ d → d < 32 → hb a d = false) (gn c 2 - (top + 1))
    (fun i a hi hr => by
      obtain ⟨h1, h2⟩ := hr
      obtain ⟨j, hj⟩ : ∃ j, j = top + 1 + i := ⟨_, rfl⟩
      have hjn : j < gn c 2 := by omega
      have hq := hQ.2.2.1 j hjn
      have hlt : ∀ k, gp c 205 j = some k → k < j := fun k hk => (hD j hjn).2.2.2.2.1 205 (Or.inl rfl) k hk
      have c8 : f8_unplug_b47 fu a (nI j) m = some (.inl (a ||| (if (gb c 208 j && nhb a (gp c 205 j)) = true then 1 <<< (nI j &&& 31) else 0), nI (j + 1))) := by
        unfold f8_unplug_b47
        rw [hQ.1, if_neg (by rw [nI_leN (by omega) (by omega)]; omega), ar_k _ (by omega) (by omega), hq.2.2.2.2.2.2.2.1]
        cases gb c 208 j
        · simp [f8_unplug_j85, nI_s]
        · rw [if_pos rfl, ar_k _ (by omega) (by omega), hq.2.2.2.2.1, ob1_k (q_has (fun k hk => by have := hlt k hk; omega))]
          cases nhb a (gp c 205 j) <;> simp [f8_unplug_j85, nI_s]
      have hv : (gb c 208 j && nhb a (gp c 205 j)) = (gb c 208 j && aob c top j) := by
        rw [hab j hjn, if_neg (by omega)]
        cases h8 : gb c 208 j
        · rfl
        · cases hp : gp c 205 j with
          | none => rfl
          | some p =>
            have hpj := hlt p hp
            unfold nhb
            dsimp only
            rw [h1 p (by omega), hT j hjn h8 p hp]
            simp
      rw [hv] at c8
      refine ⟨_, by rw [← hj, show top + 1 + (i + 1) = j + 1 by omega]; exact c8, fun d hd => ?_, fun d hd hd2 => ?_⟩
      · rw [hb_or]
        by_cases hdj : d = j
        · subst hdj
          rw [h2 d (by omega) (by omega)]
          cases (gb c 208 d && aob c top d)
          · simp [hb_0]
          · simp [hb_1 (show d < 32 by omega) (show d < 32 by omega)]
        · rw [h1 d (by omega)]
          cases (gb c 208 j && aob c top j)
          · simp [hb_0]
          · simp [hb_1 (show j < 32 by omega) (show d < 32 by omega), hdj]
      · rw [hb_or, h2 d (by omega) hd2]
        cases (gb c 208 j && aob c top j)
        · simp [hb_0]
        · simp [hb_1 (show j < 32 by omega) hd2]
          omega)
    (a := 1 <<< (nI top &&& 31)) ⟨fun d hd => by
      rw [hb_1 (show top < 32 by omega) (by omega)]
      by_cases hdt : d = top
      · subst hdt
        rw [hab d ht, if_pos rfl, hth]
        simp
      · rw [aob_lt hD h24 d (by omega) (by omega)]
        simp [hdt], fun d hd hd2 => by
      rw [hb_1 (show top < 32 by omega) hd2]
      simp
      omega⟩
  refine ⟨s', ?_, fun d hd => hr.1 d (by omega)⟩
  rw [Nat.add_zero, show top + 1 + (gn c 2 - (top + 1)) = gn c 2 by omega] at r8
  exact r8
/-! taking away -/
def T7 (e d : Nat) (c : St) : St := nt7 e 2 (nI d) (zb (zb c 208 d false) 215 d false)
def T8 (e d : Nat) (m : St) : St := nt8 e 2 (nI d) (zb (zb m 811 d false) 817 d false)
theorem T7_fr {e d : Nat} {c : St} : FR [208, 215, 400, 401, 402] c (T7 e d c) := by
  unfold T7
  exact FR.nt7 ((FR.rf.zb (by decide)).zb (by decide)) (by decide)
theorem T8_fr {e d : Nat} {m : St} : FR [811, 817, 842, 843, 844] m (T8 e d m) := by
  unfold T8
  exact FR.nt8 ((FR.rf.zb (by decide)).zb (by decide)) (by decide)
theorem T7_208 {e d j : Nat} {c : St} : gb (T7 e d c) 208 j = if j = d then false else gb c 208 j := by
  simp [T7, nt7, gb_zi, gb_zb]
theorem T7_215 {e d j : Nat} {c : St} : gb (T7 e d c) 215 j = if j = d then false else gb c 215 j := by
  simp [T7, nt7, gb_zi, gb_zb]
theorem T8_811 {e d j : Nat} {m : St} : gb (T8 e d m) 811 j = if j = d then false else gb m 811 j := by
  simp [T8, nt8, gb_zi, gb_zb]
theorem T8_817 {e d j : Nat} {m : St} : gb (T8 e d m) 817 j = if j = d then false else gb m 817 j := by
  simp [T8, nt8, gb_zi, gb_zb]
theorem T_inv {e t d : Nat} {c m : St} (h : INV e t c m) (hd : d < gn c 2) (hu : bd c d = false) (hch : ∀ k, k < gn c 2 → gp c 205 k = some d → gb c 208 k = false) : INV (e + 1) t (T7 e d c) (T8 e d m) := by
  obtain ⟨⟨hS, hD, hB, hW, ⟨hT, hZ⟩, hQ, hO⟩, hA, hP, hH, hSl, hX, hL⟩ := h
  have f := T7_fr (e := e) (d := d) (c := c)
  have g := T8_fr (e := e) (d := d) (m := m)
  have n2 := f.n (k := 2) (by decide)
  have n3 := f.n (k := 3) (by decide)
  refine ⟨⟨hS.fr f (by decide), fun j hj => ?_, hB.fr f (by decide), hW.fr f (by decide), ⟨fun j hj => ?_, hZ.fr f g (by decide) (by decide)⟩, ?_, hO.fr f g (by decide) (by decide) (by omega)⟩, hA.fr f g (by decide) (by decide), fun j hj => ?_, hH.fr f g (by decide) (by decide) (by omega), hSl.fr f g (by decide) (by decide), hX.fr f g (by decide) (by decide), ?_⟩
  · rw [n2] at hj
    have h1 := hD j hj
    rw [n3, f.i (by decide), f.i (by decide), f.i (by decide), f.i (by decide), f.p (by decide), T7_208]
    refine ⟨h1.1, h1.2.1, h1.2.2.1, h1.2.2.2.1, fun f' hf k hk => ?_, fun q hq => ?_⟩
    · rw [isN3_p f (by decide) hf] at hk
      exact h1.2.2.2.2.1 f' hf k hk
    · have h2 := h1.2.2.2.2.2 q hq
      have hjd : j ≠ d := fun z => by
        subst z
        unfold bd at hu
        rw [hq] at hu
        cases hu
      rw [if_neg hjd]
      exact h2
  · rw [n2] at hj
    have h1 := hT j hj
    rw [T7_208, f.p (by decide)]
    intro h2 k hk
    by_cases hjd : j = d
    · rw [if_pos hjd] at h2; cases h2
    · rw [if_neg hjd] at h2
      have hkd : k ≠ d := fun z => by
        subst z
        rw [hch j hj hk] at h2
        cases h2
      rw [T7_208, if_neg hkd]
      exact h1 h2 k hk
  · obtain ⟨q1, q2, q3, q4⟩ := hQ
    refine ⟨?_, ?_, fun j hj => ?_, fun j hj => ?_⟩
    · rw [g.i (by decide), n2]; exact q1
    · rw [g.i (by decide), n3]; exact q2
    · rw [n2] at hj
      have q5 := q3 j hj
      rw [g.i (f := 805) (by decide), g.i (f := 806) (by decide), g.i (f := 807) (by decide), g.b (f := 808) (by decide), g.i (f := 804) (by decide), g.i (f := 809) (by decide), g.i (f := 810) (by decide), T8_811, g.b (f := 818) (by decide), g.i (f := 812) (by decide), g.i (f := 814) (by decide), f.p (f := 210) (by decide), f.i (f := 211) (by decide),
        f.i (f := 201) (by decide), f.i (f := 202) (by decide), f.i (f := 203) (by decide), f.b (f := 204) (by decide), f.p (f := 205) (by decide), f.p (f := 206) (by decide), f.p (f := 207) (by decide), T7_208, f.b (f := 209) (by decide)]
      refine ⟨q5.1, q5.2.1, q5.2.2.1, q5.2.2.2.1, q5.2.2.2.2.1, q5.2.2.2.2.2.1, q5.2.2.2.2.2.2.1, ?_, q5.2.2.2.2.2.2.2.2⟩
      by_cases hjd : j = d
      · rw [if_pos hjd, if_pos hjd]
      · rw [if_neg hjd, if_neg hjd]
        exact q5.2.2.2.2.2.2.2.1
    · rw [n3] at hj
      rw [g.i (f := 825) (by decide), g.i (f := 826) (by decide), g.i (f := 827) (by decide), g.b (f := 828) (by decide), g.i (f := 829) (by decide), f.i (f := 301) (by decide), f.i (f := 302) (by decide), f.i (f := 303) (by decide), f.b (f := 304) (by decide), f.i (f := 305) (by decide)]
      exact q4 j hj
  · rw [n2, T8_817, T7_215, hP j hj]
    by_cases hjd : j = d
    · simp [hjd]
    · simp [hjd]
  · unfold T7 T8
    exact RLg.nt (hL.fr (F := [208, 215]) (G := [811, 817]) ((FR.rf.zb (by decide)).zb (by decide)) ((FR.rf.zb (by decide)).zb (by decide)) (by decide) (by decide))
theorem FSX.fr {F G : List Nat} {c c' m m' : St} (h : FSX c m) (hf : FR F c c') (hg : FR G m m') (hd : ∀ x ∈ [205, 206, 207, 210, 212, 216, 709, 2002], x ∉ F) (hm : 822 ∉ G) : FSX c' m' := by
  refine ⟨fun y hy hy2 => ?_, fun z y hy => ?_, fun z y hy => ?_⟩
  · rw [hf.n (k := 2) (hd 2002 (by decide))] at hy
    rw [hg.b hm]
    exact h.1 y hy hy2
  · rw [hf.b (hd 709 (by decide))] at z
    rw [hf.n (k := 2) (hd 2002 (by decide))] at hy
    rw [hf.b (hd 216 (by decide)), hg.b hm]
    exact h.2.1 z y hy
  · rw [hf.b (hd 709 (by decide))] at z
    rw [hf.n (k := 2) (hd 2002 (by decide))] at hy
    rw [hf.b (hd 216 (by decide)), hf.b (hd 212 (by decide)), hg.b hm, bd_fr hf (hd 210 (by decide))]
    obtain ⟨x1, x2, x3⟩ := h.2.2 z y hy
    refine ⟨x1, x2, fun x4 => ⟨(x3 x4).1, fun f hf2 k hk => ?_⟩⟩
    rw [isN3_p hf (fun x hx => hd x (by revert x; decide)) hf2] at hk
    rw [hf.b (hd 216 (by decide))]
    exact (x3 x4).2 f hf2 k hk
abbrev tB7 (fu top : Nat) : Int32 × Int32 × St → Option ((Int32 × Int32 × St) ⊕ (Int32 × St)) := fun s8 => f7_takeAway_b12 fu (some top) s8.1 s8.2.1 s8.2.2
abbrev tB8 (fu : Nat) (x : Int32) : Int32 × Int32 × St → Option ((Int32 × Int32 × St) ⊕ (Int32 × St)) := fun s8 => f8_unplug_b109 fu x s8.1 s8.2.1 s8.2.2
theorem q_take {fu t top : Nat} {s : Int32} (hf : 200 ≤ fu) : ∀ i e c m cnt, i ≤ gn c 2 → top < gn c 2 → INV e t c m → FSX c m → (∀ d, d < gn c 2 → i ≤ d → gb c 208 d = true → aob c top d = false) → (∀ d, d < i → hb s d = (gb c 208 d && aob c top d)) → (∀ d, d < gn c 2 → hb s d = true → bd c d = false) → e + i < 2 ^ 31 →
    ∃ e' c' m' cnt', Rn (tB7 fu top) i (cnt, dn i, c) (cnt', dn 0, c') ∧ Rn (tB8 fu s) i (cnt, dn i, m) (cnt', dn 0, m') ∧ INV e' t c' m' ∧ FSX c' m' ∧ e ≤ e' ∧ e' ≤ e + i ∧ FR [208, 215, 400, 401, 402] c c' ∧ FR [811, 817, 842, 843, 844] m m' := by
  intro i
  induction i with
  | zero => intro e c m cnt _ _ h hX _ _ _ _; exact ⟨e, c, m, cnt, Rn.nil, Rn.nil, h, hX, Nat.le_refl _, by omega, FR.rf, FR.rf⟩
  | succ i ih =>
    intro e c m cnt hi ht h hX h1 h2 h3 he
    obtain ⟨hS, hD, hB, hW, hT, hQ, hO⟩ := h.1
    have h24 := hS.2.1
    have hin : i < gn c 2 := by omega
    have hab := aob_r (top := top) hD h24 hin
    have hlog7 := h.2.2.2.2.2.2.1
    have hlog8 := h.2.2.2.2.2.2.2.1
    have c7 : tB7 fu top (cnt, dn (i + 1), c) = if (gb c 208 i && aob c top i) = true then some (.inl (cnt + 1, dn i, T7 e i c)) else some (.inl (cnt, dn i, c)) := by
      show f7_takeAway_b12 fu (some top) cnt (dn (i + 1)) c = _
      unfold f7_takeAway_b12
      rw [dn_s, if_neg (nI_nlt0 (by omega)), lg_r (σ := c) (k := 0) _ hS.1 hin (by omega) (show gn c 2 ≤ gn c 2 from Nat.le_refl _)]
      cases h8 : gb c 208 i
      · rw [if_neg (by simp)]
        simp [f7_takeAway_j74, dn_p]
      · rw [if_pos rfl, ob1_k (q_aob hD h24 hin ht hf)]
        cases aob c top i
        · rw [if_neg (by simp)]
          simp [f7_takeAway_j74, dn_p]
        · have x2 : gi (zb (zb c 208 i false) 215 i false) 200 i = nI i := by simp [gi_zb, (hD i hin).1]
          rw [if_pos rfl, x2, q_note (e := e) (by simp [gi_zb, hlog7]) (by omega), ob1_k rfl]
          unfold f7_takeAway_j74
          rw [dn_p]
          rfl
    have c8 : tB8 fu s (cnt, dn (i + 1), m) = if (gb c 208 i && aob c top i) = true then some (.inl (cnt + 1, dn i, T8 e i m)) else some (.inl (cnt, dn i, m)) := by
      show f8_unplug_b109 fu s cnt (dn (i + 1)) m = _
      unfold f8_unplug_b109
      rw [dn_s, if_neg (nI_nlt0 (by omega)), ob1_k (q_hasN (show i < 32 by omega)), h2 i (by omega)]
      cases (gb c 208 i && aob c top i)
      · rw [if_neg (by simp)]
        simp [f8_unplug_j149, dn_p]
      · rw [if_pos rfl, ar_k _ (by omega) (by omega), ar_k _ (by omega) (by omega), q_event (e := e) (by simp [gi_zb, hlog8]) (by omega), ob1_k rfl]
        unfold f8_unplug_j149
        rw [dn_p]
        rfl
    cases hv : (gb c 208 i && aob c top i) with
    | false =>
      rw [hv, if_neg (by simp)] at c7 c8
      obtain ⟨e', c', m', cnt', a1, a2, a3, a4, a5, a6, a7, a8⟩ := ih e c m cnt (by omega) ht h hX (fun d hd hid h8 => by
        by_cases hdi : d = i
        · subst hdi
          rw [h8, Bool.true_and] at hv
          exact hv
        · exact h1 d hd (by omega) h8) (fun d hd => h2 d (by omega)) h3 (by omega)
      refine ⟨e', c', m', cnt', ?_, ?_, a3, a4, a5, by omega, a7, a8⟩
      · have := (Rn.one c7).app a1
        rw [Nat.add_comm] at this
        exact this
      · have := (Rn.one c8).app a2
        rw [Nat.add_comm] at this
        exact this
    | true =>
      rw [hv, if_pos rfl] at c7 c8
      have f := T7_fr (e := e) (d := i) (c := c)
      have g := T8_fr (e := e) (d := i) (m := m)
      have n2 := f.n (k := 2) (by decide)
      have hch : ∀ k, k < gn c 2 → gp c 205 k = some i → gb c 208 k = false := by
        intro k hk hp
        have hik := (hD k hk).2.2.2.2.1 205 (Or.inl rfl) i hp
        cases h8 : gb c 208 k
        · rfl
        · have hz := h1 k hk (by omega) h8
          rw [aob_r (top := top) hD h24 hk, hp] at hz
          dsimp only at hz
          rw [Bool.and_eq_true] at hv
          rw [hv.2] at hz
          by_cases hkt : k = top
          · rw [if_pos hkt] at hz; cases hz
          · rw [if_neg hkt] at hz; cases hz
      have hi2 := T_inv (e := e) (t := t) h hin (h3 i hin (by rw [h2 i (by omega)]; exact hv)) hch
      obtain ⟨e', c', m', cnt', a1, a2, a3, a4, a5, a6, a7, a8⟩ := ih (e + 1) (T7 e i c) (T8 e i m) (cnt + 1) (by rw [n2]; omega) (by rw [n2]; exact ht) hi2 (hX.fr f g (by decide) (by decide)) (fun d hd hid h8 => by
        rw [n2] at hd
        rw [T7_208] at h8
        rw [aob_fr f (by decide)]
        by_cases hdi : d = i
        · rw [if_pos hdi] at h8; cases h8
        · rw [if_neg hdi] at h8
          exact h1 d hd (by omega) h8) (fun d hd => by
        rw [T7_208, if_neg (by omega), aob_fr f (by decide)]
        exact h2 d (by omega)) (fun d hd hz => by
        rw [n2] at hd
        rw [bd_fr f (by decide)]
        exact h3 d hd hz) (by omega)
      refine ⟨e', c', m', cnt', ?_, ?_, a3, a4, by omega, by omega, f.tr a7, g.tr a8⟩
      · have := (Rn.one c7).app a1
        rw [Nat.add_comm] at this
        exact this
      · have := (Rn.one c8).app a2
        rw [Nat.add_comm] at this
        exact this
