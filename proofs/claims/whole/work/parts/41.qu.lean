/-! ===== unbinding: the marks, and the way down ===== -/
def nfo (F : Nat → Bool) (o : Option Nat) : Bool := match o with
  | none => false
  | some k => F k
def nF (c : St) (F : Nat → Bool) (d : Nat) : Bool := nfo F (gp c 205 d) || (nfo F (gp c 206 d) || nfo F (gp c 207 d))
theorem nfo_cg {F G : Nat → Bool} {o : Option Nat} (h : ∀ k, o = some k → F k = G k) : nfo F o = nfo G o := by
  cases o with
  | none => rfl
  | some k => exact h k rfl
theorem nF_cg {c : St} {F G : Nat → Bool} {d : Nat} (h : ∀ f, isN3 f → ∀ k, gp c f d = some k → F k = G k) : nF c F d = nF c G d := by
  unfold nF
  rw [nfo_cg (h 205 (Or.inl rfl)), nfo_cg (h 206 (Or.inr (Or.inl rfl))), nfo_cg (h 207 (Or.inr (Or.inr rfl)))]
theorem q_hln {fu d : Nat} {c : St} (hD : CD c) (hd : d < gn c 2) : f2_hasLeavingNeed fu d c = some (nF c (gb c 217) d) := by
  have hlt := fun f hf k hk => Nat.lt_trans ((hD d hd).2.2.2.2.1 f hf k hk) hd
  have h34 : f2_hasLeavingNeed_j34 fu d c = some (nfo (gb c 217) (gp c 207 d)) := by
    unfold f2_hasLeavingNeed_j34 lt
    rw [ckd hd]
    dsimp only
    cases hk : gp c 207 d with
    | none => rw [if_pos rfl]; rfl
    | some k =>
      rw [if_neg (by simp), dr_k (hlt 207 (Or.inr (Or.inr rfl)) k hk)]
      unfold nfo
      dsimp only
      cases gb c 217 k <;> rfl
  have h17 : f2_hasLeavingNeed_j17 fu d c = some (nfo (gb c 217) (gp c 206 d) || nfo (gb c 217) (gp c 207 d)) := by
    unfold f2_hasLeavingNeed_j17 lt
    rw [ckd hd]
    dsimp only
    cases hk : gp c 206 d with
    | none => rw [if_pos rfl, h34]; rfl
    | some k =>
      rw [if_neg (by simp), dr_k (hlt 206 (Or.inr (Or.inl rfl)) k hk), h34]
      unfold nfo
      dsimp only
      cases gb c 217 k <;> rfl
  unfold f2_hasLeavingNeed lt nF
  rw [ckd hd]
  dsimp only
  cases hk : gp c 205 d with
  | none => rw [if_pos rfl, h17]; rfl
  | some k =>
    rw [if_neg (by simp), dr_k (hlt 205 (Or.inl rfl) k hk), h17]
    unfold nfo
    dsimp only
    cases gb c 217 k <;> rfl
theorem q_mark7 {fu : Nat} {c : St} {F : Nat → Bool} (hS : CS c) (hD : CD c) (hB : CB c) (hF : ∀ d ∈ gl c 1, F d = (gb c 217 d || nF c F d)) :
    ∃ c1, Rn (fun s8 : Int32 × St => f7_unbindTheLeaving_b2 fu s8.1 s8.2) (gl c 1).length (nI 0, c) (nI (gl c 1).length, c1) ∧ FR [217] c c1 ∧ ∀ x, gb c1 217 x = if x ∈ gl c 1 then F x else gb c 217 x := by
  have h24 := hS.2.1
  have hlen := bl_len hB
  obtain ⟨c1, hr, r7⟩ := up1 (b := fun s8 : Int32 × St => f7_unbindTheLeaving_b2 fu s8.1 s8.2) (fun i a => (nI i, a))
    (fun i a => FR [217] c a ∧ ∀ x, gb a 217 x = if x ∈ (gl c 1).take i then F x else gb c 217 x) (gl c 1).length
    (fun i c1 hi hr => by
      obtain ⟨f1, h1⟩ := hr
      have hg : (gl c 1)[i]? = some (gl c 1)[i] := List.getElem?_eq_getElem hi
      obtain ⟨k, hk⟩ : ∃ k, k = (gl c 1)[i] := ⟨_, rfl⟩
      rw [← hk] at hg
      have hkm : k ∈ gl c 1 := List.mem_of_getElem? hg
      have hkn := ((hB.2.1 k).mp hkm).1
      have n2 := f1.n (k := 2) (by decide)
      have hsp : gl c 1 = (gl c 1).take i ++ k :: (gl c 1).drop (i + 1) := by
        rw [hk, ← List.drop_eq_getElem_cons hi, List.take_append_drop]
      have hknt : k ∉ (gl c 1).take i := by
        intro hm
        have hnd := hB.1
        rw [hsp] at hnd
        exact (List.nodup_append.mp hnd).2.2 k hm k (by simp) rfl
      have hF2 : nF c1 (gb c1 217) k = nF c F k := by
        have e1 : nF c1 (gb c1 217) k = nF c (gb c1 217) k := by
          unfold nF
          rw [f1.p (by decide), f1.p (by decide), f1.p (by decide)]
        rw [e1]
        refine nF_cg fun f hf j hj => ?_
        rw [h1 j, if_pos (hB.2.2 _ k _ hsp f hf j hj)]
      have hk1 : gb c1 217 k = gb c 217 k := by rw [h1 k, if_neg hknt]
      have c7 : f7_unbindTheLeaving_b2 fu (nI i) c1 = some (.inl (nI (i + 1), zb c1 217 k (F k))) := by
        unfold f7_unbindTheLeaving_b2
        rw [f1.l (k := 1) (by decide), if_neg (by rw [nI_leN (by omega) (by omega)]; omega), lg_k (σ := c1) (k := 1) _ (by omega) (by rw [f1.l (k := 1) (by decide)]; exact hg) (show k < gn c1 2 by omega), hk1]
        have hj : ∀ b, f7_unbindTheLeaving_j45 fu (nI i) k b c1 = some (.inl (nI (i + 1), zb c1 217 k b)) := by
          intro b
          unfold f7_unbindTheLeaving_j45
          rw [ckd (by omega), nI_s]
        cases h217 : gb c 217 k
        · rw [if_neg (by simp), ob1_k (q_hln (hD.fr f1 (by decide)) (by omega)), hF2]
          have hFk := hF k hkm
          rw [h217, Bool.false_or] at hFk
          rw [← hFk]
          cases F k
          · rw [if_neg (by simp), hj]
          · rw [if_pos rfl, hj]
        · rw [if_pos rfl, hj]
          have hFk := hF k hkm
          rw [h217, Bool.true_or] at hFk
          rw [hFk]
      refine ⟨zb c1 217 k (F k), c7, f1.zb (by decide), fun x => ?_⟩
      rw [gb_zb, h1 x]
      have htk : (gl c 1).take (i + 1) = (gl c 1).take i ++ [k] := by
        rw [List.take_succ, hg]
        rfl
      simp only [htk, List.mem_append, List.mem_singleton]
      by_cases hx : x = k
      · subst hx
        simp
      · simp [hx])
    (a := c) ⟨FR.rf, fun x => by simp⟩
  obtain ⟨f1, h1⟩ := hr
  refine ⟨c1, r7, f1, fun x => ?_⟩
  rw [h1 x, List.take_length]
theorem q_mark8 {fu : Nat} {c m : St} {s : Int32} (hS : CS c) (hD : CD c) (hQ : RQ c m) :
    ∃ s', Rn (fun s8 : Int32 × Int32 => f8_unbindAll_b4 fu s8.1 s8.2 m) (gn c 2) (s, nI 0) (s', nI (gn c 2)) ∧ ∀ d, d < gn c 2 → hb s' d = (hb s d || nF c (hb s') d) := by
  have h24 := hS.2.1
  obtain ⟨s', hr, r8⟩ := up1 (b := fun s8 : Int32 × Int32 => f8_unbindAll_b4 fu s8.1 s8.2 m) (fun i a => (a, nI i))
    (fun i a => (∀ d, d < i → hb a d = (hb s d || nF c (hb a) d)) ∧ ∀ d, i ≤ d → d < 32 → hb a d = hb s d) (gn c 2)
    (fun i a hi hr => by
      obtain ⟨h1, h2⟩ := hr
      have hq := hQ.2.2.1 i hi
      have hlt : ∀ f, isN3 f → ∀ k, gp c f i = some k → k < i := fun f hf k hk => (hD i hi).2.2.2.2.1 f hf k hk
      have hlt32 : ∀ f, isN3 f → ∀ k, gp c f i = some k → k < 32 := fun f hf k hk => by have := hlt f hf k hk; omega
      have c8 : f8_unbindAll_b4 fu a (nI i) m = some (.inl (a ||| (if nF c (hb a) i = true then 1 <<< (nI i &&& 31) else 0), nI (i + 1))) := by
        unfold f8_unbindAll_b4
        rw [hQ.1, if_neg (by rw [nI_leN (by omega) (by omega)]; omega), ar_k _ (by omega) (by omega), hq.2.2.2.2.1, ob1_k (q_has (hlt32 205 (Or.inl rfl)))]
        unfold nF
        have e1 : nhb a (gp c 205 i) = nfo (hb a) (gp c 205 i) := rfl
        have e2 : nhb a (gp c 206 i) = nfo (hb a) (gp c 206 i) := rfl
        have e3 : nhb a (gp c 207 i) = nfo (hb a) (gp c 207 i) := rfl
        rw [e1]
        cases nfo (hb a) (gp c 205 i)
        · rw [if_neg (by simp), ar_k _ (by omega) (by omega), hq.2.2.2.2.2.1, ob1_k (q_has (hlt32 206 (Or.inr (Or.inl rfl)))), e2]
          cases nfo (hb a) (gp c 206 i)
          · rw [if_neg (by simp), ar_k _ (by omega) (by omega), hq.2.2.2.2.2.2.1, ob1_k (q_has (hlt32 207 (Or.inr (Or.inr rfl)))), e3]
            cases nfo (hb a) (gp c 207 i)
            · simp [f8_unbindAll_j59, nI_s]
            · simp [f8_unbindAll_j52, f8_unbindAll_j59, nI_s]
          · simp [f8_unbindAll_j52, f8_unbindAll_j59, nI_s]
        · simp [f8_unbindAll_j52, f8_unbindAll_j59, nI_s]
      obtain ⟨a', ha'⟩ : ∃ a', a' = a ||| (if nF c (hb a) i = true then 1 <<< (nI i &&& 31) else 0) := ⟨_, rfl⟩
      have hba : ∀ x, x < 32 → hb a' x = (hb a x || (nF c (hb a) i && decide (x = i))) := by
        intro x hx
        rw [ha', hb_or]
        cases nF c (hb a) i
        · simp [hb_0]
        · simp [hb_1 (show i < 32 by omega) hx]
      have hnF : ∀ d, d ≤ i → nF c (hb a') d = nF c (hb a) d := by
        intro d hd
        refine nF_cg fun f hf k hk => ?_
        have := (hD d (by omega)).2.2.2.2.1 f hf k hk
        rw [hba k (by omega)]
        simp [show k ≠ i by omega]
      rw [← ha'] at c8
      refine ⟨a', c8, fun d hd => ?_, fun d hd hd2 => ?_⟩
      · rw [hnF d (by omega), hba d (by omega)]
        by_cases hdi : d = i
        · subst hdi
          rw [h2 d (Nat.le_refl _) (by omega)]
          simp
        · rw [h1 d (by omega)]
          simp [hdi]
      · rw [hba d hd2, h2 d (by omega) hd2]
        simp [show d ≠ i by omega])
    (a := s) ⟨fun d hd => by omega, fun d _ _ => rfl⟩
  exact ⟨s', r8, hr.1⟩
/-- the suspended world: who sleeps by it -/
def FSX (c m : St) : Prop := (∀ d, gn c 2 ≤ d → d < 24 → gb m 822 d = false) ∧ (gb c 709 0 = false → ∀ d, d < gn c 2 → gb c 216 d = false ∧ gb m 822 d = false) ∧ (gb c 709 0 = true → ∀ d, d < gn c 2 → gb c 212 d = false ∧ gb m 822 d = gb c 216 d ∧ (gb c 216 d = true → bd c d = true ∧ ∀ f, isN3 f → ∀ k, gp c f d = some k → gb c 216 k = true))
abbrev uB7 (fu : Nat) : Int32 × Int32 × St → Option ((Int32 × Int32 × St) ⊕ (Int32 × St)) := fun s8 => f7_unbindTheLeaving_b66 fu s8.1 s8.2.1 s8.2.2
abbrev uB8 (fu : Nat) (x : Int32) : Int32 × Int32 × St → Option ((Int32 × Int32 × St) ⊕ (Int32 × St)) := fun s8 => f8_unbindAll_b76 fu x s8.1 s8.2.1 s8.2.2
def dn (n : Nat) : Int32 := nI n - 1
theorem dn_0 : dn 0 < 0 := by decide
theorem dn_s (n : Nat) : dn (n + 1) = nI n := by
  unfold dn
  rw [← nI_s, Int32.add_sub_cancel]
theorem dn_p (n : Nat) : nI n + (-1) = dn n := by
  unfold dn
  rw [Int32.sub_eq_add_neg]
/-- who has a handle that is not dead is bound -/
def HB (c : St) : Prop := ∀ h d, h < gn c 5 → gp c 500 h = some d → gb c 502 h = false → bd c d = true
theorem HB.fr {F : List Nat} {c c' : St} (h : HB c) (hf : FR F c c') (hd : ∀ x ∈ [500, 502, 2005], x ∉ F) (hb : ∀ d, bd c d = true → bd c' d = true) : HB c' := by
  intro k d hk h1 h2
  rw [hf.n (k := 5) (hd 2005 (by decide))] at hk
  rw [hf.p (hd 500 (by decide))] at h1
  rw [hf.b (hd 502 (by decide))] at h2
  exact hb d (h k d hk h1 h2)
theorem q_down {fu t : Nat} {x : Int32} (hf : 200 ≤ fu) : ∀ n l1 l2 e c m cnt f7 f8, l1.length = n → INV e t c m → gl c 1 = l1 ++ l2 → (∀ y ∈ l1, gb c 217 y = hb x y) → (∀ y ∈ l2, hb x y = false) → (∀ y ∈ gl c 1, nF c (hb x) y = true → hb x y = true) → FSX c m → n < f7 → n < f8 → e + n + 1 < 2 ^ 31 →
    ∃ v e' c' m' cnt', f8_lastOf fu x m = some v ∧ lp (uB7 fu) f7 (cnt, dn n, c) = some (cnt', c') ∧ lp (uB8 fu x) f8 (cnt, v, m) = some (cnt', m') ∧ INV e' t c' m' ∧ e ≤ e' ∧ e' ≤ e + n ∧ FR DF7 c c' ∧ FR DF8 m m' ∧ (∀ y, y < gn c 2 → bd c' y = (bd c y && !hb x y)) ∧ (∀ y, gb c' 217 y = if y ∈ l1 then false else gb c 217 y) ∧ FSX c' m' ∧ (HB c → HB c') := by
  intro n
  induction n with
  | zero =>
    intro l1 l2 e c m cnt f7 f8 hn h hl h1 h2 h3 hX h7 h8 he
    have hl1 : l1 = [] := List.length_eq_zero_iff.mp hn
    subst hl1
    obtain ⟨a, rfl⟩ : ∃ a, f7 = a + 1 := ⟨f7 - 1, by omega⟩
    obtain ⟨b, rfl⟩ : ∃ b, f8 = b + 1 := ⟨f8 - 1, by omega⟩
    obtain ⟨hS, hD, hB, hW, hT, hQ, hO⟩ := h.1
    have hno : ∀ i, i < gn c 2 → inS c x i = false := by
      intro i hi
      unfold inS
      cases hbd : bd c i
      · simp
      · have : i ∈ gl c 1 := (hB.2.1 i).mpr ⟨hi, bd_ne.mp hbd⟩
        rw [hl] at this
        rw [h2 i this]
        rfl
    refine ⟨-1, e, c, m, cnt, ?_, ?_, ?_, h, Nat.le_refl _, by omega, FR.rf, FR.rf, fun y hy => ?_, fun y => by simp, hX, fun z => z⟩
    · rw [q_lastOf hS hD hB hQ hO (by omega) hf, bst_none hno]; rfl
    · refine lp_e ?_
      show f7_unbindTheLeaving_b66 fu cnt (dn 0) c = _
      unfold f7_unbindTheLeaving_b66
      rw [if_pos dn_0]
      rfl
    · refine lp_e ?_
      show f8_unbindAll_b76 fu x cnt (-1) m = _
      unfold f8_unbindAll_b76
      rw [if_pos rfl]
      rfl
    · have := hno y hy
      unfold inS at this
      cases hbd : bd c y
      · simp
      · rw [hbd, Bool.and_true] at this
        rw [this]; rfl
  | succ n ih =>
    intro l1 l2 e c m cnt f7 f8 hn h hl h1 h2 h3 hX h7 h8 he
    obtain ⟨a, rfl⟩ : ∃ a, f7 = a + 1 := ⟨f7 - 1, by omega⟩
    obtain ⟨b, rfl⟩ : ∃ b, f8 = b + 1 := ⟨f8 - 1, by omega⟩
    obtain ⟨k1, d, rfl⟩ : ∃ k1 d, l1 = k1 ++ [d] := by
      rcases List.eq_nil_or_concat l1 with h | ⟨k, d, h⟩
      · subst h; cases hn
      · exact ⟨k, d, by rw [h, List.concat_eq_append]⟩
    have hn1 : k1.length = n := by simp at hn; exact hn
    have hl' : gl c 1 = k1 ++ d :: l2 := by rw [hl]; simp
    obtain ⟨hS, hD, hB, hW, hT, hQ, hO⟩ := h.1
    have hlen := bl_len hB
    have h24 := hS.2.1
    have hll : n < (gl c 1).length := by rw [hl']; simp; omega
    have hdm : d ∈ gl c 1 := by rw [hl']; simp
    have hd := ((hB.2.1 d).mp hdm).1
    have hbd : bd c d = true := bd_ne.mpr ((hB.2.1 d).mp hdm).2
    have hgn : (gl c 1)[n]? = some d := by
      rw [hl', ← hn1, List.getElem?_append_right (Nat.le_refl _), Nat.sub_self]
      rfl
    have h217 : gb c 217 d = hb x d := h1 d (by simp)
    have hnd : (k1 ++ d :: l2).Nodup := hl' ▸ hB.1
    have hdk : d ∉ k1 := fun hm => (List.nodup_append.mp hnd).2.2 d hm d (by simp) rfl
    have hstep7 : uB7 fu (cnt, dn (n + 1), c) = if hb x d = true then ob1 (f7_detach fu (some d) (lrem c 1 n)) fun σ14 => some (.inl (cnt + 1, dn n, σ14)) else some (.inl (cnt, dn n, c)) := by
      show f7_unbindTheLeaving_b66 fu cnt (dn (n + 1)) c = _
      unfold f7_unbindTheLeaving_b66
      rw [dn_s, if_neg (nI_nlt0 (by omega)), lg_k (σ := c) (k := 1) _ (by omega) hgn (show d < gn c 2 from hd), h217]
      cases hb x d
      · rw [if_neg (by simp)]
        simp [f7_unbindTheLeaving_j106, dn_p]
      · rw [if_pos rfl, ckb (okl_of fun y hy => ((hB.2.1 y).mp hy).1), lg_k (σ := c) (k := 1) _ (by omega) hgn (show d < gn c 2 from hd), nI_clamp (by omega), if_pos rfl]
        unfold f7_unbindTheLeaving_j106
        rw [dn_p]
    cases hx : hb x d with
    | false =>
      rw [hx, if_neg (by simp)] at hstep7
      obtain ⟨v, e', c', m', cnt', b1, b2, b3, b4, b5, b6, b7, b8, b9, b10, b11, b12⟩ := ih k1 (d :: l2) e c m cnt a (b + 1) hn1 h hl' (fun y hy => h1 y (by simp [hy])) (fun y hy => by
        rw [List.mem_cons] at hy
        rcases hy with rfl | hy
        · exact hx
        · exact h2 y hy) h3 hX (by omega) (by omega) (by omega)
      refine ⟨v, e', c', m', cnt', b1, by rw [lp_s hstep7]; exact b2, b3, b4, b5, by omega, b7, b8, b9, fun y => ?_, b11, b12⟩
      rw [b10 y]
      simp only [List.mem_append, List.mem_singleton]
      by_cases hyd : y = d
      · subst hyd
        simp [hdk, h217, hx]
      · simp [hyd]
    | true =>
      rw [hx, if_pos rfl] at hstep7
      have hno : ∀ y ∈ l2, ∀ f, isN3 f → gp c f y ≠ some d := by
        intro y hy f hf hk
        have hz := h3 y (by rw [hl']; simp [hy]) (by
          unfold nF
          rcases hf with rfl | rfl | rfl <;> rw [hk] <;> simp [nfo, hx])
        rw [h2 y hy] at hz
        cases hz
      obtain ⟨c1, m1, a1, a2, a3, a4, a5, a6, a7, a8, a9, a10, a11, a12⟩ := q_detach h hl' hno (by omega) hf
      rw [hn1] at a1
      rw [a1, ob1_k rfl] at hstep7
      have hX1 : FSX c1 m1 := by
        refine ⟨fun y hy hy2 => ?_, fun z y hy => ?_, fun z y hy => ?_⟩
        · rw [a5.n (k := 2) (by decide)] at hy
          rw [a10, hX.1 y hy hy2]
          simp
        · rw [a5.b (by decide)] at z
          rw [a5.n (k := 2) (by decide)] at hy
          have := hX.2.1 z y hy
          rw [a9, a10, this.1, this.2]
          simp
        · rw [a5.b (by decide)] at z
          rw [a5.n (k := 2) (by decide)] at hy
          obtain ⟨x1, x2, x3⟩ := hX.2.2 z y hy
          rw [a9, a10, a11, x1, x2, a7]
          by_cases hyd : y = d
          · simp [hyd]
          · simp only [if_neg hyd]
            refine ⟨by simp, trivial, fun x4 => ⟨(x3 x4).1, fun f hf k hk => ?_⟩⟩
            rw [isN3_p a5 (by decide) hf] at hk
            have hym : y ∈ gl c 1 := (hB.2.1 y).mpr ⟨hy, bd_ne.mp (x3 x4).1⟩
            have hkd : k ≠ d := by
              intro hz
              subst hz
              rw [hl', List.mem_append, List.mem_cons] at hym
              rcases hym with hym | hym | hym
              · obtain ⟨p1, p2, rfl⟩ := List.append_of_mem hym
                have := hB.2.2 p1 y (p2 ++ k :: l2) (by rw [hl']; simp) f hf k hk
                exact hdk (List.mem_append_left _ this)
              · exact hyd hym
              · exact hno y hym f hf hk
            rw [a9, if_neg hkd]
            exact (x3 x4).2 f hf k hk
      have hnew : ∀ y, y ∈ gl c1 1 → y ∈ gl c 1 := fun y hy => by
        rw [a4, List.mem_append] at hy
        rw [hl', List.mem_append, List.mem_cons]
        exact hy.elim Or.inl fun z => Or.inr (Or.inr z)
      obtain ⟨v, e', c', m', cnt', b1, b2, b3, b4, b5, b6, b7, b8, b9, b10, b11, b12⟩ := ih k1 l2 (e + 1) c1 m1 (cnt + 1) a b hn1 a3 a4 (fun y hy => by
          rw [a8, if_neg (fun (z : y = d) => hdk (z ▸ hy))]
          exact h1 y (by simp [hy])) h2 (fun y hy hz => h3 y (hnew y hy) (by
          unfold nF at hz ⊢
          rw [a5.p (by decide), a5.p (by decide), a5.p (by decide)] at hz
          exact hz)) hX1 (by omega) (by omega) (by omega)
      refine ⟨nI d, e', c', m', cnt', ?_, by rw [lp_s hstep7]; exact b2, ?_, b4, by omega, by omega, a5.tr b7, a6.tr b8, fun y hy => ?_, fun y => ?_, b11, fun z => b12 (fun h d' hh hk hz => ?_)⟩
      · rw [q_lastOf hS hD hB hQ hO (by omega) hf, bst_last hO (fun i hi hz => ?_) hl' hd (by unfold inS; rw [hx, hbd]; rfl) (fun y hy => by unfold inS; rw [h2 y hy]; rfl)]
        · rfl
        · unfold inS at hz
          rw [Bool.and_eq_true] at hz
          exact (hB.2.1 i).mpr ⟨hi, bd_ne.mp hz.2⟩
      · have s8 := a2 x cnt
        rw [b1, ob1_k rfl] at s8
        rw [lp_s (b := uB8 fu x) s8]
        exact b3
      · rw [b9 y (by rw [a5.n (k := 2) (by decide)]; exact hy), a7]
        by_cases hyd : y = d
        · subst hyd
          simp [hx]
        · simp [hyd]
      · rw [b10 y, a8]
        simp only [List.mem_append, List.mem_singleton]
        by_cases hyd : y = d
        · simp [hyd]
        · simp [hyd]
      · rw [a5.n (k := 5) (by decide)] at hh
        rw [a5.p (by decide)] at hk
        rw [a12 h d' hh hk, Bool.or_eq_false_iff] at hz
        rw [a7, if_neg (by simpa using hz.2)]
        exact z h d' hh hk hz.1
/-- some are unbound together, with all that need them -/
theorem q_unbind {fu e t : Nat} {c m : St} {s : Int32} (h : INV e t c m) (hX : FSX c m) (hs : ∀ d, d < gn c 2 → bd c d = true → gb c 217 d = hb s d) (hs0 : ∀ d, d < gn c 2 → bd c d = false → gb c 217 d = false) (he : e + 30 < 2 ^ 31) (hf : 200 ≤ fu) :
    ∃ e' c' m' cnt, f7_unbindTheLeaving fu c = some (cnt, c') ∧ f8_unbindAll fu s m = some (cnt, m') ∧ INV e' t c' m' ∧ FSX c' m' ∧ (∀ d, d < gn c 2 → gb c' 217 d = false) ∧ e ≤ e' ∧ e' ≤ e + 24 ∧ FR DF7 c c' ∧ FR DF8 m m' ∧ ∀ d, d < gn c 2 → ((bd c' d = true → bd c d = true) ∧ (hb s d = true → bd c' d = false)) ∧ (HB c → HB c') := by
  obtain ⟨hS, hD, hB, hW, hT, hQ, hO⟩ := h.1
  have h24 := hS.2.1
  have hlen := bl_len hB
  obtain ⟨s', r8, hcl⟩ := q_mark8 (fu := fu) (s := s) hS hD hQ
  have hmm : ∀ d, d ∈ gl c 1 → d < gn c 2 ∧ bd c d = true := fun d hd => ⟨((hB.2.1 d).mp hd).1, bd_ne.mpr ((hB.2.1 d).mp hd).2⟩
  obtain ⟨c1, r7, f1, m7⟩ := q_mark7 (fu := fu) (F := hb s') hS hD hB (fun d hd => by
    rw [hcl d (hmm d hd).1, hs d (hmm d hd).1 (hmm d hd).2])
  have hi1 : INV e t c1 m := h.fr f1 (FR.rf (F := [])) (by decide) (by simp)
  have hX1 : FSX c1 m := by
    refine ⟨fun y hy hy2 => hX.1 y (by rw [← f1.n (k := 2) (by decide)]; exact hy) hy2, fun z y hy => ?_, fun z y hy => ?_⟩
    · rw [f1.b (by decide)] at z
      rw [f1.n (k := 2) (by decide)] at hy
      rw [f1.b (by decide)]
      exact hX.2.1 z y hy
    · rw [f1.b (by decide)] at z
      rw [f1.n (k := 2) (by decide)] at hy
      rw [f1.b (by decide), f1.b (by decide), bd_fr f1 (by decide)]
      obtain ⟨x1, x2, x3⟩ := hX.2.2 z y hy
      refine ⟨x1, x2, fun x4 => ⟨(x3 x4).1, fun f hf k hk => ?_⟩⟩
      rw [isN3_p f1 (by decide) hf] at hk
      rw [f1.b (by decide)]
      exact (x3 x4).2 f hf k hk
  have hg1 := f1.l (k := 1) (by decide)
  obtain ⟨v, e', c', m', cnt, b1, b2, b3, b4, b5, b6, b7, b8, b9, b10, b11, b12⟩ := q_down (x := s') hf (gl c 1).length (gl c 1) [] e c1 m 0 fu fu rfl hi1 (by rw [hg1]; simp) (fun y hy => by rw [m7 y, if_pos hy]) (fun y hy => by cases hy) (fun y hy hz => by
    rw [hg1] at hy
    rw [hcl y (hmm y hy).1]
    have : nF c1 (hb s') y = nF c (hb s') y := by
      unfold nF
      rw [f1.p (by decide), f1.p (by decide), f1.p (by decide)]
    rw [this] at hz
    rw [hz]
    simp) hX1 (by omega) (by omega) (by omega)
  refine ⟨e', c', m', cnt, ?_, ?_, b4, b11, fun d hd => ?_, b5, by omega, (f1.mono (by decide)).tr b7, b8, fun d hd => ⟨⟨fun hz => ?_, fun hz => ?_⟩, fun z => b12 (z.fr f1 (by decide) fun d hd => by rw [bd_fr f1 (by decide)]; exact hd)⟩⟩
  · unfold f7_unbindTheLeaving
    refine r7.fin ?_ (by omega)
    show f7_unbindTheLeaving_b2 fu (nI (gl c 1).length) c1 = _
    unfold f7_unbindTheLeaving_b2
    rw [hg1, if_pos (by rw [nI_leN (by omega) (by omega)]; omega)]
    show oinr (lp (uB7 fu) fu (0, dn (gl c 1).length, c1)) = _
    rw [b2]
    rfl
  · unfold f8_unbindAll
    refine r8.fin ?_ (by omega)
    show f8_unbindAll_b4 fu s' (nI (gn c 2)) m = _
    unfold f8_unbindAll_b4
    rw [hQ.1, if_pos (by rw [nI_leN (by omega) (by omega)]; omega), b1, ob1_k rfl]
    show oinr (lp (uB8 fu s') fu (0, v, m)) = _
    rw [b3]
    rfl
  · rw [b10 d]
    by_cases hd2 : d ∈ gl c 1
    · rw [if_pos hd2]
    · rw [if_neg hd2, m7 d, if_neg hd2]
      refine hs0 d hd ?_
      cases hbd : bd c d
      · rfl
      · exact absurd ((hB.2.1 d).mpr ⟨hd, bd_ne.mp hbd⟩) hd2
  · rw [b9 d (by rw [f1.n (k := 2) (by decide)]; exact hd), bd_fr f1 (by decide)] at hz
    exact (Bool.and_eq_true _ _ ▸ hz).1
  · rw [b9 d (by rw [f1.n (k := 2) (by decide)]; exact hd), hcl d hd, hz]
    simp
