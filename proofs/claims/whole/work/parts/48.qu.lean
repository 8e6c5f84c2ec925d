/-! ===== suspend ===== -/
theorem X_inv {e t : Nat} {v : Bool} {c m : St} (h : INV e t c m) : INV e t (zb c 709 0 v) (zb m 802 0 v) := by
  obtain ⟨hQ, hA, hP, hH, hSl, hX, hL⟩ := h
  have f : FR [709] c (zb c 709 0 v) := FR.rf.zb (by decide)
  have g : FR [802] m (zb m 802 0 v) := FR.rf.zb (by decide)
  refine ⟨hQ.fr f g (by decide) (by decide) (Nat.le_refl _), hA.fr f g (by decide) (by decide), hP.fr f g (by decide) (by decide), hH.fr f g (by decide) (by decide) (Nat.le_refl _), hSl.fr f g (by decide) (by decide), ⟨fun l hl => ?_, ?_, by simp [gb_zb]⟩, hL.fr f g (by decide) (by decide)⟩
  · rw [f.i (by decide), g.i (by decide)]
    exact hX.1 l hl
  · rw [f.i (by decide), g.i (by decide)]
    exact hX.2.1
theorem X_inv0 {e t : Nat} {c m : St} (h : INV e t c m) (h0 : gb c 709 0 = false) : INV e t c (zb m 802 0 false) := by
  obtain ⟨hQ, hA, hP, hH, hSl, hX, hL⟩ := h
  have f : FR [] c c := FR.rf
  have g : FR [802] m (zb m 802 0 false) := FR.rf.zb (by decide)
  refine ⟨hQ.fr f g (by simp) (by decide) (Nat.le_refl _), hA.fr f g (by simp) (by decide), hP.fr f g (by simp) (by decide), hH.fr f g (by simp) (by decide) (Nat.le_refl _), hSl.fr f g (by simp) (by decide), ⟨fun l hl => ?_, ?_, by simp [gb_zb, h0]⟩, hL.fr f g (by simp) (by decide)⟩
  · rw [g.i (by decide)]
    exact hX.1 l hl
  · rw [g.i (by decide)]
    exact hX.2.1
abbrev pB7 (fu : Nat) : Int32 × St → Option ((Int32 × St) ⊕ ((Except Nat Int32) × St)) := fun s8 => f7_suspend_b28 fu s8.1 s8.2
abbrev pB8 (fu : Nat) : Int32 × Int32 × Int32 × St → Option ((Int32 × Int32 × Int32 × St) ⊕ (Int32 × St)) := fun s8 => f8_suspend_b38 fu s8.1 s8.2.1 s8.2.2.1 s8.2.2.2
def SF7 : List Nat := [212, 213, 214, 216, 400, 401, 402, 709]
def SF8 : List Nat := [802, 813, 815, 816, 821, 822, 842, 843, 844, 845, 846, 847]
theorem q_susp {fu t : Nat} (hf : 200 ≤ fu) : ∀ n l1 l2 e c m x f7 f8, l1.length = n → INV e t c m → SETn c → gb c 709 0 = false → gl c 1 = l1 ++ l2 → (∀ y ∈ l1, hb x y = gb c 212 y) → (∀ y ∈ l2, hb x y = false ∧ gb c 212 y = false) → (∀ y, y < gn c 2 → y ∉ l2 → gb c 216 y = false) → (∀ y, y < gn c 2 → gb m 822 y = gb c 216 y) → (∀ y, gn c 2 ≤ y → y < 24 → gb m 822 y = false) → SLP l2 c → n < f7 → n + 1 < f8 → e + n + 60 < 2 ^ 31 →
    ∃ v r e' c' m', f8_lastOf fu x m = some v ∧ lp (pB7 fu) f7 (dn n, c) = some (.ok r, c') ∧ lp (pB8 fu) f8 (x, -1, v, m) = some (r, m') ∧ INV e' t c' m' ∧ FSX c' m' ∧ SET c' ∧ e ≤ e' ∧ e' ≤ e + n + 24 ∧ FR SF7 c c' ∧ FR SF8 m m' := by
  intro n
  induction n with
  | zero =>
    intro l1 l2 e c m x f7 f8 hn h hST h709 hl h1 h2 h3 h4 h4b h5 h7 h8 he
    have hl1 : l1 = [] := List.length_eq_zero_iff.mp hn
    subst hl1
    rw [List.nil_append] at hl
    obtain ⟨a, rfl⟩ : ∃ a, f7 = a + 1 := ⟨f7 - 1, by omega⟩
    obtain ⟨b, rfl⟩ : ∃ b, f8 = b + 1 := ⟨f8 - 1, by omega⟩
    obtain ⟨hS, hD, hB, hW, hT, hQ, hO⟩ := h.1
    have hno : ∀ i, i < gn c 2 → inS c x i = false := by
      intro i hi
      unfold inS
      cases hbd : bd c i
      · simp
      · have : i ∈ gl c 1 := (hB.2.1 i).mpr ⟨hi, bd_ne.mp hbd⟩
        rw [hl] at this
        rw [(h2 i this).1]
        rfl
    have f : FR [709] c (zb c 709 0 true) := FR.rf.zb (by decide)
    have g : FR [802] m (zb m 802 0 true) := FR.rf.zb (by decide)
    have hi1 := X_inv (v := true) h
    have hsl : ∀ i, i < gn c 2 → gb c 216 i = true → i ∈ gl c 1 := fun i hi hz => by
      rw [hl]
      exact Classical.byContradiction fun hn => by rw [h3 i hi hn] at hz; cases hz
    have hnaw : ∀ i, i < gn c 2 → gb c 212 i = false := fun i hi => by
      cases hz : gb c 212 i
      · rfl
      · have hb := (h.2.1.1 i hi hz).1
        have : i ∈ gl c 1 := (hB.2.1 i).mpr ⟨hi, bd_ne.mp hb⟩
        rw [hl] at this
        rw [(h2 i this).2] at hz
        cases hz
    have hset : SET (zb c 709 0 true) := fun z => by
      rw [gb_zb, if_pos ⟨rfl, rfl⟩] at z
      cases z
    refine ⟨-1, -1, e, zb c 709 0 true, zb m 802 0 true, ?_, ?_, ?_, hi1, ⟨fun y hy hy2 => by rw [g.b (by decide)]; exact h4b y (by rw [← f.n (k := 2) (by decide)]; exact hy) hy2, fun z => ?_, fun _ y hy => ?_⟩, hset, Nat.le_refl _, by omega, f.mono (by decide), g.mono (by decide)⟩
    · rw [q_lastOf hS hD hB hQ hO (by omega) hf, bst_none hno]; rfl
    · refine lp_e ?_
      show f7_suspend_b28 fu (dn 0) c = _
      unfold f7_suspend_b28
      rw [if_pos dn_0]
      rfl
    · refine lp_e ?_
      show f8_suspend_b38 fu x (-1) (-1) m = _
      unfold f8_suspend_b38 f8_suspend_j96 f8_suspend_j107
      obtain ⟨b', hb'⟩ : ∃ b', fu = b' + 1 := ⟨fu - 1, by omega⟩
      have hfs := q_firstSlept (fu := fu) hi1.1.1 hi1.1.2.2.1 hi1.1.2.2.2.2.2.1 hi1.1.2.2.2.2.2.2 (fun i hi hz => ?_) (by omega) hf
      · rw [if_pos rfl, if_pos rfl, hfs, ob1_k rfl]
        have hj : f8_suspend_j140 fu (-1) (zb m 802 0 true) = some (-1, zb m 802 0 true) := by
          unfold f8_suspend_j140
          rw [q_set0 hi1 hset hf, ob1_k rfl]
        have hbb : ∀ v, f8_suspend_b115 fu (-1) v (zb m 802 0 true) = some (.inr (-1, zb m 802 0 true)) := by
          intro v
          unfold f8_suspend_b115
          rw [hj]
          by_cases hv : v = -1
          · rw [if_pos hv]; rfl
          · rw [if_neg hv, if_pos (by simp [gb_zb])]; rfl
        rw [show lp (fun s8 : Int32 × St => f8_suspend_b115 fu (-1) s8.1 s8.2) fu (enc (bst (gb (zb m 802 0 true) 822) (kF (zb m 802 0 true)) (gn (zb c 709 0 true) 2)), zb m 802 0 true) = some (-1, zb m 802 0 true) from by
          conv => lhs; arg 2; rw [hb']
          exact lp_e (hbb _)]
        rfl
      · rw [f.n (k := 2) (by decide)] at hi
        rw [g.b (by decide), h4 i hi] at hz
        rw [bd_fr f (by decide)]
        exact bd_ne.mpr ((hB.2.1 i).mp (hsl i hi hz)).2
    · rw [gb_zb, if_pos ⟨rfl, rfl⟩] at z
      cases z
    · rw [f.n (k := 2) (by decide)] at hy
      rw [f.b (by decide), g.b (by decide), f.b (by decide), bd_fr f (by decide)]
      refine ⟨hnaw y hy, h4 y hy, fun hz => ⟨bd_ne.mpr ((hB.2.1 y).mp (hsl y hy hz)).2, fun f' hf3 k hk => ?_⟩⟩
      rw [isN3_p f (by decide) hf3] at hk
      rw [f.b (by decide)]
      have hkn := (hD y hy).2.2.2.2.1 f' hf3 k hk
      have hyl := hsl y hy hz
      rw [hl] at hyl
      rcases (h5 y hyl hz).2 f' hf3 k hk with x3 | ⟨x3, -⟩
      · rw [hnaw k (by omega)] at x3; cases x3
      · exact x3
  | succ n ih =>
    intro l1 l2 e c m x f7 f8 hn h hST h709 hl h1 h2 h3 h4 h4b h5 h7 h8 he
    obtain ⟨a, rfl⟩ : ∃ a, f7 = a + 1 := ⟨f7 - 1, by omega⟩
    obtain ⟨b, rfl⟩ : ∃ b, f8 = b + 2 := ⟨f8 - 2, by omega⟩
    obtain ⟨k1, d, rfl⟩ : ∃ k1 d, l1 = k1 ++ [d] := by
      rcases List.eq_nil_or_concat l1 with h | ⟨k, d, h⟩
      · subst h; cases hn
      · exact ⟨k, d, by rw [h, List.concat_eq_append]⟩
    have hn1 : k1.length = n := by simp at hn; exact hn
    have hl' : gl c 1 = k1 ++ d :: l2 := by rw [hl]; simp
    obtain ⟨hS, hD, hB, hW, hT, hQ, hO⟩ := h.1
    have hlen := bl_len hB
    have h24 := hS.2.1
    have hasl := asl_le h24
    have hll : n < (gl c 1).length := by rw [hl']; simp; omega
    have hdm : d ∈ gl c 1 := by rw [hl']; simp
    have hd := ((hB.2.1 d).mp hdm).1
    have hbd : bd c d = true := bd_ne.mpr ((hB.2.1 d).mp hdm).2
    have hgn : (gl c 1)[n]? = some d := by
      rw [hl', ← hn1, List.getElem?_append_right (Nat.le_refl _), Nat.sub_self]
      rfl
    have hxd : hb x d = gb c 212 d := h1 d (by simp)
    have hnd : (k1 ++ d :: l2).Nodup := hl' ▸ hB.1
    have hdk : d ∉ k1 := fun hm => (List.nodup_append.mp hnd).2.2 d hm d (by simp) rfl
    have hdk2 : d ∉ l2 := (List.nodup_cons.mp (List.nodup_append.mp hnd).2.1).1
    have hlog7 := h.2.2.2.2.2.2.1
    have hlog8 := h.2.2.2.2.2.2.2.1
    have hi0 : pB7 fu (dn (n + 1), c) = if gb c 212 d = true then (if HCb c d = true then oinr (ob2 (f7_wakeTheSuspended fu c) fun v18 σ19 => (ck (decide (d < gn σ19 2)) (some ((.ok (gi σ19 200 d)), σ19)))) else some (.inl (dn n, zb (S7 e d c) 216 d true))) else some (.inl (dn n, c)) := by
      show f7_suspend_b28 fu (dn (n + 1)) c = _
      unfold f7_suspend_b28
      rw [dn_s, if_neg (nI_nlt0 (by omega)), lg_k (σ := c) (k := 1) _ (by omega) hgn (show d < gn c 2 from hd)]
      cases h212 : gb c 212 d
      · rw [if_neg (by simp), if_neg (by simp)]
        unfold f7_suspend_j69 f7_suspend_j86
        rw [ckd hd, h212, if_neg (by simp), dn_p]
      · rw [if_pos rfl, if_pos rfl, q_hasCall7 hS h.2.2.2.1 hd hf, ob1_k rfl]
        cases HCb c d
        · rw [if_neg (by simp), if_neg (by simp)]
          unfold f7_suspend_j69 f7_suspend_j86
          rw [ckd hd, h212, if_pos rfl, q_fall7 hD hd hlog7 (by omega), ob1_k rfl, ckd (by rw [S7_fr.n (k := 2) (by decide)]; exact hd), dn_p]
        · rw [if_pos rfl, if_pos rfl]
    have hsub : ∀ y, y ∈ l2 → y ∈ gl c 1 := fun y hy => by rw [hl']; simp [hy]
    cases h212 : gb c 212 d with
    | false =>
      rw [h212, if_neg (by simp)] at hi0
      obtain ⟨v, r, e', c', m', b1, b2, b3, b4, b5, b6, b7, b8, b9, b10⟩ := ih k1 (d :: l2) e c m x a (b + 2) hn1 h hST h709 hl' (fun y hy => h1 y (by simp [hy])) (fun y hy => by
        rw [List.mem_cons] at hy
        rcases hy with rfl | hy
        · exact ⟨by rw [hxd, h212], h212⟩
        · exact h2 y hy) (fun y hy hz => h3 y hy (fun hm => hz (by simp [hm]))) h4 h4b (fun y hy hz => by
        rw [List.mem_cons] at hy
        rcases hy with rfl | hy
        · rw [h3 y hd hdk2] at hz; cases hz
        · obtain ⟨x1, x2⟩ := h5 y hy hz
          refine ⟨x1, fun f hf3 k hk => ?_⟩
          rcases x2 f hf3 k hk with x3 | ⟨x3, x4⟩
          · exact Or.inl x3
          · exact Or.inr ⟨x3, by simp [x4]⟩) (by omega) (by omega) (by omega)
      exact ⟨v, r, e', c', m', b1, by rw [lp_s hi0]; exact b2, b3, b4, b5, b6, b7, by omega, b9, b10⟩
    | true =>
      rw [h212, if_pos rfl] at hi0
      rw [h212] at hxd
      have hlast : f8_lastOf fu x m = some (nI d) := by
        rw [q_lastOf hS hD hB hQ hO (by omega) hf, bst_last hO (fun i hi hz => ?_) hl' hd (by unfold inS; rw [hxd, hbd]; rfl) (fun y hy => by unfold inS; rw [(h2 y hy).1]; rfl)]
        · rfl
        · unfold inS at hz
          rw [Bool.and_eq_true] at hz
          exact (hB.2.1 i).mpr ⟨hi, bd_ne.mp hz.2⟩
      have hi8 : pB8 fu (x, -1, nI d, m) = if HCb c d = true then some (.inl (x, nI d, nI d, m)) else f8_suspend_j87 fu (x &&& ((1 <<< (nI d &&& 31)) ^^^ (-1))) (-1) (zb (S8 e d m) 822 d true) := by
        show f8_suspend_b38 fu x (-1) (nI d) m = _
        unfold f8_suspend_b38
        rw [if_neg (nI_neg1 (by omega)), if_pos rfl, q_hasCall8 hS h.2.2.2.1 hd hf, ob1_k rfl]
        cases HCb c d
        · rw [if_neg (by simp), if_neg (by simp)]
          unfold f8_suspend_j61
          rw [if_pos rfl, q_fall8 (by omega) hlog8 (by omega), ob1_k rfl, ar_k _ (by omega) (by omega)]
        · rw [if_pos rfl, if_pos rfl]
          unfold f8_suspend_j61 f8_suspend_j87
          rw [if_neg (nI_neg1 (by omega)), hlast, ob1_k rfl]
      cases hcb : HCb c d with
      | true =>
        -- it refuses: those that slept are woken
        rw [hcb, if_pos rfl] at hi0 hi8
        have hm0 := X_inv0 h h709
        obtain ⟨m0, hm0e⟩ : ∃ m0, m0 = zb m 802 0 false := ⟨_, rfl⟩
        rw [← hm0e] at hm0
        have g0 : FR [802] m m0 := by rw [hm0e]; exact FR.rf.zb (by decide)
        have hb8 : ∀ d' (m m' : St) v, d' < 24 → gb m 802 0 = false → f8_wake fu (nI d') m = some m' → f8_firstSlept fu m' = some v → (fun s8 : Int32 × St => f8_suspend_b115 fu (nI d) s8.1 s8.2) (nI d', m) = some (.inl (v, m')) := by
          intro d' m m' v y1 y2 y3 y4
          show f8_suspend_b115 fu (nI d) (nI d') m = _
          unfold f8_suspend_b115
          rw [if_neg (nI_neg1 (by omega)), if_neg (by rw [y2]; simp), y3, ob1_k rfl, y4, ob1_k rfl]
        obtain ⟨v, e', c', m', cnt', k, w0, w1, w2, w3, w4, w5, w6, w7, w8, -, w11, w10⟩ := q_wts (fu := fu) (t := t) (b8 := fun s8 : Int32 × St => f8_suspend_b115 fu (nI d) s8.1 s8.2) hf hb8 (gl c 1).length [] (gl c 1) e c m0 0 fu rfl hm0 (by rw [hm0e]; simp [gb_zb]) (by simp) (fun y hy hy2 => h3 y hy fun hm => hy2 (hsub y hm)) (fun y hy => by rw [g0.b (by decide)]; exact h4 y hy) (fun y hy hz => by
          have hy2 : y ∈ l2 := Classical.byContradiction fun hn => by rw [h3 y ((hB.2.1 y).mp hy).1 hn] at hz; cases hz
          obtain ⟨x1, x2⟩ := h5 y hy2 hz
          refine ⟨x1, fun f hf3 k hk => ?_⟩
          rcases x2 f hf3 k hk with x3 | ⟨x3, x4⟩
          · exact Or.inl x3
          · exact Or.inr ⟨x3, hsub k x4⟩) (by omega) (by omega)
        have h709' : gb c' 709 0 = false := by rw [w7.b (by decide)]; exact h709
        have hset : SET c' := fun _ => hST.fr w7 (by decide) (by decide)
        refine ⟨nI d, nI d, e', c', m', hlast, ?_, ?_, w4, ⟨fun y hy hy2 => w11 y (by rw [g0.b (by decide)]; exact h4b y (by rw [← w7.n (k := 2) (by decide)]; exact hy) hy2), fun _ y hy => w10 y (by rw [← w7.n (k := 2) (by decide)]; exact hy), fun z => by rw [h709'] at z; cases z⟩, hset, w5, by omega, w7.mono (by decide), (g0.mono (by decide)).tr (w8.mono (by decide))⟩
        · have hw : f7_wakeTheSuspended fu c = some (cnt', c') := w2
          rw [hw, ob2_k rfl, ckd (by rw [w7.n (k := 2) (by decide)]; exact hd), w7.i (by decide), (hD d hd).1] at hi0
          exact lp_e hi0
        · rw [lp_s hi8]
          refine lp_e ?_
          show f8_suspend_b38 fu x (nI d) (nI d) m = _
          unfold f8_suspend_b38 f8_suspend_j96 f8_suspend_j107
          rw [if_neg (nI_neg1 (by omega)), if_neg (nI_neg1 (by omega)), if_neg (nI_neg1 (by omega)), ← hm0e, w1, ob1_k rfl, w3.fin (t := (nI d, m')) ?_ (by omega)]
          · rfl
          · show f8_suspend_b115 fu (nI d) (-1) m' = _
            unfold f8_suspend_b115 f8_suspend_j140
            rw [if_pos rfl, q_set0 w4 hset hf, ob1_k rfl]
            rfl
      | false =>
        rw [hcb, if_neg (by simp)] at hi0 hi8
        have f := S7_fr (e := e) (d := d) (c := c)
        have g := S8_fr (e := e) (d := d) (m := m)
        have hawk : ∀ j, j < gn c 2 → gb c 212 j = true → ∀ f, isN3 f → gp c f j ≠ some d := by
          intro j hj hj1 f' hf3 hk
          have hjm : j ∈ gl c 1 := (hB.2.1 j).mpr ⟨hj, bd_ne.mp (h.2.1.1 j hj hj1).1⟩
          rw [hl', List.mem_append, List.mem_cons] at hjm
          rcases hjm with hjm | hjm | hjm
          · obtain ⟨p1, p2, rfl⟩ := List.append_of_mem hjm
            have := hB.2.2 p1 j (p2 ++ d :: l2) (by rw [hl']; simp) f' hf3 d hk
            exact hdk (List.mem_append_left _ this)
          · subst hjm
            have := (hD j hj).2.2.2.2.1 f' hf3 j hk
            omega
          · rw [(h2 j hjm).2] at hj1; cases hj1
        have hncall : ∀ k, k < gn c 1 → gi c 102 k = 0 → cdv c k ≠ some d := by
          intro k hk hk0 hcd
          have : HCb c d = true := HCb_iff.mpr ⟨k, hk, hk0, hcd⟩
          rw [hcb] at this
          cases this
        have hs := S_inv h hd hbd hawk hncall
        have f2 : FR [212, 216, 400, 401, 402] c (zb (S7 e d c) 216 d true) := (f.mono (by decide)).zb (by decide)
        have g2 : FR [813, 816, 822, 842, 843, 844] m (zb (S8 e d m) 822 d true) := (g.mono (by decide)).zb (by decide)
        have hi1 : INV (e + 1) t (zb (S7 e d c) 216 d true) (zb (S8 e d m) 822 d true) := hs.fr (F := [216]) (G := [822]) (FR.rf.zb (by decide)) (FR.rf.zb (by decide)) (by decide) (by decide)
        have e212 : ∀ j, gb (zb (S7 e d c) 216 d true) 212 j = if j = d then false else gb c 212 j := fun j => by
          rw [gb_zb, if_neg (by omega), S7_212]
        have e216 : ∀ j, gb (zb (S7 e d c) 216 d true) 216 j = if j = d then true else gb c 216 j := fun j => by
          rw [gb_zb, f.b (by decide)]
          by_cases hjd : j = d
          · simp [hjd]
          · simp [hjd]
        have e822 : ∀ j, gb (zb (S8 e d m) 822 d true) 822 j = if j = d then true else gb m 822 j := fun j => by
          rw [gb_zb, g.b (by decide)]
          by_cases hjd : j = d
          · simp [hjd]
          · simp [hjd]
        have hlt32 : ∀ y, y ∈ gl c 1 → y < 32 := fun y hy => by have := ((hB.2.1 y).mp hy).1; omega
        have hrm : ∀ y, y < 32 → hb (x &&& ((1 <<< (nI d &&& 31)) ^^^ (-1))) y = (hb x y && !decide (y = d)) := fun y hy => hb_rm (by omega) hy
        obtain ⟨v, r, e', c', m', b1, b2, b3, b4, b5, b6, b7, b8, b9, b10⟩ := ih k1 (d :: l2) (e + 1) _ _ (x &&& ((1 <<< (nI d &&& 31)) ^^^ (-1))) a (b + 1) hn1 hi1 (hST.fr f2 (by decide) (by decide)) (by rw [f2.b (by decide)]; exact h709) (by rw [f2.l (k := 1) (by decide)]; exact hl') (fun y hy => by
          have hyd : y ≠ d := fun z => hdk (z ▸ hy)
          rw [hrm y (hlt32 y (by rw [hl']; simp [hy])), h1 y (by simp [hy]), e212, if_neg hyd]
          simp [hyd]) (fun y hy => by
          have hym : y ∈ gl c 1 := by
            rw [hl', List.mem_append]
            exact Or.inr hy
          rw [hrm y (hlt32 y hym), e212]
          rw [List.mem_cons] at hy
          by_cases hyd : y = d
          · simp [hyd]
          · have := h2 y (hy.resolve_left hyd)
            rw [if_neg hyd, this.1]
            exact ⟨rfl, this.2⟩) (fun y hy hz => by
          rw [f2.n (k := 2) (by decide)] at hy
          rw [List.mem_cons, not_or] at hz
          rw [e216, if_neg hz.1]
          exact h3 y hy hz.2) (fun y hy => by
          rw [f2.n (k := 2) (by decide)] at hy
          rw [e216, e822, h4 y hy]) (fun y hy hy2 => by
          rw [f2.n (k := 2) (by decide)] at hy
          rw [e822, if_neg (by omega)]
          exact h4b y hy hy2) (fun y hy hz => by
          rw [e212]
          by_cases hyd : y = d
          · rw [if_pos hyd]
            refine ⟨rfl, fun f' hf3 k hk => ?_⟩
            rw [isN3_p f2 (by decide) hf3, hyd] at hk
            have hkd := (hD d hd).2.2.2.2.1 f' hf3 k hk
            rw [e212, if_neg (by omega)]
            exact Or.inl ((h.2.1.1 d hd h212).2 f' hf3 k hk)
          · rw [if_neg hyd]
            rw [e216, if_neg hyd] at hz
            rw [List.mem_cons] at hy
            obtain ⟨x1, x2⟩ := h5 y (hy.resolve_left hyd) hz
            refine ⟨x1, fun f' hf3 k hk => ?_⟩
            rw [isN3_p f2 (by decide) hf3] at hk
            rw [e212, e216]
            by_cases hkd : k = d
            · rw [if_pos hkd, if_pos hkd]
              exact Or.inr ⟨rfl, by simp [hkd]⟩
            · rw [if_neg hkd, if_neg hkd]
              rcases x2 f' hf3 k hk with x3 | ⟨x3, x4⟩
              · exact Or.inl x3
              · exact Or.inr ⟨x3, by simp [x4]⟩) (by omega) (by omega) (by omega)
        unfold f8_suspend_j87 at hi8
        rw [b1, ob1_k rfl] at hi8
        exact ⟨nI d, r, e', c', m', hlast, by rw [lp_s hi0]; exact b2, by rw [lp_s hi8]; exact b3, b4, b5, b6, by omega, by omega, (f2.mono (by decide)).tr b9, (g2.mono (by decide)).tr b10⟩
