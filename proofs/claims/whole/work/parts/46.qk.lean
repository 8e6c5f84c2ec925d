/-! ===== a line is asked ===== -/
theorem P_inv {e t d : Nat} {v : Bool} {c m : St} (h : INV e t c m) (hd : d < gn c 2) : INV e t (zb c 215 d v) (zb m 817 d v) := by
  obtain ⟨hQ, hA, hP, hH, hSl, hX, hL⟩ := h
  have f : FR [215] c (zb c 215 d v) := FR.rf.zb (by decide)
  have g : FR [817] m (zb m 817 d v) := FR.rf.zb (by decide)
  refine ⟨hQ.fr f g (by decide) (by decide) (Nat.le_refl _), hA.fr f g (by decide) (by decide), fun j hj => ?_, hH.fr f g (by decide) (by decide) (Nat.le_refl _), hSl.fr f g (by decide) (by decide), hX.fr f g (by decide) (by decide), hL.fr f g (by decide) (by decide)⟩
  rw [f.n (k := 2) (by decide)]
  simp only [gb_zb]
  by_cases hjd : j = d
  · simp [hjd, hd]
  · simp [hjd]
    exact hP j hj
theorem asl_fr {F : List Nat} {c c' : St} (hf : FR F c c') (hd : ∀ x ∈ [212, 2002], x ∉ F) : asl c' = asl c := by
  unfold asl
  rw [hf.n (k := 2) (hd 2002 (by decide))]
  congr 1
  funext d
  rw [hf.b (hd 212 (by decide))]
theorem nI_e1 {r : Nat} (h : r < 2 ^ 31) : nI r = 1 ↔ r = 1 := by rw [z1, nI_inj h (by omega)]
def KF7 : List Nat := [212, 213, 214, 215, 400, 401, 402]
def KF8 : List Nat := [813, 815, 817, 821, 822, 842, 843, 844, 845, 846, 847]
abbrev aB7 (fu : Nat) (x : Int32) : Int32 × Int32 × St → Option ((Int32 × Int32 × St) ⊕ (Int32 × St)) := fun s8 => f7_ask_b4 fu x s8.1 s8.2.1 s8.2.2
abbrev aB8 (fu : Nat) : Int32 × Int32 × Int32 × St → Option ((Int32 × Int32 × Int32 × St) ⊕ (Int32 × St)) := fun s8 => f8_ask_b55 fu s8.1 s8.2.1 s8.2.2.1 s8.2.2.2
theorem q_askL {fu t : Nat} {ln : Int32} (hf : 200 ≤ fu) : ∀ n l1 l2 e c m x cnt f7 f8, l2.length = n → INV e t c m → gl c 1 = l1 ++ l2 → (∀ y ∈ l1, hb x y = false) → (∀ y ∈ l2, hb x y = decide (gi c 203 y = ln)) → n < f7 → n < f8 → e + asl c < 2 ^ 31 →
    ∃ v e' c' m' cnt', f8_firstOf fu x m = some v ∧ lp (aB7 fu ln) f7 (cnt, nI l1.length, c) = some (cnt', c') ∧ lp (aB8 fu) f8 (x, cnt, v, m) = some (cnt', m') ∧ INV e' t c' m' ∧ e ≤ e' ∧ e' + asl c' = e + asl c ∧ FR KF7 c c' ∧ FR KF8 m m' ∧ ∀ j, gb m 822 j = false → gb m' 822 j = false := by
  intro n
  induction n with
  | zero =>
    intro l1 l2 e c m x cnt f7 f8 hn h hl h1 h2 h7 h8 he
    have hl2 : l2 = [] := List.length_eq_zero_iff.mp hn
    subst hl2
    rw [List.append_nil] at hl
    obtain ⟨a, rfl⟩ : ∃ a, f7 = a + 1 := ⟨f7 - 1, by omega⟩
    obtain ⟨b, rfl⟩ : ∃ b, f8 = b + 1 := ⟨f8 - 1, by omega⟩
    obtain ⟨hS, hD, hB, hW, hT, hQ, hO⟩ := h.1
    have hlen := bl_len hB
    have h24 := hS.2.1
    have hno : ∀ i, i < gn c 2 → inS c x i = false := by
      intro i hi
      unfold inS
      cases hbd : bd c i
      · simp
      · have : i ∈ gl c 1 := (hB.2.1 i).mpr ⟨hi, bd_ne.mp hbd⟩
        rw [hl] at this
        rw [h1 i this]
        rfl
    refine ⟨-1, e, c, m, cnt, ?_, ?_, ?_, h, Nat.le_refl _, rfl, FR.rf, FR.rf, fun _ h => h⟩
    · rw [q_firstOf hS hD hB hQ hO (by omega) hf, bst_none hno]; rfl
    · refine lp_e ?_
      show f7_ask_b4 fu ln cnt (nI l1.length) c = _
      unfold f7_ask_b4
      rw [hl] at hlen
      rw [hl, if_pos (by rw [nI_leN (by omega) (by omega)]; omega)]
      rfl
    · refine lp_e ?_
      show f8_ask_b55 fu x cnt (-1) m = _
      unfold f8_ask_b55
      rw [if_pos rfl]
      rfl
  | succ n ih =>
    intro l1 l2 e c m x cnt f7 f8 hn h hl h1 h2 h7 h8 he
    obtain ⟨a, rfl⟩ : ∃ a, f7 = a + 1 := ⟨f7 - 1, by omega⟩
    obtain ⟨b, rfl⟩ : ∃ b, f8 = b + 1 := ⟨f8 - 1, by omega⟩
    cases l2 with
    | nil => cases hn
    | cons d l2 =>
    have hn1 : l2.length = n := by simp at hn; exact hn
    obtain ⟨hS, hD, hB, hW, hT, hQ, hO⟩ := h.1
    have hlen := bl_len hB
    have h24 := hS.2.1
    have hll : l1.length < (gl c 1).length := by rw [hl]; simp
    have hdm : d ∈ gl c 1 := by rw [hl]; simp
    have hd := ((hB.2.1 d).mp hdm).1
    have hbd : bd c d = true := bd_ne.mpr ((hB.2.1 d).mp hdm).2
    have hgn : (gl c 1)[l1.length]? = some d := by
      rw [hl, List.getElem?_append_right (Nat.le_refl _), Nat.sub_self]
      rfl
    have hnd : (l1 ++ d :: l2).Nodup := hl ▸ hB.1
    have hdk : d ∉ l1 := fun hm => (List.nodup_append.mp hnd).2.2 d hm d (by simp) rfl
    have hdk2 : d ∉ l2 := (List.nodup_cons.mp (List.nodup_append.mp hnd).2.1).1
    have hl' : gl c 1 = (l1 ++ [d]) ++ l2 := by rw [hl]; simp
    have hlt32 : ∀ y, y ∈ gl c 1 → y < 32 := fun y hy => by have := ((hB.2.1 y).mp hy).1; omega
    have hlen1 : (l1 ++ [d]).length = l1.length + 1 := by simp
    have h7s : ∀ k, f7_ask_b4 fu ln cnt (nI l1.length) c = k → aB7 fu ln (cnt, nI l1.length, c) = k := fun k hk => hk
    have hR := h.2.1.2.1 d hd
    have hP := h.2.2.1.g h24 hd
    have hun7 : f7_ask_b4 fu ln cnt (nI l1.length) c = if gi c 203 d = ln then (if (gb c 215 d && (gb c 212 d || sv c d)) = true then f7_ask_j61 fu ln cnt (nI l1.length) d c else some (.inl (cnt, nI (l1.length + 1), c))) else some (.inl (cnt, nI (l1.length + 1), c)) := by
      unfold f7_ask_b4
      rw [if_neg (by rw [nI_leN (by omega) (by omega)]; omega), lg_k (σ := c) (k := 1) _ (by omega) hgn (show d < gn c 2 from hd)]
      have hj : f7_ask_j77 fu ln cnt (nI l1.length) c = some (.inl (cnt, nI (l1.length + 1), c)) := by
        unfold f7_ask_j77
        rw [nI_s]
      rw [hj]
      by_cases h3 : gi c 203 d = ln
      · rw [if_pos h3, if_pos h3]
        cases gb c 215 d
        · simp
        · rw [if_pos rfl]
          cases gb c 212 d
          · rw [if_neg (by simp), q_isSaved hD hd, ob1_k rfl]
            simp
          · simp
      · rw [if_neg h3, if_neg h3]
    by_cases h3 : gi c 203 d = ln
    · -- the device has the line: the reference comes to it
      have hxd : hb x d = true := by rw [h2 d (by simp)]; simp [h3]
      have hrm : ∀ y, y < 32 → hb (x &&& ((1 <<< (nI d &&& 31)) ^^^ (-1))) y = (hb x y && !decide (y = d)) := fun y hy => hb_rm (by omega) hy
      have hfirst : f8_firstOf fu x m = some (nI d) := by
        rw [q_firstOf hS hD hB hQ hO (by omega) hf, bst_first hO (fun i hi hz => ?_) hl hd (by unfold inS; rw [hxd, hbd]; rfl) (fun y hy => by unfold inS; rw [h1 y hy]; rfl)]
        · rfl
        · unfold inS at hz
          rw [Bool.and_eq_true] at hz
          exact (hB.2.1 i).mpr ⟨hi, bd_ne.mp hz.2⟩
      obtain ⟨q, hq⟩ : ∃ q, gp c 210 d = some q := by
        unfold bd at hbd
        exact Option.isSome_iff_exists.mp hbd
      have hq4 := ((hD d hd).2.2.2.2.2 q hq).1
      have hq8 := hS.2.2.2.1
      have hsv : gb m 828 q = sv c d := by
        rw [(hQ.2.2.2 q hq4).2.2.2.1]
        unfold sv
        rw [hq]
      have h812 : gi m 812 d = nI q := by
        rw [(hQ.2.2.1 d hd).2.2.2.2.2.2.2.2.1, hq]
        rfl
      have hun8 : ∀ x', x' = x &&& ((1 <<< (nI d &&& 31)) ^^^ (-1)) → aB8 fu (x, cnt, nI d, m) = if (gb c 215 d && (gb c 212 d || sv c d)) = true then f8_ask_j105 fu x' cnt (nI d) m else f8_ask_j122 fu x' cnt m := by
        intro x' hx'
        subst hx'
        show f8_ask_b55 fu x cnt (nI d) m = _
        unfold f8_ask_b55
        rw [if_neg (nI_neg1 (by omega)), ar_k _ (by omega) (by omega), hP]
        cases gb c 215 d
        · simp
        · rw [if_pos rfl, ar_k _ (by omega) (by omega), hR.1]
          cases gb c 212 d
          · rw [if_neg (by simp), ar_k _ (by omega) (by omega), h812, ar_k _ (by omega) (by omega), hsv]
            simp
          · simp
      obtain ⟨x', hx'⟩ : ∃ x', x' = x &&& ((1 <<< (nI d &&& 31)) ^^^ (-1)) := ⟨_, rfl⟩
      have hun8 := hun8 x' hx'
      rw [← hx'] at hrm
      have hx1 : ∀ y ∈ l1 ++ [d], hb x' y = false := by
        intro y hy
        rw [List.mem_append, List.mem_singleton] at hy
        rcases hy with hy | rfl
        · rw [hrm y (hlt32 y (by rw [hl]; simp [hy])), h1 y hy]; rfl
        · rw [hrm y (by omega)]; simp
      have hx2 : ∀ y ∈ l2, hb x' y = decide (gi c 203 y = ln) := by
        intro y hy
        have hyd : y ≠ d := fun z => hdk2 (z ▸ hy)
        rw [hrm y (hlt32 y (by rw [hl]; simp [hy])), h2 y (by simp [hy])]
        simp [hyd]
      rw [if_pos h3] at hun7
      cases hg : (gb c 215 d && (gb c 212 d || sv c d)) with
      | false =>
        rw [hg, if_neg (by simp)] at hun7 hun8
        obtain ⟨v, e', c', m', cnt', b1, b2, b3, b4, b5, b6, b7, b8, b9⟩ := ih (l1 ++ [d]) l2 e c m x' cnt a b hn1 h hl' hx1 hx2 (by omega) (by omega) he
        rw [hlen1] at b2
        refine ⟨nI d, e', c', m', cnt', hfirst, by rw [lp_s (h7s _ hun7)]; exact b2, ?_, b4, b5, b6, b7, b8, b9⟩
        unfold f8_ask_j122 at hun8
        rw [b1, ob1_k rfl] at hun8
        rw [lp_s hun8]
        exact b3
      | true =>
        rw [hg, if_pos rfl] at hun7 hun8
        obtain ⟨e1, c1, m1, w1, w2, w3, w4⟩ := q_wake (fu := fu) (dp := 0) h.wrl hd hbd he hf (by omega)
        have hi1 := P_inv (d := d) (v := false) (h.wk w3) (by rw [w3.2.1.n (k := 2) (by decide)]; exact hd)
        have f1 : FR KF7 c (zb c1 215 d false) := (w3.2.1.mono (by decide)).tr (FR.rf.zb (by decide))
        have g1 : FR KF8 m (zb m1 817 d false) := (w3.2.2.1.mono (by decide)).tr (FR.rf.zb (by decide))
        have ha1 : asl (zb c1 215 d false) = asl c1 := asl_fr (F := [215]) (FR.rf.zb (by decide)) (by decide)
        have hs1 := w3.2.2.2.2.2.2.1
        obtain ⟨v, e', c', m', cnt', b1, b2, b3, b4, b5, b6, b7, b8, b9⟩ := ih (l1 ++ [d]) l2 e1 (zb c1 215 d false) (zb m1 817 d false) x' (cnt + 1) a b hn1 hi1 (by rw [f1.l (k := 1) (by decide)]; exact hl') hx1 (fun y hy => by rw [hx2 y hy, f1.i (by decide)]) (by omega) (by omega) (by omega)
        rw [hlen1] at b2
        refine ⟨nI d, e', c', m', cnt', hfirst, ?_, ?_, b4, by have := w3.2.2.2.2.2.2.2.1; omega, by omega, f1.tr b7, g1.tr b8, fun j hj => b9 j ?_⟩
        · unfold f7_ask_j61 f7_ask_j77 f7_wake at hun7
          rw [z0, w1, ob1_k rfl, ckd (by rw [w3.2.1.n (k := 2) (by decide)]; exact hd), nI_s] at hun7
          rw [lp_s (h7s _ hun7)]
          exact b2
        · unfold f8_ask_j105 f8_ask_j122 at hun8
          rw [w2, ob1_k rfl, ar_k _ (by omega) (by omega), b1, ob1_k rfl] at hun8
          rw [lp_s hun8]
          exact b3
        · rw [gb_zb, if_neg (by omega), w3.2.2.2.2.2.1, hj]
          rfl
    · rw [if_neg h3] at hun7
      have hxd : hb x d = false := by rw [h2 d (by simp)]; simp [h3]
      obtain ⟨v, e', c', m', cnt', b1, b2, b3, b4, b5, b6, b7, b8, b9⟩ := ih (l1 ++ [d]) l2 e c m x cnt a (b + 1) hn1 h hl' (fun y hy => by
        rw [List.mem_append, List.mem_singleton] at hy
        rcases hy with hy | rfl
        · exact h1 y hy
        · exact hxd) (fun y hy => h2 y (by simp [hy])) (by omega) (by omega) he
      rw [hlen1] at b2
      exact ⟨v, e', c', m', cnt', b1, by rw [lp_s (h7s _ hun7)]; exact b2, b3, b4, b5, b6, b7, b8, b9⟩
theorem q_ask {fu e t : Nat} {c m : St} {ln : Int32} (h : INV e t c m) (he : e + 30 < 2 ^ 31) (hf : 200 ≤ fu) :
    ∃ e' c' m' cnt, f7_ask fu ln c = some (cnt, c') ∧ f8_ask fu ln m = some (cnt, m') ∧ INV e' t c' m' ∧ e ≤ e' ∧ e' + asl c' = e + asl c ∧ FR KF7 c c' ∧ FR KF8 m m' ∧ ∀ j, gb m 822 j = false → gb m' 822 j = false := by
  obtain ⟨hS, hD, hB, hW, hT, hQ, hO⟩ := h.1
  have hlen := bl_len hB
  have h24 := hS.2.1
  have hasl := asl_le h24
  obtain ⟨x, hr, r8⟩ := up1 (b := fun s8 : Int32 × Int32 => f8_ask_b4 fu ln s8.1 s8.2 m) (fun i a => (a, nI i))
    (fun i a => ∀ d, d < 32 → hb a d = (decide (d < i) && (bd c d && decide (gi c 203 d = ln)))) (gn c 2)
    (fun i a hi hr => by
      refine ⟨a ||| (if (bd c i && decide (gi c 203 i = ln)) = true then 1 <<< (nI i &&& 31) else 0), ?_, fun d hd => ?_⟩
      · show f8_ask_b4 fu ln a (nI i) m = _
        unfold f8_ask_b4 f8_ask_j38
        rw [hQ.1, if_neg (by rw [nI_leN (by omega) (by omega)]; omega), ob1_k (q_isBound hS hD hQ hi)]
        cases bd c i
        · simp [nI_s]
        · rw [if_pos rfl, ar_k _ (by omega) (by omega), (hQ.2.2.1 i hi).2.2.1]
          by_cases h3 : gi c 203 i = ln
          · simp [h3, nI_s]
          · simp [h3, nI_s]
      · rw [hb_or, hr d hd]
        by_cases hdi : d = i
        · subst hdi
          cases (bd c d && decide (gi c 203 d = ln))
          · simp [hb_0]
          · simp [hb_1 (show d < 32 by omega) hd]
        · have e1 : decide (d < i + 1) = decide (d < i) := by
            by_cases hlt : d < i
            · simp [hlt]; omega
            · simp [hlt]; omega
          rw [e1]
          cases (bd c i && decide (gi c 203 i = ln))
          · simp [hb_0]
          · simp [hb_1 (show i < 32 by omega) hd, hdi])
    (a := 0) (fun d hd => by simp [hb_0])
  obtain ⟨v, e', c', m', cnt, b1, b2, b3, b4, b5, b6, b7, b8, b9⟩ := q_askL (ln := ln) hf (gl c 1).length [] (gl c 1) e c m x 0 fu fu rfl h (by simp) (fun y hy => by cases hy) (fun y hy => by
    have h5 := (hB.2.1 y).mp hy
    rw [hr y (by omega), bd_ne.mpr h5.2]
    simp [h5.1]) (by omega) (by omega) (by omega)
  refine ⟨e', c', m', cnt, b2, ?_, b4, b5, b6, b7, b8, b9⟩
  unfold f8_ask
  refine r8.fin ?_ (by omega)
  show f8_ask_b4 fu ln x (nI (gn c 2)) m = _
  unfold f8_ask_b4
  rw [hQ.1, if_pos (by rw [nI_leN (by omega) (by omega)]; omega), b1, ob1_k rfl]
  show oinr (lp (aB8 fu) fu (x, 0, v, m)) = _
  rw [b3]
  rfl
