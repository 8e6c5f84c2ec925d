/-! handles: close, set, get, map, unmap, access -/
theorem q_isDead {fu e h d : Nat} {c m : St} (hS : CS c) (hR : RHd e c m) (he : e < 2 ^ 31) (hh : h < gn c 5) (hd : d < gn c 2) (hk : gp c 500 h = some d) : f8_isDead fu (nI h) m = some (gb c 502 h) := by
  have h24 := hS.2.1
  have h40 := hS.2.2.2.2.2.1
  obtain ⟨u1, -, s, u, v1, v2, v3, v4, v5⟩ := hR.2.2 h d hh hk
  unfold f8_isDead
  rw [ar_k _ (by omega) (by omega), u1, ar_k _ (by omega) (by omega), ar_k _ (by omega) (by omega), v3, v4, v5]
  by_cases hsu : s < u
  · rw [if_neg (by rw [nI_inj (by omega) (by omega)]; omega)]
    simp [hsu]
  · rw [if_pos (by rw [nI_inj (by omega) (by omega)]; omega)]
    simp [hsu]
theorem q_isUsable {fu e h d : Nat} {c m : St} (hS : CS c) (hR : RHd e c m) (he : e < 2 ^ 31) (hh : h < gn c 5) (hd : d < gn c 2) (hk : gp c 500 h = some d) : f8_isUsable fu (nI h) m = some (gb c 501 h && !gb c 502 h) := by
  have h40 := hS.2.2.2.2.2.1
  unfold f8_isUsable
  rw [ar_k _ (by omega) (by omega), (hR.2.2 h d hh hk).2.1, q_isDead hS hR he hh hd hk]
  cases gb c 501 h
  · simp
  · rw [if_neg (by simp), ob1_k rfl]
    cases gb c 502 h <;> simp
theorem q_alive {fu h : Nat} {c : St} (hh : h < gn c 5) : f5_isAlive fu h c = some (gb c 501 h && !gb c 502 h) := by
  unfold f5_isAlive
  rw [ckd hh]
  cases gb c 501 h
  · simp
  · cases gb c 502 h <;> simp
theorem q_canUse {fu h : Nat} {c : St} (hh : h < gn c 5) : f7_canUse fu (some h) c = some ((gb c 501 h && !gb c 502 h) && !gb c 709 0) := by
  unfold f7_canUse
  rw [dr_k hh, ob1_k (q_alive hh)]
  cases (gb c 501 h && !gb c 502 h)
  · simp
  · rw [if_pos rfl]
    cases gb c 709 0 <;> simp
theorem F_close {fu e t : Nat} {c m : St} (a : Int32) (h : INVF e t c m) (he : e < 2 ^ 31) (hf : 200 ≤ fu) : OKF w13 E13 e t c m (f7_close fu a c) (f8_close fu a m) := by
  have hm := h.m (v := 0)
  obtain ⟨hS, hD, hB, hW, hT, hQ, hO⟩ := h.1.1
  have hS' := hS
  obtain ⟨-, h24, -, -, l3, n40, l4, n100, -⟩ := hS'
  have hHK := h.1.2.2.2.1
  have hR := hHK.2.2.1
  rcases rng (n := gn c 5) (by omega) a with ⟨x, hx, rfl⟩ | ha
  · obtain ⟨d, hd, hk⟩ := hHK.1 x hx
    have h833 := (hR.2.2 x d hx hk).2.1
    cases hop : gb c 501 x with
    | false =>
      refine OKF.er (x := 3) (z := false) h ?_ ?_ (Or.inr rfl)
      · unfold f7_close
        rw [xb1_o (kh_7 hS hx), dr_k hx, hop, if_neg (by simp)]
      · unfold f8_close f8_close_j27
        rw [hh_8 hS hR hx, ob1_k rfl, if_pos rfl, ar_k _ (by omega) (by omega), h833, hop, if_pos (by rfl), g800, if_neg (by decide)]
        rfl
    | true =>
      obtain ⟨m1, hm1⟩ : ∃ m1, m1 = zi m 800 0 0 := ⟨_, rfl⟩
      have g1 : FR [800] m m1 := by rw [hm1]; exact frt8
      rw [← hm1] at hm
      obtain ⟨c2, hc2⟩ : ∃ c2, c2 = zb c 501 x false := ⟨_, rfl⟩
      obtain ⟨m2, hm2⟩ : ∃ m2, m2 = zb m1 833 x true := ⟨_, rfl⟩
      have f2 : FR [501] c c2 := by rw [hc2]; exact FR.rf.zb (by decide)
      have g2 : FR [833] m1 m2 := by rw [hm2]; exact FR.rf.zb (by decide)
      have hHK1 := hm.1.2.2.2.1
      have hi2 : INV e t c2 m2 := by
        obtain ⟨hQ, hA, hP, ⟨hCH, hCK, hR, hK⟩, hSl, hX, hL⟩ := hm.1
        refine ⟨hQ.fr f2 g2 (by decide) (by decide) (Nat.le_refl _), hA.fr f2 g2 (by decide) (by decide), hP.fr f2 g2 (by decide) (by decide), ⟨hCH.fr f2 (by decide), hCK.fr f2 (by decide), ⟨?_, ⟨fun j hj => ?_, fun j hj hj2 => ?_⟩, fun k d' hk' hkd => ?_⟩, hK.fr f2 g2 (by decide) (by decide)⟩, hSl.fr f2 g2 (by decide) (by decide), hX.fr f2 g2 (by decide) (by decide), hL.fr f2 g2 (by decide) (by decide)⟩
        · rw [g2.i (by decide), f2.n (k := 5) (by decide)]; exact hR.1
        · obtain ⟨u, u1, u2, u3⟩ := hR.2.1.1 j hj
          exact ⟨u, u1, by rw [g2.i (by decide)]; exact u2, by rw [f2.n (k := 2) (by decide)]; exact u3⟩
        · rw [f2.n (k := 5) (by decide)] at hj
          rw [hm2, gb_zb, if_neg (by omega)]
          exact hR.2.1.2 j hj hj2
        · rw [f2.n (k := 5) (by decide)] at hk'
          rw [f2.p (by decide)] at hkd
          obtain ⟨v1, v2, v3⟩ := hR.2.2 k d' hk' hkd
          rw [g2.i (f := 831) (by decide), g2.i (f := 832) (by decide), g2.i (f := 819) (by decide), f2.b (f := 502) (by decide)]
          refine ⟨v1, ?_, v3⟩
          rw [hc2, hm2, gb_zb, gb_zb]
          by_cases hkx : k = x
          · simp [hkx]
          · simp [hkx]
            exact v2
      have hHK2 := hi2.2.2.2.1
      have n1 : gn c2 1 = gn c 1 := f2.n (k := 1) (by decide)
      have n5 : gn c2 5 = gn c 5 := f2.n (k := 5) (by decide)
      have l42 : gl c2 4 = List.range (gn c 1) := by rw [f2.l (k := 4) (by decide)]; exact l4
      obtain ⟨c3, m3, ⟨f3, g3, k3⟩, r7, r8⟩ := up2 (bC := fun s8 : Int32 × St => f7_close_b30 fu (some x) s8.1 s8.2) (bM := fun s8 : Int32 × St => f8_close_b54 fu (nI x) (gb c 502 x) s8.1 s8.2) (fun i a => (nI i, a)) (fun i a => (nI i, a))
        (fun i a b => FR [102] c2 a ∧ FR [837] m2 b ∧ ∀ k, k < gn c 1 → gi b 837 k = gi a 102 k ∧ (gi a 102 k = 0 → gi c2 102 k = 0)) (gn c 1)
        (fun i a b hi hr => by
          obtain ⟨f3, g3, k3⟩ := hr
          obtain ⟨y, d', hy, hd', p1, p2, -⟩ := hHK2.2.1 i (by omega)
          have hK := hHK2.2.2.2.2 i (by omega)
          have c7 : f7_close_b30 fu (some x) (nI i) a = if y = x ∧ gi a 102 i = 0 then some (.inl (nI (i + 1), zi a 102 i 2)) else some (.inl (nI (i + 1), a)) := by
            unfold f7_close_b30 f7_close_j69 lt
            have hl : gl a 4 = List.range (gn c 1) := by rw [f3.l (k := 4) (by decide)]; exact l42
            have na1 : gn a 1 = gn c 1 := by rw [f3.n (k := 1) (by decide)]; exact n1
            have na5 : gn a 5 = gn c 5 := by rw [f3.n (k := 5) (by decide)]; exact n5
            rw [hl, List.length_range, if_neg (by rw [nI_leN (by omega) (by omega)]; omega), lg_r (σ := a) (k := 4) _ hl hi (by omega) (show gn c 1 ≤ gn a 1 by omega), f3.p (by decide), p1]
            dsimp only
            rw [ckb (okr_of fun j hj => by cases hj; omega), ckb (okr_of fun j hj => by cases hj; omega)]
            by_cases hyx : y = x
            · rw [if_pos (by rw [hyx])]
              unfold f1_abortIfGoing
              rw [ckd (by omega)]
              by_cases h0 : gi a 102 i = 0
              · rw [if_pos h0, if_pos ⟨hyx, h0⟩, ob2_k rfl, nI_s]
              · rw [if_neg h0, if_neg (fun z => h0 z.2), ob2_k rfl, nI_s]
            · rw [if_neg (fun z => hyx (Option.some.inj z)), if_neg (fun z => hyx z.1), nI_s]
          have c8 : f8_close_b54 fu (nI x) (gb c 502 x) (nI i) b = if y = x ∧ gi a 102 i = 0 then some (.inl (nI (i + 1), zi b 837 i 2)) else some (.inl (nI (i + 1), zi b 837 i (gi b 837 i))) := by
            unfold f8_close_b54 f8_close_j90 f8_close_j96
            rw [g3.i (f := 834) (by decide), hHK2.2.2.2.1, n1, if_neg (by rw [nI_leN (by omega) (by omega)]; omega), ar_k _ (by omega) (by omega), (k3 i hi).1]
            by_cases h0 : gi a 102 i = 0
            · rw [if_pos h0, ar_k _ (by omega) (by omega), g3.i (f := 835) (by decide), hK.1, p1, enc_some]
              by_cases hyx : y = x
              · rw [if_pos (by rw [hyx]), if_pos ⟨hyx, h0⟩, ar_k _ (by omega) (by omega), nI_s]
              · rw [if_neg (fun z => hyx ((nI_inj (by omega) (by omega)).mp z)), if_neg (fun z => hyx z.1), ar_k _ (by omega) (by omega), ar_k _ (by omega) (by omega), nI_s, (k3 i hi).1]
            · rw [if_neg h0, if_neg (fun z => h0 z.2), ar_k _ (by omega) (by omega), ar_k _ (by omega) (by omega), nI_s, (k3 i hi).1]
          by_cases hc : y = x ∧ gi a 102 i = 0
          · rw [if_pos hc] at c7 c8
            refine ⟨_, _, c7, c8, f3.zi (by decide), g3.zi (by decide), fun k hk => ?_⟩
            simp only [gi_zi]
            by_cases hki : k = i
            · simp [hki]
            · simp only [hki, and_false, if_false]
              exact k3 k hk
          · rw [if_neg hc] at c7 c8
            refine ⟨_, _, c7, c8, f3, g3.zi (by decide), fun k hk => ?_⟩
            rw [gi_zi]
            by_cases hki : k = i
            · subst hki
              simp
              exact k3 k hk
            · simp only [hki, and_false, if_false]
              exact k3 k hk)
        (a := c2) (b := m2) ⟨FR.rf, FR.rf, fun k hk => ⟨(hHK2.2.2.2.2 k (by omega)).2.2, fun hz => hz⟩⟩
      have hi3 : INV e t c3 m3 := by
        obtain ⟨hQ, hA, hP, ⟨hCH, hCK, hR, hK⟩, hSl, hX, hL⟩ := hi2
        refine ⟨hQ.fr f3 g3 (by decide) (by decide) (Nat.le_refl _), hA.fr f3 g3 (by decide) (by decide), hP.fr f3 g3 (by decide) (by decide), ⟨hCH.fr f3 (by decide), fun k hk' => ?_, hR.fr f3 g3 (by decide) (by decide) (Nat.le_refl _), ?_, fun k hk' => ?_⟩, hSl.fr f3 g3 (by decide) (by decide), hX.fr f3 g3 (by decide) (by decide), hL.fr f3 g3 (by decide) (by decide)⟩
        · rw [f3.n (k := 1) (by decide)] at hk'
          obtain ⟨y, d', hy, hd', p1, p2, p3⟩ := hCK k hk'
          refine ⟨y, d', by rw [f3.n (k := 5) (by decide)]; exact hy, by rw [f3.n (k := 2) (by decide)]; exact hd', by rw [f3.p (by decide)]; exact p1, by rw [f3.p (by decide)]; exact p2, fun hz => ?_⟩
          rw [f3.b (by decide), f3.i (f := 101) (by decide)]
          exact p3 ((k3 k (by omega)).2 hz)
        · rw [g3.i (by decide), f3.n (k := 1) (by decide)]; exact hK.1
        · rw [f3.n (k := 1) (by decide)] at hk'
          rw [g3.i (f := 835) (by decide), g3.i (f := 836) (by decide), f3.p (by decide), f3.i (f := 101) (by decide)]
          exact ⟨(hK.2 k hk').1, (hK.2 k hk').2.1, (k3 k (by omega)).1⟩
      have F3 : FR [102, 501] c c3 := (f2.mono (by decide)).tr (f3.mono (by decide))
      have G3 : FR [800, 833, 837] m m3 := ((g1.mono (by decide)).tr (g2.mono (by decide))).tr (g3.mono (by decide))
      have hF := h.nb hi3 F3 G3 (by decide) (by decide)
      refine ⟨.ok (gb c 502 x), c3, gb c 502 x, m3, e, t, ?_, ?_, fun x hx => (by cases hx), F3.mono (by decide), G3.mono (by decide), hF, Nat.le_refl _, by omega, Nat.le_refl _, by omega, ?_, fun v hv => by cases hv; rfl⟩
      · unfold f7_close
        rw [xb1_o (kh_7 hS hx), dr_k hx, hop, if_pos rfl, ← hc2]
        refine r7.fin ?_ (by omega)
        show f7_close_b30 fu (some x) (nI (gn c 1)) c3 = _
        unfold f7_close_b30
        rw [F3.l (k := 4) (by decide), l4, List.length_range, if_pos (by rw [nI_leN (by omega) (by omega)]; omega), dr_k (by rw [F3.n (k := 5) (by decide)]; exact hx), F3.b (by decide)]
        rfl
      · unfold f8_close f8_close_j27
        rw [hh_8 hS hR hx, ob1_k rfl, if_pos rfl, ar_k _ (by omega) (by omega), h833, hop, if_neg (by simp), g800, if_pos rfl, ← hm1, q_isDead hS hHK1.2.2.1 he hx hd hk, ob1_k rfl, ar_k _ (by omega) (by omega), ← hm2]
        refine r8.fin ?_ (by omega)
        show f8_close_b54 fu (nI x) (gb c 502 x) (nI (gn c 1)) m3 = _
        unfold f8_close_b54
        rw [G3.i (by decide), hHK.2.2.2.1, if_pos (by rw [nI_leN (by omega) (by omega)]; omega), hF.set0 hf, ob1_k rfl]
        rfl
      · rw [g3.i (by decide), g2.i (by decide), hm1, g800]; rfl
  · refine OKF.er (x := 1) (z := false) h ?_ ?_ (Or.inl rfl)
    · unfold f7_close
      rw [xb1_e (kh_7e hS ha)]
    · unfold f8_close f8_close_j27
      rw [hh_8e hS hR ha, ob1_k rfl, if_neg (by simp), g800, if_neg (by decide)]
      rfl
/-- a device is woken for use, and touched -/
theorem q_use {fu e t d : Nat} {c m : St} (h : INVF e t c m) (h9 : gb c 709 0 = false) (hd : d < gn c 2) (hb : bd c d = true) (he : e + 30 < 2 ^ 31) (hf : 200 ≤ fu) :
    ∃ e' c' m', f7_wakeForUse fu (some d) c = some c' ∧ f8_touch fu (nI d) m = some m' ∧ INVF e' t c' m' ∧ e ≤ e' ∧ e' ≤ e + 24 ∧ FR WF7 c c' ∧ FR WF8 m m' ∧ gb c' 212 d = true := by
  have h24 := h.1.1.1.2.1
  have hasl := asl_le h24
  obtain ⟨e1, c1, m1, w1, w2, w3, w4⟩ := q_wake (fu := fu) (dp := 0) h.1.wrl hd hb (by omega) hf (by omega)
  have hi1 := h.1.wk w3
  have hs := w3.2.2.2.2.2.2.1
  obtain ⟨hQ, ⟨hA, hR, hT7, hT8, hT9⟩, hP, hH, hSl, hX, hL⟩ := hi1
  have f : FR [214] c1 (zi c1 214 d (gi c1 708 0)) := FR.rf.zi (by decide)
  have g : FR [821] m1 (zi m1 821 d (gi m1 801 0)) := FR.rf.zi (by decide)
  have hi2 : INV e1 t (zi c1 214 d (gi c1 708 0)) (zi m1 821 d (gi m1 801 0)) := by
    refine ⟨hQ.fr f g (by decide) (by decide) (Nat.le_refl _), ⟨hA.fr f (by decide), fun j hj => ?_, by rw [f.i (by decide)]; exact hT7, by rw [g.i (by decide)]; exact hT8, fun j h1 h2 => by rw [g.b (by decide)]; exact hT9 j h1 h2⟩, hP.fr f g (by decide) (by decide), hH.fr f g (by decide) (by decide) (Nat.le_refl _), hSl.fr f g (by decide) (by decide), hX.fr f g (by decide) (by decide), hL.fr f g (by decide) (by decide)⟩
    have h1 := hR j hj
    rw [g.b (by decide), f.b (by decide), bd_fr f (by decide), g.i (f := 815) (by decide), g.i (f := 816) (by decide), f.i (f := 213) (by decide)]
    refine ⟨h1.1, h1.2.1, h1.2.2.1, fun hz => ?_⟩
    simp only [gi_zi]
    by_cases hjd : j = d
    · simp [hjd]
      exact hT8.trans hT7.symm
    · simp [hjd]
      exact h1.2.2.2 hz
  have F : FR WF7 c (zi c1 214 d (gi c1 708 0)) := w3.2.1.tr (f.mono (by decide))
  have G : FR WF8 m (zi m1 821 d (gi m1 801 0)) := w3.2.2.1.tr (g.mono (by decide))
  refine ⟨e1, _, _, ?_, ?_, h.nw hi2 F (by decide) h9 (fun j hj => ?_), w3.2.2.2.2.2.2.2.1, by omega, F, G, by rw [f.b (by decide)]; exact w4⟩
  · unfold f7_wakeForUse f7_wake
    rw [z0, w1, ob1_k rfl, dr_k (by rw [w3.2.1.n (k := 2) (by decide)]; exact hd)]
  · unfold f8_touch
    rw [w2, ob1_k rfl, ar_k _ (by omega) (by omega)]
  · rw [g.b (by decide), w3.2.2.2.2.2.1, hj]
    rfl
theorem F_set {fu e t : Nat} {c m : St} (a v : Int32) (h : INVF e t c m) (he : e + 1500 < 2 ^ 31) (hf : 200 ≤ fu) : OKF w123 E123 e t c m (f7_set fu a v c) (f8_set fu a v m) := by
  have hm := h.m (v := 0)
  obtain ⟨hS, hD, hB, hW, hT, hQ, hO⟩ := h.1.1
  have hS' := hS
  obtain ⟨-, h24, -, -, l3, n40, l4, n100, -⟩ := hS'
  have hHK := h.1.2.2.2.1
  have hR := hHK.2.2.1
  have h802 := h.1.2.2.2.2.2.1.2.2
  rcases rng (n := gn c 5) (by omega) a with ⟨x, hx, rfl⟩ | ha
  · obtain ⟨d, hd, hk⟩ := hHK.1 x hx
    cases hin : inV v 0 99 with
    | false =>
      refine OKF.er (x := 2) (z := 0) h ?_ ?_ (Or.inr (Or.inl rfl))
      · unfold f7_set
        rw [xb1_o (kh_7 hS hx), in_7, ob1_k rfl, hin, if_neg (by simp)]
      · unfold f8_set f8_set_j47
        rw [hh_8 hS hR hx, ob1_k rfl, if_pos rfl, in_8, ob1_k rfl, hin, if_neg (by simp), g800, if_neg (by decide)]; rfl
    | true =>
      cases hu : ((gb c 501 x && !gb c 502 x) && !gb c 709 0) with
      | false =>
        refine OKF.er (x := 3) (z := 0) h ?_ ?_ (Or.inr (Or.inr rfl))
        · unfold f7_set
          rw [xb1_o (kh_7 hS hx), in_7, ob1_k rfl, hin, if_pos rfl, q_canUse hx, ob1_k rfl, hu, if_neg (by simp)]
        · unfold f8_set f8_set_j47
          rw [hh_8 hS hR hx, ob1_k rfl, if_pos rfl, in_8, ob1_k rfl, hin, if_pos rfl, q_isUsable hS hR (by omega) hx hd hk, ob1_k rfl]
          cases hal : (gb c 501 x && !gb c 502 x)
          · rw [if_neg (by simp), g800, if_neg (by decide)]; rfl
          · rw [hal, Bool.true_and, Bool.not_eq_false'] at hu
            rw [if_pos rfl, h802, hu, if_pos rfl, g800, if_neg (by decide)]; rfl
      | true =>
        have hu' := hu
        rw [Bool.and_eq_true, Bool.not_eq_true'] at hu'
        obtain ⟨hal, h9⟩ := hu'
        have hal' := hal
        rw [Bool.and_eq_true, Bool.not_eq_true'] at hal'
        have hbd := h.2.2.2.2.2.2 x d hx hk hal'.2
        obtain ⟨m1, hm1⟩ : ∃ m1, m1 = zi m 800 0 0 := ⟨_, rfl⟩
        have g1 : FR [800] m m1 := by rw [hm1]; exact frt8
        rw [← hm1] at hm
        obtain ⟨e2, c2, m2, a1, a2, a3, a4, a5, f2, g2, a8⟩ := q_use (fu := fu) hm h9 hd hbd (by omega) hf
        have h831 : gi m1 831 x = nI d := by rw [g1.i (by decide)]; exact (hR.2.2 x d hx hk).1
        have k2 : gp c2 500 x = some d := by rw [f2.p (by decide)]; exact hk
        have hd2 : d < gn c2 2 := by rw [f2.n (k := 2) (by decide)]; exact hd
        have hi3 := R2_inv (d := d) (v := v) a3.1 a8
        have hF := a3.nb (F := [213]) (G := [815]) hi3 (FR.rf.zi (by decide)) (FR.rf.zi (by decide)) (by decide) (by decide)
        have h815 : gi m2 815 d = gi c2 213 d := (a3.1.2.1.2.1 d hd2).2.1 (by rw [bd_fr f2 (by decide)]; exact hbd)
        refine ⟨.ok (gi c2 213 d), _, gi m2 815 d, _, e2, t, ?_, ?_, fun x hx => (by cases hx), (f2.mono (by decide)).zi (by decide), ((g1.mono (by decide)).tr (g2.mono (by decide))).zi (by decide), hF, a4, by omega, Nat.le_refl _, by omega, ?_, fun v hv => by cases hv; exact h815⟩
        · unfold f7_set lt
          rw [xb1_o (kh_7 hS hx), in_7, ob1_k rfl, hin, if_pos rfl, q_canUse hx, ob1_k rfl, hu, if_pos rfl, dr_k hx, hk]
          dsimp only
          rw [a1, ob1_k rfl, ckd (by rw [f2.n (k := 5) (by decide)]; exact hx), k2, dr_k hd2, dr_k hd2]
        · unfold f8_set f8_set_j47
          rw [hh_8 hS hR hx, ob1_k rfl, if_pos rfl, in_8, ob1_k rfl, hin, if_pos rfl, q_isUsable hS hR (by omega) hx hd hk, ob1_k rfl, hal, if_pos rfl, h802, h9, if_neg (by simp), g800, if_pos rfl, ← hm1, ar_k _ (by omega) (by omega), h831, a2, ob1_k rfl, ar_k _ (by omega) (by omega), ar_k _ (by omega) (by omega), hF.set0 hf, ob1_k rfl]
        · rw [gi_zi, if_neg (by omega), g2.i (by decide), hm1, g800]; rfl
  · refine OKF.er (x := 1) (z := 0) h ?_ ?_ (Or.inl rfl)
    · unfold f7_set
      rw [xb1_e (kh_7e hS ha)]
    · unfold f8_set f8_set_j47
      rw [hh_8e hS hR ha, ob1_k rfl, if_neg (by simp), g800, if_neg (by decide)]
      rfl
theorem F_get {fu e t : Nat} {c m : St} (a : Int32) (h : INVF e t c m) (he : e + 1500 < 2 ^ 31) (hf : 200 ≤ fu) : OKF w13 E13 e t c m (f7_get fu a c) (f8_get fu a m) := by
  have hm := h.m (v := 0)
  obtain ⟨hS, hD, hB, hW, hT, hQ, hO⟩ := h.1.1
  have hS' := hS
  obtain ⟨-, h24, -, -, l3, n40, l4, n100, -⟩ := hS'
  have hHK := h.1.2.2.2.1
  have hR := hHK.2.2.1
  have h802 := h.1.2.2.2.2.2.1.2.2
  rcases rng (n := gn c 5) (by omega) a with ⟨x, hx, rfl⟩ | ha
  · obtain ⟨d, hd, hk⟩ := hHK.1 x hx
    cases hu : ((gb c 501 x && !gb c 502 x) && !gb c 709 0) with
    | false =>
      refine OKF.er (x := 3) (z := 0) h ?_ ?_ (Or.inr rfl)
      · unfold f7_get
        rw [xb1_o (kh_7 hS hx), q_canUse hx, ob1_k rfl, hu, if_neg (by simp)]
      · unfold f8_get f8_get_j33
        rw [hh_8 hS hR hx, ob1_k rfl, if_pos rfl, q_isUsable hS hR (by omega) hx hd hk, ob1_k rfl]
        cases hal : (gb c 501 x && !gb c 502 x)
        · rw [if_neg (by simp), g800, if_neg (by decide)]; rfl
        · rw [hal, Bool.true_and, Bool.not_eq_false'] at hu
          rw [if_pos rfl, h802, hu, if_pos rfl, g800, if_neg (by decide)]; rfl
    | true =>
      have hu' := hu
      rw [Bool.and_eq_true, Bool.not_eq_true'] at hu'
      obtain ⟨hal, h9⟩ := hu'
      have hal' := hal
      rw [Bool.and_eq_true, Bool.not_eq_true'] at hal'
      have hbd := h.2.2.2.2.2.2 x d hx hk hal'.2
      obtain ⟨m1, hm1⟩ : ∃ m1, m1 = zi m 800 0 0 := ⟨_, rfl⟩
      have g1 : FR [800] m m1 := by rw [hm1]; exact frt8
      rw [← hm1] at hm
      obtain ⟨e2, c2, m2, a1, a2, a3, a4, a5, f2, g2, a8⟩ := q_use (fu := fu) hm h9 hd hbd (by omega) hf
      have h831 : gi m1 831 x = nI d := by rw [g1.i (by decide)]; exact (hR.2.2 x d hx hk).1
      have h831' : gi m2 831 x = nI d := by rw [g2.i (by decide)]; exact h831
      have k2 : gp c2 500 x = some d := by rw [f2.p (by decide)]; exact hk
      have hd2 : d < gn c2 2 := by rw [f2.n (k := 2) (by decide)]; exact hd
      have h815 : gi m2 815 d = gi c2 213 d := (a3.1.2.1.2.1 d hd2).2.1 (by rw [bd_fr f2 (by decide)]; exact hbd)
      refine ⟨.ok (gi c2 213 d), c2, gi m2 815 d, m2, e2, t, ?_, ?_, fun x hx => (by cases hx), f2.mono (by decide), (g1.mono (by decide)).tr (g2.mono (by decide)), a3, a4, by omega, Nat.le_refl _, by omega, ?_, fun v hv => by cases hv; exact h815⟩
      · unfold f7_get lt
        rw [xb1_o (kh_7 hS hx), q_canUse hx, ob1_k rfl, hu, if_pos rfl, dr_k hx, hk]
        dsimp only
        rw [a1, ob1_k rfl, ckd (by rw [f2.n (k := 5) (by decide)]; exact hx), k2, dr_k hd2]
      · unfold f8_get f8_get_j33
        rw [hh_8 hS hR hx, ob1_k rfl, if_pos rfl, q_isUsable hS hR (by omega) hx hd hk, ob1_k rfl, hal, if_pos rfl, h802, h9, if_neg (by simp), g800, if_pos rfl, ← hm1, ar_k _ (by omega) (by omega), h831, a2, ob1_k rfl, a3.set0 hf, ob1_k rfl, ar_k _ (by omega) (by omega), h831', ar_k _ (by omega) (by omega)]
      · rw [g2.i (by decide), hm1, g800]; rfl
  · refine OKF.er (x := 1) (z := 0) h ?_ ?_ (Or.inl rfl)
    · unfold f7_get
      rw [xb1_e (kh_7e hS ha)]
    · unfold f8_get f8_get_j33
      rw [hh_8e hS hR ha, ob1_k rfl, if_neg (by simp), g800, if_neg (by decide)]
      rfl
