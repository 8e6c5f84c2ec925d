/-! suspend, resume, raise, openLine -/
theorem q_allOn {fu : Nat} {c m : St} (hS : CS c) (hQ : RQ c m) (hR : RA c m) (hf : 200 ≤ fu) : ∃ x, f8_allOn fu m = some x ∧ ∀ d, d < gn c 2 → hb x d = gb c 212 d := by
  have h24 := hS.2.1
  obtain ⟨x, hr, r8⟩ := up1 (b := fun s8 : Int32 × Int32 => f8_allOn_b4 fu s8.1 s8.2 m) (fun i a => (a, nI i))
    (fun i a => ∀ d, d < 32 → hb a d = (decide (d < i) && gb c 212 d)) (gn c 2)
    (fun i a hi hr => by
      refine ⟨a ||| (if gb c 212 i = true then 1 <<< (nI i &&& 31) else 0), ?_, fun d hd => ?_⟩
      · show f8_allOn_b4 fu a (nI i) m = _
        unfold f8_allOn_b4 f8_allOn_j29
        rw [hQ.1, if_neg (by rw [nI_leN (by omega) (by omega)]; omega), ar_k _ (by omega) (by omega), (hR i hi).1]
        cases gb c 212 i
        · simp [nI_s]
        · simp [nI_s]
      · rw [hb_or, hr d hd]
        by_cases hdi : d = i
        · subst hdi
          cases gb c 212 d
          · simp [hb_0]
          · simp [hb_1 (show d < 32 by omega) hd]
        · have e1 : decide (d < i + 1) = decide (d < i) := by
            by_cases hlt : d < i
            · simp [hlt]; omega
            · simp [hlt]; omega
          rw [e1]
          cases gb c 212 i
          · simp [hb_0]
          · simp [hb_1 (show i < 32 by omega) hd, hdi])
    (a := 0) (fun d hd => by simp [hb_0])
  refine ⟨x, ?_, fun d hd => by rw [hr d (by omega)]; simp [hd]⟩
  unfold f8_allOn
  refine r8.fin ?_ (by omega)
  show f8_allOn_b4 fu x (nI (gn c 2)) m = _
  unfold f8_allOn_b4
  rw [hQ.1, if_pos (by rw [nI_leN (by omega) (by omega)]; omega)]
  rfl
theorem F_suspend {fu e t : Nat} {c m : St} (h : INVF e t c m) (he : e + 1500 < 2 ^ 31) (hf : 200 ≤ fu) : OKF w3 (fun x => x = 3) e t c m (f7_suspend fu c) (f8_suspend fu m) := by
  have hm := h.m (v := 0)
  have h802 := h.1.2.2.2.2.2.1.2.2
  cases h9 : gb c 709 0 with
  | true =>
    refine OKF.er (x := 3) (z := 0) h ?_ ?_ rfl
    · unfold f7_suspend
      rw [h9, if_pos rfl]
    · unfold f8_suspend f8_suspend_j13
      rw [h802, h9, if_pos rfl, b2i_t, g800, if_neg (by decide)]; rfl
  | false =>
    obtain ⟨m1, hm1⟩ : ∃ m1, m1 = zi m 800 0 0 := ⟨_, rfl⟩
    have g1 : FR [800] m m1 := by rw [hm1]; exact frt8
    rw [← hm1] at hm
    obtain ⟨hS, hD, hB, hW, hT, hQ, hO⟩ := hm.1.1
    have hlen := bl_len hB
    have h24 := hS.2.1
    obtain ⟨x, hx1, hx2⟩ := q_allOn (fu := fu) hS hQ hm.1.2.1.2.1 hf
    have hFS := hm.2.1.2.1 h9
    obtain ⟨v, r, e', c', m', a1, a2, a3, a4, a5, a6, a7, a8, f2, g2⟩ := q_susp (fu := fu) (t := t) hf (gl c 1).length (gl c 1) [] e c m1 x fu fu rfl hm.1 (hm.2.2.1 h9) h9 (by simp) (fun y hy => hx2 y ((hB.2.1 y).mp hy).1) (fun y hy => by cases hy) (fun y hy _ => (hFS y hy).1) (fun y hy => by rw [(hFS y hy).1, (hFS y hy).2]) hm.2.1.1 (fun y hy => by cases hy) (by omega) (by omega) (by omega)
    have hF : INVF e' t c' m' := ⟨a4, a5, a6, hm.2.2.2.1.fr f2 (by decide), hm.2.2.2.2.1.fr f2 (by decide), hm.2.2.2.2.2.1.fr f2 (by decide), hm.2.2.2.2.2.2.fr f2 (by decide) fun d hb => by rw [bd_fr f2 (by decide)]; exact hb⟩
    refine ⟨.ok r, c', r, m', e', t, ?_, ?_, fun x hx => (by cases hx), f2.mono (by decide), (g1.mono (by decide)).tr (g2.mono (by decide)), hF, a7, by omega, Nat.le_refl _, by omega, ?_, fun v hv => by cases hv; rfl⟩
    · unfold f7_suspend
      rw [h9, if_neg (by simp)]
      exact a2
    · unfold f8_suspend f8_suspend_j13
      rw [h802, h9, if_neg (by simp), b2i_f, g800, if_pos rfl, ← hm1, hx1, ob1_k rfl, a1, ob1_k rfl]
      exact a3
    · rw [g2.i (by decide), hm1, g800]; rfl
theorem q_isShut {fu l s : Nat} {c : St} (hl : l < 8) (hs : s ≤ 3) (h : gi c 706 l = nI s) : f7_isShut fu (nI l) c = some (.ok (decide (3 ≤ s))) := by
  unfold f7_isShut
  have h1 : f7_strikes fu (nI l) c = some (.ok (nI s)) := by
    unfold f7_strikes
    rw [xb1_o (cl_7 hl), ar_k _ hl (by omega), h]
  rw [xb1_o h1]
  by_cases h3 : 3 ≤ s
  · rw [if_neg (by rw [show (3 : Int32) = nI 3 from rfl, nI_ltN (by omega) (by omega)]; omega)]
    simp [h3]
  · rw [if_pos (by rw [show (3 : Int32) = nI 3 from rfl, nI_ltN (by omega) (by omega)]; omega)]
    simp [h3]
theorem F_resume {fu e t : Nat} {c m : St} (h : INVF e t c m) (he : e + 1500 < 2 ^ 31) (hf : 200 ≤ fu) : OKF w3 (fun x => x = 3) e t c m (f7_resume fu c) (f8_resume fu m) := by
  have hm := h.m (v := 0)
  have h802 := h.1.2.2.2.2.2.1.2.2
  cases h9 : gb c 709 0 with
  | false =>
    refine OKF.er (x := 3) (z := 0) h ?_ ?_ rfl
    · unfold f7_resume
      rw [h9, if_neg (by simp)]
    · unfold f8_resume f8_resume_j13
      rw [h802, h9, if_neg (by simp), b2i_t, g800, if_neg (by decide)]; rfl
  | true =>
    obtain ⟨c1, hc1⟩ : ∃ c1, c1 = zb c 709 0 false := ⟨_, rfl⟩
    obtain ⟨m1, hm1⟩ : ∃ m1, m1 = zi (zb (zi m 800 0 0) 802 0 false) 847 0 0 := ⟨_, rfl⟩
    have f1 : FR [709] c c1 := by rw [hc1]; exact FR.rf.zb (by decide)
    have g1 : FR [800, 802, 847] m m1 := by rw [hm1]; exact ((FR.rf.zi (by decide)).zb (by decide)).zi (by decide)
    have hi1 : INV e t c1 m1 := by
      rw [hc1, hm1]
      exact (X_inv (v := false) hm.1).fr (F := []) (G := [847]) FR.rf (FR.rf.zi (by decide)) (by simp) (by decide)
    obtain ⟨hS, hD, hB, hW, hT, hQ, hO⟩ := hi1.1
    have hlen := bl_len hB
    have h24 := hS.2.1
    have hasl1 := asl_le h24
    have n2 := f1.n (k := 2) (by decide)
    have hgl := f1.l (k := 1) (by decide)
    have h9' : gb c1 709 0 = false := by rw [hc1]; simp [gb_zb]
    have h8' : gb m1 802 0 = false := by rw [hm1]; simp [gb_zi, gb_zb]
    have hFS := h.2.1.2.2 h9
    have hB0 := h.1.1.2.2.1
    have hb8 : ∀ d' (m m' : St) v, d' < 24 → gb m 802 0 = false → f8_wake fu (nI d') m = some m' → f8_firstSlept fu m' = some v → (fun s8 : Int32 × St => f8_resume_b40 fu s8.1 s8.2) (nI d', m) = some (.inl (v, m')) := by
      intro d' m m' v y1 y2 y3 y4
      show f8_resume_b40 fu (nI d') m = _
      unfold f8_resume_b40
      rw [if_neg (nI_neg1 (by omega)), y3, ob1_k rfl, y4, ob1_k rfl]
    obtain ⟨v, e2, c2, m2, cnt, k, w0, w1, w2, w3, w4, w5, w6, f2, g2, w9, w11, w10⟩ := q_wts (fu := fu) (t := t) (b8 := fun s8 : Int32 × St => f8_resume_b40 fu s8.1 s8.2) hf hb8 (gl c1 1).length [] (gl c1 1) e c1 m1 0 fu rfl hi1 h8' (by simp) (fun y hy hy2 => by
      rw [n2] at hy
      rw [f1.b (by decide)]
      cases hz : gb c 216 y
      · rfl
      · have := ((hFS y hy).2.2 hz).1
        rw [hgl] at hy2
        exact absurd ((hB0.2.1 y).mpr ⟨hy, bd_ne.mp this⟩) hy2) (fun y hy => by
      rw [n2] at hy
      rw [f1.b (by decide), g1.b (by decide)]
      exact (hFS y hy).2.1) (fun y hy hz => by
      rw [hgl] at hy
      have hyn := ((hB0.2.1 y).mp hy).1
      rw [f1.b (by decide)] at hz
      obtain ⟨x1, x2, x3⟩ := hFS y hyn
      rw [f1.b (by decide)]
      refine ⟨x1, fun f hf3 k hk => ?_⟩
      rw [isN3_p f1 (by decide) hf3] at hk
      have hkn : k < gn c 2 := by have := (h.1.1.2.1 y hyn).2.2.2.2.1 f hf3 k hk; omega
      have hk216 := (x3 hz).2 f hf3 k hk
      rw [f1.b (f := 216) (by decide), hgl]
      exact Or.inr ⟨hk216, (hB0.2.1 k).mpr ⟨hkn, bd_ne.mp ((hFS k hkn).2.2 hk216).1⟩⟩) (by omega) (by omega)
    have hcnt := w9 (by rw [hm1]; simp [gi_zi])
    have hasl2 : e2 ≤ e + 24 := by omega
    -- the lines
    obtain ⟨c3, m3, ⟨e3, y1, y2, y3, f3, g3, y6⟩, r7, r8⟩ := up2 (bC := fun s8 : Int32 × St => f7_resume_b30 fu cnt s8.1 s8.2) (bM := fun s8 : Int32 × St => f8_resume_b65 fu (gi m2 847 0) s8.1 s8.2) (fun i a => (nI i, a)) (fun i a => (nI i, a))
      (fun i a b => ∃ e', INV e' t a b ∧ e2 ≤ e' ∧ e' + asl a = e2 + asl c2 ∧ FR KF7 c2 a ∧ FR KF8 m2 b ∧ ∀ j, gb m2 822 j = false → gb b 822 j = false) 8
      (fun i a b hi hr => by
        obtain ⟨e', y1, y2, y3, f3, g3, y6⟩ := hr
        obtain ⟨s, hs, s7, s8⟩ := y1.2.2.2.2.2.1.1 i hi
        have c7 : f7_resume_b30 fu cnt (nI i) a = if 3 ≤ s then some (.inl (nI (i + 1), a)) else ob2 (f7_ask fu (nI i) a) fun v15 σ16 => some (.inl (nI (i + 1), σ16)) := by
          unfold f7_resume_b30 f7_resume_j50
          rw [if_neg (by rw [show (8 : Int32) = nI 8 from rfl, nI_leN (by omega) (by omega)]; omega), xb1_o (q_isShut hi hs s7), nI_s]
          by_cases h3 : 3 ≤ s
          · simp [h3]
          · simp [h3]
        have c8 : f8_resume_b65 fu (gi m2 847 0) (nI i) b = if 3 ≤ s then some (.inl (nI (i + 1), b)) else ob2 (f8_ask fu (nI i) b) fun v15 σ16 => some (.inl (nI (i + 1), σ16)) := by
          unfold f8_resume_b65 f8_resume_j90
          rw [if_neg (by rw [show (8 : Int32) = nI 8 from rfl, nI_leN (by omega) (by omega)]; omega), ar_k _ hi (by omega), s8, nI_s]
          by_cases h3 : 3 ≤ s
          · rw [if_pos (by rw [show (3 : Int32) = nI 3 from rfl, nI_leN (by omega) (by omega)]; exact h3), if_pos h3]
          · rw [if_neg (by rw [show (3 : Int32) = nI 3 from rfl, nI_leN (by omega) (by omega)]; exact h3), if_neg h3]
        by_cases h3 : 3 ≤ s
        · rw [if_pos h3] at c7 c8
          exact ⟨a, b, c7, c8, e', y1, y2, y3, f3, g3, y6⟩
        · rw [if_neg h3] at c7 c8
          have hasl3 := asl_le y1.1.1.2.1
          have hasl4 := asl_le w4.1.1.2.1
          obtain ⟨e'', a', b', cnt', z1, z2, z3, z4, z5, z6, z7, z8⟩ := q_ask (fu := fu) (ln := nI i) y1 (by omega) hf
          rw [z1, ob2_k rfl] at c7
          rw [z2, ob2_k rfl] at c8
          exact ⟨a', b', c7, c8, e'', z3, by omega, by omega, f3.tr z6, g3.tr z7, fun j hj => z8 j (y6 j hj)⟩)
      (a := c2) (b := m2) ⟨e2, w4, Nat.le_refl _, rfl, FR.rf, FR.rf, fun _ h => h⟩
    have hasl4 := asl_le w4.1.1.2.1
    have F3 : FR [212, 213, 214, 215, 216, 400, 401, 402, 709] c c3 := ((f1.mono (by decide)).tr (f2.mono (by decide))).tr (f3.mono (by decide))
    have F23 : FR [212, 213, 214, 215, 216, 400, 401, 402] c1 c3 := (f2.mono (by decide)).tr (f3.mono (by decide))
    have h93 : gb c3 709 0 = false := by rw [F23.b (by decide)]; exact h9'
    have hX3 : FSX c3 m3 := ⟨fun y hy hy2 => y6 y (w11 y (by rw [g1.b (by decide)]; exact h.2.1.1 y (by rw [← n2, ← F23.n (k := 2) (by decide)]; exact hy) hy2)), fun _ y hy => by
      have hy2 : y < gn c1 2 := by rw [F23.n (k := 2) (by decide)] at hy; exact hy
      have := w10 y hy2
      exact ⟨by rw [f3.b (by decide)]; exact this.1, y6 y this.2⟩, fun z => by rw [h93] at z; cases z⟩
    obtain ⟨e4, c4, m4, x1, x2, x3, x4, x5, x6, x7, -, -⟩ := q_bindF (fu := fu) y1 hX3 (h.2.2.2.1.fr F3 (by decide)) (h.2.2.2.2.1.fr F3 (by decide)) (h.2.2.2.2.2.1.fr F3 (by decide)) (h.2.2.2.2.2.2.fr F3 (by decide) fun d hb => by rw [bd_fr F3 (by decide)]; exact hb) (by omega) hf
    have hend8 : lp (fun s8 : Int32 × St => f8_resume_b65 fu (gi m2 847 0) s8.1 s8.2) fu (0, m2) = some (gi m2 847 0, m4) := by
      refine r8.fin ?_ (by omega)
      show f8_resume_b65 fu (gi m2 847 0) (nI 8) m3 = _
      unfold f8_resume_b65
      rw [if_pos (by decide), x2, ob1_k rfl]
      rfl
    refine ⟨.ok cnt, c4, gi m2 847 0, m4, e4, t, ?_, ?_, fun x hx => (by cases hx), (F3.mono (by decide)).tr (x6.mono (by decide)), (((g1.mono (by decide)).tr (g2.mono (by decide))).tr (g3.mono (by decide))).tr (x7.mono (by decide)), x3, by omega, by omega, Nat.le_refl _, by omega, ?_, fun v hv => by cases hv; exact hcnt.symm⟩
    · unfold f7_resume
      have hw : f7_wakeTheSuspended fu (zb c 709 0 false) = some (cnt, c2) := by rw [← hc1]; exact w2
      rw [h9, if_pos rfl, hw, ob2_k rfl]
      refine r7.fin ?_ (by omega)
      show f7_resume_b30 fu cnt (nI 8) c3 = _
      unfold f7_resume_b30
      rw [if_pos (by decide), x1, ob1_k rfl]
      rfl
    · unfold f8_resume f8_resume_j13
      rw [h802, h9, if_pos rfl, b2i_f, g800, if_pos rfl, ← hm1, w1, ob1_k rfl]
      refine w3.fin ?_ (by omega)
      show f8_resume_b40 fu (-1) m2 = _
      unfold f8_resume_b40
      rw [if_pos rfl, hend8]
      rfl
    · rw [x7.i (by decide), g3.i (by decide), g2.i (by decide), hm1]
      simp [gi_zi, gi_zb]
      rfl
theorem L_inv {e t l s : Nat} {c m : St} (h : INV e t c m) (hl : l < 8) (hs : s ≤ 3) : INV e t (zi c 706 l (nI s)) (zi m 838 l (nI s)) := by
  obtain ⟨hQ, hA, hP, hH, hSl, hX, hL⟩ := h
  have f : FR [706] c (zi c 706 l (nI s)) := FR.rf.zi (by decide)
  have g : FR [838] m (zi m 838 l (nI s)) := FR.rf.zi (by decide)
  refine ⟨hQ.fr f g (by decide) (by decide) (Nat.le_refl _), hA.fr f g (by decide) (by decide), hP.fr f g (by decide) (by decide), hH.fr f g (by decide) (by decide) (Nat.le_refl _), hSl.fr f g (by decide) (by decide), ⟨fun j hj => ?_, by rw [f.i (by decide), g.i (by decide)]; exact hX.2.1, by rw [f.b (by decide), g.b (by decide)]; exact hX.2.2⟩, hL.fr f g (by decide) (by decide)⟩
  simp only [gi_zi]
  by_cases hjl : j = l
  · exact ⟨s, hs, by simp [hjl], by simp [hjl]⟩
  · obtain ⟨s', x1, x2, x3⟩ := hX.1 j hj
    exact ⟨s', x1, by simp [hjl, x2], by simp [hjl, x3]⟩
theorem N_inv {e t : Nat} {k s : Int32} {c m : St} (h : INV e t c m) : INV (e + 1) t (nt7 e k s c) (nt8 e k s m) := by
  obtain ⟨hQ, hA, hP, hH, hSl, hX, hL⟩ := h
  have f : FR [400, 401, 402] c (nt7 e k s c) := FR.nt7 FR.rf (by decide)
  have g : FR [842, 843, 844] m (nt8 e k s m) := FR.nt8 FR.rf (by decide)
  exact ⟨hQ.fr f g (by decide) (by decide) (by omega), hA.fr f g (by decide) (by decide), hP.fr f g (by decide) (by decide), hH.fr f g (by decide) (by decide) (by omega), hSl.fr f g (by decide) (by decide), hX.fr f g (by decide) (by decide), RLg.nt hL⟩
theorem F_openLine {fu e t : Nat} {c m : St} (a : Int32) (h : INVF e t c m) (he : e + 1500 < 2 ^ 31) (hf : 200 ≤ fu) : OKF w1 (fun x => x = 1) e t c m (f7_openLine fu a c) (f8_openLine fu a m) := by
  have hm := h.m (v := 0)
  rcases rng (n := 8) (by omega) a with ⟨l, hl, rfl⟩ | ha
  · obtain ⟨m1, hm1⟩ : ∃ m1, m1 = zi m 800 0 0 := ⟨_, rfl⟩
    have g1 : FR [800] m m1 := by rw [hm1]; exact frt8
    rw [← hm1] at hm
    have hi2 := L_inv (s := 0) hm.1 hl (by omega)
    have f2 : FR [706] c (zi c 706 l 0) := FR.rf.zi (by decide)
    have g2 : FR [838] m1 (zi m1 838 l 0) := FR.rf.zi (by decide)
    have hF2 := hm.nb hi2 f2 g2 (by decide) (by decide)
    have h802 : gb (zi m1 838 l 0) 802 0 = gb c 709 0 := by rw [g2.b (by decide)]; exact hm.1.2.2.2.2.2.1.2.2
    have h709 : gb (zi c 706 l 0) 709 0 = gb c 709 0 := f2.b (by decide) 0
    cases h9 : gb c 709 0 with
    | true =>
      refine ⟨.ok 0, _, 0, _, e, t, ?_, ?_, fun x hx => (by cases hx), f2.mono (by decide), (g1.mono (by decide)).tr (g2.mono (by decide)), hF2, Nat.le_refl _, by omega, Nat.le_refl _, by omega, ?_, fun v hv => by cases hv; rfl⟩
      · unfold f7_openLine
        rw [xb1_o (cl_7 hl), ar_k _ hl (by omega), h709, h9, if_pos rfl]
      · unfold f8_openLine f8_openLine_j16 f8_openLine_j51
        rw [ln_8 hl, ob1_k rfl, if_pos rfl, b2i_f, g800, if_pos rfl, ← hm1, ar_k _ hl (by omega), h802, h9, if_pos rfl]
        have := hF2.set0 (fu := fu) hf
        rw [show zi m1 838 l (nI 0) = zi m1 838 l 0 from rfl] at this
        rw [this, ob1_k rfl]
      · exact (g2.i (f := 800) (by decide) 0).trans (by rw [hm1, g800]; rfl)
    | false =>
      obtain ⟨e3, c3, m3, cnt, z1, z2, z3, z4, z5, f3, g3, z8⟩ := q_ask (fu := fu) (ln := nI l) hi2 (by omega) hf
      have hasl := asl_le hi2.1.1.2.1
      have hF3 := hF2.nw z3 f3 (by decide) (by rw [show gb (zi c 706 l (nI 0)) 709 0 = gb c 709 0 from h709]; exact h9) z8
      refine ⟨.ok cnt, c3, cnt, m3, e3, t, ?_, ?_, fun x hx => (by cases hx), (f2.mono (by decide)).tr (f3.mono (by decide)), ((g1.mono (by decide)).tr (g2.mono (by decide))).tr (g3.mono (by decide)), hF3, z4, by omega, Nat.le_refl _, by omega, ?_, fun v hv => by cases hv; rfl⟩
      · unfold f7_openLine
        rw [xb1_o (cl_7 hl), ar_k _ hl (by omega), h709, h9, if_neg (by simp), show f7_ask fu (nI l) (zi c 706 l 0) = some (cnt, c3) from z1, ob2_k rfl]
      · unfold f8_openLine f8_openLine_j16 f8_openLine_j51
        rw [ln_8 hl, ob1_k rfl, if_pos rfl, b2i_f, g800, if_pos rfl, ← hm1, ar_k _ hl (by omega), h802, h9, if_neg (by simp), show f8_ask fu (nI l) (zi m1 838 l 0) = some (cnt, m3) from z2, ob2_k rfl, hF3.set0 hf, ob1_k rfl]
      · rw [g3.i (by decide)]
        exact (g2.i (f := 800) (by decide) 0).trans (by rw [hm1, g800]; rfl)
  · refine OKF.er (x := 1) (z := 0) h ?_ ?_ rfl
    · unfold f7_openLine
      rw [xb1_e (cl_7e ha)]
    · unfold f8_openLine f8_openLine_j16
      rw [ln_8e ha, ob1_k rfl, if_neg (by simp), b2i_t, g800, if_neg (by decide)]
      rfl
theorem F_raise {fu e t : Nat} {c m : St} (a : Int32) (h : INVF e t c m) (he : e + 1500 < 2 ^ 31) (hf : 200 ≤ fu) : OKF w13 E13 e t c m (f7_raise fu a c) (f8_raise fu a m) := by
  have hm := h.m (v := 0)
  obtain ⟨hS, hD, hB, hW, hT, hQ, hO⟩ := h.1.1
  have h24 := hS.2.1
  rcases rng (n := gn c 2) (by omega) a with ⟨d, hd, rfl⟩ | ha
  · have q811 := (hQ.2.2.1 d hd).2.2.2.2.2.2.2.1
    have q807 := (hQ.2.2.1 d hd).2.2.1
    cases hth : (gb c 208 d && !decide (gi c 203 d = -1)) with
    | false =>
      refine OKF.er (x := 3) (z := 0) h ?_ ?_ (Or.inr rfl)
      · unfold f7_raise
        rw [xb1_o (kn_7 hS hd), dr_k hd]
        cases h8 : gb c 208 d
        · rw [if_neg (by simp)]
        · rw [h8, Bool.true_and, Bool.not_eq_false', decide_eq_true_eq] at hth
          rw [if_pos rfl, if_pos hth]
      · unfold f8_raise f8_raise_j37
        rw [dv_8 hS hQ hd, ob1_k rfl, if_pos rfl, ar_k _ (by omega) (by omega), q811]
        cases h8 : gb c 208 d
        · rw [if_neg (by simp), g800, if_neg (by decide)]; rfl
        · rw [h8, Bool.true_and, Bool.not_eq_false', decide_eq_true_eq] at hth
          rw [if_pos rfl, ar_k _ (by omega) (by omega), q807, if_pos hth, g800, if_neg (by decide)]; rfl
    | true =>
      rw [Bool.and_eq_true, Bool.not_eq_true', decide_eq_false_iff_not] at hth
      obtain ⟨h8, hln⟩ := hth
      obtain ⟨l, hl, hle⟩ := (hD d hd).2.2.2.1.resolve_left hln
      obtain ⟨m1, hm1⟩ : ∃ m1, m1 = zi m 800 0 0 := ⟨_, rfl⟩
      have g1 : FR [800] m m1 := by rw [hm1]; exact frt8
      rw [← hm1] at hm
      have hi2 := P_inv (d := d) (v := true) hm.1 hd
      obtain ⟨c2, hc2⟩ : ∃ c2, c2 = zb c 215 d true := ⟨_, rfl⟩
      obtain ⟨m2, hm2⟩ : ∃ m2, m2 = zb m1 817 d true := ⟨_, rfl⟩
      rw [← hc2, ← hm2] at hi2
      have f2 : FR [215] c c2 := by rw [hc2]; exact FR.rf.zb (by decide)
      have g2 : FR [817] m1 m2 := by rw [hm2]; exact FR.rf.zb (by decide)
      have hF2 := hm.nb hi2 f2 g2 (by decide) (by decide)
      have h802 : gb m2 802 0 = gb c 709 0 := by rw [g2.b (by decide)]; exact hm.1.2.2.2.2.2.1.2.2
      have h709 : gb c2 709 0 = gb c 709 0 := f2.b (by decide) 0
      have h203 : gi c2 203 d = nI l := by rw [f2.i (by decide)]; exact hle
      have h807 : gi m1 807 d = nI l := by rw [g1.i (by decide), q807]; exact hle
      obtain ⟨s, hs, s7, s8⟩ := hi2.2.2.2.2.2.1.1 l hl
      have c7 : f7_raise fu (nI d) c = if gb c 709 0 = true then some (.ok 0, c2) else if 3 ≤ s then some (.ok 0, c2) else ob2 (f7_ask fu (nI l) c2) fun v18 σ19 => ck (decide (d < gn σ19 2)) (if v18 ≤ 0 then f7_raise_j80 fu v18 (gi σ19 203 d) false σ19 else f7_raise_j80 fu v18 (gi σ19 203 d) true σ19) := by
        unfold f7_raise
        rw [xb1_o (kn_7 hS hd), dr_k hd, h8, if_pos rfl, if_neg hln, ← hc2, h709]
        cases gb c 709 0
        · rw [if_neg (by simp), if_neg (by simp), h203, xb1_o (q_isShut hl hs s7)]
          by_cases h3 : 3 ≤ s
          · simp [h3]
          · simp [h3]
        · rw [if_pos rfl, if_pos rfl]
      have c8 : f8_raise fu (nI d) m = if gb c 709 0 = true then f8_raise_j126 fu 0 m2 else if 3 ≤ s then f8_raise_j126 fu 0 m2 else ob2 (f8_ask fu (nI l) m2) fun v20 σ21 => if v20 ≤ 0 then (ar 8 (nI l) fun j24 => f8_raise_j109 fu (nI l) v20 (nI l) ((gi σ21 838 j24) + 1) σ21) else f8_raise_j109 fu (nI l) v20 (nI l) 0 σ21 := by
        unfold f8_raise f8_raise_j37
        rw [dv_8 hS hQ hd, ob1_k rfl, if_pos rfl, ar_k _ (by omega) (by omega), q811, h8, if_pos rfl, ar_k _ (by omega) (by omega), q807, if_neg hln, g800, if_pos rfl, ← hm1, ar_k _ (by omega) (by omega), ar_k _ (by omega) (by omega), ← hm2, h802]
        cases gb c 709 0
        · rw [if_neg (by simp), if_neg (by simp), h807, ar_k _ hl (by omega), s8]
          by_cases h3 : 3 ≤ s
          · rw [if_pos (by rw [show (3 : Int32) = nI 3 from rfl, nI_leN (by omega) (by omega)]; exact h3), if_pos h3]
          · rw [if_neg (by rw [show (3 : Int32) = nI 3 from rfl, nI_leN (by omega) (by omega)]; exact h3), if_neg h3]
        · rw [if_pos rfl, if_pos rfl]
      have h800 : gi m2 800 0 = 0 := by rw [g2.i (by decide), hm1, g800]
      have hz0 : (if gb c 709 0 = true then True else 3 ≤ s) → OKF w13 E13 e t c m (f7_raise fu (nI d) c) (f8_raise fu (nI d) m) := by
        intro hor
        have e7 : f7_raise fu (nI d) c = some (.ok 0, c2) := by
          rw [c7]
          by_cases h9 : gb c 709 0 = true
          · rw [if_pos h9]
          · rw [if_neg h9] at hor ⊢
            rw [if_pos hor]
        have e8 : f8_raise fu (nI d) m = some (0, m2) := by
          rw [c8]
          unfold f8_raise_j126
          rw [hF2.set0 hf, ob1_k rfl]
          by_cases h9 : gb c 709 0 = true
          · rw [if_pos h9]
          · rw [if_neg h9] at hor ⊢
            rw [if_pos hor]
        exact ⟨.ok 0, c2, 0, m2, e, t, e7, e8, fun x hx => (by cases hx), f2.mono (by decide), (g1.mono (by decide)).tr (g2.mono (by decide)), hF2, Nat.le_refl _, by omega, Nat.le_refl _, by omega, h800, fun v hv => by cases hv; rfl⟩
      cases h9 : gb c 709 0 with
      | true => exact hz0 (by rw [h9, if_pos rfl]; trivial)
      | false =>
        by_cases h3 : 3 ≤ s
        · exact hz0 (by rw [h9, if_neg (by simp)]; exact h3)
        · rw [h9, if_neg (by simp), if_neg h3] at c7 c8
          obtain ⟨e3, c3, m3, cnt, z1, z2, z3, z4, z5, f3, g3, z8⟩ := q_ask (fu := fu) (ln := nI l) hi2 (by omega) hf
          have hasl := asl_le hi2.1.1.2.1
          have hF3 := hF2.nw z3 f3 (by decide) (by rw [h709]; exact h9) z8
          have h93 : gb c3 709 0 = false := by rw [f3.b (by decide), h709]; exact h9
          have h203' : gi c3 203 d = nI l := by rw [f3.i (by decide)]; exact h203
          have hd3 : d < gn c3 2 := by rw [f3.n (k := 2) (by decide), f2.n (k := 2) (by decide)]; exact hd
          have s73 : gi c3 706 l = nI s := by rw [f3.i (by decide)]; exact s7
          have s83 : gi m3 838 l = nI s := by rw [g3.i (by decide)]; exact s8
          have F3 : FR [212, 213, 214, 215, 400, 401, 402] c c3 := (f2.mono (by decide)).tr (f3.mono (by decide))
          have G3 : FR [800, 813, 815, 817, 821, 822, 842, 843, 844, 845, 846, 847] m m3 := ((g1.mono (by decide)).tr (g2.mono (by decide))).tr (g3.mono (by decide))
          rw [z1, ob2_k rfl, ckd hd3, h203'] at c7
          rw [z2, ob2_k rfl] at c8
          have h8003 : gi m3 800 0 = 0 := by rw [g3.i (by decide)]; exact h800
          by_cases hcnt : cnt ≤ 0
          · rw [if_pos hcnt] at c7 c8
            rw [ar_k _ hl (by omega), s83, nI_s] at c8
            have hi4 := L_inv (s := s + 1) z3 hl (by omega)
            have f4 : FR [706] c3 (zi c3 706 l (nI (s + 1))) := FR.rf.zi (by decide)
            have g4 : FR [838] m3 (zi m3 838 l (nI (s + 1))) := FR.rf.zi (by decide)
            have hF4 := hF3.nb hi4 f4 g4 (by decide) (by decide)
            by_cases h2 : s + 1 = 3
            · have hi5 := N_inv (k := 5) (s := nI l) hi4
              have f5 : FR [400, 401, 402] (zi c3 706 l (nI (s + 1))) (nt7 e3 5 (nI l) (zi c3 706 l (nI (s + 1)))) := FR.nt7 FR.rf (by decide)
              have g5 : FR [842, 843, 844] (zi m3 838 l (nI (s + 1))) (nt8 e3 5 (nI l) (zi m3 838 l (nI (s + 1)))) := FR.nt8 FR.rf (by decide)
              have hF5 := hF4.nb hi5 f5 g5 (by decide) (by decide)
              refine ⟨.ok cnt, _, cnt, _, e3 + 1, t, ?_, ?_, fun x hx => (by cases hx), ((F3.mono (by decide)).tr (f4.mono (by decide))).tr (f5.mono (by decide)), ((G3.mono (by decide)).tr (g4.mono (by decide))).tr (g5.mono (by decide)), hF5, by omega, by omega, Nat.le_refl _, by omega, ?_, fun v hv => by cases hv; rfl⟩
              · rw [c7]
                unfold f7_raise_j80 f7_countStrike
                rw [xb1_o (cl_7 hl), if_neg (by simp), ar_k _ hl (by omega), ar_k _ hl (by omega), s73, nI_s, xb1_o (q_isShut (s := s + 1) hl (by omega) (by simp [gi_zi])), if_pos (by rw [h2]; decide), q_note (e := e3) (by rw [f4.i (by decide)]; exact z3.2.2.2.2.2.2.1) (by omega), ob1_k rfl]
                rfl
              · rw [c8]
                unfold f8_raise_j109 f8_raise_j126
                rw [ar_k _ hl (by omega), ar_k _ hl (by omega), show gi (zi m3 838 l (nI (s + 1))) 838 l = nI (s + 1) by simp [gi_zi], if_pos (by rw [h2]; rfl), q_event (e := e3) (by rw [g4.i (by decide)]; exact z3.2.2.2.2.2.2.2.1) (by omega), ob1_k rfl, hF5.set0 hf, ob1_k rfl]
              · rw [g5.i (by decide), g4.i (by decide), h8003]; rfl
            · refine ⟨.ok cnt, _, cnt, _, e3, t, ?_, ?_, fun x hx => (by cases hx), (F3.mono (by decide)).tr (f4.mono (by decide)), (G3.mono (by decide)).tr (g4.mono (by decide)), hF4, by omega, by omega, Nat.le_refl _, by omega, ?_, fun v hv => by cases hv; rfl⟩
              · rw [c7]
                unfold f7_raise_j80 f7_countStrike
                rw [xb1_o (cl_7 hl), if_neg (by simp), ar_k _ hl (by omega), ar_k _ hl (by omega), s73, nI_s, xb1_o (q_isShut (s := s + 1) hl (by omega) (by simp [gi_zi])), if_neg (by rw [decide_eq_true_eq]; omega)]
                rfl
              · rw [c8]
                unfold f8_raise_j109 f8_raise_j126
                rw [ar_k _ hl (by omega), ar_k _ hl (by omega), show gi (zi m3 838 l (nI (s + 1))) 838 l = nI (s + 1) by simp [gi_zi], if_neg (show ¬ nI (s + 1) = 3 from fun z => h2 ((nI_inj (by omega) (by omega)).mp (show nI (s + 1) = nI 3 from z))), hF4.set0 hf, ob1_k rfl]
              · rw [g4.i (by decide), h8003]; rfl
          · rw [if_neg hcnt] at c7 c8
            have hi4 := L_inv (s := 0) z3 hl (by omega)
            have f4 : FR [706] c3 (zi c3 706 l (nI 0)) := FR.rf.zi (by decide)
            have g4 : FR [838] m3 (zi m3 838 l (nI 0)) := FR.rf.zi (by decide)
            have hF4 := hF3.nb hi4 f4 g4 (by decide) (by decide)
            refine ⟨.ok cnt, _, cnt, _, e3, t, ?_, ?_, fun x hx => (by cases hx), (F3.mono (by decide)).tr (f4.mono (by decide)), (G3.mono (by decide)).tr (g4.mono (by decide)), hF4, by omega, by omega, Nat.le_refl _, by omega, ?_, fun v hv => by cases hv; rfl⟩
            · rw [c7]
              unfold f7_raise_j80 f7_countStrike
              rw [xb1_o (cl_7 hl), if_pos rfl, ar_k _ hl (by omega)]
              rfl
            · rw [c8]
              unfold f8_raise_j109 f8_raise_j126
              rw [ar_k _ hl (by omega), ar_k _ hl (by omega), show gi (zi m3 838 l 0) 838 l = 0 by simp [gi_zi], if_neg (by decide), show zi m3 838 l 0 = zi m3 838 l (nI 0) from rfl, hF4.set0 hf, ob1_k rfl]
            · rw [g4.i (by decide), h8003]; rfl
  · refine OKF.er (x := 1) (z := 0) h ?_ ?_ (Or.inl rfl)
    · unfold f7_raise
      rw [xb1_e (kn_7e hS ha)]
    · unfold f8_raise f8_raise_j37
      rw [dv_8e hS hQ ha, ob1_k rfl, if_neg (by simp), g800, if_neg (by decide)]
      rfl
