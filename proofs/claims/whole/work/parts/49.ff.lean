/-! the methods that change the world, on -/
def NBl : List Nat := [201, 202, 203, 204, 205, 206, 207, 208, 209, 210, 211, 216, 217, 300, 301, 302, 303, 305, 500, 502, 709, 2002, 2003, 2005]
theorem INVF.nw {F : List Nat} {e t e' t' : Nat} {c m c' m' : St} (h : INVF e t c m) (hI : INV e' t' c' m') (hf : FR F c c') (hd : ∀ x ∈ NBl, x ∉ F) (h9 : gb c 709 0 = false) (h8 : ∀ j, gb m 822 j = false → gb m' 822 j = false) : INVF e' t' c' m' := by
  refine ⟨hI, ⟨fun y hy hy2 => h8 y (h.2.1.1 y (by rw [← hf.n (k := 2) (hd 2002 (by decide))]; exact hy) hy2), fun _ y hy => ?_, fun z => ?_⟩, h.2.2.1.fr hf (fun x hx => hd x (by revert x; decide)), h.2.2.2.1.fr hf (fun x hx => hd x (by revert x; decide)), h.2.2.2.2.1.fr hf (fun x hx => hd x (by revert x; decide)), h.2.2.2.2.2.1.fr hf (fun x hx => hd x (by revert x; decide)), h.2.2.2.2.2.2.fr hf (fun x hx => hd x (by revert x; decide)) fun d hb => by rw [bd_fr hf (hd 210 (by decide))]; exact hb⟩
  · rw [hf.n (k := 2) (hd 2002 (by decide))] at hy
    have := h.2.1.2.1 h9 y hy
    exact ⟨by rw [hf.b (hd 216 (by decide))]; exact this.1, h8 y this.2⟩
  · rw [hf.b (hd 709 (by decide)), h9] at z
    cases z
theorem INVF.nb {F G : List Nat} {e t e' t' : Nat} {c m c' m' : St} (h : INVF e t c m) (hI : INV e' t' c' m') (hf : FR F c c') (hg : FR G m m') (hd : ∀ x ∈ 212 :: NBl, x ∉ F) (hm : 822 ∉ G) : INVF e' t' c' m' :=
  ⟨hI, h.2.1.fr hf hg (fun x hx => hd x (by revert x; decide)) hm, h.2.2.1.fr hf (fun x hx => hd x (by revert x; decide)), h.2.2.2.1.fr hf (fun x hx => hd x (by revert x; decide)), h.2.2.2.2.1.fr hf (fun x hx => hd x (by revert x; decide)), h.2.2.2.2.2.1.fr hf (fun x hx => hd x (by revert x; decide)), h.2.2.2.2.2.2.fr hf (fun x hx => hd x (by revert x; decide)) fun d hb => by rw [bd_fr hf (hd 210 (by decide))]; exact hb⟩
theorem INVF.set0 {fu e t : Nat} {c m : St} (h : INVF e t c m) (hf : 200 ≤ fu) : f8_settle fu m = some m := q_set0 h.1 h.2.2.1 hf
theorem R_inv {e t d : Nat} {v : Int32} {c m : St} (h : INV e t c m) : INV e t (zi c 213 d v) (zi (zi m 815 d v) 816 d v) := by
  obtain ⟨hQ, ⟨hA, hR, hT7, hT8, hT9⟩, hP, hH, hSl, hX, hL⟩ := h
  have f : FR [213] c (zi c 213 d v) := FR.rf.zi (by decide)
  have g : FR [815, 816] m (zi (zi m 815 d v) 816 d v) := (FR.rf.zi (by decide)).zi (by decide)
  refine ⟨hQ.fr f g (by decide) (by decide) (Nat.le_refl _), ⟨hA.fr f (by decide), fun j hj => ?_, by rw [f.i (by decide)]; exact hT7, by rw [g.i (by decide)]; exact hT8, fun j h1 h2 => by rw [g.b (by decide)]; exact hT9 j h1 h2⟩, hP.fr f g (by decide) (by decide), hH.fr f g (by decide) (by decide) (Nat.le_refl _), hSl.fr f g (by decide) (by decide), hX.fr f g (by decide) (by decide), hL.fr f g (by decide) (by decide)⟩
  have h1 := hR j hj
  rw [g.b (by decide), f.b (by decide), bd_fr f (by decide), g.i (f := 821) (by decide), f.i (f := 214) (by decide)]
  simp only [gi_zi]
  by_cases hjd : j = d
  · simp [hjd]
    subst hjd
    exact ⟨h1.1, h1.2.2.2⟩
  · simp [hjd]
    exact h1
theorem R2_inv {e t d : Nat} {v : Int32} {c m : St} (h : INV e t c m) (ha : gb c 212 d = true) : INV e t (zi c 213 d v) (zi m 815 d v) := by
  obtain ⟨hQ, ⟨hA, hR, hT7, hT8, hT9⟩, hP, hH, hSl, hX, hL⟩ := h
  have f : FR [213] c (zi c 213 d v) := FR.rf.zi (by decide)
  have g : FR [815] m (zi m 815 d v) := FR.rf.zi (by decide)
  refine ⟨hQ.fr f g (by decide) (by decide) (Nat.le_refl _), ⟨hA.fr f (by decide), fun j hj => ?_, by rw [f.i (by decide)]; exact hT7, by rw [g.i (by decide)]; exact hT8, fun j h1 h2 => by rw [g.b (by decide)]; exact hT9 j h1 h2⟩, hP.fr f g (by decide) (by decide), hH.fr f g (by decide) (by decide) (Nat.le_refl _), hSl.fr f g (by decide) (by decide), hX.fr f g (by decide) (by decide), hL.fr f g (by decide) (by decide)⟩
  have h1 := hR j hj
  rw [g.b (by decide), f.b (by decide), bd_fr f (by decide), g.i (f := 821) (by decide), f.i (f := 214) (by decide), g.i (f := 816) (by decide)]
  simp only [gi_zi]
  by_cases hjd : j = d
  · subst hjd
    simp
    exact ⟨h1.1, fun _ hz => (by rw [ha] at hz; cases hz), h1.2.2.2⟩
  · simp [hjd]
    exact h1
theorem AB_inv {e t d : Nat} {c m c' m' : St} (h : INV e t c m) (f1 : FR [102] c c') (f2 : FR [837] m m') (h1 : ∀ k, k < gn c 1 → gi m' 837 k = gi c' 102 k) (h2 : ∀ k, k < gn c 1 → gi c' 102 k = 0 → gi c 102 k = 0 ∧ cdv c k ≠ some d) : INV e t c' m' := by
  obtain ⟨hQ, hA, hP, hH, hSl, hX, hL⟩ := h
  exact ⟨hQ.fr f1 f2 (by decide) (by decide) (Nat.le_refl _), hA.fr f1 f2 (by decide) (by decide), hP.fr f1 f2 (by decide) (by decide), hH.ab f1 f2 h1 h2, hSl.fr f1 f2 (by decide) (by decide), hX.fr f1 f2 (by decide) (by decide), hL.fr f1 f2 (by decide) (by decide)⟩
theorem ML_inv {e t : Nat} {c m c' m' : St} (h : INV e t c m) (f1 : FR [600, 601] c c') (f2 : FR [839, 840] m m') (hs : RSl c' m') : INV e t c' m' := by
  obtain ⟨hQ, hA, hP, hH, hSl, hX, hL⟩ := h
  exact ⟨hQ.fr f1 f2 (by decide) (by decide) (Nat.le_refl _), hA.fr f1 f2 (by decide) (by decide), hP.fr f1 f2 (by decide) (by decide), hH.fr f1 f2 (by decide) (by decide) (Nat.le_refl _), hs, hX.fr f1 f2 (by decide) (by decide), hL.fr f1 f2 (by decide) (by decide)⟩
theorem F_bind {fu e t : Nat} {c m : St} (a : Int32) (h : INVF e t c m) (he : e + 1500 < 2 ^ 31) (hf : 200 ≤ fu) : OKF w13 E13 e t c m (f7_bind fu a c) (f8_bind fu a m) := by
  have hm := h.m (v := 0)
  obtain ⟨hS, hD, hB, hW, hT, hQ, hO⟩ := h.1.1
  have h24 := hS.2.1
  rcases rng (n := gn c 2) (by omega) a with ⟨d, hd, rfl⟩ | ha
  · have q818 := (hQ.2.2.1 d hd).2.2.2.2.2.2.2.2.2.2
    have q811 := (hQ.2.2.1 d hd).2.2.2.2.2.2.2.1
    cases hth : (gb c 208 d && gb c 209 d) with
    | false =>
      refine OKF.er (x := 3) (z := 0) h ?_ ?_ (Or.inr rfl)
      · unfold f7_bind
        rw [xb1_o (kn_7 hS hd), dr_k hd]
        cases h8 : gb c 208 d
        · rw [if_neg (by simp)]
        · rw [h8, Bool.true_and] at hth
          rw [if_pos rfl, hth, if_neg (by simp)]
      · unfold f8_bind f8_bind_j36
        rw [dv_8 hS hQ hd, ob1_k rfl, if_pos rfl, ar_k _ (by omega) (by omega), q818]
        cases h9 : gb c 209 d
        · rw [if_neg (by simp), g800, if_neg (by decide)]; rfl
        · rw [h9, Bool.and_true] at hth
          rw [if_pos rfl, ar_k _ (by omega) (by omega), q811, hth, if_neg (by simp), g800, if_neg (by decide)]; rfl
    | true =>
      rw [Bool.and_eq_true] at hth
      obtain ⟨h8, h9⟩ := hth
      have hbd := h.2.2.2.2.2.1 d hd h9
      obtain ⟨m1, hm1⟩ : ∃ m1, m1 = zi m 800 0 0 := ⟨_, rfl⟩
      have g1 : FR [800] m m1 := by rw [hm1]; exact frt8
      rw [← hm1] at hm
      have f2 : FR [209] c (zb c 209 d false) := FR.rf.zb (by decide)
      have g2 : FR [818] m1 (zb m1 818 d false) := FR.rf.zb (by decide)
      have hi2 := Y_inv (d := d) (v := false) hm.1 hd
      obtain ⟨iS, iD, iB, iW, iT, iQ, iO⟩ := hi2.1
      have hd2 : d < gn (zb c 209 d false) 2 := hd
      have hbd2 : bd (zb c 209 d false) d = false := by rw [bd_fr f2 (by decide)]; exact hbd
      have h82 : gb (zb c 209 d false) 208 d = true := by rw [f2.b (by decide)]; exact h8
      have hX2 : FSX (zb c 209 d false) (zb m1 818 d false) := hm.2.1.fr f2 g2 (by decide) (by decide)
      have hY2 : BH (zb c 209 d false) := fun x hx hz => by
        rw [bd_fr f2 (by decide)]
        rw [gb_zb] at hz
        by_cases hxd : x = d
        · rw [hxd]; exact hbd
        · rw [if_neg (by omega)] at hz
          exact h.2.2.2.2.2.1 x hx hz
      have hZ2 : HB (zb c 209 d false) := h.2.2.2.2.2.2.fr f2 (by decide) fun x hx => by rw [bd_fr f2 (by decide)]; exact hx
      have hoth : ∀ j, j ≠ d → REF (zb c 209 d false) j = REF c j := fun j hj => REF_fr2 f2 (by decide) j (by rw [gb_zb, if_neg (by omega)])
      have c7 : ∀ c', f7_bindWhatCanBe fu (zb c 209 d false) = some c' → gn c' 2 = gn c 2 → CS c' → CD c' → CB c' → CW c' → f7_bind fu (nI d) c = some (.ok (if bd c' d = true then 0 else nI (REF c' d)), c') := by
        intro c' x1 x2 y1 y2 y3 y4
        unfold f7_bind
        rw [xb1_o (kn_7 hS hd), dr_k hd, h8, if_pos rfl, h9, if_pos rfl, x1, ob1_k rfl, ckd (by omega), ob1_k (q_isBoundC (by omega))]
        cases bd c' d
        · rw [if_neg (by simp), ob1_k (ref_c y1 y2 y3 y4 (by omega) (by omega)), if_neg (by simp)]
        · rw [if_pos rfl, if_pos rfl]
      have c8 : ∀ m', f8_settle fu (zb m1 818 d false) = some m' → f8_bind fu (nI d) m = some (nI (REF (zb c 209 d false) d), m') := by
        intro m' x1
        unfold f8_bind f8_bind_j36
        rw [dv_8 hS hQ hd, ob1_k rfl, if_pos rfl, ar_k _ (by omega) (by omega), q818, h9, if_pos rfl, ar_k _ (by omega) (by omega), q811, h8, if_pos rfl, g800, if_pos rfl, ← hm1, ar_k _ (by omega) (by omega), ob1_k (ref_m iS iD iB iW iQ hd2 hbd2 (by omega)), x1, ob1_k rfl]
      by_cases hset : SET (zb c 209 d false)
      · have hF : INVF e t (zb c 209 d false) (zb m1 818 d false) := ⟨hi2, hX2, hset, h.2.2.2.1.fr f2 (by decide), h.2.2.2.2.1.fr f2 (by decide), hY2, hZ2⟩
        refine ⟨.ok (nI (REF (zb c 209 d false) d)), _, nI (REF (zb c 209 d false) d), _, e, t, ?_, c8 _ (hF.set0 hf), fun x hx => (by cases hx), f2.mono (by decide), (g1.mono (by decide)).tr (g2.mono (by decide)), hF, Nat.le_refl _, by omega, Nat.le_refl _, by omega, ?_, fun v hv => by cases hv; rfl⟩
        · have := c7 _ (q_set7 hi2 hset hf) rfl iS iD iB iW
          rw [hbd2, if_neg (by simp)] at this
          exact this
        · rw [g2.i (by decide), hm1, g800]; rfl
      · -- it can be bound
        have h709 : gb (zb c 209 d false) 709 0 = false := by
          cases hz : gb (zb c 209 d false) 709 0
          · rfl
          · exact absurd (fun y => by rw [hz] at y; cases y) hset
        have h709' : gb c 709 0 = false := by rw [← f2.b (by decide)]; exact h709
        have hset0 := h.2.2.1 h709'
        have hr0 : REF (zb c 209 d false) d = 0 := Classical.byContradiction fun hne => hset fun _ x hx hx8 hxb => by
          by_cases hxd : x = d
          · rw [hxd]; exact hne
          · rw [hoth x hxd]
            rw [f2.b (by decide)] at hx8
            rw [bd_fr f2 (by decide)] at hxb
            exact hset0 x hx hx8 hxb
        obtain ⟨e4, c4, m4, x1, x2, x3, x4, x5, x6, x7, x8, -⟩ := q_bindF (fu := fu) hi2 hX2 (h.2.2.2.1.fr f2 (by decide)) (h.2.2.2.2.1.fr f2 (by decide)) hY2 hZ2 (by omega) hf
        have hb4 : bd c4 d = true := x8 h709 d hd2 (by unfold cand; rw [h82, hbd2, hr0]; rfl) (fun j hj => by
          unfold cand
          cases hj8 : gb (zb c 209 d false) 208 j
          · rfl
          · cases hjb : bd (zb c 209 d false) j
            · have hjn : j < gn c 2 := by omega
              rw [f2.b (by decide)] at hj8
              rw [bd_fr f2 (by decide)] at hjb
              have := hset0 j hjn hj8 hjb
              rw [hoth j (by omega)]
              simp [this]
            · rfl)
        obtain ⟨y1, y2, y3, y4, -⟩ := x3.1.1
        have hz7 := c7 c4 x1 (by rw [x6.n (k := 2) (by decide)]; rfl) y1 y2 y3 y4
        rw [hb4, if_pos rfl] at hz7
        have hz8 := c8 m4 x2
        rw [hr0] at hz8
        refine ⟨.ok 0, c4, nI 0, m4, e4, t, hz7, hz8, fun x hx => (by cases hx), (f2.mono (by decide)).tr (x6.mono (by decide)), ((g1.mono (by decide)).tr (g2.mono (by decide))).tr (x7.mono (by decide)), x3, by omega, by omega, Nat.le_refl _, by omega, ?_, fun v hv => by cases hv; rfl⟩
        rw [x7.i (by decide), g2.i (by decide), hm1, g800]; rfl
  · refine OKF.er (x := 1) (z := 0) h ?_ ?_ (Or.inl rfl)
    · unfold f7_bind
      rw [xb1_e (kn_7e hS ha)]
    · unfold f8_bind f8_bind_j36
      rw [dv_8e hS hQ ha, ob1_k rfl, if_neg (by simp), g800, if_neg (by decide)]
      rfl
theorem F_reset {fu e t : Nat} {c m : St} (a : Int32) (h : INVF e t c m) (hf : 200 ≤ fu) : OKF w13 E13 e t c m (f7_reset fu a c) (f8_reset fu a m) := by
  have hm := h.m (v := 0)
  obtain ⟨hS, hD, hB, hW, hT, hQ, hO⟩ := h.1.1
  have h24 := hS.2.1
  have h802 := h.1.2.2.2.2.2.1.2.2
  rcases rng (n := gn c 2) (by omega) a with ⟨d, hd, rfl⟩ | ha
  · cases hth : (bd c d && !gb c 709 0) with
    | false =>
      refine OKF.er (x := 3) (z := 0) h ?_ ?_ (Or.inr rfl)
      · unfold f7_reset
        rw [xb1_o (kn_7 hS hd), dr_k hd, ob1_k (q_isBoundC hd)]
        cases h8 : bd c d
        · rw [if_neg (by simp)]
        · rw [h8, Bool.true_and, Bool.not_eq_false'] at hth
          rw [if_pos rfl, hth, if_pos rfl]
      · unfold f8_reset f8_reset_j33
        rw [dv_8 hS hQ hd, ob1_k rfl, if_pos rfl, ob1_k (bnd_8 hS hD hQ hd)]
        cases h8 : bd c d
        · rw [if_neg (by simp), g800, if_neg (by decide)]; rfl
        · rw [h8, Bool.true_and, Bool.not_eq_false'] at hth
          rw [if_pos rfl, h802, hth, if_pos rfl, g800, if_neg (by decide)]; rfl
    | true =>
      rw [Bool.and_eq_true, Bool.not_eq_true'] at hth
      obtain ⟨hbd, h9⟩ := hth
      obtain ⟨m1, hm1⟩ : ∃ m1, m1 = zi m 800 0 0 := ⟨_, rfl⟩
      have g1 : FR [800] m m1 := by rw [hm1]; exact frt8
      rw [← hm1] at hm
      obtain ⟨x, c2, m2, a1, a2, f2, g2, a5, a6⟩ := q_abort (fu := fu) hS hm.1.2.2.2.1 hd hf
      have hi2 := AB_inv hm.1 f2 g2 a5 a6
      obtain ⟨c3, m3, b1, b2, f3, g3, b5⟩ := q_maps (fu := fu) hi2.1.1 hi2.2.2.2.2.1 (show d < gn c2 2 by rw [f2.n (k := 2) (by decide)]; exact hd) hf
      have hi3 := ML_inv hi2 (f3.mono (by decide)) (g3.mono (by decide)) b5
      have hi4 := P_inv (d := d) (v := false) (R_inv (d := d) (v := 0) hi3) (show d < gn c3 2 by rw [f3.n (k := 2) (by decide), f2.n (k := 2) (by decide)]; exact hd)
      have f4 : FR [102, 213, 215, 600] c (zb (zi c3 213 d 0) 215 d false) := (((f2.mono (by decide)).tr (f3.mono (by decide))).zi (by decide)).zb (by decide)
      have g4 : FR [800, 815, 816, 817, 837, 839] m (zb (zi (zi m3 815 d 0) 816 d 0) 817 d false) := (((((g1.mono (by decide)).tr (g2.mono (by decide))).tr (g3.mono (by decide))).zi (by decide)).zi (by decide)).zb (by decide)
      have hF := h.nb hi4 f4 g4 (by decide) (by decide)
      refine ⟨.ok x, _, x, _, e, t, ?_, ?_, fun x hx => (by cases hx), f4.mono (by decide), g4.mono (by decide), hF, Nat.le_refl _, by omega, Nat.le_refl _, by omega, ?_, fun v hv => by cases hv; rfl⟩
      · unfold f7_reset
        rw [xb1_o (kn_7 hS hd), dr_k hd, ob1_k (q_isBoundC hd), hbd, if_pos rfl, h9, if_neg (by simp), a1, ob2_k rfl, b1, ob1_k rfl, ckd (by rw [f3.n (k := 2) (by decide), f2.n (k := 2) (by decide)]; exact hd)]
      · unfold f8_reset f8_reset_j33
        rw [dv_8 hS hQ hd, ob1_k rfl, if_pos rfl, ob1_k (bnd_8 hS hD hQ hd), hbd, if_pos rfl, h802, h9, if_neg (by simp), g800, if_pos rfl, ← hm1, a2, ob2_k rfl, b2, ob1_k rfl, ar_k _ (by omega) (by omega), ar_k _ (by omega) (by omega), ar_k _ (by omega) (by omega), hF.set0 hf, ob1_k rfl]
      · have e1 : gi (zb (zi (zi m3 815 d 0) 816 d 0) 817 d false) 800 0 = gi m3 800 0 := by simp [gi_zi, gi_zb]
        rw [e1, g3.i (by decide), g2.i (by decide), hm1, g800]; rfl
  · refine OKF.er (x := 1) (z := 0) h ?_ ?_ (Or.inl rfl)
    · unfold f7_reset
      rw [xb1_e (kn_7e hS ha)]
    · unfold f8_reset f8_reset_j33
      rw [dv_8e hS hQ ha, ob1_k rfl, if_neg (by simp), g800, if_neg (by decide)]
      rfl
