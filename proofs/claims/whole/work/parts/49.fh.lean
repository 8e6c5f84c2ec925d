/-! maps; ticks pass -/
theorem q_free {fu : Nat} {c : St} (hS : CS c) (hf : 200 ≤ fu) : (∃ s, s < 16 ∧ gp c 600 s = none ∧ (∀ j, j < s → gp c 600 j ≠ none) ∧ f7_lowestFreeSlot fu c = some (nI s)) ∨ ((∀ j, j < 16 → gp c 600 j ≠ none) ∧ f7_lowestFreeSlot fu c = some (-1)) := by
  have l5 := hS.2.2.2.2.2.2.2.2
  unfold f7_lowestFreeSlot
  have := lp_first (b := fun s8 => f7_lowestFreeSlot_b2 fu s8 c) nI 16 (fun s => decide (gp c 600 s = none)) (fun s => nI s) (-1) (fun i hi => ?_) ?_ (show 16 < fu by omega)
  · rcases this with ⟨s, h1, h2, h3, h4⟩ | ⟨h1, h2⟩
    · exact Or.inl ⟨s, h1, by simpa using h2, fun j hj => by simpa using h3 j hj, h4⟩
    · exact Or.inr ⟨fun j hj => by simpa using h1 j hj, h2⟩
  · show f7_lowestFreeSlot_b2 fu (nI i) c = _
    unfold f7_lowestFreeSlot_b2 lt
    rw [l5, List.length_range, if_neg (by rw [nI_leN (by omega) (by omega)]; omega), lg_r (σ := c) (k := 5) _ l5 hi (by omega) (show 16 ≤ 16 from Nat.le_refl _)]
    dsimp only
    by_cases h6 : gp c 600 i = none
    · rw [if_pos h6]
      simp [h6, oinr]
    · rw [if_neg h6]
      simp [h6, nI_s]
  · show f7_lowestFreeSlot_b2 fu (nI 16) c = _
    unfold f7_lowestFreeSlot_b2
    rw [l5, List.length_range, if_pos (by decide)]
    rfl
theorem q_map8 {fu s : Nat} {a v : Int32} {c m : St} {r : Int32 × St} (hn : gn c 2 ≤ 24) (hSl : RSl c m) (hs : s ≤ 16) (h1 : ∀ j, j < s → gp c 600 j ≠ none) (h2 : s = 16 ∨ gp c 600 s = none) (hj : f8_map_j24 fu a v (nI s) m = some r) (hf : 200 ≤ fu) : f8_map fu a v m = some r := by
  have s1 : Rn (fun s8 => f8_map_b2 fu a v s8 m) s (nI 0) (nI s) := Rn_to nI s fun i hi => by
    show f8_map_b2 fu a v (nI i) m = _
    unfold f8_map_b2
    obtain ⟨t1, t2, -⟩ := hSl i (by omega)
    rw [if_neg (by rw [show (16 : Int32) = nI 16 from rfl, nI_leN (by omega) (by omega)]; omega), ar_k _ (by omega) (by omega), t2, if_neg (fun z => h1 i hi ((enc_eqN fun k hk => by have := t1 k hk; omega).mp z)), nI_s]
  unfold f8_map
  refine s1.fin ?_ (by omega)
  show f8_map_b2 fu a v (nI s) m = _
  unfold f8_map_b2
  rw [hj]
  by_cases h16 : s = 16
  · rw [if_pos (by rw [h16]; decide)]; rfl
  · obtain ⟨t1, t2, -⟩ := hSl s (by omega)
    rw [if_neg (by rw [show (16 : Int32) = nI 16 from rfl, nI_leN (by omega) (by omega)]; omega), ar_k _ (by omega) (by omega), t2, h2.resolve_left h16, enc_none, if_pos rfl]; rfl
theorem F_map {fu e t : Nat} {c m : St} (a v : Int32) (h : INVF e t c m) (he : e < 2 ^ 31) (hf : 200 ≤ fu) : OKF w123 E123 e t c m (f7_map fu a v c) (f8_map fu a v m) := by
  have hm := h.m (v := 0)
  obtain ⟨hS, hD, hB, hW, hT, hQ, hO⟩ := h.1.1
  have hS' := hS
  obtain ⟨-, h24, -, -, l3, n40, l4, n100, -⟩ := hS'
  have hHK := h.1.2.2.2.1
  have hR := hHK.2.2.1
  have hSl := h.1.2.2.2.2.1
  have h802 := h.1.2.2.2.2.2.1.2.2
  obtain ⟨s, hs16, hs1, hs2, hs3⟩ : ∃ s, s ≤ 16 ∧ (∀ j, j < s → gp c 600 j ≠ none) ∧ (s = 16 ∨ gp c 600 s = none) ∧ f7_lowestFreeSlot fu c = some (if s = 16 then -1 else nI s) := by
    rcases q_free (fu := fu) hS hf with ⟨s, x1, x2, x3, x4⟩ | ⟨x1, x2⟩
    · exact ⟨s, by omega, x3, Or.inr x2, by rw [if_neg (by omega)]; exact x4⟩
    · exact ⟨16, Nat.le_refl _, x1, Or.inl rfl, by rw [if_pos rfl]; exact x2⟩
  rcases rng (n := gn c 5) (by omega) a with ⟨x, hx, rfl⟩ | ha
  · obtain ⟨d, hd, hk⟩ := hHK.1 x hx
    cases hin : inV v 0 31 with
    | false =>
      refine OKF.er (x := 2) (z := 0) h ?_ ?_ (Or.inr (Or.inl rfl))
      · unfold f7_map
        rw [xb1_o (kh_7 hS hx), in_7, ob1_k rfl, hin, if_neg (by simp)]
      · refine q_map8 h24 hSl hs16 hs1 hs2 ?_ hf
        unfold f8_map_j24 f8_map_j77
        rw [hh_8 hS hR hx, ob1_k rfl, if_pos rfl, in_8, ob1_k rfl, hin, if_neg (by simp), g800, if_neg (by decide)]; rfl
    | true =>
      cases hu : (((gb c 501 x && !gb c 502 x) && !gb c 709 0) && !decide (s = 16)) with
      | false =>
        refine OKF.er (x := 3) (z := 0) h ?_ ?_ (Or.inr (Or.inr rfl))
        · unfold f7_map
          rw [xb1_o (kh_7 hS hx), in_7, ob1_k rfl, hin, if_pos rfl, hs3, ob1_k rfl, q_canUse hx, ob1_k rfl]
          cases hal : ((gb c 501 x && !gb c 502 x) && !gb c 709 0)
          · rw [if_neg (by simp)]
          · rw [hal, Bool.true_and, Bool.not_eq_false', decide_eq_true_eq] at hu
            rw [if_pos rfl, if_pos hu, if_pos rfl]
        · refine q_map8 h24 hSl hs16 hs1 hs2 ?_ hf
          unfold f8_map_j24 f8_map_j77
          rw [hh_8 hS hR hx, ob1_k rfl, if_pos rfl, in_8, ob1_k rfl, hin, if_pos rfl, q_isUsable hS hR he hx hd hk, ob1_k rfl]
          cases hal : (gb c 501 x && !gb c 502 x)
          · rw [if_neg (by simp), g800, if_neg (by decide)]; rfl
          · rw [if_pos rfl, h802]
            cases h9 : gb c 709 0
            · rw [hal, h9] at hu
              have hu2 : s = 16 := by simpa using hu
              rw [if_neg (by simp), if_pos (by rw [hu2]; rfl), g800, if_neg (by decide)]; rfl
            · rw [if_pos rfl, g800, if_neg (by decide)]; rfl
      | true =>
        have hu' := hu
        rw [Bool.and_eq_true, Bool.and_eq_true, Bool.not_eq_true', Bool.not_eq_true', decide_eq_false_iff_not] at hu'
        obtain ⟨⟨hal, h9⟩, h16⟩ := hu'
        have hs : s < 16 := by omega
        obtain ⟨m1, hm1⟩ : ∃ m1, m1 = zi m 800 0 0 := ⟨_, rfl⟩
        have g1 : FR [800] m m1 := by rw [hm1]; exact frt8
        rw [← hm1] at hm
        have f2 : FR [600, 601] c (zi (zp c 600 s (some d)) 601 s v) := (FR.rf.zp (by decide)).zi (by decide)
        have g2 : FR [839, 840] m1 (zi (zi m1 839 s (nI d)) 840 s v) := (FR.rf.zi (by decide)).zi (by decide)
        have h831 : gi m1 831 x = nI d := by rw [g1.i (by decide)]; exact (hR.2.2 x d hx hk).1
        have hi2 := ML_inv hm.1 f2 g2 (fun j hj => by
          obtain ⟨t1, t2, t3⟩ := hm.1.2.2.2.2.1 j hj
          simp only [gp_zi, gp_zp, gi_zi, gi_zp, gn_zi, gn_zp]
          by_cases hjs : j = s
          · simp [hjs, enc_some]
            exact hd
          · simp [hjs]
            exact ⟨t1, t2, t3⟩)
        have hF := hm.nb hi2 f2 g2 (by decide) (by decide)
        refine ⟨.ok (nI s), _, nI s, _, e, t, ?_, ?_, fun x hx => (by cases hx), f2.mono (by decide), (g1.mono (by decide)).tr (g2.mono (by decide)), hF, Nat.le_refl _, by omega, Nat.le_refl _, by omega, ?_, fun v hv => by cases hv; rfl⟩
        · unfold f7_map lt
          rw [xb1_o (kh_7 hS hx), in_7, ob1_k rfl, hin, if_pos rfl, hs3, ob1_k rfl, q_canUse hx, ob1_k rfl, hal, h9, if_pos (by rfl), if_neg h16, if_neg (nI_neg1 (by omega)), xb1_o (ks_7 hS hs), dr_k hx, hk]
          dsimp only
          rw [dr_k hs]
        · refine q_map8 h24 hSl hs16 hs1 hs2 ?_ hf
          unfold f8_map_j24 f8_map_j77
          rw [hh_8 hS hR hx, ob1_k rfl, if_pos rfl, in_8, ob1_k rfl, hin, if_pos rfl, q_isUsable hS hR he hx hd hk, ob1_k rfl, hal, if_pos rfl, h802, h9, if_neg (by simp), if_neg (show ¬ nI s = 16 from fun z => h16 ((nI_inj (by omega) (by omega)).mp (show nI s = nI 16 from z))), g800, if_pos rfl, ← hm1, ar_k _ (by omega) (by omega), ar_k _ hs (by omega), ar_k _ hs (by omega), h831, hF.set0 hf, ob1_k rfl]
        · rw [g2.i (by decide), hm1, g800]; rfl
  · refine OKF.er (x := 1) (z := 0) h ?_ ?_ (Or.inl rfl)
    · unfold f7_map
      rw [xb1_e (kh_7e hS ha)]
    · refine q_map8 h24 hSl hs16 hs1 hs2 ?_ hf
      unfold f8_map_j24 f8_map_j77
      rw [hh_8e hS hR ha, ob1_k rfl, if_neg (by simp), g800, if_neg (by decide)]
      rfl
theorem F_unmap {fu e t : Nat} {c m : St} (a v : Int32) (h : INVF e t c m) (he : e < 2 ^ 31) (hf : 200 ≤ fu) : OKF w13 E13 e t c m (f7_unmap fu a v c) (f8_unmap fu a v m) := by
  have hm := h.m (v := 0)
  obtain ⟨hS, hD, hB, hW, hT, hQ, hO⟩ := h.1.1
  have hS' := hS
  obtain ⟨-, h24, -, -, l3, n40, l4, n100, -⟩ := hS'
  have hHK := h.1.2.2.2.1
  have hR := hHK.2.2.1
  have hSl := h.1.2.2.2.2.1
  rcases rng (n := gn c 5) (by omega) a with ⟨x, hx, rfl⟩ | ha
  · obtain ⟨d, hd, hk⟩ := hHK.1 x hx
    have h831 := (hR.2.2 x d hx hk).1
    rcases rng (n := 16) (by omega) v with ⟨s, hs, rfl⟩ | hv
    · obtain ⟨t1, t2, t3⟩ := hSl s hs
      have hcmp : gi m 839 s = gi m 831 x ↔ gp c 600 s = some d := by
        rw [t2, h831]
        exact enc_eq (q := some d) (fun k hk => by have := t1 k hk; omega) (fun k hk => by cases hk; omega)
      cases hu : ((gb c 501 x && !gb c 502 x) && decide (gp c 600 s = some d)) with
      | false =>
        refine OKF.er (x := 3) (z := 0) h ?_ ?_ (Or.inr rfl)
        · unfold f7_unmap lt
          rw [xb1_o (kh_7 hS hx), xb1_o (ks_7 hS hs), dr_k hx, ob1_k (q_alive hx)]
          cases hal : (gb c 501 x && !gb c 502 x)
          · rw [if_neg (by simp)]
          · rw [hal, Bool.true_and, decide_eq_false_iff_not] at hu
            rw [if_pos rfl, dr_k hs]
            dsimp only
            rw [hk, ckb (okr_of t1), ckb (okr_of fun j hj => by cases hj; exact hd), if_neg hu]
        · unfold f8_unmap f8_unmap_j51
          rw [hh_8 hS hR hx, ob1_k rfl, if_pos rfl, sl_8 hs, ob1_k rfl, if_pos rfl, q_isUsable hS hR he hx hd hk, ob1_k rfl]
          cases hal : (gb c 501 x && !gb c 502 x)
          · rw [if_neg (by simp), g800, if_neg (by decide)]; rfl
          · rw [hal, Bool.true_and, decide_eq_false_iff_not] at hu
            rw [if_pos rfl, ar_k _ hs (by omega), ar_k _ (by omega) (by omega), if_neg (fun z => hu (hcmp.mp z)), g800, if_neg (by decide)]; rfl
      | true =>
        rw [Bool.and_eq_true, decide_eq_true_eq] at hu
        obtain ⟨hal, hown⟩ := hu
        obtain ⟨m1, hm1⟩ : ∃ m1, m1 = zi m 800 0 0 := ⟨_, rfl⟩
        have g1 : FR [800] m m1 := by rw [hm1]; exact frt8
        rw [← hm1] at hm
        have f2 : FR [600, 601] c (zp c 600 s none) := FR.rf.zp (by decide)
        have g2 : FR [839, 840] m1 (zi m1 839 s (-1)) := FR.rf.zi (by decide)
        have hi2 := ML_inv hm.1 f2 g2 (fun j hj => by
          obtain ⟨t1, t2, t3⟩ := hm.1.2.2.2.2.1 j hj
          simp only [gp_zp, gi_zi, gi_zp, gn_zp]
          by_cases hjs : j = s
          · simp [hjs, enc_none]
            rw [← hjs]
            exact t3
          · simp [hjs]
            exact ⟨t1, t2, t3⟩)
        have hF := hm.nb hi2 f2 g2 (by decide) (by decide)
        have h840 : gi (zi m1 839 s (-1)) 840 s = gi c 601 s := by
          rw [gi_zi, if_neg (by omega), g1.i (by decide)]
          exact t3
        refine ⟨.ok (gi c 601 s), _, gi c 601 s, _, e, t, ?_, ?_, fun x hx => (by cases hx), f2.mono (by decide), (g1.mono (by decide)).tr (g2.mono (by decide)), hF, Nat.le_refl _, by omega, Nat.le_refl _, by omega, ?_, fun v hv => by cases hv; rfl⟩
        · unfold f7_unmap lt
          rw [xb1_o (kh_7 hS hx), xb1_o (ks_7 hS hs), dr_k hx, ob1_k (q_alive hx), hal, if_pos rfl, dr_k hs]
          dsimp only
          rw [hk, ckb (okr_of t1), ckb (okr_of fun j hj => by cases hj; exact hd), if_pos hown]
          rfl
        · unfold f8_unmap f8_unmap_j51
          rw [hh_8 hS hR hx, ob1_k rfl, if_pos rfl, sl_8 hs, ob1_k rfl, if_pos rfl, q_isUsable hS hR he hx hd hk, ob1_k rfl, hal, if_pos rfl, ar_k _ hs (by omega), ar_k _ (by omega) (by omega), if_pos (hcmp.mpr hown), g800, if_pos rfl, ← hm1, ar_k _ hs (by omega), hF.set0 hf, ob1_k rfl, ar_k _ hs (by omega), h840]
        · rw [g2.i (by decide), hm1, g800]; rfl
    · refine OKF.er (x := 1) (z := 0) h ?_ ?_ (Or.inl rfl)
      · unfold f7_unmap
        rw [xb1_o (kh_7 hS hx), xb1_e (ks_7e hS hv)]
      · unfold f8_unmap f8_unmap_j51
        rw [hh_8 hS hR hx, ob1_k rfl, if_pos rfl, sl_8e hv, ob1_k rfl, if_neg (by simp), g800, if_neg (by decide)]
        rfl
  · refine OKF.er (x := 1) (z := 0) h ?_ ?_ (Or.inl rfl)
    · unfold f7_unmap
      rw [xb1_e (kh_7e hS ha)]
    · unfold f8_unmap f8_unmap_j51
      rw [hh_8e hS hR ha, ob1_k rfl, if_neg (by simp), g800, if_neg (by decide)]
      rfl
theorem FA_inv {e t : Nat} {v : Int32} {c m : St} (h : INV e t c m) : INV e t (zi c 710 0 v) (zi m 841 0 v) := by
  obtain ⟨hQ, hA, hP, hH, hSl, hX, hL⟩ := h
  have f : FR [710] c (zi c 710 0 v) := FR.rf.zi (by decide)
  have g : FR [841] m (zi m 841 0 v) := FR.rf.zi (by decide)
  refine ⟨hQ.fr f g (by decide) (by decide) (Nat.le_refl _), hA.fr f g (by decide) (by decide), hP.fr f g (by decide) (by decide), hH.fr f g (by decide) (by decide) (Nat.le_refl _), hSl.fr f g (by decide) (by decide), ⟨fun l hl => ?_, by simp [gi_zi], by rw [f.b (by decide), g.b (by decide)]; exact hX.2.2⟩, hL.fr f g (by decide) (by decide)⟩
  rw [f.i (by decide), g.i (by decide)]
  exact hX.1 l hl
theorem F_access {fu e t : Nat} {c m : St} (a v : Int32) (h : INVF e t c m) (hf : 200 ≤ fu) : OKF w13 E13 e t c m (f7_access fu a v c) (f8_access fu a v m) := by
  have hm := h.m (v := 0)
  obtain ⟨hS, hD, hB, hW, hT, hQ, hO⟩ := h.1.1
  have h24 := hS.2.1
  have hSl := h.1.2.2.2.2.1
  rcases rng (n := gn c 2) (by omega) a with ⟨d, hd, rfl⟩ | ha
  · have q811 := (hQ.2.2.1 d hd).2.2.2.2.2.2.2.1
    rcases rng (n := 16) (by omega) v with ⟨s, hs, rfl⟩ | hv
    · obtain ⟨t1, t2, t3⟩ := hSl s hs
      cases hth : gb c 208 d with
      | false =>
        refine OKF.er (x := 3) (z := 0) h ?_ ?_ (Or.inr rfl)
        · unfold f7_access
          rw [xb1_o (kn_7 hS hd), xb1_o (ks_7 hS hs), dr_k hd, hth, if_neg (by simp)]
        · unfold f8_access f8_access_j37
          rw [dv_8 hS hQ hd, ob1_k rfl, if_pos rfl, sl_8 hs, ob1_k rfl, if_pos rfl, ar_k _ (by omega) (by omega), q811, hth, if_neg (by simp), g800, if_neg (by decide)]; rfl
      | true =>
        obtain ⟨m1, hm1⟩ : ∃ m1, m1 = zi m 800 0 0 := ⟨_, rfl⟩
        have g1 : FR [800] m m1 := by rw [hm1]; exact frt8
        rw [← hm1] at hm
        have h813 : gb m1 813 d = gb c 212 d := (hm.1.2.1.2.1 d hd).1
        have h841 : gi m1 841 0 = gi c 710 0 := hm.1.2.2.2.2.2.1.2.1
        obtain ⟨t1', t2', t3'⟩ := hm.1.2.2.2.2.1 s hs
        have hcmp : gi m1 839 s = nI d ↔ gp c 600 s = some d := by
          rw [t2']
          exact enc_eq (q := some d) (fun k hk => by have := t1 k hk; omega) (fun k hk => by cases hk; omega)
        have c8 : f8_access fu (nI d) (nI s) m = f8_access_j73 fu (nI s) (gb c 212 d && decide (gp c 600 s = some d)) m1 := by
          unfold f8_access f8_access_j37
          rw [dv_8 hS hQ hd, ob1_k rfl, if_pos rfl, sl_8 hs, ob1_k rfl, if_pos rfl, ar_k _ (by omega) (by omega), q811, hth, if_pos rfl, g800, if_pos rfl, ← hm1, ar_k _ (by omega) (by omega), h813]
          cases gb c 212 d
          · rw [if_neg (by simp)]; rfl
          · rw [if_pos rfl, ar_k _ hs (by omega)]
            by_cases h6 : gp c 600 s = some d
            · rw [if_pos (hcmp.mpr h6)]
              simp [h6]
            · rw [if_neg (fun z => h6 (hcmp.mp z))]
              simp [h6]
        have c7 : f7_access fu (nI d) (nI s) c = if (gb c 212 d && decide (gp c 600 s = some d)) = true then some (.ok (gi c 601 s), c) else some (.ok (-1), zi c 710 0 (gi c 710 0 + 1)) := by
          unfold f7_access f7_access_j46 lt
          rw [xb1_o (kn_7 hS hd), xb1_o (ks_7 hS hs), dr_k hd, hth, if_pos rfl]
          cases gb c 212 d
          · rw [if_neg (by simp)]; rfl
          · rw [if_pos rfl, dr_k hs]
            dsimp only
            rw [ckb (okr_of t1), ckb (okr_of fun j hj => by cases hj; exact hd)]
            by_cases h6 : gp c 600 s = some d
            · rw [if_pos h6]
              simp [h6]
            · rw [if_neg h6]
              simp [h6]
        cases hcm : (gb c 212 d && decide (gp c 600 s = some d)) with
        | true =>
          rw [hcm, if_pos rfl] at c7
          rw [hcm] at c8
          have hi2 : INV e t c (zi m1 841 0 (gi m1 841 0 + b2i false)) := by
            obtain ⟨hQ, hA, hP, hH, hSl, hX, hL⟩ := hm.1
            have f : FR [] c c := FR.rf
            have g : FR [841] m1 (zi m1 841 0 (gi m1 841 0 + b2i false)) := FR.rf.zi (by decide)
            refine ⟨hQ.fr f g (by simp) (by decide) (Nat.le_refl _), hA.fr f g (by simp) (by decide), hP.fr f g (by simp) (by decide), hH.fr f g (by simp) (by decide) (Nat.le_refl _), hSl.fr f g (by simp) (by decide), ⟨fun l hl => ?_, ?_, by rw [g.b (by decide)]; exact hX.2.2⟩, hL.fr f g (by simp) (by decide)⟩
            · rw [g.i (by decide)]
              exact hX.1 l hl
            · rw [gi_zi, if_pos ⟨rfl, rfl⟩, b2i_f, Int32.add_zero]
              exact hX.2.1
          have g2 : FR [841] m1 (zi m1 841 0 (gi m1 841 0 + b2i false)) := FR.rf.zi (by decide)
          have hF := hm.nb (F := []) hi2 FR.rf g2 (by simp) (by decide)
          refine ⟨.ok (gi c 601 s), c, gi c 601 s, _, e, t, c7, ?_, fun x hx => (by cases hx), FR.rf, (g1.mono (by decide)).tr (g2.mono (by decide)), hF, Nat.le_refl _, by omega, Nat.le_refl _, by omega, ?_, fun v hv => by cases hv; rfl⟩
          · rw [c8]
            unfold f8_access_j73 f8_access_j88
            rw [if_pos rfl, hF.set0 hf, ob1_k rfl, if_pos rfl, ar_k _ hs (by omega), g2.i (by decide), t3']
          · rw [g2.i (by decide), hm1, g800]; rfl
        | false =>
          rw [hcm, if_neg (by simp)] at c7
          rw [hcm] at c8
          have hi2 := FA_inv (v := gi c 710 0 + 1) hm.1
          have f2 : FR [710] c (zi c 710 0 (gi c 710 0 + 1)) := FR.rf.zi (by decide)
          have g2 : FR [841] m1 (zi m1 841 0 (gi c 710 0 + 1)) := FR.rf.zi (by decide)
          have hF := hm.nb hi2 f2 g2 (by decide) (by decide)
          refine ⟨.ok (-1), _, -1, _, e, t, c7, ?_, fun x hx => (by cases hx), f2.mono (by decide), (g1.mono (by decide)).tr (g2.mono (by decide)), hF, Nat.le_refl _, by omega, Nat.le_refl _, by omega, ?_, fun v hv => by cases hv; rfl⟩
          · rw [c8]
            unfold f8_access_j73 f8_access_j88
            rw [if_neg (by simp), h841, b2i_t, hF.set0 hf, ob1_k rfl, if_neg (by simp)]
          · rw [g2.i (by decide), hm1, g800]; rfl
    · refine OKF.er (x := 1) (z := 0) h ?_ ?_ (Or.inl rfl)
      · unfold f7_access
        rw [xb1_o (kn_7 hS hd), xb1_e (ks_7e hS hv)]
      · unfold f8_access f8_access_j37
        rw [dv_8 hS hQ hd, ob1_k rfl, if_pos rfl, sl_8e hv, ob1_k rfl, if_neg (by simp), g800, if_neg (by decide)]
        rfl
  · refine OKF.er (x := 1) (z := 0) h ?_ ?_ (Or.inl rfl)
    · unfold f7_access
      rw [xb1_e (kn_7e hS ha)]
    · unfold f8_access f8_access_j37
      rw [dv_8e hS hQ ha, ob1_k rfl, if_neg (by simp), g800, if_neg (by decide)]
      rfl
theorem F_pass {fu e t : Nat} {c m : St} (a : Int32) (h : INVF e t c m) (he : e + 1500 < 2 ^ 31) (ht : t + 100 < 2 ^ 31) (hf : 200 ≤ fu) : OKF w23 E23 e t c m (f7_pass fu a c) (f8_pass fu a m) := by
  have hm := h.m (v := 0)
  have h802 := h.1.2.2.2.2.2.1.2.2
  cases hin : inV a 1 50 with
  | false =>
    refine OKF.er (x := 2) (z := 0) h ?_ ?_ (Or.inl rfl)
    · unfold f7_pass
      rw [in_7, ob1_k rfl, hin, if_neg (by simp)]
    · unfold f8_pass f8_pass_j27
      rw [in_8, ob1_k rfl, hin, if_neg (by simp), g800, if_neg (by decide)]; rfl
  | true =>
    cases h9 : gb c 709 0 with
    | true =>
      refine OKF.er (x := 3) (z := 0) h ?_ ?_ (Or.inr rfl)
      · unfold f7_pass
        rw [in_7, ob1_k rfl, hin, if_pos rfl, h9, if_pos rfl]
      · unfold f8_pass f8_pass_j27
        rw [in_8, ob1_k rfl, hin, if_pos rfl, h802, h9, if_pos rfl, g800, if_neg (by decide)]; rfl
    | false =>
      obtain ⟨k, hk1, hk50, rfl⟩ := inV_t (lo := 1) (hi := 50) (by omega) (by omega) hin
      obtain ⟨m1, hm1⟩ : ∃ m1, m1 = zi m 800 0 0 := ⟨_, rfl⟩
      have g1 : FR [800] m m1 := by rw [hm1]; exact frt8
      rw [← hm1] at hm
      obtain ⟨c2, m2, ⟨e2, x1, x2, x3, f2, g2⟩, r7, r8⟩ := up2 (bC := fun s8 : Int32 × St => f7_pass_b40 fu (nI k) s8.1 s8.2) (bM := fun s8 : Int32 × St => f8_pass_b41 fu (nI k) s8.1 s8.2) (fun i a => (nI i, a)) (fun i a => (nI i, a))
        (fun i a b => ∃ e', INV e' (t + i) a b ∧ e ≤ e' ∧ e' ≤ e + 24 * i ∧ FR PF7 c a ∧ FR PF8 m1 b) k
        (fun i a b hi hr => by
          obtain ⟨e', x1, x2, x3, f2, g2⟩ := hr
          obtain ⟨e'', c2, c3, a', b', y1, y2, y3, y4, y5, y6, y7, y8, y9⟩ := q_tick (fu := fu) x1 (by omega) (by omega) hf
          refine ⟨a', b', ?_, ?_, e'', y5, by omega, by omega, f2.tr y8, g2.tr y9⟩
          · show f7_pass_b40 fu (nI k) (nI i) a = _
            unfold f7_pass_b40
            rw [if_neg (by rw [nI_leN (by omega) (by omega)]; omega), y1, ob1_k rfl, y2, ob1_k rfl, y3, ob1_k rfl, nI_s]
          · show f8_pass_b41 fu (nI k) (nI i) b = _
            unfold f8_pass_b41
            rw [if_neg (by rw [nI_leN (by omega) (by omega)]; omega), y4, ob1_k rfl, nI_s])
        (a := c) (b := m1) ⟨e, hm.1, Nat.le_refl _, by omega, FR.rf, FR.rf⟩
      have hF := hm.nw x1 f2 (by decide) h9 (fun j hj => by rw [g2.b (by decide)]; exact hj)
      refine ⟨.ok (nI (t + k)), c2, nI (t + k), m2, e2, t + k, ?_, ?_, fun x hx => (by cases hx), f2.mono (by decide), (g1.mono (by decide)).tr (g2.mono (by decide)), hF, x2, by omega, by omega, by omega, ?_, fun v hv => by cases hv; rfl⟩
      · unfold f7_pass
        rw [in_7, ob1_k rfl, hin, if_pos rfl, h9, if_neg (by simp)]
        refine r7.fin ?_ (by omega)
        show f7_pass_b40 fu (nI k) (nI k) c2 = _
        unfold f7_pass_b40
        rw [if_pos (by rw [nI_leN (by omega) (by omega)]; omega), x1.2.1.2.2.1]
        rfl
      · unfold f8_pass f8_pass_j27
        rw [in_8, ob1_k rfl, hin, if_pos rfl, h802, h9, if_neg (by simp), g800, if_pos rfl, ← hm1]
        refine r8.fin ?_ (by omega)
        show f8_pass_b41 fu (nI k) (nI k) m2 = _
        unfold f8_pass_b41
        rw [if_pos (by rw [nI_leN (by omega) (by omega)]; omega), hF.set0 hf, ob1_k rfl, x1.2.1.2.2.2.1]
        rfl
      · rw [g2.i (by decide), hm1, g800]; rfl
