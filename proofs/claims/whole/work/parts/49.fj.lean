/-! ===== new objects: open, call ===== -/
theorem ckP_k {β : Type} {P : Prop} {k : Option β} (h : P) : ckP P k = k := by
  unfold ckP
  exact if_pos h
theorem tg_big {f : Nat} (h : 900 ≤ f) : tg f = 0 := by
  unfold tg
  rw [List.getD_eq_getElem?_getD (l := tgL), List.getElem?_eq_none (by show 9 ≤ f / 100; omega)]
  rfl
theorem tg_ptr : ∀ f, f < 900 → 10 ≤ tg f → f ∈ [100, 205, 206, 207, 210, 500, 600] := by decide +kernel
theorem inR_of {e t : Nat} {c m : St} (h : INV e t c m) : inR c := by
  obtain ⟨⟨hS, hD, hB, -, -, -, -⟩, -, -, ⟨hCH, hCK, -, -⟩, hSl, -, -⟩ := h
  obtain ⟨l0, -, l2, -, l3, -, l4, -, l5⟩ := hS
  refine ⟨fun f i hf hi => ?_, fun k hk x hx => ?_⟩
  · have hf9 : f < 900 := by
      rcases Nat.lt_or_ge f 900 with h | h
      · exact h
      · rw [tg_big h] at hf; omega
    have hm := tg_ptr f hf9 hf
    simp only [List.mem_cons, List.not_mem_nil, or_false] at hm
    rcases hm with rfl | rfl | rfl | rfl | rfl | rfl | rfl
    · have hi' : i < gn c 1 := hi
      obtain ⟨y, d, hy, hd, k1, -, -⟩ := hCK i hi'
      rw [k1]
      exact okr_of (n := gn c 5) fun j hj => by cases hj; exact hy
    · have hi' : i < gn c 2 := hi
      exact okr_of (n := gn c 2) fun j hj => by have := (hD i hi').2.2.2.2.1 205 (Or.inl rfl) j hj; omega
    · have hi' : i < gn c 2 := hi
      exact okr_of (n := gn c 2) fun j hj => by have := (hD i hi').2.2.2.2.1 206 (Or.inr (Or.inl rfl)) j hj; omega
    · have hi' : i < gn c 2 := hi
      exact okr_of (n := gn c 2) fun j hj => by have := (hD i hi').2.2.2.2.1 207 (Or.inr (Or.inr rfl)) j hj; omega
    · have hi' : i < gn c 2 := hi
      exact okr_of (n := gn c 3) fun j hj => ((hD i hi').2.2.2.2.2 j hj).1
    · have hi' : i < gn c 5 := hi
      obtain ⟨d, hd, k1⟩ := hCH i hi'
      rw [k1]
      exact okr_of (n := gn c 2) fun j hj => by cases hj; exact hd
    · have hi' : i < 16 := hi
      exact okr_of (n := gn c 2) (hSl i hi').1
  · have : k = 0 ∨ k = 1 ∨ k = 2 ∨ k = 3 ∨ k = 4 ∨ k = 5 := by omega
    rcases this with rfl | rfl | rfl | rfl | rfl | rfl
    · rw [l0] at hx; exact List.mem_range.mp hx
    · exact ((hB.2.1 x).mp hx).1
    · rw [l2] at hx; exact List.mem_range.mp hx
    · rw [l3] at hx; exact List.mem_range.mp hx
    · rw [l4] at hx; exact List.mem_range.mp hx
    · rw [l5] at hx; exact List.mem_range.mp hx
def OF7 : List Nat := List.range' 500 100 ++ [0, 1003, 2005]
def OF8 : List Nat := [800, 830, 831, 832]
def O7 (d : Nat) (c : St) : St := ladd (zp (zb (zw c 5) 501 (gn c 5) true) 500 (gn c 5) (some d)) 3 (gn c 5)
def O8 (n d : Nat) (m : St) : St := zi (zi (zi m 831 n (nI d)) 832 n (gi m 819 d)) 830 0 (nI (n + 1))
theorem of_cl {f cl : Nat} (h : f / 100 = cl) : f ∈ List.range' (100 * cl) 100 := by
  rw [List.mem_range'_1]
  omega
theorem O7_fr {d : Nat} {c : St} : FR OF7 c (O7 d c) := by
  have hz : FR OF7 c (zw c 5) := FR.rf.zw (fun f hf => List.mem_append_left [0, 1003, 2005] (of_cl (cl := 5) hf)) (by decide +kernel)
  unfold O7 ladd
  exact (((hz.zb (by decide +kernel)).zp (by decide +kernel)).zl (by decide +kernel)).zi (by decide +kernel)
section Ord5
variable {d h : Nat} {c : St}
theorem O7_500 : gp (O7 d c) 500 h = if h = gn c 5 then some d else gp c 500 h := by
  by_cases hh : h = gn c 5
  · simp [O7, ladd, gp_zi, gp_zl, gp_zp, gp_zb, gp_zw, hh]
  · simp [O7, ladd, gp_zi, gp_zl, gp_zp, gp_zb, gp_zw, hh]
theorem O7_501 : gb (O7 d c) 501 h = if h = gn c 5 then true else gb c 501 h := by
  by_cases hh : h = gn c 5
  · simp [O7, ladd, gb_zi, gb_zl, gb_zp, gb_zb, gb_zw, hh]
  · simp [O7, ladd, gb_zi, gb_zl, gb_zp, gb_zb, gb_zw, hh]
theorem O7_502 : gb (O7 d c) 502 h = if h = gn c 5 then false else gb c 502 h := by
  by_cases hh : h = gn c 5
  · simp [O7, ladd, gb_zi, gb_zl, gb_zp, gb_zb, gb_zw, hh]
  · simp [O7, ladd, gb_zi, gb_zl, gb_zp, gb_zb, gb_zw, hh]
theorem O7_n : gn (O7 d c) 5 = gn c 5 + 1 := by
  simp [O7, ladd, gn_zi, gn_zl, gn_zp, gn_zb, gn_zw]
theorem O7_l : gl (O7 d c) 3 = gl c 3 ++ [gn c 5] := by
  simp [O7, ladd, gl_zi, gl_zl, gl_zp, gl_zb, gl_zw]
end Ord5
theorem O_inv {e t d : Nat} {c m : St} (h : INV e t c m) (hn : gn c 5 < 40) (hd : d < gn c 2) : INV e t (O7 d c) (O8 (gn c 5) d m) := by
  obtain ⟨⟨hS, hD, hB, hW, hT, hQ, hO⟩, hA, hP, ⟨hCH, hCK, hR, hK⟩, hSl, hX, hL⟩ := h
  have f := O7_fr (d := d) (c := c)
  have g : FR [830, 831, 832] m (O8 (gn c 5) d m) := ((FR.rf.zi (by decide)).zi (by decide)).zi (by decide)
  have n2 := f.n (k := 2) (by decide +kernel)
  have n1 := f.n (k := 1) (by decide +kernel)
  have n3 := f.n (k := 3) (by decide +kernel)
  have m831 : ∀ h, gi (O8 (gn c 5) d m) 831 h = if h = gn c 5 then nI d else gi m 831 h := fun h => by simp [O8, gi_zi]
  have m832 : ∀ h, gi (O8 (gn c 5) d m) 832 h = if h = gn c 5 then gi m 819 d else gi m 832 h := fun h => by simp [O8, gi_zi]
  have m830 : gi (O8 (gn c 5) d m) 830 0 = nI (gn c 5 + 1) := by simp [O8, gi_zi]
  refine ⟨⟨?_, hD.fr f (by decide +kernel), hB.fr f (by decide +kernel), hW.fr f (by decide +kernel), ⟨hT.1.fr f (by decide +kernel), hT.2.fr f g (by decide +kernel) (by decide)⟩, hQ.fr f g (by decide +kernel) (by decide), hO.fr f g (by decide +kernel) (by decide) (Nat.le_refl _)⟩, hA.fr f g (by decide +kernel) (by decide), hP.fr f g (by decide +kernel) (by decide), ⟨fun k hk => ?_, fun k hk => ?_, ⟨?_, ⟨fun j hj => ?_, fun j hj hj2 => ?_⟩, fun k d' hk hkd => ?_⟩, hK.fr f g (by decide +kernel) (by decide)⟩, hSl.fr f g (by decide +kernel) (by decide), hX.fr f g (by decide +kernel) (by decide), hL.fr f g (by decide +kernel) (by decide)⟩
  · obtain ⟨l0, s0, l2, s2, l3, s3, l4, s4, l5⟩ := hS
    refine ⟨by rw [f.l (k := 0) (by decide +kernel), n2]; exact l0, by rw [n2]; exact s0, by rw [f.l (k := 2) (by decide +kernel), n3]; exact l2, by rw [n3]; exact s2, ?_, by rw [O7_n]; omega, by rw [f.l (k := 4) (by decide +kernel), n1]; exact l4, by rw [n1]; exact s4, by rw [f.l (k := 5) (by decide +kernel)]; exact l5⟩
    rw [O7_l, O7_n, l3, List.range_succ]
  · rw [O7_n] at hk
    rw [n2, O7_500]
    by_cases hkn : k = gn c 5
    · exact ⟨d, hd, by rw [if_pos hkn]⟩
    · rw [if_neg hkn]
      exact hCH k (by omega)
  · rw [n1] at hk
    obtain ⟨h1, d', h2, h3, h4, h5, h6⟩ := hCK k hk
    refine ⟨h1, d', by rw [O7_n]; omega, by rw [n2]; exact h3, by rw [f.p (by decide +kernel)]; exact h4, by rw [O7_500, if_neg (by omega)]; exact h5, fun h7 => ?_⟩
    rw [f.i (f := 102) (by decide +kernel)] at h7
    rw [f.b (f := 212) (by decide +kernel), f.i (f := 101) (by decide +kernel)]
    exact h6 h7
  · rw [m830, O7_n]
  · rw [g.i (f := 819) (by decide), n2]
    exact hR.2.1.1 j hj
  · rw [O7_n] at hj
    rw [g.b (by decide)]
    exact hR.2.1.2 j (by omega) hj2
  · rw [O7_n] at hk
    rw [O7_500] at hkd
    rw [m831, m832, g.b (f := 833) (by decide), O7_501, O7_502, g.i (f := 819) (by decide)]
    by_cases hkn : k = gn c 5
    · rw [if_pos hkn] at hkd
      cases hkd
      simp only [if_pos hkn]
      obtain ⟨u, u1, u2, -⟩ := hR.2.1.1 d (by have := hS.2.1; omega)
      refine ⟨trivial, by rw [hkn, hR.2.1.2 _ (Nat.le_refl _) hn]; rfl, u, u, Nat.le_refl _, u1, u2, u2, by simp⟩
    · rw [if_neg hkn] at hkd
      simp only [if_neg hkn]
      exact hR.2.2 k d' (by omega) hkd
theorem F_open {fu e t : Nat} {c m : St} (a : Int32) (h : INVF e t c m) (hf : 200 ≤ fu) : OKF w13 E13 e t c m (f7_open fu a c) (f8_open fu a m) := by
  have hm := h.m (v := 0)
  obtain ⟨hS, hD, hB, hW, hT, hQ, hO⟩ := h.1.1
  have hS' := hS
  obtain ⟨-, h24, -, -, l3, n40, l4, n100, -⟩ := hS'
  have hR := h.1.2.2.2.1.2.2.1
  have h802 := h.1.2.2.2.2.2.1.2.2
  rcases rng (n := gn c 2) (by omega) a with ⟨d, hd, rfl⟩ | ha
  · have h40 : nI (gn c 5) = 40 ↔ gn c 5 = 40 := nI_inj (a := gn c 5) (b := 40) (by omega) (by omega)
    have hlt : nI (gn c 5) < 40 ↔ gn c 5 < 40 := nI_ltN (a := gn c 5) (b := 40) (by omega) (by omega)
    cases hu : ((bd c d && !gb c 709 0) && decide (gn c 5 < 40)) with
    | false =>
      refine OKF.er (x := 3) (z := 0) h ?_ ?_ (Or.inr rfl)
      · unfold f7_open
        rw [xb1_o (kn_7 hS hd), dr_k hd, ob1_k (q_isBoundC hd), l3, List.length_range]
        cases hbd : bd c d
        · rw [if_neg (by simp)]
        · rw [if_pos rfl]
          cases h9 : gb c 709 0
          · rw [hbd, h9] at hu
            have hu2 : ¬ gn c 5 < 40 := by simpa using hu
            rw [if_neg (by simp), if_neg (fun z => hu2 (hlt.mp z))]
          · rw [if_pos rfl]
      · unfold f8_open f8_open_j42
        rw [dv_8 hS hQ hd, ob1_k rfl, if_pos rfl, ob1_k (bnd_8 hS hD hQ hd), h802, hR.1]
        cases hbd : bd c d
        · rw [if_neg (by simp), g800, if_neg (by decide)]; rfl
        · rw [if_pos rfl]
          cases h9 : gb c 709 0
          · rw [hbd, h9] at hu
            have hu2 : ¬ gn c 5 < 40 := by simpa using hu
            rw [if_neg (by simp), if_pos (h40.mpr (by omega)), g800, if_neg (by decide)]; rfl
          · rw [if_pos rfl, g800, if_neg (by decide)]; rfl
    | true =>
      rw [Bool.and_eq_true, Bool.and_eq_true, decide_eq_true_eq, Bool.not_eq_true'] at hu
      obtain ⟨⟨hbd, h9⟩, hn⟩ := hu
      obtain ⟨m1, hm1⟩ : ∃ m1, m1 = zi m 800 0 0 := ⟨_, rfl⟩
      have g1 : FR [800] m m1 := by rw [hm1]; exact frt8
      have hm8 : gi m1 800 0 = 0 := by rw [hm1, g800]
      rw [← hm1] at hm
      have hi2 := O_inv hm.1 hn hd
      have f2 := O7_fr (d := d) (c := c)
      have g2 : FR [830, 831, 832] m1 (O8 (gn c 5) d m1) := ((FR.rf.zi (by decide)).zi (by decide)).zi (by decide)
      have hF : INVF e t (O7 d c) (O8 (gn c 5) d m1) := by
        refine ⟨hi2, hm.2.1.fr f2 g2 (by decide +kernel) (by decide), hm.2.2.1.fr f2 (by decide +kernel), hm.2.2.2.1.fr f2 (by decide +kernel), hm.2.2.2.2.1.fr f2 (by decide +kernel), hm.2.2.2.2.2.1.fr f2 (by decide +kernel), fun x d' hx hk hz => ?_⟩
        rw [O7_n] at hx
        rw [O7_500] at hk
        rw [O7_502] at hz
        rw [bd_fr f2 (by decide +kernel)]
        by_cases hxn : x = gn c 5
        · rw [if_pos hxn] at hk
          cases hk
          exact hbd
        · rw [if_neg hxn] at hk hz
          exact hm.2.2.2.2.2.2 x d' (by omega) hk hz
      have h830 : gi m1 830 0 = nI (gn c 5) := by rw [g1.i (by decide)]; exact hR.1
      refine ⟨.ok (nI (gn c 5)), O7 d c, nI (gn c 5), O8 (gn c 5) d m1, e, t, ?_, ?_, fun x hx => (by cases hx), f2.mono (by decide +kernel), (g1.mono (by decide)).tr (g2.mono (by decide)), hF, Nat.le_refl _, by omega, Nat.le_refl _, by omega, ?_, fun v hv => by cases hv; rfl⟩
      · unfold f7_open f5_init lt
        have e5 : gn (zw c 5) 5 = gn c 5 + 1 := by simp [gn_zw]
        rw [xb1_o (kn_7 hS hd), dr_k hd, ob1_k (q_isBoundC hd), hbd, if_pos rfl, h9, if_neg (by simp), l3, List.length_range, if_pos (hlt.mpr hn), ckP_k (inR_of h.1)]
        dsimp only
        rw [ckd (by rw [e5]; omega), ckd (by rw [e5]; omega), ob1_k rfl, ckd (by show gn c 5 < gn (zw c 5) 5; rw [e5]; omega), ckd (by show (gl c 3).length < 150; rw [l3, List.length_range]; omega), ckb (okl_of fun x hx => by
          have hx' : x ∈ gl c 3 := hx
          rw [l3] at hx'
          show x < gn (zw c 5) 5
          have := List.mem_range.mp hx'
          rw [e5]; omega)]
        rfl
      · unfold f8_open f8_open_j42
        have e830 : gi (zi m1 831 (gn c 5) (nI d)) 830 0 = nI (gn c 5) := by rw [gi_zi, if_neg (by omega)]; exact h830
        have e819 : gi (zi m1 831 (gn c 5) (nI d)) 819 d = gi m1 819 d := by rw [gi_zi, if_neg (by omega)]
        have e830b : gi (zi (zi m1 831 (gn c 5) (nI d)) 832 (gn c 5) (gi m1 819 d)) 830 0 = nI (gn c 5) := by rw [gi_zi, if_neg (by omega)]; exact e830
        rw [dv_8 hS hQ hd, ob1_k rfl, if_pos rfl, ob1_k (bnd_8 hS hD hQ hd), h802, hR.1, hbd, if_pos rfl, h9, if_neg (by simp), if_neg (fun z => by have := h40.mp z; omega), g800, if_pos rfl, ← hm1, h830, ar_k _ hn (by omega), ar_k _ (by omega) (by omega), e830, ar_k _ hn (by omega), e819, e830b, nI_s, show zi (zi (zi m1 831 (gn c 5) (nI d)) 832 (gn c 5) (gi m1 819 d)) 830 0 (nI (gn c 5 + 1)) = O8 (gn c 5) d m1 from rfl, hF.set0 hf, ob1_k rfl]
        have e1 : gi (O8 (gn c 5) d m1) 830 0 = nI (gn c 5 + 1) := by simp [O8, gi_zi]
        rw [e1]
        exact congrArg some (Prod.ext (dn_s _) rfl)
      · rw [g2.i (by decide), hm8]; rfl
  · refine OKF.er (x := 1) (z := 0) h ?_ ?_ (Or.inl rfl)
    · unfold f7_open
      rw [xb1_e (kn_7e hS ha)]
    · unfold f8_open f8_open_j42
      rw [dv_8e hS hQ ha, ob1_k rfl, if_neg (by simp), g800, if_neg (by decide)]
      rfl
