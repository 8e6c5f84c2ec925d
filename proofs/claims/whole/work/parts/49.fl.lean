/-! driver -/
def DF7b : List Nat := List.range' 300 100 ++ [0, 1002, 2003]
def DR7 (tb rk fw : Int32) (sv : Bool) (c : St) : St := ladd (zb (zi (zi (zi (zi (zw c 3) 300 (gn c 3) (nI (gn c 3))) 301 (gn c 3) tb) 302 (gn c 3) rk) 303 (gn c 3) fw) 304 (gn c 3) sv) 2 (gn c 3)
def DR8 (n : Nat) (tb rk fw : Int32) (sv : Bool) (m : St) : St := zb (zi (zi (zi (zi m 824 0 (nI (n + 1))) 825 n tb) 826 n rk) 827 n fw) 828 n sv
theorem DR7_fr {tb rk fw : Int32} {sv : Bool} {c : St} : FR DF7b c (DR7 tb rk fw sv c) := by
  have hz : FR DF7b c (zw c 3) := FR.rf.zw (fun f hf => List.mem_append_left [0, 1002, 2003] (of_cl (cl := 3) hf)) (by decide +kernel)
  unfold DR7 ladd
  exact ((((((hz.zi (by decide +kernel)).zi (by decide +kernel)).zi (by decide +kernel)).zi (by decide +kernel)).zb (by decide +kernel)).zl (by decide +kernel)).zi (by decide +kernel)
theorem DR8_fr {n : Nat} {tb rk fw : Int32} {sv : Bool} {m : St} : FR [824, 825, 826, 827, 828] m (DR8 n tb rk fw sv m) := ((((FR.rf.zi (by decide)).zi (by decide)).zi (by decide)).zi (by decide)).zb (by decide)
section Ord3
variable {tb rk fw : Int32} {sv : Bool} {c m : St} {q n : Nat}
theorem DR7_300 : gi (DR7 tb rk fw sv c) 300 q = if q = gn c 3 then nI (gn c 3) else gi c 300 q := by
  by_cases hh : q = gn c 3
  · simp [DR7, ladd, gi_zi, gi_zl, gi_zp, gi_zb, gi_zw, hh]
  · simp [DR7, ladd, gi_zi, gi_zl, gi_zp, gi_zb, gi_zw, hh]
theorem DR7_301 : gi (DR7 tb rk fw sv c) 301 q = if q = gn c 3 then tb else gi c 301 q := by
  by_cases hh : q = gn c 3
  · simp [DR7, ladd, gi_zi, gi_zl, gi_zp, gi_zb, gi_zw, hh]
  · simp [DR7, ladd, gi_zi, gi_zl, gi_zp, gi_zb, gi_zw, hh]
theorem DR7_302 : gi (DR7 tb rk fw sv c) 302 q = if q = gn c 3 then rk else gi c 302 q := by
  by_cases hh : q = gn c 3
  · simp [DR7, ladd, gi_zi, gi_zl, gi_zp, gi_zb, gi_zw, hh]
  · simp [DR7, ladd, gi_zi, gi_zl, gi_zp, gi_zb, gi_zw, hh]
theorem DR7_303 : gi (DR7 tb rk fw sv c) 303 q = if q = gn c 3 then fw else gi c 303 q := by
  by_cases hh : q = gn c 3
  · simp [DR7, ladd, gi_zi, gi_zl, gi_zp, gi_zb, gi_zw, hh]
  · simp [DR7, ladd, gi_zi, gi_zl, gi_zp, gi_zb, gi_zw, hh]
theorem DR7_304 : gb (DR7 tb rk fw sv c) 304 q = if q = gn c 3 then sv else gb c 304 q := by
  by_cases hh : q = gn c 3
  · simp [DR7, ladd, gb_zi, gb_zl, gb_zp, gb_zb, gb_zw, hh]
  · simp [DR7, ladd, gb_zi, gb_zl, gb_zp, gb_zb, gb_zw, hh]
theorem DR7_305 : gi (DR7 tb rk fw sv c) 305 q = if q = gn c 3 then 0 else gi c 305 q := by
  by_cases hh : q = gn c 3
  · simp [DR7, ladd, gi_zi, gi_zl, gi_zp, gi_zb, gi_zw, hh]
  · simp [DR7, ladd, gi_zi, gi_zl, gi_zp, gi_zb, gi_zw, hh]
theorem DR7_n : gn (DR7 tb rk fw sv c) 3 = gn c 3 + 1 := by
  simp [DR7, ladd, gn_zi, gn_zl, gn_zp, gn_zb, gn_zw]
theorem DR7_l : gl (DR7 tb rk fw sv c) 2 = gl c 2 ++ [gn c 3] := by
  simp [DR7, ladd, gl_zi, gl_zl, gl_zp, gl_zb, gl_zw]
theorem DR8_824 : gi (DR8 n tb rk fw sv m) 824 0 = nI (n + 1) := by simp [DR8, gi_zi, gi_zb]
theorem DR8_825 : gi (DR8 n tb rk fw sv m) 825 q = if q = n then tb else gi m 825 q := by simp [DR8, gi_zi, gi_zb]
theorem DR8_826 : gi (DR8 n tb rk fw sv m) 826 q = if q = n then rk else gi m 826 q := by simp [DR8, gi_zi, gi_zb]
theorem DR8_827 : gi (DR8 n tb rk fw sv m) 827 q = if q = n then fw else gi m 827 q := by simp [DR8, gi_zi, gi_zb]
theorem DR8_828 : gb (DR8 n tb rk fw sv m) 828 q = if q = n then sv else gb m 828 q := by simp [DR8, gb_zi, gb_zb]
end Ord3
theorem DR_inv {e t : Nat} {tb rk fw : Int32} {sv : Bool} {c m : St} (h : INV e t c m) (hn : gn c 3 < 8) : INV e t (DR7 tb rk fw sv c) (DR8 (gn c 3) tb rk fw sv m) := by
  obtain ⟨⟨hS, hD, hB, hW, hT, hQ, hO⟩, hA, hP, hH, hSl, hX, hL⟩ := h
  have f := DR7_fr (tb := tb) (rk := rk) (fw := fw) (sv := sv) (c := c)
  have g := DR8_fr (n := gn c 3) (tb := tb) (rk := rk) (fw := fw) (sv := sv) (m := m)
  have n2 := f.n (k := 2) (by decide +kernel)
  have n5 := f.n (k := 5) (by decide +kernel)
  have n1 := f.n (k := 1) (by decide +kernel)
  refine ⟨⟨?_, fun j hj => ?_, hB.fr f (by decide +kernel), hW.fr f (by decide +kernel), ⟨hT.1.fr f (by decide +kernel), fun j h1 h2 => ?_, fun j h1 h2 => ?_⟩, ⟨?_, ?_, fun j hj => ?_, fun q hq => ?_⟩, hO.fr f g (by decide +kernel) (by decide) (Nat.le_refl _)⟩, hA.fr f g (by decide +kernel) (by decide), hP.fr f g (by decide +kernel) (by decide), hH.fr f g (by decide +kernel) (by decide) (Nat.le_refl _), hSl.fr f g (by decide +kernel) (by decide), hX.fr f g (by decide +kernel) (by decide), hL.fr f g (by decide +kernel) (by decide)⟩
  · obtain ⟨l0, s0, l2, s2, l3, s3, l4, s4, l5⟩ := hS
    refine ⟨by rw [f.l (k := 0) (by decide +kernel), n2]; exact l0, by rw [n2]; exact s0, ?_, by rw [DR7_n]; omega, by rw [f.l (k := 3) (by decide +kernel), n5]; exact l3, by rw [n5]; exact s3, by rw [f.l (k := 4) (by decide +kernel), n1]; exact l4, by rw [n1]; exact s4, by rw [f.l (k := 5) (by decide +kernel)]; exact l5⟩
    rw [DR7_l, DR7_n, l2, List.range_succ]
  · rw [n2] at hj
    have h1 := hD j hj
    rw [DR7_n, f.i (f := 200) (by decide +kernel), f.i (f := 201) (by decide +kernel), f.i (f := 202) (by decide +kernel), f.i (f := 203) (by decide +kernel), f.b (f := 208) (by decide +kernel), f.p (f := 210) (by decide +kernel)]
    refine ⟨h1.1, h1.2.1, h1.2.2.1, h1.2.2.2.1, fun f' hf k hk => ?_, fun q hq => ?_⟩
    · rw [isN3_p f (by decide +kernel) hf] at hk
      exact h1.2.2.2.2.1 f' hf k hk
    · have := h1.2.2.2.2.2 q hq
      exact ⟨by omega, this.2⟩
  · rw [n2] at h1
    rw [g.i (f := 812) (by decide), g.i (f := 814) (by decide), g.b (f := 818) (by decide)]
    exact hT.2.1 j h1 h2
  · rw [DR7_n] at h1
    rw [g.i (by decide)]
    exact hT.2.2 j (by omega) h2
  · rw [g.i (by decide), n2]; exact hQ.1
  · rw [DR8_824, DR7_n]
  · rw [n2] at hj
    have q5 := hQ.2.2.1 j hj
    rw [g.i (f := 804) (by decide), g.i (f := 805) (by decide), g.i (f := 806) (by decide), g.i (f := 807) (by decide), g.b (f := 808) (by decide), g.i (f := 809) (by decide), g.i (f := 810) (by decide), g.b (f := 811) (by decide), g.i (f := 812) (by decide), g.i (f := 814) (by decide), g.b (f := 818) (by decide),
      f.i (f := 201) (by decide +kernel), f.i (f := 202) (by decide +kernel), f.i (f := 203) (by decide +kernel), f.b (f := 204) (by decide +kernel), f.p (f := 205) (by decide +kernel), f.p (f := 206) (by decide +kernel), f.p (f := 207) (by decide +kernel), f.b (f := 208) (by decide +kernel), f.b (f := 209) (by decide +kernel), f.p (f := 210) (by decide +kernel), f.i (f := 211) (by decide +kernel)]
    exact q5
  · rw [DR7_n] at hq
    rw [DR8_825, DR8_826, DR8_827, DR8_828, g.i (f := 829) (by decide), DR7_301, DR7_302, DR7_303, DR7_304, DR7_305]
    by_cases hqn : q = gn c 3
    · simp only [if_pos hqn]
      exact ⟨trivial, trivial, trivial, trivial, hT.2.2 q (by omega) (by omega)⟩
    · simp only [if_neg hqn]
      exact hQ.2.2.2 q (by omega)
theorem F_driver {fu e t : Nat} {c m : St} (tb rk fw : Int32) (sv : Bool) (h : INVF e t c m) (he : e + 1500 < 2 ^ 31) (hf : 200 ≤ fu) : OKF w23 E23 e t c m (f7_driver fu tb rk fw sv c) (f8_driver fu tb rk fw sv m) := by
  have hm := h.m (v := 0)
  obtain ⟨hS, hD, hB, hW, hT, hQ, hO⟩ := h.1.1
  have hS' := hS
  obtain ⟨-, h24, l2, n8, -⟩ := hS'
  have h8 : nI (gn c 3) = 8 ↔ gn c 3 = 8 := nI_inj (a := gn c 3) (b := 8) (by omega) (by omega)
  have hlt : nI (gn c 3) < 8 ↔ gn c 3 < 8 := nI_ltN (a := gn c 3) (b := 8) (by omega) (by omega)
  cases hin : (inV rk 0 9 && inV fw 0 9) with
  | false =>
    refine OKF.er (x := 2) (z := 0) h ?_ ?_ (Or.inl rfl)
    · unfold f7_driver
      rw [in_7, ob1_k rfl]
      cases h1 : inV rk 0 9
      · rw [if_neg (by simp)]
      · rw [h1, Bool.true_and] at hin
        rw [if_pos rfl, in_7, ob1_k rfl, hin, if_neg (by simp)]
    · unfold f8_driver f8_driver_j39
      rw [in_8, ob1_k rfl]
      cases h1 : inV rk 0 9
      · rw [if_neg (by simp), g800, if_neg (by decide)]; rfl
      · rw [h1, Bool.true_and] at hin
        rw [if_pos rfl, in_8, ob1_k rfl, hin, if_neg (by simp), g800, if_neg (by decide)]; rfl
  | true =>
    rw [Bool.and_eq_true] at hin
    by_cases hn : gn c 3 < 8
    · obtain ⟨m1, hm1⟩ : ∃ m1, m1 = zi m 800 0 0 := ⟨_, rfl⟩
      have g1 : FR [800] m m1 := by rw [hm1]; exact frt8
      have hm8 : gi m1 800 0 = 0 := by rw [hm1, g800]
      rw [← hm1] at hm
      have hi2 := DR_inv (tb := tb) (rk := rk) (fw := fw) (sv := sv) hm.1 hn
      have f2 := DR7_fr (tb := tb) (rk := rk) (fw := fw) (sv := sv) (c := c)
      have g2 := DR8_fr (n := gn c 3) (tb := tb) (rk := rk) (fw := fw) (sv := sv) (m := m1)
      have hN2 : DN (DR7 tb rk fw sv c) := fun q hq => by
        rw [DR7_n] at hq
        rw [DR7_300]
        by_cases hqn : q = gn c 3
        · rw [if_pos hqn, hqn]
        · rw [if_neg hqn]
          exact h.2.2.2.2.1 q (by omega)
      obtain ⟨e4, c4, m4, x1, x2, x3, x4, x5, x6, x7, -, -⟩ := q_bindF (fu := fu) hi2 (hm.2.1.fr f2 g2 (by decide +kernel) (by decide)) (h.2.2.2.1.fr f2 (by decide +kernel)) hN2 (h.2.2.2.2.2.1.fr f2 (by decide +kernel)) (h.2.2.2.2.2.2.fr f2 (by decide +kernel) fun x hx => by rw [bd_fr f2 (by decide +kernel)]; exact hx) (by omega) hf
      have h824 : gi m1 824 0 = nI (gn c 3) := by rw [g1.i (by decide)]; exact hQ.2.1
      have n43 : gn c4 3 = gn c 3 + 1 := by rw [x6.n (k := 3) (by decide), DR7_n]
      refine ⟨.ok (nI (gn c 3)), c4, nI (gn c 3), m4, e4, t, ?_, ?_, fun x hx => (by cases hx), (f2.mono (by decide +kernel)).tr (x6.mono (by decide)), ((g1.mono (by decide)).tr (g2.mono (by decide))).tr (x7.mono (by decide)), x3, by omega, by omega, Nat.le_refl _, by omega, ?_, fun v hv => by cases hv; rfl⟩
      · unfold f7_driver f3_init lt
        have e1 : gn (zw c 3) 3 = gn c 3 + 1 := by simp [gn_zw]
        rw [in_7, ob1_k rfl, hin.1, if_pos rfl, in_7, ob1_k rfl, hin.2, if_pos rfl, l2, List.length_range, if_pos (hlt.mpr hn), ckP_k (inR_of h.1)]
        dsimp only
        rw [ckd (by rw [e1]; omega), ckd (by rw [e1]; omega), ob1_k rfl, ckd (by show gn c 3 < gn (zw c 3) 3; rw [e1]; omega), ckd (by show (gl c 2).length < 150; rw [l2, List.length_range]; omega), ckb (okl_of fun y hy => by
            have hy' : y ∈ gl c 2 := hy
            rw [l2] at hy'
            show y < gn (zw c 3) 3
            have := List.mem_range.mp hy'
            rw [e1]; omega), show (gl (zw c 3) 2).length = gn c 3 by show (gl c 2).length = _; rw [l2, List.length_range], show ladd (zb (zi (zi (zi (zi (zw c 3) 300 (gn c 3) (nI (gn c 3))) 301 (gn c 3) tb) 302 (gn c 3) rk) 303 (gn c 3) fw) 304 (gn c 3) sv) 2 (gn c 3) = DR7 tb rk fw sv c from rfl, x1, ob1_k rfl, ckd (by omega), x6.i (by decide), DR7_300, if_pos rfl]
      · unfold f8_driver f8_driver_j39
        rw [in_8, ob1_k rfl, hin.1, if_pos rfl, in_8, ob1_k rfl, hin.2, if_pos rfl, hQ.2.1, if_neg (fun z => by have := h8.mp z; omega), g800, if_pos rfl, ← hm1, h824, ar_k _ hn (by omega), ar_k _ hn (by omega), ar_k _ hn (by omega), ar_k _ hn (by omega), nI_s, show zb (zi (zi (zi (zi m1 824 0 (nI (gn c 3 + 1))) 825 (gn c 3) tb) 826 (gn c 3) rk) 827 (gn c 3) fw) 828 (gn c 3) sv = DR8 (gn c 3) tb rk fw sv m1 from rfl, x2, ob1_k rfl]
      · rw [x7.i (by decide), g2.i (by decide), hm8]; rfl
    · refine OKF.er (x := 3) (z := 0) h ?_ ?_ (Or.inr rfl)
      · unfold f7_driver
        rw [in_7, ob1_k rfl, hin.1, if_pos rfl, in_7, ob1_k rfl, hin.2, if_pos rfl, l2, List.length_range, if_neg (fun z => hn (hlt.mp z))]
      · unfold f8_driver f8_driver_j39
        rw [in_8, ob1_k rfl, hin.1, if_pos rfl, in_8, ob1_k rfl, hin.2, if_pos rfl, hQ.2.1, if_pos (h8.mpr (by omega)), g800, if_neg (by decide)]; rfl
