/-! call -/
def CF7 : List Nat := List.range' 100 100 ++ [0, 1004, 2001]
def C7 (x : Nat) (v : Int32) (c : St) : St := ladd (zi (zp (zi (zw c 1) 102 (gn c 1) 0) 100 (gn c 1) (some x)) 101 (gn c 1) v) 4 (gn c 1)
def C8 (n x : Nat) (v : Int32) (m : St) : St := zi (zi (zi (zi m 835 n (nI x)) 836 n v) 837 n 0) 834 0 (nI (n + 1))
theorem C7_fr {x : Nat} {v : Int32} {c : St} : FR CF7 c (C7 x v c) := by
  have hz : FR CF7 c (zw c 1) := FR.rf.zw (fun f hf => List.mem_append_left [0, 1004, 2001] (of_cl (cl := 1) hf)) (by decide +kernel)
  unfold C7 ladd
  exact ((((hz.zi (by decide +kernel)).zp (by decide +kernel)).zi (by decide +kernel)).zl (by decide +kernel)).zi (by decide +kernel)
section Ord1
variable {x k : Nat} {v : Int32} {c m : St}
theorem C7_100 : gp (C7 x v c) 100 k = if k = gn c 1 then some x else gp c 100 k := by
  by_cases hh : k = gn c 1
  · simp [C7, ladd, gp_zi, gp_zl, gp_zp, gp_zb, gp_zw, hh]
  · simp [C7, ladd, gp_zi, gp_zl, gp_zp, gp_zb, gp_zw, hh]
theorem C7_101 : gi (C7 x v c) 101 k = if k = gn c 1 then v else gi c 101 k := by
  by_cases hh : k = gn c 1
  · simp [C7, ladd, gi_zi, gi_zl, gi_zp, gi_zb, gi_zw, hh]
  · simp [C7, ladd, gi_zi, gi_zl, gi_zp, gi_zb, gi_zw, hh]
theorem C7_102 : gi (C7 x v c) 102 k = if k = gn c 1 then 0 else gi c 102 k := by
  by_cases hh : k = gn c 1
  · simp [C7, ladd, gi_zi, gi_zl, gi_zp, gi_zb, gi_zw, hh]
  · simp [C7, ladd, gi_zi, gi_zl, gi_zp, gi_zb, gi_zw, hh]
theorem C7_n : gn (C7 x v c) 1 = gn c 1 + 1 := by
  simp [C7, ladd, gn_zi, gn_zl, gn_zp, gn_zb, gn_zw]
theorem C7_l : gl (C7 x v c) 4 = gl c 4 ++ [gn c 1] := by
  simp [C7, ladd, gl_zi, gl_zl, gl_zp, gl_zb, gl_zw]
theorem C8_835 {n : Nat} : gi (C8 n x v m) 835 k = if k = n then nI x else gi m 835 k := by
  simp [C8, gi_zi]
theorem C8_836 {n : Nat} : gi (C8 n x v m) 836 k = if k = n then v else gi m 836 k := by
  simp [C8, gi_zi]
theorem C8_837 {n : Nat} : gi (C8 n x v m) 837 k = if k = n then 0 else gi m 837 k := by
  simp [C8, gi_zi]
theorem C8_834 {n : Nat} : gi (C8 n x v m) 834 0 = nI (n + 1) := by
  simp [C8, gi_zi]
end Ord1
theorem C8_fr {n x : Nat} {v : Int32} {m : St} : FR [834, 835, 836, 837] m (C8 n x v m) := (((FR.rf.zi (by decide)).zi (by decide)).zi (by decide)).zi (by decide)
theorem C_inv {e t x d k : Nat} {c m : St} (h : INV e t c m) (hn : gn c 1 < 100) (hx : x < gn c 5) (hd : d < gn c 2) (hxd : gp c 500 x = some d) (ha : gb c 212 d = true) (hk1 : 1 ≤ k) (hk2 : k ≤ 20) : INV e t (C7 x (nI (t + k)) c) (C8 (gn c 1) x (nI (t + k)) m) := by
  obtain ⟨⟨hS, hD, hB, hW, hT, hQ, hO⟩, hA, hP, ⟨hCH, hCK, hR, hK⟩, hSl, hX, hL⟩ := h
  have f := C7_fr (x := x) (v := nI (t + k)) (c := c)
  have g := C8_fr (n := gn c 1) (x := x) (v := nI (t + k)) (m := m)
  have n2 := f.n (k := 2) (by decide +kernel)
  have n5 := f.n (k := 5) (by decide +kernel)
  have n3 := f.n (k := 3) (by decide +kernel)
  refine ⟨⟨?_, hD.fr f (by decide +kernel), hB.fr f (by decide +kernel), hW.fr f (by decide +kernel), ⟨hT.1.fr f (by decide +kernel), hT.2.fr f g (by decide +kernel) (by decide)⟩, hQ.fr f g (by decide +kernel) (by decide), hO.fr f g (by decide +kernel) (by decide) (Nat.le_refl _)⟩, hA.fr f g (by decide +kernel) (by decide), hP.fr f g (by decide +kernel) (by decide), ⟨hCH.fr f (by decide +kernel), fun j hj => ?_, hR.fr f g (by decide +kernel) (by decide) (Nat.le_refl _), ?_, fun j hj => ?_⟩, hSl.fr f g (by decide +kernel) (by decide), hX.fr f g (by decide +kernel) (by decide), hL.fr f g (by decide +kernel) (by decide)⟩
  · obtain ⟨l0, s0, l2, s2, l3, s3, l4, s4, l5⟩ := hS
    refine ⟨by rw [f.l (k := 0) (by decide +kernel), n2]; exact l0, by rw [n2]; exact s0, by rw [f.l (k := 2) (by decide +kernel), n3]; exact l2, by rw [n3]; exact s2, by rw [f.l (k := 3) (by decide +kernel), n5]; exact l3, by rw [n5]; exact s3, ?_, by rw [C7_n]; omega, by rw [f.l (k := 5) (by decide +kernel)]; exact l5⟩
    rw [C7_l, C7_n, l4, List.range_succ]
  · rw [C7_n] at hj
    rw [n2, n5, C7_100, C7_101, C7_102]
    by_cases hjn : j = gn c 1
    · refine ⟨x, d, hx, hd, by rw [if_pos hjn], by rw [f.p (by decide +kernel)]; exact hxd, fun _ => ⟨by rw [f.b (f := 212) (by decide +kernel)]; exact ha, t + k, by rw [if_pos hjn], by omega, by omega⟩⟩
    · simp only [if_neg hjn]
      obtain ⟨y, d', q1, q2, q3, q4, q5⟩ := hCK j (by omega)
      exact ⟨y, d', q1, q2, q3, by rw [f.p (by decide +kernel)]; exact q4, fun hz => by rw [f.b (f := 212) (by decide +kernel)]; exact q5 hz⟩
  · rw [C8_834, C7_n]
  · rw [C7_n] at hj
    rw [C8_835, C8_836, C8_837, C7_100, C7_101, C7_102]
    by_cases hjn : j = gn c 1
    · simp only [if_pos hjn]
      exact ⟨rfl, trivial, trivial⟩
    · simp only [if_neg hjn]
      exact hK.2 j (by omega)
theorem F_call {fu e t : Nat} {c m : St} (a v : Int32) (h : INVF e t c m) (he : e + 1500 < 2 ^ 31) (hf : 200 ≤ fu) : OKF w123 E123 e t c m (f7_call fu a v c) (f8_call fu a v m) := by
  have hm := h.m (v := 0)
  obtain ⟨hS, hD, hB, hW, hT, hQ, hO⟩ := h.1.1
  have hS' := hS
  obtain ⟨-, h24, -, -, l3, n40, l4, n100, -⟩ := hS'
  have hHK := h.1.2.2.2.1
  have hR := hHK.2.2.1
  have hK := hHK.2.2.2
  have h802 := h.1.2.2.2.2.2.1.2.2
  have h100 : nI (gn c 1) = 100 ↔ gn c 1 = 100 := nI_inj (a := gn c 1) (b := 100) (by omega) (by omega)
  have hlt : nI (gn c 1) < 100 ↔ gn c 1 < 100 := nI_ltN (a := gn c 1) (b := 100) (by omega) (by omega)
  rcases rng (n := gn c 5) (by omega) a with ⟨x, hx, rfl⟩ | ha
  · obtain ⟨d, hd, hk⟩ := hHK.1 x hx
    cases hin : inV v 1 20 with
    | false =>
      refine OKF.er (x := 2) (z := 0) h ?_ ?_ (Or.inr (Or.inl rfl))
      · unfold f7_call
        rw [xb1_o (kh_7 hS hx), in_7, ob1_k rfl, hin, if_neg (by simp)]
      · unfold f8_call f8_call_j56
        rw [hh_8 hS hR hx, ob1_k rfl, if_pos rfl, in_8, ob1_k rfl, hin, if_neg (by simp), g800, if_neg (by decide)]; rfl
    | true =>
      cases hu : (((gb c 501 x && !gb c 502 x) && !gb c 709 0) && decide (gn c 1 < 100)) with
      | false =>
        refine OKF.er (x := 3) (z := 0) h ?_ ?_ (Or.inr (Or.inr rfl))
        · unfold f7_call
          rw [xb1_o (kh_7 hS hx), in_7, ob1_k rfl, hin, if_pos rfl, q_canUse hx, ob1_k rfl, l4, List.length_range]
          cases hal : ((gb c 501 x && !gb c 502 x) && !gb c 709 0)
          · rw [if_neg (by simp)]
          · rw [hal] at hu
            have hu2 : ¬ gn c 1 < 100 := by simpa using hu
            rw [if_pos rfl, if_neg (fun z => hu2 (hlt.mp z))]
        · unfold f8_call f8_call_j56
          rw [hh_8 hS hR hx, ob1_k rfl, if_pos rfl, in_8, ob1_k rfl, hin, if_pos rfl, q_isUsable hS hR (by omega) hx hd hk, ob1_k rfl, hK.1]
          cases hal : (gb c 501 x && !gb c 502 x)
          · rw [if_neg (by simp), g800, if_neg (by decide)]; rfl
          · rw [if_pos rfl, h802]
            cases h9 : gb c 709 0
            · rw [hal, h9] at hu
              have hu2 : ¬ gn c 1 < 100 := by simpa using hu
              rw [if_neg (by simp), if_pos (h100.mpr (by omega)), g800, if_neg (by decide)]; rfl
            · rw [if_pos rfl, g800, if_neg (by decide)]; rfl
      | true =>
        have hu' := hu
        rw [Bool.and_eq_true, Bool.and_eq_true, decide_eq_true_eq, Bool.not_eq_true'] at hu'
        obtain ⟨⟨hal, h9⟩, hn⟩ := hu'
        have hal' := hal
        rw [Bool.and_eq_true, Bool.not_eq_true'] at hal'
        have hbd := h.2.2.2.2.2.2 x d hx hk hal'.2
        obtain ⟨k, hk1, hk20, rfl⟩ := inV_t (lo := 1) (hi := 20) (by omega) (by omega) hin
        obtain ⟨m1, hm1⟩ : ∃ m1, m1 = zi m 800 0 0 := ⟨_, rfl⟩
        have g1 : FR [800] m m1 := by rw [hm1]; exact frt8
        have hm8 : gi m1 800 0 = 0 := by rw [hm1, g800]
        rw [← hm1] at hm
        obtain ⟨e2, c2, m2, a1, a2, a3, a4, a5, f2, g2, a8⟩ := q_use (fu := fu) hm h9 hd hbd (by omega) hf
        have h831 : gi m1 831 x = nI d := by rw [g1.i (by decide)]; exact (hR.2.2 x d hx hk).1
        have k2 : gp c2 500 x = some d := by rw [f2.p (by decide)]; exact hk
        have n1 : gn c2 1 = gn c 1 := f2.n (k := 1) (by decide)
        have n2 : gn c2 2 = gn c 2 := f2.n (k := 2) (by decide)
        have n5 : gn c2 5 = gn c 5 := f2.n (k := 5) (by decide)
        have l42 : gl c2 4 = List.range (gn c2 1) := by rw [f2.l (k := 4) (by decide), n1]; exact l4
        have hi3 := C_inv (x := x) (d := d) (k := k) a3.1 (by omega) (by omega) (by omega) k2 a8 hk1 hk20
        have f3 := C7_fr (x := x) (v := nI (t + k)) (c := c2)
        have g3 := C8_fr (n := gn c2 1) (x := x) (v := nI (t + k)) (m := m2)
        have hF : INVF e2 t (C7 x (nI (t + k)) c2) (C8 (gn c2 1) x (nI (t + k)) m2) := a3.nb hi3 f3 g3 (by decide +kernel) (by decide)
        have h834 : gi m2 834 0 = nI (gn c2 1) := a3.1.2.2.2.1.2.2.2.1
        have h801 : gi m2 801 0 = nI t := a3.1.2.1.2.2.2.1
        have h708 : gi c2 708 0 = nI t := a3.1.2.1.2.2.1
        have hadd : nI t + nI k = nI (t + k) := (Int32.ofNat_add _ _).symm
        refine ⟨.ok (nI (gn c2 1)), _, nI (gn c2 1), _, e2, t, ?_, ?_, fun x hx => (by cases hx), (f2.mono (by decide)).tr (f3.mono (by decide +kernel)), ((g1.mono (by decide)).tr (g2.mono (by decide))).tr (g3.mono (by decide)), hF, a4, by omega, Nat.le_refl _, by omega, ?_, fun v hv => by cases hv; rfl⟩
        · unfold f7_call f1_init lt
          have e1 : gn (zw c2 1) 1 = gn c2 1 + 1 := by simp [gn_zw]
          have e708 : gi (zw c2 1) 708 0 = nI t := by rw [gi_zw, if_neg (by omega)]; exact h708
          rw [xb1_o (kh_7 hS hx), in_7, ob1_k rfl, hin, if_pos rfl, q_canUse hx, ob1_k rfl, hal, h9, if_pos (by rfl), l4, List.length_range, if_pos (hlt.mpr hn), dr_k hx, hk]
          dsimp only
          rw [a1, ob1_k rfl, ckd (by omega), ckP_k (inR_of a3.1)]
          rw [ckd (by rw [e1]; omega), ckd (by rw [e1]; omega), ob1_k rfl, ckd (by show gn c2 1 < gn (zw c2 1) 1; rw [e1]; omega), ckd (by show (gl c2 4).length < 150; rw [l42, List.length_range]; omega), ckb (okl_of fun y hy => by
            have hy' : y ∈ gl c2 4 := hy
            rw [l42] at hy'
            show y < gn (zw c2 1) 1
            have := List.mem_range.mp hy'
            rw [e1]; omega), e708, hadd, l42, List.length_range]
          rfl
        · unfold f8_call f8_call_j56
          have e834b : gi (zi m2 835 (gn c2 1) (nI x)) 834 0 = nI (gn c2 1) := by rw [gi_zi, if_neg (by omega)]; exact h834
          have e801b : gi (zi m2 835 (gn c2 1) (nI x)) 801 0 = nI t := by rw [gi_zi, if_neg (by omega)]; exact h801
          have e834c : gi (zi (zi m2 835 (gn c2 1) (nI x)) 836 (gn c2 1) (nI (t + k))) 834 0 = nI (gn c2 1) := by rw [gi_zi, if_neg (by omega)]; exact e834b
          have e834d : gi (zi (zi (zi m2 835 (gn c2 1) (nI x)) 836 (gn c2 1) (nI (t + k))) 837 (gn c2 1) 0) 834 0 = nI (gn c2 1) := by rw [gi_zi, if_neg (by omega)]; exact e834c
          rw [hh_8 hS hR hx, ob1_k rfl, if_pos rfl, in_8, ob1_k rfl, hin, if_pos rfl, q_isUsable hS hR (by omega) hx hd hk, ob1_k rfl, hal, if_pos rfl, h802, h9, if_neg (by simp), hK.1, if_neg (fun z => by have := h100.mp z; omega), g800, if_pos rfl, ← hm1, ar_k _ (by omega) (by omega), h831, a2, ob1_k rfl, h834, ar_k _ (show gn c2 1 < 100 by omega) (by omega), e834b, ar_k _ (show gn c2 1 < 100 by omega) (by omega), e801b, hadd, e834c, ar_k _ (show gn c2 1 < 100 by omega) (by omega), e834d, nI_s, show zi (zi (zi (zi m2 835 (gn c2 1) (nI x)) 836 (gn c2 1) (nI (t + k))) 837 (gn c2 1) 0) 834 0 (nI (gn c2 1 + 1)) = C8 (gn c2 1) x (nI (t + k)) m2 from rfl, hF.set0 hf, ob1_k rfl, C8_834]
          exact congrArg some (Prod.ext (dn_s _) rfl)
        · rw [g3.i (by decide), g2.i (by decide), hm8]; rfl
  · refine OKF.er (x := 1) (z := 0) h ?_ ?_ (Or.inl rfl)
    · unfold f7_call
      rw [xb1_e (kh_7e hS ha)]
    · unfold f8_call f8_call_j56
      rw [hh_8e hS hR ha, ob1_k rfl, if_neg (by simp), g800, if_neg (by decide)]
      rfl
