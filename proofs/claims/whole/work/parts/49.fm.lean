/-! plug -/
def PFb : List Nat := List.range' 200 100 ++ [0, 1000, 2002]
def P7 (o1 o2 o3 : Option Nat) (id sz ln : Int32) (sh : Bool) (c : St) : St := ladd (zp (zp (zp (zb (zi (zi (zi (zi (zi (zb (zw c 2) 208 (gn c 2) true) 211 (gn c 2) (-1)) 200 (gn c 2) (nI (gn c 2))) 201 (gn c 2) id) 202 (gn c 2) sz) 203 (gn c 2) ln) 204 (gn c 2) sh) 205 (gn c 2) o1) 206 (gn c 2) o2) 207 (gn c 2) o3) 0 (gn c 2)
def P8 (n : Nat) (a1 id sz ln : Int32) (sh : Bool) (a6 a7 : Int32) (m : St) : St := zb (zi (zi (zb (zi (zi (zi (zi (zi m 803 0 (nI (n + 1))) 804 n a1) 805 n id) 806 n sz) 807 n ln) 808 n sh) 809 n a6) 810 n a7) 811 n true
def PG8 : List Nat := [803, 804, 805, 806, 807, 808, 809, 810, 811]
section Ord2
variable {o1 o2 o3 : Option Nat} {id sz ln a1 a6 a7 : Int32} {sh : Bool} {c m : St} {f j n : Nat}
theorem P7_fr : FR PFb c (P7 o1 o2 o3 id sz ln sh c) := by
  have hz : FR PFb c (zw c 2) := FR.rf.zw (fun f hf => List.mem_append_left [0, 1000, 2002] (of_cl (cl := 2) hf)) (by decide +kernel)
  unfold P7 ladd
  exact ((((((((((((hz.zb (by decide +kernel)).zi (by decide +kernel)).zi (by decide +kernel)).zi (by decide +kernel)).zi (by decide +kernel)).zi (by decide +kernel)).zb (by decide +kernel)).zp (by decide +kernel)).zp (by decide +kernel)).zp (by decide +kernel))).zl (by decide +kernel)).zi (by decide +kernel)
theorem P8_fr : FR PG8 m (P8 n a1 id sz ln sh a6 a7 m) := ((((((((FR.rf.zi (by decide)).zi (by decide)).zi (by decide)).zi (by decide)).zi (by decide)).zb (by decide)).zi (by decide)).zi (by decide)).zb (by decide)
theorem P7_i (hj : j ≠ gn c 2) (hf : f ≠ 0) : gi (P7 o1 o2 o3 id sz ln sh c) f j = gi c f j := by
  simp [P7, ladd, gi_zi, gi_zl, gi_zp, gi_zb, gi_zw, hj, hf]
theorem P7_b (hj : j ≠ gn c 2) : gb (P7 o1 o2 o3 id sz ln sh c) f j = gb c f j := by
  simp [P7, ladd, gb_zi, gb_zl, gb_zp, gb_zb, gb_zw, hj]
theorem P7_p (hj : j ≠ gn c 2) : gp (P7 o1 o2 o3 id sz ln sh c) f j = gp c f j := by
  simp [P7, ladd, gp_zi, gp_zl, gp_zp, gp_zb, gp_zw, hj]
theorem P7_nb (h : f = 209 ∨ f = 212 ∨ f = 215 ∨ f = 216 ∨ f = 217) : gb (P7 o1 o2 o3 id sz ln sh c) f (gn c 2) = false := by
  rcases h with rfl | rfl | rfl | rfl | rfl <;> simp [P7, ladd, gb_zi, gb_zl, gb_zp, gb_zb, gb_zw]
theorem P7_n208 : gb (P7 o1 o2 o3 id sz ln sh c) 208 (gn c 2) = true := by
  simp [P7, ladd, gb_zi, gb_zl, gb_zp, gb_zb, gb_zw]
theorem P7_n204 : gb (P7 o1 o2 o3 id sz ln sh c) 204 (gn c 2) = sh := by
  simp [P7, ladd, gb_zi, gb_zl, gb_zp, gb_zb, gb_zw]
theorem P7_n210 : gp (P7 o1 o2 o3 id sz ln sh c) 210 (gn c 2) = none := by
  simp [P7, ladd, gp_zi, gp_zl, gp_zp, gp_zb, gp_zw]
theorem P7_n205 : gp (P7 o1 o2 o3 id sz ln sh c) 205 (gn c 2) = o1 := by
  simp [P7, ladd, gp_zi, gp_zl, gp_zp, gp_zb, gp_zw]
theorem P7_n206 : gp (P7 o1 o2 o3 id sz ln sh c) 206 (gn c 2) = o2 := by
  simp [P7, ladd, gp_zi, gp_zl, gp_zp, gp_zb, gp_zw]
theorem P7_n207 : gp (P7 o1 o2 o3 id sz ln sh c) 207 (gn c 2) = o3 := by
  simp [P7, ladd, gp_zi, gp_zl, gp_zp, gp_zb, gp_zw]
theorem P7_n211 : gi (P7 o1 o2 o3 id sz ln sh c) 211 (gn c 2) = -1 := by
  simp [P7, ladd, gi_zi, gi_zl, gi_zp, gi_zb, gi_zw]
theorem P7_n200 : gi (P7 o1 o2 o3 id sz ln sh c) 200 (gn c 2) = nI (gn c 2) := by
  simp [P7, ladd, gi_zi, gi_zl, gi_zp, gi_zb, gi_zw]
theorem P7_n201 : gi (P7 o1 o2 o3 id sz ln sh c) 201 (gn c 2) = id := by
  simp [P7, ladd, gi_zi, gi_zl, gi_zp, gi_zb, gi_zw]
theorem P7_n202 : gi (P7 o1 o2 o3 id sz ln sh c) 202 (gn c 2) = sz := by
  simp [P7, ladd, gi_zi, gi_zl, gi_zp, gi_zb, gi_zw]
theorem P7_n203 : gi (P7 o1 o2 o3 id sz ln sh c) 203 (gn c 2) = ln := by
  simp [P7, ladd, gi_zi, gi_zl, gi_zp, gi_zb, gi_zw]
theorem P7_n : gn (P7 o1 o2 o3 id sz ln sh c) 2 = gn c 2 + 1 := by
  simp [P7, ladd, gn_zi, gn_zl, gn_zp, gn_zb, gn_zw]
theorem P7_l : gl (P7 o1 o2 o3 id sz ln sh c) 0 = gl c 0 ++ [gn c 2] := by
  simp [P7, ladd, gl_zi, gl_zl, gl_zp, gl_zb, gl_zw]
theorem P7_bd (hj : j ≠ gn c 2) : bd (P7 o1 o2 o3 id sz ln sh c) j = bd c j := by
  unfold bd
  rw [P7_p hj]
theorem P7_nbd : bd (P7 o1 o2 o3 id sz ln sh c) (gn c 2) = false := by
  unfold bd
  rw [P7_n210]
  rfl
theorem P8_803 : gi (P8 n a1 id sz ln sh a6 a7 m) 803 0 = nI (n + 1) := by simp [P8, gi_zi, gi_zb]
theorem P8_804 : gi (P8 n a1 id sz ln sh a6 a7 m) 804 j = if j = n then a1 else gi m 804 j := by simp [P8, gi_zi, gi_zb]
theorem P8_805 : gi (P8 n a1 id sz ln sh a6 a7 m) 805 j = if j = n then id else gi m 805 j := by simp [P8, gi_zi, gi_zb]
theorem P8_806 : gi (P8 n a1 id sz ln sh a6 a7 m) 806 j = if j = n then sz else gi m 806 j := by simp [P8, gi_zi, gi_zb]
theorem P8_807 : gi (P8 n a1 id sz ln sh a6 a7 m) 807 j = if j = n then ln else gi m 807 j := by simp [P8, gi_zi, gi_zb]
theorem P8_808 : gb (P8 n a1 id sz ln sh a6 a7 m) 808 j = if j = n then sh else gb m 808 j := by simp [P8, gb_zi, gb_zb]
theorem P8_809 : gi (P8 n a1 id sz ln sh a6 a7 m) 809 j = if j = n then a6 else gi m 809 j := by simp [P8, gi_zi, gi_zb]
theorem P8_810 : gi (P8 n a1 id sz ln sh a6 a7 m) 810 j = if j = n then a7 else gi m 810 j := by simp [P8, gi_zi, gi_zb]
theorem P8_811 : gb (P8 n a1 id sz ln sh a6 a7 m) 811 j = if j = n then true else gb m 811 j := by simp [P8, gb_zi, gb_zb]
end Ord2
theorem PL_inv {e t : Nat} {o1 o2 o3 : Option Nat} {id sz ln : Int32} {sh : Bool} {c m : St} (h : INV e t c m) (hn : gn c 2 < 24) (hid : ∃ i, i < 32 ∧ id = nI i) (hsz : ∃ s, isSz s ∧ sz = nI s) (hln : ln = -1 ∨ ∃ l, l < 8 ∧ ln = nI l) (h1 : ∀ k, o1 = some k → k < gn c 2 ∧ gb c 208 k = true) (h2 : ∀ k, o2 = some k → k < gn c 2) (h3 : ∀ k, o3 = some k → k < gn c 2) : INV e t (P7 o1 o2 o3 id sz ln sh c) (P8 (gn c 2) (enc o1) id sz ln sh (enc o2) (enc o3) m) := by
  obtain ⟨⟨hS, hD, hB, hW, ⟨hT, hZ⟩, hQ, hO⟩, ⟨hA, hR, hT7, hT8, hT9⟩, hP, ⟨hCH, hCK, hRH, hK⟩, hSl, hX, hL⟩ := h
  have f : FR PFb c (P7 o1 o2 o3 id sz ln sh c) := P7_fr
  have g : FR PG8 m (P8 (gn c 2) (enc o1) id sz ln sh (enc o2) (enc o3) m) := P8_fr
  have n3 := f.n (k := 3) (by decide +kernel)
  have n5 := f.n (k := 5) (by decide +kernel)
  have n1 := f.n (k := 1) (by decide +kernel)
  have hg1 := f.l (k := 1) (by decide +kernel)
  have hneed : ∀ f, isN3 f → ∀ k, gp (P7 o1 o2 o3 id sz ln sh c) f (gn c 2) = some k → k < gn c 2 := by
    intro f hf k hk
    rcases hf with rfl | rfl | rfl
    · rw [P7_n205] at hk; exact (h1 k hk).1
    · rw [P7_n206] at hk; exact h2 k hk
    · rw [P7_n207] at hk; exact h3 k hk
  have hnl : ∀ y, y ∈ gl c 1 → y ≠ gn c 2 := fun y hy => by have := ((hB.2.1 y).mp hy).1; omega
  refine ⟨⟨?_, fun j hj => ?_, ⟨by rw [hg1]; exact hB.1, fun j => ?_, fun l1 x l2 hl f' hf k hk => ?_⟩, fun j hj => ?_, ⟨fun j hj h8 k hk => ?_, fun j hj hj2 => ?_, fun j hj hj2 => ?_⟩, ⟨?_, ?_, fun j hj => ?_, fun q hq => ?_⟩, hO.fr f g (by decide +kernel) (by decide) (Nat.le_refl _)⟩, ⟨fun j hj hj1 => ?_, fun j hj => ?_, ?_, ?_, fun j hj hj2 => ?_⟩, fun j hj => ?_, ⟨fun k hk => ?_, fun k hk => ?_, ⟨?_, ⟨fun j hj => ?_, fun j hj hj2 => ?_⟩, fun k d' hk hkd => ?_⟩, hK.fr f g (by decide +kernel) (by decide)⟩, fun s hs => ?_, hX.fr f g (by decide +kernel) (by decide), hL.fr f g (by decide +kernel) (by decide)⟩
  · obtain ⟨l0, s0, l2, s2, l3, s3, l4, s4, l5⟩ := hS
    refine ⟨?_, by rw [P7_n]; omega, by rw [f.l (k := 2) (by decide +kernel), n3]; exact l2, by rw [n3]; exact s2, by rw [f.l (k := 3) (by decide +kernel), n5]; exact l3, by rw [n5]; exact s3, by rw [f.l (k := 4) (by decide +kernel), n1]; exact l4, by rw [n1]; exact s4, by rw [f.l (k := 5) (by decide +kernel)]; exact l5⟩
    rw [P7_l, P7_n, l0, List.range_succ]
  · rw [P7_n] at hj
    rw [n3]
    by_cases hjn : j = gn c 2
    · subst hjn
      rw [P7_n200, P7_n201, P7_n202, P7_n203, P7_n210]
      exact ⟨rfl, hid, hsz, hln, fun f' hf k hk => hneed f' hf k hk, fun q hq => by cases hq⟩
    · have q := hD j (by omega)
      rw [P7_i hjn (by decide), P7_i hjn (by decide), P7_i hjn (by decide), P7_i hjn (by decide), P7_b hjn, P7_p (f := 210) hjn]
      exact ⟨q.1, q.2.1, q.2.2.1, q.2.2.2.1, fun f' hf k hk => q.2.2.2.2.1 f' hf k (by rw [← P7_p hjn]; exact hk), q.2.2.2.2.2⟩
  · rw [hg1, P7_n, hB.2.1 j]
    by_cases hjn : j = gn c 2
    · subst hjn
      rw [P7_n210]
      simp
    · rw [P7_p hjn]
      constructor
      · rintro ⟨q1, q2⟩; exact ⟨by omega, q2⟩
      · rintro ⟨q1, q2⟩; exact ⟨by omega, q2⟩
  · rw [hg1] at hl
    have hx : x ∈ gl c 1 := by rw [hl]; simp
    rw [P7_p (hnl x hx)] at hk
    exact hB.2.2 l1 x l2 hl f' hf k hk
  · rw [P7_n] at hj
    by_cases hjn : j = gn c 2
    · subst hjn
      rw [P7_n210, P7_n211]
      exact ⟨fun _ => rfl, fun _ => rfl, fun z => absurd rfl z⟩
    · rw [P7_p hjn, P7_i (f := 211) hjn (by decide), P7_i (f := 202) hjn (by decide)]
      exact hW j (by omega)
  · rw [P7_n] at hj
    by_cases hjn : j = gn c 2
    · subst hjn
      rw [P7_n205] at hk
      obtain ⟨k1, k2⟩ := h1 k hk
      rw [P7_b (by omega)]
      exact k2
    · rw [P7_b hjn] at h8
      rw [P7_p hjn] at hk
      have := (hD j (by omega)).2.2.2.2.1 205 (Or.inl rfl) k hk
      rw [P7_b (by omega)]
      exact hT j (by omega) h8 k hk
  · rw [P7_n] at hj
    rw [g.i (f := 812) (by decide), g.i (f := 814) (by decide), g.b (f := 818) (by decide)]
    exact hZ.1 j (by omega) hj2
  · rw [n3] at hj
    rw [g.i (by decide)]
    exact hZ.2 j hj hj2
  · rw [P8_803, P7_n]
  · rw [g.i (by decide), n3]; exact hQ.2.1
  · rw [P7_n] at hj
    rw [P8_804, P8_805, P8_806, P8_807, P8_808, P8_809, P8_810, P8_811, g.i (f := 812) (by decide), g.i (f := 814) (by decide), g.b (f := 818) (by decide)]
    by_cases hjn : j = gn c 2
    · subst hjn
      obtain ⟨z1, z2, z3⟩ := hZ.1 (gn c 2) (Nat.le_refl _) hn
      simp only [if_true]
      rw [P7_n201, P7_n202, P7_n203, P7_n204, P7_n205, P7_n206, P7_n207, P7_n208, P7_n210, P7_n211, P7_nb (f := 209) (Or.inl rfl), z1, z2, z3]
      exact ⟨rfl, rfl, rfl, rfl, rfl, rfl, rfl, rfl, rfl, rfl, rfl⟩
    · simp only [if_neg hjn]
      rw [P7_i (f := 201) hjn (by decide), P7_i (f := 202) hjn (by decide), P7_i (f := 203) hjn (by decide), P7_b (f := 204) hjn, P7_p (f := 205) hjn, P7_p (f := 206) hjn, P7_p (f := 207) hjn, P7_b (f := 208) hjn, P7_b (f := 209) hjn, P7_p (f := 210) hjn, P7_i (f := 211) hjn (by decide)]
      exact hQ.2.2.1 j (by omega)
  · rw [n3] at hq
    rw [g.i (f := 825) (by decide), g.i (f := 826) (by decide), g.i (f := 827) (by decide), g.b (f := 828) (by decide), g.i (f := 829) (by decide), f.i (f := 301) (by decide +kernel), f.i (f := 302) (by decide +kernel), f.i (f := 303) (by decide +kernel), f.b (f := 304) (by decide +kernel), f.i (f := 305) (by decide +kernel)]
    exact hQ.2.2.2 q hq
  · rw [P7_n] at hj
    by_cases hjn : j = gn c 2
    · subst hjn
      rw [P7_nb (f := 212) (Or.inr (Or.inl rfl))] at hj1
      cases hj1
    · rw [P7_b hjn] at hj1
      rw [P7_bd hjn]
      have q := hA j (by omega) hj1
      refine ⟨q.1, fun f' hf k hk => ?_⟩
      rw [P7_p hjn] at hk
      have := (hD j (by omega)).2.2.2.2.1 f' hf k hk
      rw [P7_b (by omega)]
      exact q.2 f' hf k hk
  · rw [P7_n] at hj
    rw [g.b (f := 813) (by decide), g.i (f := 815) (by decide), g.i (f := 816) (by decide), g.i (f := 821) (by decide)]
    by_cases hjn : j = gn c 2
    · subst hjn
      rw [P7_nb (f := 212) (Or.inr (Or.inl rfl)), P7_nbd, hT9 (gn c 2) (Nat.le_refl _) hn]
      exact ⟨rfl, fun z => (by cases z), fun z => (by cases z), fun z => (by cases z)⟩
    · rw [P7_b hjn, P7_bd hjn, P7_i (f := 213) hjn (by decide), P7_i (f := 214) hjn (by decide)]
      exact hR j (by omega)
  · rw [f.i (by decide +kernel)]; exact hT7
  · rw [g.i (by decide)]; exact hT8
  · rw [P7_n] at hj
    rw [g.b (by decide)]
    exact hT9 j (by omega) hj2
  · rw [g.b (by decide), P7_n, hP j hj]
    by_cases hjn : j = gn c 2
    · subst hjn
      rw [P7_nb (f := 215) (Or.inr (Or.inr (Or.inl rfl)))]
      simp
    · rw [P7_b hjn]
      by_cases hlt : j < gn c 2
      · simp [hlt, show j < gn c 2 + 1 by omega]
      · simp [hlt, show ¬ j < gn c 2 + 1 by omega]
  · rw [n5] at hk
    obtain ⟨d, hd, q⟩ := hCH k hk
    exact ⟨d, by rw [P7_n]; omega, by rw [f.p (by decide +kernel)]; exact q⟩
  · rw [n1] at hk
    obtain ⟨y, d, q1, q2, q3, q4, q5⟩ := hCK k hk
    refine ⟨y, d, by rw [n5]; exact q1, by rw [P7_n]; omega, by rw [f.p (by decide +kernel)]; exact q3, by rw [f.p (by decide +kernel)]; exact q4, fun hz => ?_⟩
    rw [f.i (f := 102) (by decide +kernel)] at hz
    rw [P7_b (by omega), f.i (f := 101) (by decide +kernel)]
    exact q5 hz
  · rw [g.i (by decide), n5]; exact hRH.1
  · obtain ⟨u, u1, u2, u3⟩ := hRH.2.1.1 j hj
    exact ⟨u, u1, by rw [g.i (by decide)]; exact u2, fun z => u3 (by rw [P7_n] at z; omega)⟩
  · rw [n5] at hj
    rw [g.b (by decide)]
    exact hRH.2.1.2 j hj hj2
  · rw [n5] at hk
    rw [f.p (by decide +kernel)] at hkd
    rw [g.i (f := 831) (by decide), g.b (f := 833) (by decide), g.i (f := 832) (by decide), g.i (f := 819) (by decide), f.b (f := 501) (by decide +kernel), f.b (f := 502) (by decide +kernel)]
    exact hRH.2.2 k d' hk hkd
  · obtain ⟨t1, t2, t3⟩ := hSl s hs
    rw [P7_n, f.p (f := 600) (by decide +kernel), f.i (f := 601) (by decide +kernel), g.i (f := 839) (by decide), g.i (f := 840) (by decide)]
    exact ⟨fun k hk => by have := t1 k hk; omega, t2, t3⟩
/-! what plug looks at -/
theorem pn_78 {fu : Nat} {a : Int32} {c m : St} (hS : CS c) (hQ : RQ c m) : (∃ o, f7_presentOrNone fu a c = some (.ok o) ∧ f8_isNeeded fu a m = some true ∧ a = enc o ∧ ∀ k, o = some k → k < gn c 2 ∧ gb c 208 k = true) ∨ (f7_presentOrNone fu a c = some (.error 1) ∧ f8_isNeeded fu a m = some false) := by
  have h24 := hS.2.1
  unfold f7_presentOrNone f8_isNeeded
  by_cases h1 : a = -1
  · exact Or.inl ⟨none, by rw [if_pos h1], by rw [if_pos h1], h1, fun k hk => by cases hk⟩
  · rw [if_neg h1, if_neg h1]
    rcases rng (n := gn c 2) (by omega) a with ⟨d, hd, rfl⟩ | ha
    · rw [xb1_o (kn_7 hS hd), dr_k hd, dv_8 hS hQ hd, ob1_k rfl, if_pos rfl, ar_k _ (by omega) (by omega), (hQ.2.2.1 d hd).2.2.2.2.2.2.2.1]
      cases h8 : gb c 208 d
      · exact Or.inr ⟨by rw [if_neg (by simp)], by rw [if_neg (by simp)]⟩
      · exact Or.inl ⟨some d, by rw [if_pos rfl], by rw [if_pos rfl], rfl, fun k hk => by cases hk; exact ⟨hd, h8⟩⟩
    · rw [xb1_e (kn_7e hS ha), dv_8e hS hQ ha, ob1_k rfl]
      exact Or.inr ⟨rfl, by rw [if_neg (by simp)]⟩
def isSzB (a : Int32) : Bool := decide (a = 0) || (decide (a = 1) || (decide (a = 2) || (decide (a = 4) || decide (a = 8))))
theorem isSz_7 {fu : Nat} {a : Int32} {c : St} : f7_isSize fu a c = some (isSzB a) := by
  unfold f7_isSize isSzB
  by_cases h0 : a = 0
  · simp [h0]
  · by_cases h1 : a = 1
    · simp [h1]
    · by_cases h2 : a = 2
      · simp [h2]
      · by_cases h4 : a = 4
        · simp [h4]
        · by_cases h8 : a = 8
          · simp [h8]
          · simp [h0, h1, h2, h4, h8]
theorem isSz_8 {a : Int32} : isSzB a = (inV a 0 2 || (decide (a = 4) || decide (a = 8))) := by
  have h : inV a 0 2 = (decide (a = 0) || (decide (a = 1) || decide (a = 2))) := by
    cases hv : inV a 0 2
    · have h0 : ¬ a = 0 := fun z => by rw [z] at hv; exact absurd hv (by decide)
      have h1 : ¬ a = 1 := fun z => by rw [z] at hv; exact absurd hv (by decide)
      have h2 : ¬ a = 2 := fun z => by rw [z] at hv; exact absurd hv (by decide)
      simp [h0, h1, h2]
    · obtain ⟨k, -, hk, rfl⟩ := inV_t (lo := 0) (hi := 2) (by omega) (by omega) hv
      have : k = 0 ∨ k = 1 ∨ k = 2 := by omega
      rcases this with rfl | rfl | rfl <;> decide
  rw [h]
  unfold isSzB
  cases decide (a = 0) <;> cases decide (a = 1) <;> cases decide (a = 2) <;> rfl
theorem isSz_n {a : Int32} (h : isSzB a = true) : ∃ s, isSz s ∧ a = nI s := by
  unfold isSzB at h
  simp only [Bool.or_eq_true, decide_eq_true_eq] at h
  rcases h with h | h | h | h | h
  · exact ⟨0, Or.inl rfl, h⟩
  · exact ⟨1, Or.inr (Or.inl rfl), h⟩
  · exact ⟨2, Or.inr (Or.inr (Or.inl rfl)), h⟩
  · exact ⟨4, Or.inr (Or.inr (Or.inr (Or.inl rfl))), h⟩
  · exact ⟨8, Or.inr (Or.inr (Or.inr (Or.inr rfl))), h⟩
theorem ln_n {a : Int32} (h : inV a (-1) 7 = true) : a = -1 ∨ ∃ l, l < 8 ∧ a = nI l := by
  unfold inV at h
  by_cases h1 : a < -1
  · rw [if_pos h1] at h; cases h
  · rw [if_neg h1] at h
    by_cases h2 : 7 < a
    · rw [if_pos h2] at h; cases h
    · by_cases h3 : a < 0
      · left
        rw [Int32.lt_iff_toInt_lt] at h1 h3
        rw [← Int32.toInt_inj]
        have e1 : (-1 : Int32).toInt = -1 := rfl
        have e2 : (0 : Int32).toInt = 0 := rfl
        omega
      · obtain ⟨k, hk, rfl⟩ := nonneg_nI h3
        rw [show (7 : Int32) = nI 7 from rfl, nI_ltN (by omega) hk] at h2
        exact Or.inr ⟨k, by omega, rfl⟩
theorem F_plug {fu e t : Nat} {c m : St} (a1 a2 a3 a4 : Int32) (a5 : Bool) (a6 a7 : Int32) (h : INVF e t c m) (he : e + 1500 < 2 ^ 31) (hf : 200 ≤ fu) : OKF w123 E123 e t c m (f7_plug fu a1 a2 a3 a4 a5 a6 a7 c) (f8_plug fu a1 a2 a3 a4 a5 a6 a7 m) := by
  have hm := h.m (v := 0)
  obtain ⟨hS, hD, hB, hW, hT, hQ, hO⟩ := h.1.1
  have hS' := hS
  obtain ⟨l0, h24, -⟩ := hS'
  -- the reference's one word on its numbers
  obtain ⟨ae, hae⟩ : ∃ ae : Bool, ae = (inV a2 0 31 && (isSzB a3 && (inV a4 (-1) 7 && (decide (a6 = -1) || !decide (a6 = a7))))) := ⟨_, rfl⟩
  have c8 : f8_plug fu a1 a2 a3 a4 a5 a6 a7 m = f8_plug_j59 fu a1 a2 a3 a4 a5 a6 a7 ae m := by
    have h30 : f8_plug_j30 fu a1 a2 a3 a4 a5 a6 a7 m = f8_plug_j59 fu a1 a2 a3 a4 a5 a6 a7 (inV a4 (-1) 7 && (decide (a6 = -1) || !decide (a6 = a7))) m := by
      unfold f8_plug_j30
      rw [in_8, ob1_k rfl]
      cases inV a4 (-1) 7
      · rw [if_neg (by simp)]; rfl
      · rw [if_pos rfl]
        by_cases h1 : a6 = -1
        · rw [if_pos h1]; simp [h1]
        · rw [if_neg h1]
          by_cases h2 : a6 = a7
          · rw [if_pos h2]; simp [h1, h2]
            rw [← h2]; simp [h1]
          · rw [if_neg h2]; simp [h2]
    unfold f8_plug
    rw [in_8, ob1_k rfl, hae, isSz_8]
    cases inV a2 0 31
    · rw [if_neg (by simp)]; rfl
    · rw [if_pos rfl, in_8, ob1_k rfl]
      cases inV a3 0 2
      · rw [if_neg (by simp)]
        by_cases h4 : a3 = 4
        · rw [if_pos h4, h30]; simp [h4]
        · rw [if_neg h4]
          by_cases h8 : a3 = 8
          · rw [if_pos h8, h30]; simp [h8]
          · rw [if_neg h8]; simp [h4, h8]
      · rw [if_pos rfl, h30]; simp
  have herr1 : f8_plug_j115 fu a1 a2 a3 a4 a5 a6 a7 1 m = some (0, zi m 800 0 (w123 1)) := by
    unfold f8_plug_j115
    rw [g800, if_neg (by decide)]; rfl
  have herr2 : f8_plug_j115 fu a1 a2 a3 a4 a5 a6 a7 2 m = some (0, zi m 800 0 (w123 2)) := by
    unfold f8_plug_j115
    rw [g800, if_neg (by decide)]; rfl
  have herr3 : f8_plug_j115 fu a1 a2 a3 a4 a5 a6 a7 3 m = some (0, zi m 800 0 (w123 3)) := by
    unfold f8_plug_j115
    rw [g800, if_neg (by decide)]; rfl
  rcases pn_78 (fu := fu) (a := a1) hS hQ with ⟨o1, p1, q1, r1, s1⟩ | ⟨p1, q1⟩
  · rcases pn_78 (fu := fu) (a := a6) hS hQ with ⟨o2, p2, q2, r2, s2⟩ | ⟨p2, q2⟩
    · rcases pn_78 (fu := fu) (a := a7) hS hQ with ⟨o3, p3, q3, r3, s3⟩ | ⟨p3, q3⟩
      · have hsame : (decide (a6 = -1) || !decide (a6 = a7)) = (decide (o2 = none) || !decide (o2 = o3)) := by
          have e1 : a6 = -1 ↔ o2 = none := by rw [r2]; exact enc_eqN fun k hk => by have := (s2 k hk).1; omega
          have e2 : a6 = a7 ↔ o2 = o3 := by rw [r2, r3]; exact enc_eq (fun k hk => by have := (s2 k hk).1; omega) (fun k hk => by have := (s3 k hk).1; omega)
          rw [decide_eq_decide.mpr e1, decide_eq_decide.mpr e2]
        rw [hsame] at hae
        have c7 : f7_plug fu a1 a2 a3 a4 a5 a6 a7 c = if ae = true then f7_plug_j83 fu a2 a3 a4 a5 o1 o2 o3 c else some (.error 2, c) := by
          unfold f7_plug
          rw [xb1_o p1, xb1_o p2, xb1_o p3, in_7, ob1_k rfl, hae]
          cases inV a2 0 31
          · rw [if_neg (by simp), if_neg (by simp)]
          · rw [if_pos rfl, isSz_7, ob1_k rfl]
            cases isSzB a3
            · rw [if_neg (by simp), if_neg (by simp)]
            · rw [if_pos rfl, in_7, ob1_k rfl]
              cases inV a4 (-1) 7
              · rw [if_neg (by simp), if_neg (by simp)]
              · rw [if_pos rfl]
                by_cases h1 : o2 = none
                · rw [if_pos h1]; simp [h1]
                · rw [if_neg h1, ckb (okr_of fun k hk => (s2 k hk).1), ckb (okr_of fun k hk => (s3 k hk).1)]
                  by_cases h2 : o2 = o3
                  · rw [if_pos h2]; simp [h2]
                    rw [← h2]; simp [h1]
                  · rw [if_neg h2]; simp [h2]
        have c8b : f8_plug fu a1 a2 a3 a4 a5 a6 a7 m = if ae = true then (if gi m 803 0 = 24 then f8_plug_j115 fu a1 a2 a3 a4 a5 a6 a7 3 m else f8_plug_j115 fu a1 a2 a3 a4 a5 a6 a7 0 m) else f8_plug_j115 fu a1 a2 a3 a4 a5 a6 a7 2 m := by
          rw [c8]
          unfold f8_plug_j59
          rw [q1, ob1_k rfl, if_pos rfl, q2, ob1_k rfl, if_pos rfl, q3, ob1_k rfl, if_pos rfl]
        cases hav : ae with
        | false =>
          rw [hav, if_neg (by simp)] at c7 c8b
          exact OKF.er (x := 2) (z := 0) h c7 (c8b.trans herr2) (Or.inr (Or.inl rfl))
        | true =>
          rw [hav, if_pos rfl] at c7 c8b
          rw [hav] at hae
          have hae' := hae.symm
          rw [Bool.and_eq_true, Bool.and_eq_true, Bool.and_eq_true] at hae'
          obtain ⟨y1, y2, y3, -⟩ := hae'
          have h803 : nI (gn c 2) = 24 ↔ gn c 2 = 24 := nI_inj (a := gn c 2) (b := 24) (by omega) (by omega)
          have hlt : nI (gn c 2) < 24 ↔ gn c 2 < 24 := nI_ltN (a := gn c 2) (b := 24) (by omega) (by omega)
          rw [hQ.1] at c8b
          by_cases hn : gn c 2 < 24
          · rw [if_neg (fun z => by have := h803.mp z; omega)] at c8b
            obtain ⟨i, hi0, hi31, hi⟩ := inV_t (lo := 0) (hi := 31) (by omega) (by omega) y1
            obtain ⟨m1, hm1⟩ : ∃ m1, m1 = zi m 800 0 0 := ⟨_, rfl⟩
            have g1 : FR [800] m m1 := by rw [hm1]; exact frt8
            have hm8 : gi m1 800 0 = 0 := by rw [hm1, g800]
            rw [← hm1] at hm
            have hi2 := PL_inv (o1 := o1) (o2 := o2) (o3 := o3) (id := a2) (sz := a3) (ln := a4) (sh := a5) hm.1 hn ⟨i, by omega, hi⟩ (isSz_n y2) (ln_n y3) s1 (fun k hk => (s2 k hk).1) (fun k hk => (s3 k hk).1)
            rw [← r1, ← r2, ← r3] at hi2
            have f2 : FR PFb c (P7 o1 o2 o3 a2 a3 a4 a5 c) := P7_fr
            have g2 : FR PG8 m1 (P8 (gn c 2) a1 a2 a3 a4 a5 a6 a7 m1) := P8_fr
            have h709 := f2.b (f := 709) (by decide +kernel) 0
            have hX2 : FSX (P7 o1 o2 o3 a2 a3 a4 a5 c) (P8 (gn c 2) a1 a2 a3 a4 a5 a6 a7 m1) := by
              refine ⟨fun y hy hy2 => ?_, fun z y hy => ?_, fun z y hy => ?_⟩
              · rw [P7_n] at hy
                rw [g2.b (by decide)]
                exact hm.2.1.1 y (by omega) hy2
              · rw [h709] at z
                rw [P7_n] at hy
                rw [g2.b (by decide)]
                by_cases hyn : y = gn c 2
                · subst hyn
                  exact ⟨P7_nb (f := 216) (Or.inr (Or.inr (Or.inr (Or.inl rfl)))), hm.2.1.1 _ (Nat.le_refl _) hn⟩
                · rw [P7_b hyn]
                  exact hm.2.1.2.1 z y (by omega)
              · rw [h709] at z
                rw [P7_n] at hy
                rw [g2.b (by decide)]
                by_cases hyn : y = gn c 2
                · subst hyn
                  rw [P7_nb (f := 216) (Or.inr (Or.inr (Or.inr (Or.inl rfl)))), P7_nb (f := 212) (Or.inr (Or.inl rfl))]
                  exact ⟨rfl, hm.2.1.1 _ (Nat.le_refl _) hn, fun z => (by cases z)⟩
                · rw [P7_b (f := 216) hyn, P7_b (f := 212) hyn, P7_bd hyn]
                  obtain ⟨x1, x2, x3⟩ := hm.2.1.2.2 z y (by omega)
                  refine ⟨x1, x2, fun x4 => ⟨(x3 x4).1, fun f' hf3 k hk => ?_⟩⟩
                  rw [P7_p hyn] at hk
                  have := (hD y (by omega)).2.2.2.2.1 f' hf3 k hk
                  rw [P7_b (by omega)]
                  exact (x3 x4).2 f' hf3 k hk
            have hL2 : CL (P7 o1 o2 o3 a2 a3 a4 a5 c) := fun y hy => by
              rw [P7_n] at hy
              by_cases hyn : y = gn c 2
              · subst hyn
                exact P7_nb (f := 217) (Or.inr (Or.inr (Or.inr (Or.inr rfl))))
              · rw [P7_b hyn]
                exact h.2.2.2.1 y (by omega)
            have hY2 : BH (P7 o1 o2 o3 a2 a3 a4 a5 c) := fun y hy hz => by
              rw [P7_n] at hy
              by_cases hyn : y = gn c 2
              · subst hyn
                rw [P7_nb (f := 209) (Or.inl rfl)] at hz; cases hz
              · rw [P7_b hyn] at hz
                rw [P7_bd hyn]
                exact h.2.2.2.2.2.1 y (by omega) hz
            have hZ2 : HB (P7 o1 o2 o3 a2 a3 a4 a5 c) := fun x d hx hk hz => by
              rw [f2.n (k := 5) (by decide +kernel)] at hx
              rw [f2.p (by decide +kernel)] at hk
              rw [f2.b (by decide +kernel)] at hz
              obtain ⟨d', hd', hk'⟩ := h.1.2.2.2.1.1 x hx
              rw [hk] at hk'
              cases hk'
              rw [P7_bd (by omega)]
              exact h.2.2.2.2.2.2 x d hx hk hz
            obtain ⟨e4, c4, m4, x1, x2, x3, x4, x5, x6, x7, -, -⟩ := q_bindF (fu := fu) hi2 hX2 hL2 (h.2.2.2.2.1.fr f2 (by decide +kernel)) hY2 hZ2 (by omega) hf
            have h8031 : gi m1 803 0 = nI (gn c 2) := by rw [g1.i (by decide)]; exact hQ.1
            have n42 : gn c4 2 = gn c 2 + 1 := by rw [x6.n (k := 2) (by decide), P7_n]
            refine ⟨.ok (nI (gn c 2)), c4, nI (gn c 2), m4, e4, t, c7.trans ?_, c8b.trans ?_, fun x hx => (by cases hx), (f2.mono (by decide +kernel)).tr (x6.mono (by decide)), ((g1.mono (by decide)).tr (g2.mono (by decide))).tr (x7.mono (by decide)), x3, by omega, by omega, Nat.le_refl _, by omega, ?_, fun v hv => by cases hv; rfl⟩
            · unfold f7_plug_j83 f2_init lt
              have e1 : gn (zw c 2) 2 = gn c 2 + 1 := by simp [gn_zw]
              rw [l0, List.length_range, if_pos (hlt.mpr hn), ckb (okr_of fun k hk => (s1 k hk).1), ckb (okr_of fun k hk => (s2 k hk).1), ckb (okr_of fun k hk => (s3 k hk).1), ckP_k (inR_of h.1)]
              dsimp only
              rw [ckd (by rw [e1]; omega), ckd (by rw [e1]; omega), ob1_k rfl, ckd (by show gn c 2 < gn (zw c 2) 2; rw [e1]; omega), ckd (by show (gl c 0).length < 150; rw [l0, List.length_range]; omega), ckb (okl_of fun y hy => by
                have hy' : y ∈ gl c 0 := hy
                rw [l0] at hy'
                show y < gn (zw c 2) 2
                have := List.mem_range.mp hy'
                rw [e1]; omega), show (gl (zw c 2) 0).length = gn c 2 by show (gl c 0).length = _; rw [l0, List.length_range]]
              have hst : ladd (zp (zp (zp (zb (zi (zi (zi (zi (zi (zb (zw c 2) 208 (gn c 2) true) 211 (gn c 2) (-1)) 200 (gn c 2) (nI (gn c 2))) 201 (gn c 2) a2) 202 (gn c 2) a3) 203 (gn c 2) a4) 204 (gn c 2) a5) 205 (gn c 2) o1) 206 (gn c 2) o2) 207 (gn c 2) o3) 0 (gn c 2) = P7 o1 o2 o3 a2 a3 a4 a5 c := rfl
              rw [hst, x1, ob1_k rfl, ckd (by omega), x6.i (by decide), P7_n200]
            · unfold f8_plug_j115
              rw [g800, if_pos rfl, ← hm1, h8031, ar_k _ hn (by omega), ar_k _ hn (by omega), ar_k _ hn (by omega), ar_k _ hn (by omega), ar_k _ hn (by omega), ar_k _ hn (by omega), ar_k _ hn (by omega), ar_k _ hn (by omega), nI_s]
              have hst : zb (zi (zi (zb (zi (zi (zi (zi (zi m1 803 0 (nI (gn c 2 + 1))) 804 (gn c 2) a1) 805 (gn c 2) a2) 806 (gn c 2) a3) 807 (gn c 2) a4) 808 (gn c 2) a5) 809 (gn c 2) a6) 810 (gn c 2) a7) 811 (gn c 2) true = P8 (gn c 2) a1 a2 a3 a4 a5 a6 a7 m1 := rfl
              rw [hst, x2, ob1_k rfl]
            · rw [x7.i (by decide), g2.i (by decide), hm8]; rfl
          · rw [if_pos (h803.mpr (by omega))] at c8b
            refine OKF.er (x := 3) (z := 0) h (c7.trans ?_) (c8b.trans herr3) (Or.inr (Or.inr rfl))
            unfold f7_plug_j83
            rw [l0, List.length_range, if_neg (fun z => hn (hlt.mp z))]
      · refine OKF.er (x := 1) (z := 0) h ?_ ?_ (Or.inl rfl)
        · unfold f7_plug
          rw [xb1_o p1, xb1_o p2, xb1_e p3]
        · rw [c8]
          unfold f8_plug_j59
          rw [q1, ob1_k rfl, if_pos rfl, q2, ob1_k rfl, if_pos rfl, q3, ob1_k rfl, if_neg (by simp)]
          exact herr1
    · refine OKF.er (x := 1) (z := 0) h ?_ ?_ (Or.inl rfl)
      · unfold f7_plug
        rw [xb1_o p1, xb1_e p2]
      · rw [c8]
        unfold f8_plug_j59
        rw [q1, ob1_k rfl, if_pos rfl, q2, ob1_k rfl, if_neg (by simp)]
        exact herr1
  · refine OKF.er (x := 1) (z := 0) h ?_ ?_ (Or.inl rfl)
    · unfold f7_plug
      rw [xb1_e p1]
    · rw [c8]
      unfold f8_plug_j59
      rw [q1, ob1_k rfl, if_neg (by simp)]
      exact herr1
