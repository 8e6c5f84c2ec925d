/-! ===== the methods that change the world ===== -/
def w13 : Nat → Int32 := fun e => if e = 1 then 1 else if e = 3 then 2 else 0
def w123 : Nat → Int32 := fun e => if e = 1 then 1 else if e = 2 then 2 else if e = 3 then 3 else 0
def w23 : Nat → Int32 := fun e => if e = 2 then 1 else if e = 3 then 2 else 0
def w12 : Nat → Int32 := fun e => if e = 1 then 1 else if e = 2 then 2 else 0
def w3 : Nat → Int32 := fun e => if e = 3 then 1 else 0
def E13 : Nat → Prop := fun x => x = 1 ∨ x = 3
def E123 : Nat → Prop := fun x => x = 1 ∨ x = 2 ∨ x = 3
def E23 : Nat → Prop := fun x => x = 2 ∨ x = 3
def E12 : Nat → Prop := fun x => x = 1 ∨ x = 2
theorem q_bindF {fu e t : Nat} {c m : St} (h : INV e t c m) (hX : FSX c m) (hL : CL c) (hN : DN c) (hY : BH c) (hZ : HB c) (he : e + 700 < 2 ^ 31) (hf : 200 ≤ fu) :
    ∃ e' c' m', f7_bindWhatCanBe fu c = some c' ∧ f8_settle fu m = some m' ∧ INVF e' t c' m' ∧ e ≤ e' ∧ e' ≤ e + 600 ∧ FR BF7 c c' ∧ FR BF8 m m' ∧ (gb c 709 0 = false → ∀ d, d < gn c 2 → cand c d = true → (∀ j, j < d → cand c j = false) → bd c' d = true) ∧ (gb c 709 0 = true → c' = c ∧ m' = m) := by
  obtain ⟨e', c', m', a1, a2, a3, a4, a5, a6, a7, a8, a9, a10, a11, a12, a13⟩ := q_bind2 h he hf
  refine ⟨e', c', m', a1, a2, ⟨a3, ?_, a4, hL.fr a7 (by decide), hN.fr a7 (by decide), fun d hd0 h1 => ?_, hZ.fr a7 (by decide) a9⟩, a5, a6, a7, a8, a10, a12⟩
  cases h9 : gb c 709 0 with
  | true =>
    obtain ⟨rfl, rfl⟩ := a12 h9
    exact hX
  | false =>
    refine ⟨fun y hy hy2 => a11 y (hX.1 y (by rw [← a7.n (k := 2) (by decide)]; exact hy) hy2), fun _ y hy => ?_, fun z => by rw [a7.b (by decide), h9] at z; cases z⟩
    rw [a7.n (k := 2) (by decide)] at hy
    obtain ⟨x1, x2⟩ := hX.2.1 h9 y hy
    exact ⟨by rw [a7.b (by decide)]; exact x1, a11 y x2⟩
  · rw [a7.n (k := 2) (by decide)] at hd0
    rw [a7.b (by decide)] at h1
    cases hb : bd c' d
    · rfl
    · rcases a13 d hb with hz | hz
      · rw [hY d hd0 h1] at hz; cases hz
      · rw [h1] at hz; cases hz
theorem FSX.m8 {c m : St} {v : Int32} (h : FSX c m) : FSX c (zi m 800 0 v) := h.fr (F := []) (G := [800]) FR.rf frt8 (by simp) (by decide)
theorem F_unplug {fu e t : Nat} {c m : St} (a : Int32) (h : INVF e t c m) (he : e + 1500 < 2 ^ 31) (hf : 200 ≤ fu) : OKF w13 E13 e t c m (f7_unplug fu a c) (f8_unplug fu a m) := by
  have hm := (h.m (v := 0)).1
  obtain ⟨hS, hD, hB, hW, hT, hQ, hO⟩ := h.1.1
  have h24 := hS.2.1
  have hlen := bl_len hB
  rcases rng (n := gn c 2) (by omega) a with ⟨d, hd, rfl⟩ | ha
  · cases hth : gb c 208 d with
    | false =>
      refine OKF.er (x := 3) (z := 0) h ?_ ?_ (Or.inr rfl)
      · unfold f7_unplug
        rw [xb1_o (kn_7 hS hd), dr_k hd, hth, if_neg (by simp)]
      · unfold f8_unplug f8_unplug_j27
        rw [dv_8 hS hQ hd, ob1_k rfl, if_pos rfl, ar_k _ (by omega) (by omega), (hQ.2.2.1 d hd).2.2.2.2.2.2.2.1, hth, if_neg (by simp), g800, if_neg (by decide)]
        rfl
    | true =>
      obtain ⟨m1, hm1⟩ : ∃ m1, m1 = zi m 800 0 0 := ⟨_, rfl⟩
      have g1 : FR [800] m m1 := by rw [hm1]; exact frt8
      rw [← hm1] at hm
      have hQ1 := hm.1.2.2.2.2.2.1
      -- the class's marks
      obtain ⟨c1, ⟨f1, k1⟩, r7⟩ := up1 (b := fun s8 : Int32 × St => f7_unplug_b25 fu (some d) s8.1 s8.2) (fun i a => (nI i, a)) (fun i a => FR [217] c a ∧ ∀ x, gb a 217 x = if x ∈ (gl c 1).take i then aob c d x else gb c 217 x) (gl c 1).length (fun i c1 hi hr => by
        obtain ⟨f1, h1⟩ := hr
        have hg : (gl c 1)[i]? = some (gl c 1)[i] := List.getElem?_eq_getElem hi
        obtain ⟨k, hk⟩ : ∃ k, k = (gl c 1)[i] := ⟨_, rfl⟩
        rw [← hk] at hg
        have hkn := ((hB.2.1 k).mp (List.mem_of_getElem? hg)).1
        have n2 := f1.n (k := 2) (by decide)
        refine ⟨zb c1 217 k (aob c d k), ?_, f1.zb (by decide), fun x => ?_⟩
        · show f7_unplug_b25 fu (some d) (nI i) c1 = _
          unfold f7_unplug_b25
          rw [f1.l (k := 1) (by decide), if_neg (by rw [nI_leN (by omega) (by omega)]; omega), lg_k (σ := c1) (k := 1) _ (by omega) (by rw [f1.l (k := 1) (by decide)]; exact hg) (show k < gn c1 2 by omega), q_aob (hD.fr f1 (by decide)) (by omega) (by omega) (by omega) hf, ob1_k rfl, aob_fr f1 (by decide), nI_s]
        · rw [gb_zb, h1 x]
          have htk : (gl c 1).take (i + 1) = (gl c 1).take i ++ [k] := by
            rw [List.take_succ, hg]
            rfl
          simp only [htk, List.mem_append, List.mem_singleton]
          by_cases hx : x = k
          · subst hx
            simp
          · simp [hx]) (a := c) ⟨FR.rf, fun x => by simp⟩
      rw [List.take_length] at k1
      obtain ⟨s, r8, hs⟩ := q_below (fu := fu) (m0 := m1) hS hD hT.1 hQ1 hd hth
      have hi1 : INV e t c1 m1 := hm.fr f1 (FR.rf (F := [])) (by decide) (by simp)
      have hX1 : FSX c1 m1 := h.2.1.fr f1 g1 (by decide) (by decide)
      obtain ⟨e2, c2, m2, cnt, b1, b2, b3, b4, b5, b6, b7, b8, b9, b10⟩ := q_unbind (fu := fu) (s := s) hi1 hX1 (fun x hx hbx => by
        rw [f1.n (k := 2) (by decide)] at hx
        rw [bd_fr f1 (by decide)] at hbx
        have hxm := (hB.2.1 x).mpr ⟨hx, bd_ne.mp hbx⟩
        rw [k1 x, if_pos hxm, hs x hx]
        obtain ⟨q, hq⟩ : ∃ q, gp c 210 x = some q := by
          unfold bd at hbx
          exact Option.isSome_iff_exists.mp hbx
        rw [((hD x hx).2.2.2.2.2 q hq).2]
        rfl) (fun x hx hbx => by
        rw [f1.n (k := 2) (by decide)] at hx
        rw [bd_fr f1 (by decide)] at hbx
        rw [k1 x, if_neg (fun hm => by rw [bd_ne.mpr ((hB.2.1 x).mp hm).2] at hbx; cases hbx)]
        exact h.2.2.2.1 x hx) (by omega) hf
      have F2 : FR DF7 c c2 := (f1.mono (by decide)).tr b8
      have n2 := F2.n (k := 2) (by decide)
      have hD2 := b3.1.2.1
      obtain ⟨e3, c3, m3, cnt3, d1, d2, d3, d4, d5, d6, d7, d8⟩ := q_take (fu := fu) (top := d) (s := s) hf (gn c2 2) e2 c2 m2 0 (Nat.le_refl _) (by omega) b3 b4 (fun x hx hx2 => by omega) (fun x hx => by
        rw [n2] at hx
        rw [F2.b (by decide), aob_fr F2 (by decide)]
        exact hs x hx) (fun x hx hz => (b10 x (by rw [f1.n (k := 2) (by decide)]; omega)).1.2 hz) (by omega)
      have F3 : FR [0, 102, 208, 210, 211, 212, 215, 216, 217, 400, 401, 402, 502, 600, 1001] c c3 := (F2.mono (by decide)).tr (d7.mono (by decide))
      have hL3 : CL c3 := CL.fr (c := c2) (fun x hx => b5 x (by rw [f1.n (k := 2) (by decide)]; omega)) d7 (by decide)
      have hN3 : DN c3 := h.2.2.2.2.1.fr F3 (by decide)
      have hY3 : BH c3 := fun x hx hz => by
        rw [F3.n (k := 2) (by decide)] at hx
        rw [F3.b (by decide)] at hz
        cases hb : bd c3 x
        · rfl
        · rw [bd_fr d7 (by decide)] at hb
          have := (b10 x (by rw [f1.n (k := 2) (by decide)]; exact hx)).1.1 hb
          rw [bd_fr f1 (by decide), h.2.2.2.2.2.1 x hx hz] at this
          cases this
      have hZ3 : HB c3 := ((b10 d (by rw [f1.n (k := 2) (by decide)]; exact hd)).2 (h.2.2.2.2.2.2.fr f1 (by decide) fun x hx => by rw [bd_fr f1 (by decide)]; exact hx)).fr d7 (by decide) fun x hx => by rw [bd_fr d7 (by decide)]; exact hx
      obtain ⟨e4, c4, m4, x1, x2, x3, x4, x5, x6, x7, -, -⟩ := q_bindF (fu := fu) d3 d4 hL3 hN3 hY3 hZ3 (by omega) hf
      have hS2 := b3.1.1
      refine ⟨.ok cnt3, c4, cnt3, m4, e4, t, ?_, ?_, fun x hx => (by cases hx), (F3.mono (by decide)).tr (x6.mono (by decide)), (((g1.mono (by decide)).tr (b9.mono (by decide))).tr (d8.mono (by decide))).tr (x7.mono (by decide)), x3, by omega, by omega, Nat.le_refl _, by omega, ?_, fun v hv => by cases hv; rfl⟩
      · unfold f7_unplug
        rw [xb1_o (kn_7 hS hd), dr_k hd, hth, if_pos rfl]
        refine r7.fin ?_ (by omega)
        show f7_unplug_b25 fu (some d) (nI (gl c 1).length) c1 = _
        unfold f7_unplug_b25
        rw [f1.l (k := 1) (by decide), if_pos (by rw [nI_leN (by omega) (by omega)]; omega), b1, ob2_k rfl]
        have htake : f7_takeAway fu (some d) c2 = some (cnt3, c3) := by
          unfold f7_takeAway
          rw [hS2.1, List.length_range]
          refine d1.fin ?_ (by omega)
          show f7_takeAway_b12 fu (some d) cnt3 (dn 0) c3 = _
          unfold f7_takeAway_b12
          rw [if_pos dn_0]
          rfl
        rw [htake, ob2_k rfl, x1, ob1_k rfl]
        rfl
      · unfold f8_unplug f8_unplug_j27
        rw [dv_8 hS hQ hd, ob1_k rfl, if_pos rfl, ar_k _ (by omega) (by omega), (hQ.2.2.1 d hd).2.2.2.2.2.2.2.1, hth, if_pos rfl, g800, if_pos rfl, ← hm1, nI_s]
        refine r8.fin ?_ (by omega)
        show f8_unplug_b47 fu s (nI (gn c 2)) m1 = _
        unfold f8_unplug_b47
        rw [hQ1.1, if_pos (by rw [nI_leN (by omega) (by omega)]; omega), b2, ob2_k rfl, b3.1.2.2.2.2.2.1.1]
        have htake : lp (tB8 fu s) fu (0, dn (gn c2 2), m2) = some (cnt3, m4) := by
          refine d2.fin ?_ (by omega)
          show f8_unplug_b109 fu s cnt3 (dn 0) m3 = _
          unfold f8_unplug_b109
          rw [if_pos dn_0, x2, ob1_k rfl]
          rfl
        show oinr (lp (tB8 fu s) fu (0, dn (gn c2 2), m2)) = _
        rw [htake]
        rfl
      · rw [x7.i (by decide), d8.i (by decide), b9.i (by decide), hm1, g800]
        rfl
  · refine OKF.er (x := 1) (z := 0) h ?_ ?_ (Or.inl rfl)
    · unfold f7_unplug
      rw [xb1_e (kn_7e hS ha)]
    · unfold f8_unplug f8_unplug_j27
      rw [dv_8e hS hQ ha, ob1_k rfl, if_neg (by simp), g800, if_neg (by decide)]
      rfl
theorem F_load {fu e t : Nat} {c m : St} (a v : Int32) (h : INVF e t c m) (he : e + 1500 < 2 ^ 31) (hf : 200 ≤ fu) : OKF w12 E12 e t c m (f7_load fu a v c) (f8_load fu a v m) := by
  have hm := (h.m (v := 0)).1
  obtain ⟨hS, hD, hB, hW, hT, hQ, hO⟩ := h.1.1
  have hS' := hS
  obtain ⟨-, h24, l2, n8, -⟩ := hS'
  rcases rng (n := gn c 3) (by omega) a with ⟨d, hd, rfl⟩ | ha
  · cases hin : inV v 0 9 with
    | false =>
      refine OKF.er (x := 2) (z := 0) h ?_ ?_ (Or.inr rfl)
      · unfold f7_load
        rw [if_neg (nI_nlt0 (by omega)), l2, List.length_range, if_pos (by rw [nI_ltN (by omega) (by omega)]; exact hd), in_7, ob1_k rfl, hin, if_neg (by simp)]
      · unfold f8_load f8_load_j34
        rw [hQ.2.1, in_t hd (by omega), ob1_k rfl, if_pos rfl, in_8, ob1_k rfl, hin, if_neg (by simp), g800, if_neg (by decide)]
        rfl
    | true =>
      obtain ⟨m1, hm1⟩ : ∃ m1, m1 = zi m 800 0 0 := ⟨_, rfl⟩
      have g1 : FR [800] m m1 := by rw [hm1]; exact frt8
      rw [← hm1] at hm
      have f2 : FR [305] c (zi c 305 d v) := FR.rf.zi (by decide)
      have g2 : FR [829] m1 (zi m1 829 d v) := FR.rf.zi (by decide)
      have hi2 : INV e t (zi c 305 d v) (zi m1 829 d v) := by
        obtain ⟨⟨hS, hD, hB, hW, hT, hQ, hO⟩, hA, hP, hH, hSl, hXx, hLg⟩ := hm
        refine ⟨⟨hS.fr f2 (by decide), hD.fr f2 (by decide), hB.fr f2 (by decide), hW.fr f2 (by decide), ⟨hT.1.fr f2 (by decide), fun j h1 h2 => by rw [g2.i (by decide), g2.i (by decide), g2.b (by decide)]; exact hT.2.1 j h1 h2, fun q h1 h2 => by
          have h3 : d < gn c 3 := hd
          have h4 : gn c 3 ≤ q := h1
          rw [gi_zi, if_neg (by omega)]
          exact hT.2.2 q h1 h2⟩, ?_, hO.fr f2 g2 (by decide) (by decide) (Nat.le_refl _)⟩, hA.fr f2 g2 (by decide) (by decide), hP.fr f2 g2 (by decide) (by decide), hH.fr f2 g2 (by decide) (by decide) (Nat.le_refl _), hSl.fr f2 g2 (by decide) (by decide), hXx.fr f2 g2 (by decide) (by decide), hLg.fr f2 g2 (by decide) (by decide)⟩
        obtain ⟨q1, q2, q3, q4⟩ := hQ
        refine ⟨by rw [g2.i (by decide)]; exact q1, by rw [g2.i (by decide)]; exact q2, fun j hj => ?_, fun j hj => ?_⟩
        · have q5 := q3 j hj
          rw [g2.i (f := 804) (by decide), g2.i (f := 805) (by decide), g2.i (f := 806) (by decide), g2.i (f := 807) (by decide), g2.b (f := 808) (by decide), g2.i (f := 809) (by decide), g2.i (f := 810) (by decide), g2.b (f := 811) (by decide), g2.i (f := 812) (by decide), g2.i (f := 814) (by decide), g2.b (f := 818) (by decide), f2.i (f := 201) (by decide), f2.i (f := 202) (by decide), f2.i (f := 203) (by decide), f2.i (f := 211) (by decide)]
          exact q5
        · have q5 := q4 j hj
          rw [g2.i (f := 825) (by decide), g2.i (f := 826) (by decide), g2.i (f := 827) (by decide), g2.b (f := 828) (by decide), f2.i (f := 301) (by decide), f2.i (f := 302) (by decide), f2.i (f := 303) (by decide)]
          refine ⟨q5.1, q5.2.1, q5.2.2.1, q5.2.2.2.1, ?_⟩
          simp only [gi_zi]
          by_cases hjd : j = d
          · simp [hjd]
          · simp [hjd]
            exact q5.2.2.2.2
      obtain ⟨e4, c4, m4, x1, x2, x3, x4, x5, x6, x7, -, -⟩ := q_bindF (fu := fu) hi2 (h.2.1.fr f2 ((g1.mono (G := [800, 829]) (by decide)).tr (g2.mono (by decide))) (by decide) (by decide)) (h.2.2.2.1.fr f2 (by decide)) (h.2.2.2.2.1.fr f2 (by decide)) (h.2.2.2.2.2.1.fr f2 (by decide)) (h.2.2.2.2.2.2.fr f2 (by decide) fun x hx => by rw [bd_fr f2 (by decide)]; exact hx) (by omega) hf
      have h305 := (hQ.2.2.2 d hd).2.2.2.2
      refine ⟨.ok (gi c 305 d), c4, gi c 305 d, m4, e4, t, ?_, ?_, fun x hx => (by cases hx), (f2.mono (by decide)).tr (x6.mono (by decide)), ((g1.mono (by decide)).tr (g2.mono (by decide))).tr (x7.mono (by decide)), x3, by omega, by omega, Nat.le_refl _, by omega, ?_, fun v hv => by cases hv; rfl⟩
      · unfold f7_load
        rw [if_neg (nI_nlt0 (by omega)), l2, List.length_range, if_pos (by rw [nI_ltN (by omega) (by omega)]; exact hd), in_7, ob1_k rfl, hin, if_pos rfl, lg_r (σ := c) (k := 2) _ l2 hd (by omega) (show gn c 3 ≤ gn c 3 from Nat.le_refl _), x1, ob1_k rfl]
      · unfold f8_load f8_load_j34
        rw [hQ.2.1, in_t hd (by omega), ob1_k rfl, if_pos rfl, in_8, ob1_k rfl, hin, if_pos rfl, g800, if_pos rfl, ar_k _ (by omega) (by omega), ar_k _ (by omega) (by omega), ← hm1, x2, ob1_k rfl, g1.i (by decide), h305]
      · rw [x7.i (by decide), g2.i (by decide), hm1, g800]
        rfl
  · refine OKF.er (x := 1) (z := 0) h ?_ ?_ (Or.inl rfl)
    · unfold f7_load
      rw [l2, List.length_range]
      by_cases h0 : a < 0
      · rw [if_pos h0]
      · rw [if_neg h0, if_neg (ha.resolve_left h0)]
    · unfold f8_load f8_load_j34
      rw [hQ.2.1, in_f (by omega) ha, ob1_k rfl, if_neg (by simp), g800, if_neg (by decide)]
      rfl
/-- by hand or not -/
theorem Y_inv {e t d : Nat} {v : Bool} {c m : St} (h : INV e t c m) (hd : d < gn c 2) : INV e t (zb c 209 d v) (zb m 818 d v) := by
  have f2 : FR [209] c (zb c 209 d v) := FR.rf.zb (by decide)
  have g2 : FR [818] m (zb m 818 d v) := FR.rf.zb (by decide)
  obtain ⟨⟨hS, hD, hB, hW, hT, hQ, hO⟩, hA, hP, hH, hSl, hXx, hLg⟩ := h
  refine ⟨⟨hS.fr f2 (by decide), hD.fr f2 (by decide), hB.fr f2 (by decide), hW.fr f2 (by decide), ⟨hT.1.fr f2 (by decide), fun j h1 h2 => by
    have h3 : gn c 2 ≤ j := h1
    rw [g2.i (by decide), g2.i (by decide), gb_zb, if_neg (by omega)]
    exact hT.2.1 j h1 h2, fun q h1 h2 => by rw [g2.i (by decide)]; exact hT.2.2 q h1 h2⟩, ?_, hO.fr f2 g2 (by decide) (by decide) (Nat.le_refl _)⟩, hA.fr f2 g2 (by decide) (by decide), hP.fr f2 g2 (by decide) (by decide), hH.fr f2 g2 (by decide) (by decide) (Nat.le_refl _), hSl.fr f2 g2 (by decide) (by decide), hXx.fr f2 g2 (by decide) (by decide), hLg.fr f2 g2 (by decide) (by decide)⟩
  · obtain ⟨q1, q2, q3, q4⟩ := hQ
    refine ⟨by rw [g2.i (by decide)]; exact q1, by rw [g2.i (by decide)]; exact q2, fun j hj => ?_, fun j hj => ?_⟩
    · have q5 := q3 j hj
      rw [f2.b (f := 204) (by decide), f2.b (f := 208) (by decide), g2.b (f := 808) (by decide), g2.b (f := 811) (by decide)]
      refine ⟨q5.1, q5.2.1, q5.2.2.1, q5.2.2.2.1, q5.2.2.2.2.1, q5.2.2.2.2.2.1, q5.2.2.2.2.2.2.1, q5.2.2.2.2.2.2.2.1, q5.2.2.2.2.2.2.2.2.1, q5.2.2.2.2.2.2.2.2.2.1, ?_⟩
      simp only [gb_zb]
      by_cases hjd : j = d
      · simp [hjd]
      · simp [hjd]
        exact q5.2.2.2.2.2.2.2.2.2.2
    · have q5 := q4 j hj
      rw [f2.b (f := 304) (by decide), g2.b (f := 828) (by decide)]
      exact q5
theorem bnd_8 {fu d : Nat} {c m : St} (hS : CS c) (hD : CD c) (hQ : RQ c m) (hd : d < gn c 2) : f8_isBound fu (nI d) m = some (bd c d) := q_isBound hS hD hQ hd
theorem F_unbind {fu e t : Nat} {c m : St} (a : Int32) (h : INVF e t c m) (he : e + 1500 < 2 ^ 31) (hf : 200 ≤ fu) : OKF w13 E13 e t c m (f7_unbind fu a c) (f8_unbind fu a m) := by
  have hm := (h.m (v := 0)).1
  obtain ⟨hS, hD, hB, hW, hT, hQ, hO⟩ := h.1.1
  have h24 := hS.2.1
  rcases rng (n := gn c 2) (by omega) a with ⟨d, hd, rfl⟩ | ha
  · cases hbd : bd c d with
    | false =>
      refine OKF.er (x := 3) (z := 0) h ?_ ?_ (Or.inr rfl)
      · unfold f7_unbind
        rw [xb1_o (kn_7 hS hd), dr_k hd, ob1_k (q_isBoundC hd), hbd, if_neg (by simp)]
      · unfold f8_unbind f8_unbind_j26
        rw [dv_8 hS hQ hd, ob1_k rfl, if_pos rfl, ob1_k (bnd_8 hS hD hQ hd), hbd, if_neg (by simp), g800, if_neg (by decide)]
        rfl
    | true =>
      obtain ⟨m1, hm1⟩ : ∃ m1, m1 = zi m 800 0 0 := ⟨_, rfl⟩
      have g1 : FR [800] m m1 := by rw [hm1]; exact frt8
      rw [← hm1] at hm
      -- the class marks the device first, the reference behind the unbinding
      have f1 : FR [209, 217] c (zb (zb c 209 d true) 217 d true) := (FR.rf.zb (by decide)).zb (by decide)
      have g2 : FR [818] m1 (kp d true m1) := FR.rf.zb (by decide)
      have hi1 : INV e t (zb (zb c 209 d true) 217 d true) (kp d true m1) := (Y_inv (d := d) (v := true) hm hd).fr (F := [217]) (FR.rf.zb (by decide)) (FR.rf (F := [])) (by decide) (by simp)
      have e217 : ∀ x, gb (zb (zb c 209 d true) 217 d true) 217 x = if x = d then true else gb c 217 x := fun x => by simp [gb_zb]
      have e209 : ∀ x, gb (zb (zb c 209 d true) 217 d true) 209 x = if x = d then true else gb c 209 x := fun x => by simp [gb_zb]
      have hX1 : FSX (zb (zb c 209 d true) 217 d true) (kp d true m1) := h.2.1.fr f1 ((g1.mono (G := [800, 818]) (by decide)).tr (g2.mono (by decide))) (by decide) (by decide)
      obtain ⟨e2, c2, m2, cnt, b1, b2, b3, b4, b5, b6, b7, b8, b9, b10⟩ := q_unbind (fu := fu) (s := 1 <<< (nI d &&& 31)) hi1 hX1 (fun x hx hbx => by
        rw [f1.n (k := 2) (by decide)] at hx
        rw [e217, hb_1 (show d < 32 by omega) (show x < 32 by omega), h.2.2.2.1 x hx]
        by_cases hxd : x = d
        · simp [hxd]
        · simp [hxd]) (fun x hx hbx => by
        rw [f1.n (k := 2) (by decide)] at hx
        rw [bd_fr f1 (by decide)] at hbx
        rw [e217, if_neg (fun (z : x = d) => by rw [z, hbd] at hbx; cases hbx)]
        exact h.2.2.2.1 x hx) (by omega) hf
      have F2 : FR [0, 102, 209, 210, 211, 212, 215, 216, 217, 400, 401, 402, 502, 600, 1001] c c2 := (f1.mono (by decide)).tr (b8.mono (by decide))
      have hu : f8_unbindAll fu (1 <<< (nI d &&& 31)) (kp d true m1) = (f8_unbindAll fu (1 <<< (nI d &&& 31)) m1).map fun p => (p.1, kp d true p.2) := kp_unb m1
      obtain ⟨mB, hB1, hB2⟩ : ∃ mB, f8_unbindAll fu (1 <<< (nI d &&& 31)) m1 = some (cnt, mB) ∧ kp d true mB = m2 := by
        rw [b2] at hu
        cases hz : f8_unbindAll fu (1 <<< (nI d &&& 31)) m1 with
        | none => rw [hz] at hu; cases hu
        | some p =>
          rw [hz] at hu
          have hu2 := Option.some.inj hu
          exact ⟨p.2, by rw [show cnt = p.1 from congrArg Prod.fst hu2], (congrArg Prod.snd hu2).symm⟩
      have hY2 : BH c2 := fun x hx hz => by
        rw [F2.n (k := 2) (by decide)] at hx
        rw [b8.b (by decide), e209] at hz
        have hb10 := (b10 x (by rw [f1.n (k := 2) (by decide)]; exact hx)).1
        by_cases hxd : x = d
        · exact hb10.2 (by rw [hb_1 (show d < 32 by omega) (show x < 32 by omega)]; simp [hxd])
        · rw [if_neg hxd] at hz
          cases hb : bd c2 x
          · rfl
          · have := hb10.1 hb
            rw [bd_fr f1 (by decide), h.2.2.2.2.2.1 x hx hz] at this
            cases this
      have hZ2 : HB c2 := (b10 d (by rw [f1.n (k := 2) (by decide)]; exact hd)).2 (h.2.2.2.2.2.2.fr f1 (by decide) fun x hx => by rw [bd_fr f1 (by decide)]; exact hx)
      obtain ⟨e4, c4, m4, x1, x2, x3, x4, x5, x6, x7, -, -⟩ := q_bindF (fu := fu) b3 b4 (fun x hx => b5 x (by rw [← b8.n (k := 2) (by decide)]; exact hx)) (h.2.2.2.2.1.fr F2 (by decide)) hY2 hZ2 (by omega) hf
      refine ⟨.ok cnt, c4, cnt, m4, e4, t, ?_, ?_, fun x hx => (by cases hx), (F2.mono (by decide)).tr (x6.mono (by decide)), (((g1.mono (by decide)).tr (g2.mono (by decide))).tr (b9.mono (by decide))).tr (x7.mono (by decide)), x3, by omega, by omega, Nat.le_refl _, by omega, ?_, fun v hv => by cases hv; rfl⟩
      · unfold f7_unbind
        rw [xb1_o (kn_7 hS hd), dr_k hd, ob1_k (q_isBoundC hd), hbd, if_pos rfl, b1, ob2_k rfl, x1, ob1_k rfl]
      · unfold f8_unbind f8_unbind_j26
        rw [dv_8 hS hQ hd, ob1_k rfl, if_pos rfl, ob1_k (bnd_8 hS hD hQ hd), hbd, if_pos rfl, g800, if_pos rfl, ← hm1, hB1, ob2_k rfl, ar_k _ (by omega) (by omega), show zb mB 818 d true = m2 from hB2, x2, ob1_k rfl]
      · rw [x7.i (by decide), b9.i (by decide), g2.i (by decide), hm1, g800]
        rfl
  · refine OKF.er (x := 1) (z := 0) h ?_ ?_ (Or.inl rfl)
    · unfold f7_unbind
      rw [xb1_e (kn_7e hS ha)]
    · unfold f8_unbind f8_unbind_j26
      rw [dv_8e hS hQ ha, ob1_k rfl, if_neg (by simp), g800, if_neg (by decide)]
      rfl
