/-! ===== waking: the class's recursion and the reference's stack ===== -/
theorem z0 : (0 : Int32) = nI 0 := rfl
theorem z1 : (1 : Int32) = nI 1 := rfl
theorem nI_pm {p : Nat} (h : p + 1 < 2 ^ 31) : nI (p + 1) + (-1) = nI p := by
  rw [← nI_s, Int32.add_assoc]
  show nI p + (1 + -1) = nI p
  rw [show (1 : Int32) + -1 = 0 from rfl, Int32.add_zero]
theorem w_next {fu p d q : Nat} {m : St} (hp : p < 25) (hd : d < 24) (hq : q ≤ 3) (h1 : gi m 845 p = nI d) (h2 : gi m 846 p = nI q) : f8_wake_b16 fu (nI p) m = f8_wake_j70 fu (nI p) (nI d) (if q = 0 then gi m 804 d else if q = 1 then gi m 809 d else gi m 810 d) m := by
  unfold f8_wake_b16
  rw [if_neg (nI_nlt0 (by omega)), ar_k _ hp (by omega), ar_k _ hp (by omega), h1, h2]
  have e0 : nI q = 0 ↔ q = 0 := by rw [z0, nI_inj (by omega) (by omega)]
  have e1 : nI q = 1 ↔ q = 1 := by rw [z1, nI_inj (by omega) (by omega)]
  by_cases q0 : q = 0
  · rw [if_pos (e0.mpr q0), ar_k _ hd (by omega), if_pos q0]
  · rw [if_neg (mt e0.mp q0), if_neg q0, ar_k _ hp (by omega), h2]
    by_cases q1 : q = 1
    · rw [if_pos (e1.mpr q1), ar_k _ hd (by omega), if_pos q1]
    · rw [if_neg (mt e1.mp q1), ar_k _ hd (by omega), if_neg q1]
theorem w_on {fu d : Nat} {x y : Int32} {m : St} (hd : d < 24) (h : gb m 813 d = true) : f8_wake_j70 fu x (nI d) y m = some (.inl (x + (-1), m)) := by
  unfold f8_wake_j70
  rw [ar_k _ hd (by omega), if_pos h]
theorem w_fin {fu p d q e : Nat} {y : Int32} {b : Bool} {m : St} (hp : p < 25) (hd : d < 24) (h : gb m 813 d = false) (h2 : gi m 846 p = nI 3) (hq : q < 8) (h3 : gi m 812 d = nI q) (h4 : gb m 828 q = b) (h5 : gi m 842 0 = nI e) (he : e < 2 ^ 31) : f8_wake_j70 fu (nI p) (nI d) y m = some (.inl (nI p + (-1), W8 e d b m)) := by
  unfold f8_wake_j70
  rw [ar_k _ hd (by omega), if_neg (by rw [h]; simp), ar_k _ hp (by omega), h2, if_pos (by decide), ar_k _ hd (by omega), ar_k _ hd (by omega), ar_k _ hd (by omega)]
  obtain ⟨X, hX⟩ : ∃ X, X = zi (zb m 813 d true) 821 d (gi (zb m 813 d true) 801 0) := ⟨_, rfl⟩
  have x1 : gi X 812 d = nI q := by rw [hX]; simp [gi_zi, gi_zb, h3]
  have x2 : gb X 828 q = b := by rw [hX]; simp [gb_zi, gb_zb, h4]
  have x3 : gi X 816 d = gi m 816 d := by rw [hX]; simp [gi_zi, gi_zb]
  rw [← hX, x1, ar_k _ hq (by omega), x2]
  have key : ∀ v, v = (bif b then gi m 816 d else 0) → f8_wake_j190 fu (nI p) (nI d) (nI d) v X = some (.inl (nI p + (-1), W8 e d b m)) := by
    intro v hv
    unfold f8_wake_j190
    rw [ar_k _ hd (by omega), ar_k _ hd (by omega), q_event (e := e) (by rw [hX]; simp [gi_zi, gi_zb, h5]) he, ob1_k rfl]
    subst hv
    subst hX
    simp [W8, nt8, gi_zi, gi_zb]
  cases b
  · rw [if_neg (by simp)]
    exact key 0 rfl
  · rw [if_pos rfl, ar_k _ hd (by omega)]
    exact key _ x3
theorem w_skip {fu p d q : Nat} {y : Int32} {m : St} (hp : p < 25) (hd : d < 24) (h : gb m 813 d = false) (hq : q < 3) (h2 : gi m 846 p = nI q) (hy : y = -1 ∨ ∃ k, k < 24 ∧ y = nI k ∧ gb m 813 k = true) : f8_wake_j70 fu (nI p) (nI d) y m = some (.inl (nI p, zi m 846 p (nI (q + 1)))) := by
  unfold f8_wake_j70
  rw [ar_k _ hd (by omega), if_neg (by rw [h]; simp), ar_k _ hp (by omega), h2, if_neg (by rw [show (3 : Int32) = nI 3 from rfl, nI_leN (by omega) (by omega)]; omega), ar_k _ hp (by omega), ar_k _ hp (by omega), h2, nI_s]
  rcases hy with rfl | ⟨k, hk, rfl, h3⟩
  · rw [if_pos rfl]
  · rw [if_neg (nI_neg1 (by omega)), ar_k _ hk (by omega), if_pos (by rw [gb_zi]; exact h3)]
theorem w_push {fu p d q k : Nat} {m : St} (hp : p + 1 < 25) (hd : d < 24) (h : gb m 813 d = false) (hq : q < 3) (h2 : gi m 846 p = nI q) (hk : k < 24) (h3 : gb m 813 k = false) : f8_wake_j70 fu (nI p) (nI d) (nI k) m = some (.inl (nI (p + 1), zi (zi (zi m 846 p (nI (q + 1))) 845 (p + 1) (nI k)) 846 (p + 1) 0)) := by
  unfold f8_wake_j70
  rw [ar_k _ hd (by omega), if_neg (by rw [h]; simp), ar_k _ (show p < 25 by omega) (by omega), h2, if_neg (by rw [show (3 : Int32) = nI 3 from rfl, nI_leN (by omega) (by omega)]; omega), ar_k _ (show p < 25 by omega) (by omega), ar_k _ (show p < 25 by omega) (by omega), h2, nI_s, if_neg (nI_neg1 (by omega)), ar_k _ hk (by omega), if_neg (by rw [gb_zi, h3]; simp), nI_s, ar_k _ hp (by omega), ar_k _ hp (by omega)]
theorem WRL.fm {G : List Nat} {e t : Nat} {c m m' : St} (h : WRL e t c m) (hg : FR G m m') (hm : ∀ x ∈ [801, 803, 804, 805, 806, 807, 808, 809, 810, 811, 812, 813, 814, 815, 816, 818, 820, 821, 823, 824, 825, 826, 827, 828, 829, 842, 843, 844], x ∉ G) : WRL e t c m' :=
  ⟨h.1.fr (F := []) FR.rf hg (fun _ _ => by simp) (fun x hx => hm x (by revert x; decide)) (Nat.le_refl _), h.2.1.fr (F := []) FR.rf hg (fun _ _ => by simp) (fun x hx => hm x (by revert x; decide)), h.2.2.fr (F := []) FR.rf hg (fun _ _ => by simp) (fun x hx => hm x (by revert x; decide))⟩
def WKP (d e t : Nat) (c m : St) (e' : Nat) (c' m' : St) : Prop := WRL e' t c' m' ∧ FR WF7 c c' ∧ FR WF8 m m' ∧ (∀ j, gb c 212 j = true → gb c' 212 j = true) ∧ (∀ j, d < j → gb c' 212 j = gb c 212 j) ∧ (∀ j, gb m' 822 j = (gb m 822 j && (gb c 212 j || !gb c' 212 j))) ∧ e' + asl c' = e + asl c ∧ e ≤ e' ∧ gi m' 847 0 = gi m 847 0 + nI (e' - e)
theorem WKP.rf {d e t : Nat} {c m : St} (h : WRL e t c m) : WKP d e t c m e c m :=
  ⟨h, FR.rf, FR.rf, fun _ h => h, fun _ _ => rfl, fun j => by cases gb c 212 j <;> simp, rfl, Nat.le_refl _, by rw [Nat.sub_self]; exact (Int32.add_zero _).symm⟩
theorem WKP.tr {d1 d2 d e t e1 e2 : Nat} {c m c1 m1 c2 m2 : St} (h : WKP d1 e t c m e1 c1 m1) (h' : WKP d2 e1 t c1 m1 e2 c2 m2) (k1 : d1 ≤ d) (k2 : d2 ≤ d) : WKP d e t c m e2 c2 m2 := by
  obtain ⟨a1, a2, a3, a4, a5, a6, a7, a8, a9⟩ := h
  obtain ⟨b1, b2, b3, b4, b5, b6, b7, b8, b9⟩ := h'
  refine ⟨b1, a2.tr b2, a3.tr b3, fun j hj => b4 j (a4 j hj), fun j hj => by rw [b5 j (by omega), a5 j (by omega)], fun j => ?_, by omega, by omega, ?_⟩
  · have x1 := a4 j
    have x2 := b4 j
    rw [b6, a6]
    revert x1 x2
    cases gb c 212 j <;> cases gb c1 212 j <;> cases gb c2 212 j <;> cases gb m 822 j <;> simp
  · rw [b9, a9, Int32.add_assoc, show nI (e1 - e) + nI (e2 - e1) = nI ((e1 - e) + (e2 - e1)) from (Int32.ofNat_add _ _).symm, show (e1 - e) + (e2 - e1) = e2 - e by omega]
/-- the reference's stack was written: nothing that counts -/
theorem WKP.wr {d e t e' : Nat} {c m m1 c' m' : St} (h : WKP d e t c m1 e' c' m') (hg : FR [845, 846] m m1) : WKP d e t c m e' c' m' := by
  obtain ⟨a1, a2, a3, a4, a5, a6, a7, a8, a9⟩ := h
  exact ⟨a1, a2, (hg.mono (by decide)).tr a3, a4, a5, fun j => by rw [a6, hg.b (by decide)], a7, a8, by rw [a9, hg.i (by decide)]⟩
theorem WKP.wl {d e t e' : Nat} {c m c' m' m2 : St} (h : WKP d e t c m e' c' m') (hg : FR [845, 846] m' m2) : WKP d e t c m e' c' m2 := by
  obtain ⟨a1, a2, a3, a4, a5, a6, a7, a8, a9⟩ := h
  exact ⟨a1.fm hg (by decide), a2, a3.tr (hg.mono (by decide)), a4, a5, fun j => by rw [hg.b (by decide), a6], a7, a8, by rw [hg.i (by decide), a9]⟩
/-- one is woken that all is awake for -/
theorem WKP.w {d e t : Nat} {c m : St} (h : WRL e t c m) (hd : d < gn c 2) (hb : bd c d = true) (h0 : gb c 212 d = false) (hn : ∀ f, isN3 f → ∀ k, gp c f d = some k → gb c 212 k = true) : WKP d e t c m (e + 1) (W7 e d c) (W8 e d (sv c d) m) := by
  refine ⟨W_core h hd hb h0 hn, W7_fr, W8_fr, fun j hj => by rw [W7_b, hj]; simp, fun j hj => by rw [W7_b, if_neg (by omega)], fun j => ?_, ?_, by omega, ?_⟩
  · rw [W8_s, W7_b]
    by_cases hjd : j = d
    · subst hjd
      simp [h0]
    · rw [if_neg hjd, if_neg hjd]
      cases gb c 212 j <;> simp
  · have := asl_w (e := e) hd h0
    omega
  · rw [W8_w, Nat.add_sub_cancel_left]
    rfl
abbrev wB (fu : Nat) : Int32 × St → Option ((Int32 × St) ⊕ St) := fun s8 => f8_wake_b16 fu s8.1 s8.2
theorem wk_none {fu D : Nat} {x : Int32} {c : St} (h : 0 < D) : f7_wakeR fu D none x c = some c := by
  obtain ⟨D, rfl⟩ : ∃ k, D = k + 1 := ⟨D - 1, by omega⟩
  show f7_wakeB fu _ none x c = _
  unfold f7_wakeB
  rw [if_pos rfl]
theorem wk_awake {fu D d : Nat} {x : Int32} {c : St} (h : 0 < D) (hd : d < gn c 2) (ha : gb c 212 d = true) : f7_wakeR fu D (some d) x c = some c := by
  obtain ⟨D, rfl⟩ : ∃ k, D = k + 1 := ⟨D - 1, by omega⟩
  show f7_wakeB fu _ (some d) x c = _
  unfold f7_wakeB
  rw [if_neg (by simp), dr_k hd, if_pos ha]
/-- what is known of the waking of those below d -/
def WKI (fu d : Nat) : Prop := ∀ (e t : Nat) (c m : St) (p D dp : Nat), WRL e t c m → d < gn c 2 → bd c d = true → gb c 212 d = false → p + d ≤ 23 → d + 1 < D → dp + d ≤ 24 → e + asl c < 2 ^ 31 → gi m 845 p = nI d → gi m 846 p = nI 0 →
  ∃ e' c' m', f7_wakeR fu D (some d) (nI dp) c = some c' ∧ Rn (wB fu) (4 * (e' - e)) (nI p, m) (nI p + (-1), m') ∧ (∀ j, j < p → gi m' 845 j = gi m 845 j ∧ gi m' 846 j = gi m 846 j) ∧ WKP d e t c m e' c' m' ∧ gb c' 212 d = true
theorem wk_need {fu d f q e t p D dp : Nat} {c m : St} (ih : ∀ k, k < d → WKI fu k) (h : WRL e t c m) (hd : d < gn c 2) (hb : bd c d = true) (h0 : gb c 212 d = false) (hp : p + d ≤ 23) (hD : d < D) (hdp : dp + d ≤ 25) (he : e + asl c < 2 ^ 31) (hw : gi m 845 p = nI d) (hl : gi m 846 p = nI q) (hq : (q = 0 ∧ f = 205) ∨ (q = 1 ∧ f = 206) ∨ (q = 2 ∧ f = 207)) :
    ∃ e' c' m', f7_wakeR fu D (gp c f d) (nI dp) c = some c' ∧ Rn (wB fu) (4 * (e' - e) + 1) (nI p, m) (nI p, m') ∧ (∀ j, j < p → gi m' 845 j = gi m 845 j ∧ gi m' 846 j = gi m 846 j) ∧ gi m' 845 p = nI d ∧ gi m' 846 p = nI (q + 1) ∧ WKP d e t c m e' c' m' ∧ gb c' 212 d = false ∧ ∀ k, gp c f d = some k → gb c' 212 k = true := by
  have hQ := h.1
  have hn24 := hQ.1.2.1
  have hR := h.2.1.2.1 d hd
  have hq2 := hQ.2.2.2.2.2.1.2.2.1 d hd
  have h813 : gb m 813 d = false := hR.1.trans h0
  have hf : isN3 f := by unfold isN3; omega
  have hy : (if q = 0 then gi m 804 d else if q = 1 then gi m 809 d else gi m 810 d) = enc (gp c f d) := by
    rcases hq with ⟨rfl, rfl⟩ | ⟨rfl, rfl⟩ | ⟨rfl, rfl⟩
    · exact hq2.2.2.2.2.1
    · exact hq2.2.2.2.2.2.1
    · exact hq2.2.2.2.2.2.2.1
  have hnx := w_next (fu := fu) (p := p) (d := d) (q := q) (m := m) (by omega) (by omega) (by omega) hw hl
  rw [hy] at hnx
  have hsk : (enc (gp c f d) = -1 ∨ ∃ k, k < 24 ∧ enc (gp c f d) = nI k ∧ gb m 813 k = true) → (∀ k, gp c f d = some k → gb c 212 k = true) → f7_wakeR fu D (gp c f d) (nI dp) c = some c → ∃ e' c' m', f7_wakeR fu D (gp c f d) (nI dp) c = some c' ∧ Rn (wB fu) (4 * (e' - e) + 1) (nI p, m) (nI p, m') ∧ (∀ j, j < p → gi m' 845 j = gi m 845 j ∧ gi m' 846 j = gi m 846 j) ∧ gi m' 845 p = nI d ∧ gi m' 846 p = nI (q + 1) ∧ WKP d e t c m e' c' m' ∧ gb c' 212 d = false ∧ ∀ k, gp c f d = some k → gb c' 212 k = true := by
    intro hs ha hc
    refine ⟨e, c, zi m 846 p (nI (q + 1)), hc, ?_, fun j hj => ⟨by simp [gi_zi], by rw [gi_zi, if_neg (by omega)]⟩, by rw [gi_zi, if_neg (by omega)]; exact hw, by rw [gi_zi, if_pos ⟨rfl, rfl⟩], (WKP.rf h).wl (FR.rf.zi (by decide)), h0, ha⟩
    rw [Nat.sub_self]
    refine Rn.one ?_
    show f8_wake_b16 fu (nI p) m = _
    rw [hnx]
    exact w_skip (by omega) (by omega) h813 (by omega) hl hs
  cases hk : gp c f d with
  | none =>
    rw [hk] at hsk
    exact hsk (Or.inl rfl) (fun k hk => by cases hk) (wk_none (by omega))
  | some k =>
    have hkd : k < d := (hQ.2.1 d hd).2.2.2.2.1 f hf k hk
    have hkb := (bd_need hQ.2.2.1 hd hb hf hk).1
    have hRk := h.2.1.2.1 k (by omega)
    cases hak : gb c 212 k with
    | true =>
      rw [hk] at hsk
      exact hsk (Or.inr ⟨k, by omega, rfl, hRk.1.trans hak⟩) (fun k' hk' => by cases hk'; exact hak) (wk_awake (by omega) (by omega) hak)
    | false =>
      rw [hk] at hnx
      have hpu := w_push (fu := fu) (p := p) (d := d) (q := q) (k := k) (m := m) (by omega) (by omega) h813 (by omega) hl (by omega) (hRk.1.trans hak)
      have hfr : FR [845, 846] m (zi (zi (zi m 846 p (nI (q + 1))) 845 (p + 1) (nI k)) 846 (p + 1) 0) := ((FR.rf.zi (by decide)).zi (by decide)).zi (by decide)
      obtain ⟨e', c', m', k1, k2, k3, k4, k5⟩ := ih k hkd e t c _ (p + 1) D dp (h.fm hfr (by decide)) (by omega) hkb hak (by omega) (by omega) (by omega) he (by simp [gi_zi]) (by simp [gi_zi, z0])
      refine ⟨e', c', m', k1, ?_, fun j hj => ?_, ?_, ?_, ?_, ?_, ?_⟩
      · have s1 : Rn (wB fu) 1 (nI p, m) (nI (p + 1), zi (zi (zi m 846 p (nI (q + 1))) 845 (p + 1) (nI k)) 846 (p + 1) 0) := Rn.one (hnx.trans hpu)
        have s2 := s1.app k2
        rw [nI_pm (by omega), Nat.add_comm] at s2
        exact s2
      · have := k3 j (by omega)
        rw [this.1, this.2]
        simp only [gi_zi]
        refine ⟨?_, ?_⟩
        · rw [if_neg (by omega), if_neg (by omega), if_neg (by omega)]
        · rw [if_neg (by omega), if_neg (by omega), if_neg (by omega)]
      · rw [(k3 p (by omega)).1]
        simp only [gi_zi]
        rw [if_neg (by omega), if_neg (by omega), if_neg (by omega)]
        exact hw
      · rw [(k3 p (by omega)).2]
        simp only [gi_zi]
        rw [if_neg (by omega), if_neg (by omega)]
        simp
      · exact ((WKP.rf h).tr (k4.wr hfr) (Nat.le_refl d) (by omega))
      · rw [k4.2.2.2.2.1 d hkd]
        exact h0
      · intro k' hk'
        cases hk'
        exact k5
theorem wk_all {fu : Nat} : ∀ d, WKI fu d := by
  intro d
  induction d using Nat.strongRecOn with
  | ind d ih =>
    intro e t c m p D dp h hd hb h0 hp hD hdp he hw hl
    obtain ⟨D, rfl⟩ : ∃ k, D = k + 1 := ⟨D - 1, by omega⟩
    have hn24 := h.1.1.2.1
    obtain ⟨e1, c1, m1, a1, a2, a3, a4, a5, a6, a7, a8⟩ := wk_need (f := 205) (q := 0) (D := D) (dp := dp + 1) ih h hd hb h0 hp (by omega) (by omega) he hw hl (by omega)
    have g1 := a6.2.1
    obtain ⟨e2, c2, m2, b1, b2, b3, b4, b5, b6, b7, b8⟩ := wk_need (f := 206) (q := 1) (D := D) (dp := dp + 1) ih a6.1 (by rw [g1.n (k := 2) (by decide)]; exact hd) (by rw [bd_fr g1 (by decide)]; exact hb) a7 hp (by omega) (by omega) (by rw [a6.2.2.2.2.2.2.1]; exact he) a4 a5 (by omega)
    have b6' := a6.tr b6 (Nat.le_refl d) (Nat.le_refl d)
    have g2 := b6'.2.1
    obtain ⟨e3, c3, m3, d1, d2, d3, d4, d5, d6, d7, d8⟩ := wk_need (f := 207) (q := 2) (D := D) (dp := dp + 1) ih b6.1 (by rw [g2.n (k := 2) (by decide)]; exact hd) (by rw [bd_fr g2 (by decide)]; exact hb) b7 hp (by omega) (by omega) (by rw [b6'.2.2.2.2.2.2.1]; exact he) b4 b5 (by omega)
    have d6' := b6'.tr d6 (Nat.le_refl d) (Nat.le_refl d)
    have g3 := d6'.2.1
    have hd3 : d < gn c3 2 := by rw [g3.n (k := 2) (by decide)]; exact hd
    have hb3 : bd c3 d = true := by rw [bd_fr g3 (by decide)]; exact hb
    have hn3 : ∀ f, isN3 f → ∀ k, gp c3 f d = some k → gb c3 212 k = true := by
      intro f hf k hk
      rcases hf with rfl | rfl | rfl
      · rw [g3.p (by decide)] at hk
        exact d6.2.2.2.1 k (b6.2.2.2.1 k (a8 k hk))
      · rw [g3.p (by decide), ← g1.p (by decide)] at hk
        exact d6.2.2.2.1 k (b8 k hk)
      · rw [g3.p (by decide), ← g2.p (by decide)] at hk
        exact d8 k hk
    have hwk := WKP.w d6.1 hd3 hb3 d7 hn3
    have hpost := d6'.tr hwk (Nat.le_refl d) (Nat.le_refl d)
    have he3 : e3 < 2 ^ 31 := by have := d6'.2.2.2.2.2.2.1; omega
    refine ⟨e3 + 1, _, _, ?_, ?_, fun j hj => ?_, hpost, by rw [W7_b]; simp⟩
    · show f7_wakeB fu (f7_wakeNeedsB fu (f7_wakeR fu D)) (some d) (nI dp) c = _
      unfold f7_wakeB
      rw [if_neg (by simp), dr_k hd, if_neg (by rw [h0]; simp), if_pos (by rw [show (24 : Int32) = nI 24 from rfl, nI_leN (by omega) (by omega)]; omega), nI_s]
      have hN : f7_wakeNeedsB fu (f7_wakeR fu D) (some d) (nI (dp + 1)) c = some c3 := by
        unfold f7_wakeNeedsB lt
        dsimp only
        rw [dr_k hd, a1, ob1_k rfl, ckd (by rw [g1.n (k := 2) (by decide)]; exact hd), b1, ob1_k rfl, ckd (by rw [g2.n (k := 2) (by decide)]; exact hd), d1, ob1_k rfl]
      rw [hN, ob1_k rfl, ckd hd3]
      have hX : FR [212, 214] c3 (zi (zb c3 212 d true) 214 d (gi (zb c3 212 d true) 708 0)) := (FR.rf.zb (by decide)).zi (by decide)
      rw [q_isSaved (d6.1.1.2.1.fr hX (by decide)) hd3, ob1_k rfl]
      have hs : sv (zi (zb c3 212 d true) 214 d (gi (zb c3 212 d true) 708 0)) d = sv c3 d := by
        simp [sv, gp_zi, gp_zb, gb_zi, gb_zb]
      rw [hs]
      have hlog : gi c3 402 0 = nI e3 := d6.1.2.2.1
      have hnum : gi c3 200 d = nI d := (d6.1.1.2.1 d hd3).1
      have hj : ∀ X : St, gn X 2 = gn c3 2 → gi X 200 d = nI d → gi X 402 0 = nI e3 → f7_wake_j51 fu (some d) X = some (nt7 e3 4 (nI d) X) := by
        intro X x1 x2 x3
        unfold f7_wake_j51
        rw [dr_k (by rw [x1]; exact hd3), x2, q_note x3 he3, ob1_k rfl]
      unfold W7
      cases hsv : sv c3 d
      · rw [if_neg (by simp)]
        exact (hj _ (by rfl) (by simp [gi_zi, gi_zb, hnum]) (by simp [gi_zi, gi_zb, hlog])).trans rfl
      · rw [if_pos rfl]
        exact (hj _ (by rfl) (by simp [gi_zi, gi_zb, hnum]) (by simp [gi_zi, gi_zb, hlog])).trans rfl
    · have hq3 := d6.1.1.2.2.2.2.2.1
      have hdv : ∃ q, gp c3 210 d = some q := by
        unfold bd at hb3
        exact Option.isSome_iff_exists.mp hb3
      obtain ⟨q, hq⟩ := hdv
      have hq4 := ((d6.1.1.2.1 d hd3).2.2.2.2.2 q hq).1
      have hq8 := d6.1.1.1.2.2.2.1
      have s4 : Rn (wB fu) 1 (nI p, m3) (nI p + (-1), W8 e3 d (sv c3 d) m3) := by
        refine Rn.one ?_
        show f8_wake_b16 fu (nI p) m3 = _
        rw [w_next (by omega) (by omega) (by omega) d4 d5]
        refine w_fin (q := q) (by omega) (by omega) ((d6.1.2.1.2.1 d hd3).1.trans d7) d5 (by omega) ?_ ?_ d6.1.2.2.2.1 he3
        · rw [(hq3.2.2.1 d hd3).2.2.2.2.2.2.2.2.1, hq]
          rfl
        · rw [(hq3.2.2.2 q hq4).2.2.2.1]
          unfold sv
          rw [hq]
      have s5 := ((a2.app b2).app d2).app s4
      have x1 := a6.2.2.2.2.2.2.2.1
      have x2 := b6.2.2.2.2.2.2.2.1
      have x3 := d6.2.2.2.2.2.2.2.1
      rw [show 4 * (e1 - e) + 1 + (4 * (e2 - e1) + 1) + (4 * (e3 - e2) + 1) + 1 = 4 * (e3 + 1 - e) by omega] at s5
      exact s5
    · rw [W8_o (by omega), W8_o (by omega), (d3 j hj).1, (d3 j hj).2, (b3 j hj).1, (b3 j hj).2]
      exact a3 j hj
theorem q_wake {fu e t d dp : Nat} {c m : St} (h : WRL e t c m) (hd : d < gn c 2) (hb : bd c d = true) (he : e + asl c < 2 ^ 31) (hf : 200 ≤ fu) (hdp : dp + d ≤ 24) :
    ∃ e' c' m', f7_wakeR fu 30 (some d) (nI dp) c = some c' ∧ f8_wake fu (nI d) m = some m' ∧ WKP d e t c m e' c' m' ∧ gb c' 212 d = true := by
  have hn24 := h.1.1.2.1
  have hfr : FR [845, 846] m (zi (zi m 845 0 (nI d)) 846 0 0) := (FR.rf.zi (by decide)).zi (by decide)
  have hun : f8_wake fu (nI d) m = lp (wB fu) fu (nI 0, zi (zi m 845 0 (nI d)) 846 0 0) := by
    unfold f8_wake
    rw [z0, ar_k _ (show 0 < 25 by omega) (by omega), ar_k _ (show 0 < 25 by omega) (by omega)]
  have hex : ∀ m' : St, wB fu (nI 0 + (-1), m') = some (.inr m') := by
    intro m'
    show f8_wake_b16 fu (nI 0 + (-1)) m' = _
    unfold f8_wake_b16
    rw [if_pos (by decide)]
    rfl
  cases h0 : gb c 212 d with
  | true =>
    refine ⟨e, c, _, wk_awake (by omega) hd h0, ?_, (WKP.rf h).wl hfr, h0⟩
    rw [hun]
    have s1 : Rn (wB fu) 1 (nI 0, zi (zi m 845 0 (nI d)) 846 0 0) (nI 0 + (-1), zi (zi m 845 0 (nI d)) 846 0 0) := by
      refine Rn.one ?_
      show f8_wake_b16 fu (nI 0) _ = _
      rw [w_next (d := d) (q := 0) (by omega) (by omega) (by omega) (by simp [gi_zi]) (by simp [gi_zi, z0])]
      exact w_on (by omega) ((h.2.1.2.1 d hd).1.trans h0)
    exact s1.fin (hex _) (by omega)
  | false =>
    obtain ⟨e', c', m', k1, k2, k3, k4, k5⟩ := wk_all (fu := fu) d e t c _ 0 30 dp (h.fm hfr (by decide)) hd hb h0 (by omega) (by omega) hdp he (by simp [gi_zi]) (by simp [gi_zi, z0])
    refine ⟨e', c', m', k1, ?_, k4.wr hfr, k5⟩
    rw [hun]
    refine k2.fin (hex _) ?_
    have x1 := k4.2.2.2.2.2.2.1
    have x2 := asl_le hn24
    omega
/-- all that it needs is awake: it alone is woken -/
theorem q_wake1 {fu e d D dp : Nat} {c : St} (hD : CD c) (hd : d < gn c 2) (hn : gn c 2 ≤ 24) (h0 : gb c 212 d = false) (hne : ∀ f, isN3 f → ∀ k, gp c f d = some k → gb c 212 k = true) (hdp : dp ≤ 24) (hl : gi c 402 0 = nI e) (he : e < 2 ^ 31) : f7_wakeR fu (D + 2) (some d) (nI dp) c = some (W7 e d c) := by
  show f7_wakeB fu (f7_wakeNeedsB fu (f7_wakeR fu (D + 1))) (some d) (nI dp) c = _
  have hw : ∀ f, isN3 f → ∀ x, f7_wakeR fu (D + 1) (gp c f d) x c = some c := by
    intro f hf x
    cases hk : gp c f d with
    | none => exact wk_none (by omega)
    | some k => exact wk_awake (by omega) (by have := (hD d hd).2.2.2.2.1 f hf k hk; omega) (hne f hf k hk)
  unfold f7_wakeB
  rw [if_neg (by simp), dr_k hd, if_neg (by rw [h0]; simp), if_pos (by rw [show (24 : Int32) = nI 24 from rfl, nI_leN (by omega) (by omega)]; omega), nI_s]
  have hN : f7_wakeNeedsB fu (f7_wakeR fu (D + 1)) (some d) (nI (dp + 1)) c = some c := by
    unfold f7_wakeNeedsB lt
    dsimp only
    rw [dr_k hd, hw 205 (Or.inl rfl), ob1_k rfl, ckd hd, hw 206 (Or.inr (Or.inl rfl)), ob1_k rfl, ckd hd, hw 207 (Or.inr (Or.inr rfl)), ob1_k rfl]
  rw [hN, ob1_k rfl, ckd hd]
  have hX : FR [212, 214] c (zi (zb c 212 d true) 214 d (gi (zb c 212 d true) 708 0)) := (FR.rf.zb (by decide)).zi (by decide)
  rw [q_isSaved (hD.fr hX (by decide)) hd, ob1_k rfl]
  have hs : sv (zi (zb c 212 d true) 214 d (gi (zb c 212 d true) 708 0)) d = sv c d := by
    simp [sv, gp_zi, gp_zb, gb_zi, gb_zb]
  rw [hs]
  have hnum : gi c 200 d = nI d := (hD d hd).1
  have hj : ∀ X : St, gn X 2 = gn c 2 → gi X 200 d = nI d → gi X 402 0 = nI e → f7_wake_j51 fu (some d) X = some (nt7 e 4 (nI d) X) := by
    intro X x1 x2 x3
    unfold f7_wake_j51
    rw [dr_k (by rw [x1]; exact hd), x2, q_note x3 he, ob1_k rfl]
  unfold W7
  cases hsv : sv c d
  · rw [if_neg (by simp)]
    exact (hj _ (by rfl) (by simp [gi_zi, gi_zb, hnum]) (by simp [gi_zi, gi_zb, hl])).trans rfl
  · rw [if_pos rfl]
    exact (hj _ (by rfl) (by simp [gi_zi, gi_zb, hnum]) (by simp [gi_zi, gi_zb, hl])).trans rfl
