/-! ===== binding: attach and bindNow, the rounds ===== -/
theorem INV.wrl {e t : Nat} {c m : St} (h : INV e t c m) : WRL e t c m := ⟨h.1, h.2.1, h.2.2.2.2.2.2⟩
theorem INV.wk {d e t e' : Nat} {c m c' m' : St} (h : INV e t c m) (hw : WKP d e t c m e' c' m') : INV e' t c' m' := by
  obtain ⟨⟨a1, a2, a3⟩, b, d1, d2, _, _, _, he, _⟩ := hw
  obtain ⟨hQ, hA, hP, hH, hSl, hX, hL⟩ := h
  exact ⟨a1, a2, hP.fr b d1 (by decide) (by decide), hH.aw b d1 (by decide) (by decide) he (fun _ _ d' _ _ _ _ _ ha => d2 d' ha), hSl.fr b d1 (by decide) (by decide), hX.fr b d1 (by decide) (by decide), a3⟩
theorem WKP.up {d d2 e t e' : Nat} {c m c' m' : St} (hw : WKP d e t c m e' c' m') (h : WRL e t c m) (hd : d ≤ d2) : WKP d2 e t c m e' c' m' := (WKP.rf (d := d2) h).tr hw (Nat.le_refl _) hd
theorem at_need {fu f d e t : Nat} {c m : St} (hf3 : isN3 f) (h : INV e t c m) (hd : d < gn c 2) (hn : ∀ k, gp c f d = some k → bd c k = true) (he : e + asl c < 2 ^ 31) (hf : 200 ≤ fu) :
    ∃ e' c' m', f7_wakeR fu 30 (gp c f d) (nI 1) c = some c' ∧ (if enc (gp c f d) = -1 then some m else f8_wake fu (enc (gp c f d)) m) = some m' ∧ WKP d e t c m e' c' m' ∧ ∀ k, gp c f d = some k → gb c' 212 k = true := by
  have hn24 := h.1.1.2.1
  cases hk : gp c f d with
  | none => exact ⟨e, c, m, wk_none (by omega), by rw [enc_none, if_pos rfl], WKP.rf h.wrl, fun k hk => by cases hk⟩
  | some k =>
    have hkd := (h.1.2.1 d hd).2.2.2.2.1 f hf3 k hk
    obtain ⟨e', c', m', h1, h2, h3, h4⟩ := q_wake (fu := fu) (dp := 1) h.wrl (show k < gn c 2 by omega) (hn k hk) he hf (by omega)
    exact ⟨e', c', m', h1, by rw [enc_some, if_neg (nI_neg1 (by omega))]; exact h2, h3.up h.wrl (by omega), fun k' hk' => by cases hk'; exact h4⟩
theorem bn_step {fu : Nat} {y : Int32} {m m' : St} {g : St → Option St} (h : (if y = -1 then some m else f8_wake fu y m) = some m') : (if y = -1 then g m else (ob1 (f8_wake fu y m) g)) = g m' := by
  by_cases hy : y = -1
  · rw [if_pos hy] at h ⊢
    cases h
    rfl
  · rw [if_neg hy] at h ⊢
    rw [h]
    rfl
theorem okl_of {c : St} {k : Nat} (h : ∀ x ∈ gl c k, x < cn c (ek k)) : okl c k = true := by
  unfold okl
  rw [List.all_eq_true]
  exact fun x hx => decide_eq_true (h x hx)
theorem RQ.w {c m : St} {d : Nat} {p : Int32} (h : RQ c m) : RQ (zi c 211 d p) (zi m 814 d p) := by
  obtain ⟨h1, h2, h3, h4⟩ := h
  refine ⟨by simpa [gi_zi, gn_zi] using h1, by simpa [gi_zi, gn_zi] using h2, fun j hj => ?_, fun j hj => ?_⟩
  · have h5 := h3 j hj
    simp only [gi_zi, gb_zi, gp_zi]
    refine ⟨by simpa using h5.1, by simpa using h5.2.1, by simpa using h5.2.2.1, by simpa using h5.2.2.2.1, by simpa using h5.2.2.2.2.1, by simpa using h5.2.2.2.2.2.1, by simpa using h5.2.2.2.2.2.2.1, by simpa using h5.2.2.2.2.2.2.2.1, by simpa using h5.2.2.2.2.2.2.2.2.1, ?_, h5.2.2.2.2.2.2.2.2.2.2⟩
    by_cases hjd : j = d
    · simp [hjd]
    · simp [hjd]
      exact h5.2.2.2.2.2.2.2.2.2.1
  · have h5 := h4 j hj
    simpa [gi_zi, gb_zi] using h5
theorem at_7 {fu d e q : Nat} {p : Int32} {c : St} (hS : CS c) (hD : CD c) (hB : CB c) (hd : d < gn c 2) (hv : DRV c (idn c d) = some q) (hl : gi c 402 0 = nI e) (he : e < 2 ^ 31) (hf : 200 ≤ fu) : f7_attach_j23 fu (some d) (some d) p c = some (A7 e p d q c) := by
  have hw : FR [211] c (zi c 211 d p) := FR.rf.zi (by decide)
  obtain ⟨ei, hi⟩ := idn_eq hD hd
  unfold f7_attach_j23
  rw [dr_k hd, dr_k hd, show gi (zi c 211 d p) 201 d = nI (idn c d) by rw [hw.i (by decide)]; exact ei, q_best (hS.fr hw (by decide)) hi (by omega), DRV_fr hw (by decide), hv, ob1_k rfl]
  have hT : gi (zb (zi (zb (zp (zi c 211 d p) 210 d (some q)) 212 d true) 213 d 0) 215 d false) 708 0 = gi c 708 0 := by simp [gi_zi, gi_zb, gi_zp]
  rw [hT]
  obtain ⟨X, hX⟩ : ∃ X, X = zi (zb (zi (zb (zp (zi c 211 d p) 210 d (some q)) 212 d true) 213 d 0) 215 d false) 214 d (gi c 708 0) := ⟨_, rfl⟩
  rw [← hX]
  have x1 : gl X 1 = gl c 1 := by rw [hX]; rfl
  have x2 : gn X 2 = gn c 2 := by rw [hX]; rfl
  have hlen := bl_len hB
  have h24 := hS.2.1
  rw [ckd (by rw [x1]; omega), ckb (okl_of (fun x hx => by
    rw [x1] at hx
    show x < gn X 2
    rw [x2]
    exact ((hB.2.1 x).mp hx).1)), q_note (e := e) (by rw [hX]; simp [ladd, gi_zi, gi_zb, gi_zp, gi_zl, hl]) he, ob1_k rfl]
  have x3 : gi (ladd X 1 d) 200 d = nI d := by rw [hX]; simp [ladd, gi_zi, gi_zb, gi_zp, gi_zl, (hD d hd).1]
  rw [x3, hX]
  rfl
theorem at_8 {fu d e q : Nat} {p : Int32} {c m : St} (hS : CS c) (hD : CD c) (hQ : RQ c m) (hd : d < gn c 2) (hv : DRV c (idn c d) = some q) (hl : gi m 842 0 = nI e) (he : e < 2 ^ 31) (hf : 200 ≤ fu) : f8_bindNow_j83 fu (nI d) (nI d) p m = some (A8 e p d q m) := by
  have hw : FR [211] c (zi c 211 d p) := FR.rf.zi (by decide)
  have hw8 : FR [814] m (zi m 814 d p) := FR.rf.zi (by decide)
  obtain ⟨ei, hi⟩ := idn_eq hD hd
  have h24 := hS.2.1
  have hd24 : d < 24 := by omega
  unfold f8_bindNow_j83
  rw [ar_k _ hd24 (by omega), ar_k _ hd24 (by omega), show gi (zi m 814 d p) 805 d = nI (idn c d) by rw [hw8.i (by decide), (hQ.2.2.1 d hd).1]; exact ei, q_drv (hS.fr hw (by decide)) hQ.w hi (by omega), DRV_fr hw (by decide), hv, ob1_k rfl, enc_some]
  rw [ar_k _ hd24 (by omega), ar_k _ hd24 (by omega), ar_k _ hd24 (by omega), ar_k _ hd24 (by omega), ar_k _ hd24 (by omega), ar_k _ hd24 (by omega), ar_k _ hd24 (by omega)]
  have hT : gi (zb (zi (zi (zb (zi (zi m 814 d p) 812 d (nI q)) 813 d true) 815 d 0) 816 d 0) 817 d false) 801 0 = gi m 801 0 := by simp [gi_zi, gi_zb]
  have hO : gi (zi (zb (zi (zi (zb (zi (zi m 814 d p) 812 d (nI q)) 813 d true) 815 d 0) 816 d 0) 817 d false) 821 d (gi m 801 0)) 823 0 = gi m 823 0 := by simp [gi_zi, gi_zb]
  have hO2 : gi (zi (zi (zb (zi (zi (zb (zi (zi m 814 d p) 812 d (nI q)) 813 d true) 815 d 0) 816 d 0) 817 d false) 821 d (gi m 801 0)) 820 d (gi m 823 0)) 823 0 = gi m 823 0 := by simp [gi_zi, gi_zb]
  rw [hT, hO, hO2, q_event (e := e) (by simp [gi_zi, gi_zb, hl]) he, ob1_k rfl]
  rfl
def BF7 : List Nat := [0, 210, 211, 212, 213, 214, 215, 400, 401, 402, 1001]
def BF8 : List Nat := [812, 813, 814, 815, 816, 817, 820, 821, 822, 823, 842, 843, 844, 845, 846, 847]
theorem q_attach {fu d e t : Nat} {c m : St} (h : INV e t c m) (hd : d < gn c 2) (hth : gb c 208 d = true) (hu : bd c d = false) (hr : REF c d = 0) (he : e + 30 < 2 ^ 31) (hf : 200 ≤ fu) :
    ∃ e' c' m', f7_attach fu (some d) c = some c' ∧ f8_bindNow fu (nI d) m = some m' ∧ INV e' t c' m' ∧ e ≤ e' ∧ e' ≤ e + 25 ∧ FR BF7 c c' ∧ FR BF8 m m' ∧ (∀ j, bd c' j = if j = d then true else bd c j) ∧ ∀ j, gb m 822 j = false → gb m' 822 j = false := by
  have h24 := h.1.1.2.1
  have hasl := asl_le h24
  have hd24 : d < 24 := by omega
  obtain ⟨-, hnb, -, hbh⟩ := REF_0 hr
  obtain ⟨e1, c1, m1, a1, a2, a3, a4⟩ := at_need (f := 205) (Or.inl rfl) h hd (hnb 205 (Or.inl rfl)) (by omega) hf
  have i1 := h.wk a3
  have g1 := a3.2.1
  have k1 := a3.2.2.2.2.2.2.1
  have h1d : d < gn c1 2 := by rw [g1.n (k := 2) (by decide)]; exact hd
  obtain ⟨e2, c2, m2, b1, b2, b3, b4⟩ := at_need (f := 206) (Or.inr (Or.inl rfl)) i1 h1d (fun k hk => by
    rw [g1.p (by decide)] at hk
    rw [bd_fr g1 (by decide)]
    exact hnb 206 (Or.inr (Or.inl rfl)) k hk) (by omega) hf
  have i2 := i1.wk b3
  have ab := a3.tr b3 (Nat.le_refl d) (Nat.le_refl d)
  have g2 := ab.2.1
  have k2 := ab.2.2.2.2.2.2.1
  have h2d : d < gn c2 2 := by rw [g2.n (k := 2) (by decide)]; exact hd
  obtain ⟨e3, c3, m3, d1, d2, d3, d4⟩ := at_need (f := 207) (Or.inr (Or.inr rfl)) i2 h2d (fun k hk => by
    rw [g2.p (by decide)] at hk
    rw [bd_fr g2 (by decide)]
    exact hnb 207 (Or.inr (Or.inr rfl)) k hk) (by omega) hf
  have i3 := i2.wk d3
  have abd := ab.tr d3 (Nat.le_refl d) (Nat.le_refl d)
  have g3 := abd.2.1
  have k3 := abd.2.2.2.2.2.2.1
  have h3d : d < gn c3 2 := by rw [g3.n (k := 2) (by decide)]; exact hd
  have hn3 : ∀ f, isN3 f → ∀ k, gp c3 f d = some k → gb c3 212 k = true := by
    intro f hf k hk
    rcases hf with rfl | rfl | rfl
    · rw [g3.p (by decide)] at hk
      exact d3.2.2.2.1 k (b3.2.2.2.1 k (a4 k hk))
    · rw [g3.p (by decide), ← g1.p (by decide)] at hk
      exact d3.2.2.2.1 k (b4 k hk)
    · rw [g3.p (by decide), ← g2.p (by decide)] at hk
      exact d4 k hk
  have hr3 : REF c3 d = 0 := by rw [REF_fr g3 (by decide)]; exact hr
  have hu3 : bd c3 d = false := by rw [bd_fr g3 (by decide)]; exact hu
  obtain ⟨⟨q, hv⟩, hnb3, hrm, -⟩ := REF_0 hr3
  obtain ⟨hS, hD, hB, hW, hT, hQ, hO⟩ := i3.1
  obtain ⟨es, hs⟩ := szn_eq hD h3d
  have hs9 : szn c3 d < 9 := by rcases hs with h | h | h | h | h <;> omega
  have he3 : e3 < 2 ^ 31 := by omega
  have hl7 := i3.2.2.2.2.2.2.1
  have hl8 := i3.2.2.2.2.2.2.2.1
  have hq := DRV_lt hv
  have c7 : f7_attach fu (some d) c = dr (gn c3 2) (some d) fun i4 => (if (gi c3 202 i4) ≤ 0 then (f7_attach_j23 fu (some i4) (some i4) (-1) c3) else (ob1 (f7_freePlace fu (some i4) c3) fun v22 => (f7_attach_j23 fu (some i4) (some i4) v22 c3))) := by
    unfold f7_attach f7_wakeNeeds f7_wakeNeedsB lt
    rw [dr_k hd]
    dsimp only
    rw [z1, a1, ob1_k rfl, ckd h1d, b1, ob1_k rfl, ckd h2d, d1, ob1_k rfl, ob1_k rfl]
  have c8 : f8_bindNow fu (nI d) m = f8_bindNow_j60 fu (nI d) m3 := by
    unfold f8_bindNow
    rw [ar_k _ hd24 (by omega), ar_k _ hd24 (by omega), (h.1.2.2.2.2.2.1.2.2.1 d hd).2.2.2.2.1]
    refine (bn_step (g := f8_bindNow_j20 fu (nI d)) a2).trans ?_
    unfold f8_bindNow_j20
    rw [ar_k _ hd24 (by omega), ar_k _ hd24 (by omega), (i1.1.2.2.2.2.2.1.2.2.1 d h1d).2.2.2.2.2.1]
    refine (bn_step (g := f8_bindNow_j40 fu (nI d)) b2).trans ?_
    unfold f8_bindNow_j40
    rw [ar_k _ hd24 (by omega), ar_k _ hd24 (by omega), (i2.1.2.2.2.2.2.1.2.2.1 d h2d).2.2.2.2.2.2.1]
    exact bn_step (g := f8_bindNow_j60 fu (nI d)) d2
  have fin : ∀ p : Int32, (gi c3 202 d = 0 → p = -1) → (∀ s, gi c3 202 d = nI s → 0 < s → s < 9 → ∃ x, x + s ≤ 64 ∧ p = nI x) → f7_attach fu (some d) c = f7_attach_j23 fu (some d) (some d) p c3 → f8_bindNow fu (nI d) m = f8_bindNow_j83 fu (nI d) (nI d) p m3 → ∃ e' c' m', f7_attach fu (some d) c = some c' ∧ f8_bindNow fu (nI d) m = some m' ∧ INV e' t c' m' ∧ e ≤ e' ∧ e' ≤ e + 25 ∧ FR BF7 c c' ∧ FR BF8 m m' ∧ (∀ j, bd c' j = if j = d then true else bd c j) ∧ ∀ j, gb m 822 j = false → gb m' 822 j = false := by
    intro p hp0 hp1 x7 x8
    refine ⟨e3 + 1, _, _, x7.trans (at_7 hS hD hB h3d hv hl7 he3 hf), x8.trans (at_8 hS hD hQ h3d hv hl8 he3 hf), A_inv i3 he3 h3d hu3 (by rw [g3.b (by decide)]; exact hth) hn3 hq hp0 hp1, by have := abd.2.2.2.2.2.2.2.1; omega, by omega, (g3.mono (by decide)).tr (A7_fr.mono (by decide)), (abd.2.2.1.mono (by decide)).tr (A8_fr.mono (by decide)), fun j => by rw [A7_bd, bd_fr g3 (by decide)], fun j hj => ?_⟩
    rw [A8_fr.b (by decide), abd.2.2.2.2.2.1, hj]
    rfl
  have hz : gi c3 202 d ≤ 0 ↔ szn c3 d = 0 := by
    rw [es, z0, nI_leN (by omega) (by omega)]
    omega
  have e8 : f8_bindNow_j60 fu (nI d) m3 = if gi c3 202 d ≤ 0 then f8_bindNow_j83 fu (nI d) (nI d) (-1) m3 else ob1 (f8_roomFor fu (nI d) m3) fun v37 => f8_bindNow_j83 fu (nI d) (nI d) v37 m3 := by
    unfold f8_bindNow_j60
    rw [ar_k _ hd24 (by omega), (hQ.2.2.1 d h3d).2.1]
  by_cases h0 : szn c3 d = 0
  · refine fin (-1) (fun _ => rfl) (fun s hs1 hs2 hs3 => ?_) ?_ ?_
    · rw [es, h0, nI_inj (by omega) (by omega)] at hs1
      omega
    · rw [c7, dr_k h3d, if_pos (hz.mpr h0)]
    · rw [c8, e8, if_pos (hz.mpr h0)]
  · obtain ⟨p, hp⟩ := hrm (by omega)
    have hp0 : ∀ j, gp c3 205 d = some j → bd c3 j = true := hnb3 205 (Or.inl rfl)
    have hlt := ROOM_lt hp
    have hwl := whi_le hS hD hB hW h3d hp0
    refine fin (nI p) (fun hz2 => ?_) (fun s hs1 hs2 hs3 => ?_) ?_ ?_
    · rw [es, z0, nI_inj (by omega) (by omega)] at hz2
      omega
    · rw [es, nI_inj (by omega) (by omega)] at hs1
      exact ⟨p, by omega, rfl⟩
    · rw [c7, dr_k h3d, if_neg (fun z => h0 (hz.mp z)), room_c hS hD hB hW h3d hp0 (by omega) (by omega), hp, ob1_k rfl, enc_some]
    · rw [c8, e8, if_neg (fun z => h0 (hz.mp z)), room_m hS hD hB hW hQ h3d hu3 hp0 (by omega) (by omega), hp, ob1_k rfl, enc_some]
