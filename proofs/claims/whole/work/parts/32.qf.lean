/-! ===== frames: what a step leaves as it was; the whole relation of class and reference ===== -/
def FR (F : List Nat) (c c' : St) : Prop := (∀ f, f ∉ F → (∀ i, gi c' f i = gi c f i) ∧ (∀ i, gb c' f i = gb c f i) ∧ ∀ i, gp c' f i = gp c f i) ∧ (∀ k, 1000 + k ∉ F → gl c' k = gl c k) ∧ (∀ k, 2000 + k ∉ F → gn c' k = gn c k) ∧ (3000 ∉ F → go c' = go c)
section FRs
variable {F G : List Nat} {c c' c'' : St} {f k : Nat}
theorem FR.i (h : FR F c c') (hf : f ∉ F) : ∀ i, gi c' f i = gi c f i := (h.1 f hf).1
theorem FR.b (h : FR F c c') (hf : f ∉ F) : ∀ i, gb c' f i = gb c f i := (h.1 f hf).2.1
theorem FR.p (h : FR F c c') (hf : f ∉ F) : ∀ i, gp c' f i = gp c f i := (h.1 f hf).2.2
theorem FR.l (h : FR F c c') (hk : 1000 + k ∉ F) : gl c' k = gl c k := h.2.1 k hk
theorem FR.n (h : FR F c c') (hk : 2000 + k ∉ F) : gn c' k = gn c k := h.2.2.1 k hk
theorem FR.o (h : FR F c c') (hk : 3000 ∉ F) : go c' = go c := h.2.2.2 hk
theorem FR.rf : FR F c c := ⟨fun _ _ => ⟨fun _ => rfl, fun _ => rfl, fun _ => rfl⟩, fun _ _ => rfl, fun _ _ => rfl, fun _ => rfl⟩
theorem FR.tr (h : FR F c c') (h2 : FR F c' c'') : FR F c c'' :=
  ⟨fun f hf => ⟨fun i => (h2.i hf i).trans (h.i hf i), fun i => (h2.b hf i).trans (h.b hf i), fun i => (h2.p hf i).trans (h.p hf i)⟩, fun _ hk => (h2.l hk).trans (h.l hk), fun _ hk => (h2.n hk).trans (h.n hk), fun hk => (h2.o hk).trans (h.o hk)⟩
theorem FR.mono (h : FR F c c') (hs : ∀ x ∈ F, x ∈ G) : FR G c c' :=
  ⟨fun f hf => h.1 f fun z => hf (hs f z), fun k hk => h.2.1 k fun z => hk (hs _ z), fun k hk => h.2.2.1 k fun z => hk (hs _ z), fun hk => h.2.2.2 fun z => hk (hs _ z)⟩
theorem FR.zi {i : Nat} {v : Int32} (h : FR F c c') (hf : f ∈ F) : FR F c (zi c' f i v) :=
  ⟨fun f' hf' => ⟨fun j => by
    rw [gi_zi, if_neg (fun (z : f' = f ∧ j = i) => hf' (z.1 ▸ hf))]
    exact h.i hf' j, h.b hf', h.p hf'⟩, h.2.1, h.2.2.1, h.2.2.2⟩
theorem FR.zb {i : Nat} {v : Bool} (h : FR F c c') (hf : f ∈ F) : FR F c (zb c' f i v) :=
  ⟨fun f' hf' => ⟨h.i hf', fun j => by
    rw [gb_zb, if_neg (fun (z : f' = f ∧ j = i) => hf' (z.1 ▸ hf))]
    exact h.b hf' j, h.p hf'⟩, h.2.1, h.2.2.1, h.2.2.2⟩
theorem FR.zp {i : Nat} {v : Option Nat} (h : FR F c c') (hf : f ∈ F) : FR F c (zp c' f i v) :=
  ⟨fun f' hf' => ⟨h.i hf', h.b hf', fun j => by
    rw [gp_zp, if_neg (fun (z : f' = f ∧ j = i) => hf' (z.1 ▸ hf))]
    exact h.p hf' j⟩, h.2.1, h.2.2.1, h.2.2.2⟩
theorem FR.zl {v : List Nat} (h : FR F c c') (hk : 1000 + k ∈ F) : FR F c (zl c' k v) :=
  ⟨h.1, fun k' hk' => by
    rw [gl_zl, if_neg (fun (z : k' = k) => hk' (z ▸ hk))]
    exact h.l hk', h.2.2.1, h.2.2.2⟩
theorem FR.zw {cl : Nat} (h : FR F c c') (hF : ∀ f, f / 100 = cl → f ∈ F) (hk : 2000 + cl ∈ F) : FR F c (zw c' cl) :=
  ⟨fun f' hf' => ⟨fun j => by
    rw [gi_zw, if_neg (fun (z : f' / 100 = cl ∧ j = gn c' cl) => hf' (hF f' z.1))]
    exact h.i hf' j, fun j => by
    rw [gb_zw, if_neg (fun (z : f' / 100 = cl ∧ j = gn c' cl) => hf' (hF f' z.1))]
    exact h.b hf' j, fun j => by
    rw [gp_zw, if_neg (fun (z : f' / 100 = cl ∧ j = gn c' cl) => hf' (hF f' z.1))]
    exact h.p hf' j⟩, h.2.1, fun k' hk' => by
    rw [gn_zw, if_neg (fun (z : k' = cl) => hk' (z ▸ hk))]
    exact h.n hk', h.2.2.2⟩
theorem FR.zo {v : Int64} (h : FR F c c') (hk : 3000 ∈ F) : FR F c (zo c' v) := ⟨h.1, h.2.1, h.2.2.1, fun z => absurd hk z⟩
end FRs
theorem CS.fr {F : List Nat} {c c' : St} (h : CS c) (hf : FR F c c') (hd : ∀ x ∈ [1000, 1002, 1003, 1004, 1005, 2001, 2002, 2003, 2005], x ∉ F) : CS c' := by
  unfold CS at h ⊢
  rw [hf.l (k := 0) (hd 1000 (by decide)), hf.l (k := 2) (hd 1002 (by decide)), hf.l (k := 3) (hd 1003 (by decide)), hf.l (k := 4) (hd 1004 (by decide)), hf.l (k := 5) (hd 1005 (by decide)), hf.n (k := 1) (hd 2001 (by decide)), hf.n (k := 2) (hd 2002 (by decide)), hf.n (k := 3) (hd 2003 (by decide)), hf.n (k := 5) (hd 2005 (by decide))]
  exact h
theorem isN3_p {F : List Nat} {c c' : St} (hf : FR F c c') (hd : ∀ x ∈ [205, 206, 207], x ∉ F) {f : Nat} (h : f = 205 ∨ f = 206 ∨ f = 207) (i : Nat) : gp c' f i = gp c f i := by
  refine hf.p (hd f ?_) i
  rcases h with rfl | rfl | rfl <;> decide
theorem bd_fr {F : List Nat} {c c' : St} (hf : FR F c c') (hd : 210 ∉ F) (d : Nat) : bd c' d = bd c d := by
  unfold bd
  rw [hf.p hd]
theorem CD.fr {F : List Nat} {c c' : St} (h : CD c) (hf : FR F c c') (hd : ∀ x ∈ [200, 201, 202, 203, 205, 206, 207, 208, 210, 2002, 2003], x ∉ F) : CD c' := by
  intro d hd0
  rw [hf.n (k := 2) (hd 2002 (by decide))] at hd0
  have h1 := h d hd0
  rw [hf.n (k := 3) (hd 2003 (by decide)), hf.i (hd 200 (by decide)), hf.i (hd 201 (by decide)), hf.i (hd 202 (by decide)), hf.i (hd 203 (by decide)), hf.p (hd 210 (by decide)), hf.b (hd 208 (by decide))]
  refine ⟨h1.1, h1.2.1, h1.2.2.1, h1.2.2.2.1, fun f hf2 k hk => h1.2.2.2.2.1 f hf2 k ?_, h1.2.2.2.2.2⟩
  rw [← isN3_p hf (fun x hx => hd x (by revert x; decide)) hf2]
  exact hk
theorem CB.fr {F : List Nat} {c c' : St} (h : CB c) (hf : FR F c c') (hd : ∀ x ∈ [205, 206, 207, 210, 1001, 2002], x ∉ F) : CB c' := by
  unfold CB at h ⊢
  rw [hf.l (k := 1) (hd 1001 (by decide)), hf.n (k := 2) (hd 2002 (by decide))]
  refine ⟨h.1, fun d => ?_, fun l1 d l2 hl f hf2 k hk => h.2.2 l1 d l2 hl f hf2 k ?_⟩
  · rw [hf.p (hd 210 (by decide))]
    exact h.2.1 d
  · rw [← isN3_p hf (fun x hx => hd x (by revert x; decide)) hf2]
    exact hk
theorem CW.fr {F : List Nat} {c c' : St} (h : CW c) (hf : FR F c c') (hd : ∀ x ∈ [202, 210, 211, 2002], x ∉ F) : CW c' := by
  intro d hd0
  rw [hf.n (k := 2) (hd 2002 (by decide))] at hd0
  rw [hf.i (hd 202 (by decide)), hf.i (hd 211 (by decide)), hf.p (hd 210 (by decide))]
  exact h d hd0
/-- who is there: its parent too -/
def CT (c : St) : Prop := ∀ d, d < gn c 2 → gb c 208 d = true → ∀ k, gp c 205 d = some k → gb c 208 k = true
theorem CT.fr {F : List Nat} {c c' : St} (h : CT c) (hf : FR F c c') (hd : ∀ x ∈ [205, 208, 2002], x ∉ F) : CT c' := by
  intro d hd0
  rw [hf.n (k := 2) (hd 2002 (by decide))] at hd0
  have h1 := h d hd0
  rw [hf.b (hd 208 (by decide)), hf.p (hd 205 (by decide))]
  exact fun h2 k hk => by rw [hf.b (hd 208 (by decide))]; exact h1 h2 k hk
theorem RQ.fr {F G : List Nat} {c c' m m' : St} (h : RQ c m) (hf : FR F c c') (hg : FR G m m') (hd : ∀ x ∈ [201, 202, 203, 204, 205, 206, 207, 208, 209, 210, 211, 301, 302, 303, 304, 305, 2002, 2003], x ∉ F) (hm : ∀ x ∈ [803, 804, 805, 806, 807, 808, 809, 810, 811, 812, 814, 818, 824, 825, 826, 827, 828, 829], x ∉ G) : RQ c' m' := by
  obtain ⟨h1, h2, h3, h4⟩ := h
  unfold RQ
  rw [hf.n (k := 2) (hd 2002 (by decide)), hf.n (k := 3) (hd 2003 (by decide)), hg.i (hm 803 (by decide)), hg.i (hm 824 (by decide))]
  refine ⟨h1, h2, fun d hd0 => ?_, fun q hq => ?_⟩
  · rw [hg.i (hm 804 (by decide)), hg.i (hm 805 (by decide)), hg.i (hm 806 (by decide)), hg.i (hm 807 (by decide)), hg.b (hm 808 (by decide)), hg.i (hm 809 (by decide)), hg.i (hm 810 (by decide)), hg.b (hm 811 (by decide)), hg.i (hm 812 (by decide)), hg.i (hm 814 (by decide)), hg.b (hm 818 (by decide)),
      hf.i (hd 201 (by decide)), hf.i (hd 202 (by decide)), hf.i (hd 203 (by decide)), hf.b (hd 204 (by decide)), hf.p (hd 205 (by decide)), hf.p (hd 206 (by decide)), hf.p (hd 207 (by decide)), hf.b (hd 208 (by decide)), hf.b (hd 209 (by decide)), hf.p (hd 210 (by decide)), hf.i (hd 211 (by decide))]
    exact h3 d hd0
  · rw [hg.i (hm 825 (by decide)), hg.i (hm 826 (by decide)), hg.i (hm 827 (by decide)), hg.b (hm 828 (by decide)), hg.i (hm 829 (by decide)), hf.i (hd 301 (by decide)), hf.i (hd 302 (by decide)), hf.i (hd 303 (by decide)), hf.b (hd 304 (by decide)), hf.i (hd 305 (by decide))]
    exact h4 q hq
/-- the order of binding -/
def ord (m : St) (d : Nat) : Nat := (gi m 820 d).toNatClampNeg
def RO (e : Nat) (c m : St) : Prop := ∃ b, b ≤ e ∧ gi m 823 0 = nI b ∧ (gl c 1).Pairwise (fun x y => ord m x < ord m y) ∧ ∀ d ∈ gl c 1, gi m 820 d = nI (ord m d) ∧ ord m d < b
theorem ord_fr {G : List Nat} {m m' : St} (hg : FR G m m') (hm : 820 ∉ G) (d : Nat) : ord m' d = ord m d := by
  unfold ord
  rw [hg.i hm]
theorem RO.fr {F G : List Nat} {e e' : Nat} {c c' m m' : St} (h : RO e c m) (hf : FR F c c') (hg : FR G m m') (hd : 1001 ∉ F) (hm : ∀ x ∈ [820, 823], x ∉ G) (he : e ≤ e') : RO e' c' m' := by
  obtain ⟨b, h1, h2, h3, h4⟩ := h
  refine ⟨b, Nat.le_trans h1 he, by rw [hg.i (hm 823 (by decide))]; exact h2, ?_, fun d hd0 => ?_⟩
  · rw [hf.l (k := 1) hd]
    refine h3.imp fun {a b} h => ?_
    rw [ord_fr hg (hm 820 (by decide)), ord_fr hg (hm 820 (by decide))]
    exact h
  · rw [hf.l (k := 1) hd] at hd0
    rw [ord_fr hg (hm 820 (by decide)), hg.i (hm 820 (by decide))]
    exact h4 d hd0
/-- the reference's rows that no device and no driver has yet -/
def ZQ (c m : St) : Prop := (∀ d, gn c 2 ≤ d → d < 24 → gi m 812 d = -1 ∧ gi m 814 d = -1 ∧ gb m 818 d = false) ∧ ∀ q, gn c 3 ≤ q → q < 8 → gi m 829 q = 0
theorem ZQ.fr {F G : List Nat} {c c' m m' : St} (h : ZQ c m) (hf : FR F c c') (hg : FR G m m') (hd : ∀ x ∈ [2002, 2003], x ∉ F) (hm : ∀ x ∈ [812, 814, 818, 829], x ∉ G) : ZQ c' m' := by
  refine ⟨fun d h1 h2 => ?_, fun q h1 h2 => ?_⟩
  · rw [hf.n (k := 2) (hd 2002 (by decide))] at h1
    rw [hg.i (hm 812 (by decide)), hg.i (hm 814 (by decide)), hg.b (hm 818 (by decide))]
    exact h.1 d h1 h2
  · rw [hf.n (k := 3) (hd 2003 (by decide))] at h1
    rw [hg.i (hm 829 (by decide))]
    exact h.2 q h1 h2
def CT2 (c m : St) : Prop := CT c ∧ ZQ c m
def QB (e : Nat) (c m : St) : Prop := CS c ∧ CD c ∧ CB c ∧ CW c ∧ CT2 c m ∧ RQ c m ∧ RO e c m
theorem QB.fr {F G : List Nat} {e e' : Nat} {c c' m m' : St} (h : QB e c m) (hf : FR F c c') (hg : FR G m m') (hd : ∀ x ∈ [200, 201, 202, 203, 204, 205, 206, 207, 208, 209, 210, 211, 301, 302, 303, 304, 305, 1000, 1001, 1002, 1003, 1004, 1005, 2001, 2002, 2003, 2005], x ∉ F) (hm : ∀ x ∈ [803, 804, 805, 806, 807, 808, 809, 810, 811, 812, 814, 818, 820, 823, 824, 825, 826, 827, 828, 829], x ∉ G) (he : e ≤ e') : QB e' c' m' :=
  ⟨h.1.fr hf fun x hx => hd x (by revert x; decide), h.2.1.fr hf fun x hx => hd x (by revert x; decide), h.2.2.1.fr hf fun x hx => hd x (by revert x; decide), h.2.2.2.1.fr hf fun x hx => hd x (by revert x; decide), ⟨h.2.2.2.2.1.1.fr hf fun x hx => hd x (by revert x; decide), h.2.2.2.2.1.2.fr hf hg (fun x hx => hd x (by revert x; decide)) (fun x hx => hm x (by revert x; decide))⟩, h.2.2.2.2.2.1.fr hf hg (fun x hx => hd x (by revert x; decide)) (fun x hx => hm x (by revert x; decide)), h.2.2.2.2.2.2.fr hf hg (hd 1001 (by decide)) (fun x hx => hm x (by revert x; decide)) he⟩
/-! awake, registers, ticks -/
def RA (c m : St) : Prop := ∀ d, d < gn c 2 → gb m 813 d = gb c 212 d ∧ (bd c d = true → gi m 815 d = gi c 213 d) ∧ (bd c d = true → gb c 212 d = false → gi m 816 d = gi c 213 d) ∧ (gb c 212 d = true → gi m 821 d = gi c 214 d)
def isN3 (f : Nat) : Prop := f = 205 ∨ f = 206 ∨ f = 207
def CAw (c : St) : Prop := ∀ d, d < gn c 2 → gb c 212 d = true → bd c d = true ∧ ∀ f, isN3 f → ∀ k, gp c f d = some k → gb c 212 k = true
def AW (t : Nat) (c m : St) : Prop := CAw c ∧ RA c m ∧ gi c 708 0 = nI t ∧ gi m 801 0 = nI t ∧ ∀ d, gn c 2 ≤ d → d < 24 → gb m 813 d = false
theorem CAw.fr {F : List Nat} {c c' : St} (h : CAw c) (hf : FR F c c') (hd : ∀ x ∈ [205, 206, 207, 210, 212, 2002], x ∉ F) : CAw c' := by
  intro d hd0 h1
  rw [hf.n (k := 2) (hd 2002 (by decide))] at hd0
  rw [hf.b (hd 212 (by decide))] at h1
  have h2 := h d hd0 h1
  rw [bd_fr hf (hd 210 (by decide))]
  refine ⟨h2.1, fun f hf2 k hk => ?_⟩
  rw [hf.b (hd 212 (by decide))]
  rw [isN3_p hf (fun x hx => hd x (by revert x; decide)) hf2] at hk
  exact h2.2 f hf2 k hk
theorem RA.fr {F G : List Nat} {c c' m m' : St} (h : RA c m) (hf : FR F c c') (hg : FR G m m') (hd : ∀ x ∈ [210, 212, 213, 214, 2002], x ∉ F) (hm : ∀ x ∈ [813, 815, 816, 821], x ∉ G) : RA c' m' := by
  intro d hd0
  rw [hf.n (k := 2) (hd 2002 (by decide))] at hd0
  rw [hf.b (hd 212 (by decide)), hf.i (hd 213 (by decide)), hf.i (hd 214 (by decide)), bd_fr hf (hd 210 (by decide)), hg.b (hm 813 (by decide)), hg.i (hm 815 (by decide)), hg.i (hm 816 (by decide)), hg.i (hm 821 (by decide))]
  exact h d hd0
theorem AW.fr {F G : List Nat} {t : Nat} {c c' m m' : St} (h : AW t c m) (hf : FR F c c') (hg : FR G m m') (hd : ∀ x ∈ [205, 206, 207, 210, 212, 213, 214, 708, 2002], x ∉ F) (hm : ∀ x ∈ [801, 813, 815, 816, 821], x ∉ G) : AW t c' m' :=
  ⟨h.1.fr hf fun x hx => hd x (by revert x; decide), h.2.1.fr hf hg (fun x hx => hd x (by revert x; decide)) (fun x hx => hm x (by revert x; decide)), by rw [hf.i (hd 708 (by decide))]; exact h.2.2.1, by rw [hg.i (hm 801 (by decide))]; exact h.2.2.2.1, fun d h1 h2 => by
    rw [hf.n (k := 2) (hd 2002 (by decide))] at h1
    rw [hg.b (hm 813 (by decide))]
    exact h.2.2.2.2 d h1 h2⟩
/-! pending -/
def RP (c m : St) : Prop := ∀ d, d < 24 → gb m 817 d = (decide (d < gn c 2) && gb c 215 d)
theorem RP.fr {F G : List Nat} {c c' m m' : St} (h : RP c m) (hf : FR F c c') (hg : FR G m m') (hd : ∀ x ∈ [215, 2002], x ∉ F) (hm : 817 ∉ G) : RP c' m' := by
  intro d hd0
  rw [hf.n (k := 2) (hd 2002 (by decide)), hf.b (hd 215 (by decide)), hg.b hm]
  exact h d hd0
theorem RP.g {c m : St} {d : Nat} (h : RP c m) (hn : gn c 2 ≤ 24) (hd : d < gn c 2) : gb m 817 d = gb c 215 d := by
  rw [h d (by omega)]
  simp [hd]
/-! handles and calls -/
def CH (c : St) : Prop := ∀ h, h < gn c 5 → ∃ d, d < gn c 2 ∧ gp c 500 h = some d
def CK (t : Nat) (c : St) : Prop := ∀ k, k < gn c 1 → ∃ h d, h < gn c 5 ∧ d < gn c 2 ∧ gp c 100 k = some h ∧ gp c 500 h = some d ∧ (gi c 102 k = 0 → gb c 212 d = true ∧ ∃ x, gi c 101 k = nI x ∧ t < x ∧ x ≤ t + 20)
def RHd (e : Nat) (c m : St) : Prop := gi m 830 0 = nI (gn c 5) ∧ ((∀ d, d < 24 → ∃ u, u ≤ e ∧ gi m 819 d = nI u ∧ (gn c 2 ≤ d → u = 0)) ∧ ∀ h, gn c 5 ≤ h → h < 40 → gb m 833 h = false) ∧ ∀ h d, h < gn c 5 → gp c 500 h = some d → gi m 831 h = nI d ∧ gb m 833 h = !gb c 501 h ∧ ∃ s u, s ≤ u ∧ u ≤ e ∧ gi m 832 h = nI s ∧ gi m 819 d = nI u ∧ gb c 502 h = decide (s < u)
def RK (c m : St) : Prop := gi m 834 0 = nI (gn c 1) ∧ ∀ k, k < gn c 1 → gi m 835 k = enc (gp c 100 k) ∧ gi m 836 k = gi c 101 k ∧ gi m 837 k = gi c 102 k
theorem CH.fr {F : List Nat} {c c' : St} (h : CH c) (hf : FR F c c') (hd : ∀ x ∈ [500, 2002, 2005], x ∉ F) : CH c' := by
  intro k hk
  rw [hf.n (k := 5) (hd 2005 (by decide))] at hk
  rw [hf.n (k := 2) (hd 2002 (by decide)), hf.p (hd 500 (by decide))]
  exact h k hk
theorem CK.aw {F : List Nat} {t : Nat} {c c' : St} (h : CK t c) (hf : FR F c c') (hd : ∀ x ∈ [100, 101, 102, 500, 2001, 2002, 2005], x ∉ F) (ha : ∀ k h d, k < gn c 1 → gp c 100 k = some h → gp c 500 h = some d → gi c 102 k = 0 → d < gn c 2 → gb c 212 d = true → gb c' 212 d = true) : CK t c' := by
  intro k hk
  rw [hf.n (k := 1) (hd 2001 (by decide))] at hk
  obtain ⟨h1, d, h2, h3, h4, h5, h6⟩ := h k hk
  refine ⟨h1, d, ?_, ?_, ?_, ?_, ?_⟩
  · rw [hf.n (k := 5) (hd 2005 (by decide))]; exact h2
  · rw [hf.n (k := 2) (hd 2002 (by decide))]; exact h3
  · rw [hf.p (hd 100 (by decide))]; exact h4
  · rw [hf.p (hd 500 (by decide))]; exact h5
  · rw [hf.i (hd 102 (by decide)), hf.i (hd 101 (by decide))]
    exact fun h7 => ⟨ha k h1 d hk h4 h5 h7 h3 (h6 h7).1, (h6 h7).2⟩
theorem CK.fr {F : List Nat} {t : Nat} {c c' : St} (h : CK t c) (hf : FR F c c') (hd : ∀ x ∈ [100, 101, 102, 212, 500, 2001, 2002, 2005], x ∉ F) : CK t c' :=
  h.aw hf (fun x hx => hd x (by revert x; decide)) fun k h d _ _ _ _ _ ha => by rw [hf.b (hd 212 (by decide))]; exact ha
theorem RHd.fr {F G : List Nat} {e e' : Nat} {c c' m m' : St} (h : RHd e c m) (hf : FR F c c') (hg : FR G m m') (hd : ∀ x ∈ [500, 501, 502, 2002, 2005], x ∉ F) (hm : ∀ x ∈ [819, 830, 831, 832, 833], x ∉ G) (he : e ≤ e') : RHd e' c' m' := by
  obtain ⟨h1, h2, h3⟩ := h
  unfold RHd
  rw [hf.n (k := 5) (hd 2005 (by decide)), hf.n (k := 2) (hd 2002 (by decide)), hg.i (hm 830 (by decide))]
  refine ⟨h1, ⟨fun d hd0 => ?_, fun k k1 k2 => by rw [hg.b (hm 833 (by decide))]; exact h2.2 k k1 k2⟩, fun k d hk hd0 => ?_⟩
  · obtain ⟨u, hu, h4, h5⟩ := h2.1 d hd0
    exact ⟨u, Nat.le_trans hu he, by rw [hg.i (hm 819 (by decide))]; exact h4, h5⟩
  · rw [hf.p (hd 500 (by decide))] at hd0
    obtain ⟨h4, h5, s, u, h6, h7, h8, h9, h10⟩ := h3 k d hk hd0
    rw [hg.i (hm 831 (by decide)), hg.b (hm 833 (by decide)), hg.i (hm 832 (by decide)), hg.i (hm 819 (by decide)), hf.b (hd 501 (by decide)), hf.b (hd 502 (by decide))]
    exact ⟨h4, h5, s, u, h6, Nat.le_trans h7 he, h8, h9, h10⟩
theorem RK.fr {F G : List Nat} {c c' m m' : St} (h : RK c m) (hf : FR F c c') (hg : FR G m m') (hd : ∀ x ∈ [100, 101, 102, 2001], x ∉ F) (hm : ∀ x ∈ [834, 835, 836, 837], x ∉ G) : RK c' m' := by
  unfold RK
  rw [hf.n (k := 1) (hd 2001 (by decide)), hg.i (hm 834 (by decide))]
  refine ⟨h.1, fun k hk => ?_⟩
  rw [hg.i (hm 835 (by decide)), hg.i (hm 836 (by decide)), hg.i (hm 837 (by decide)), hf.p (hd 100 (by decide)), hf.i (hd 101 (by decide)), hf.i (hd 102 (by decide))]
  exact h.2 k hk
def HK (e t : Nat) (c m : St) : Prop := CH c ∧ CK t c ∧ RHd e c m ∧ RK c m
theorem HK.aw {F G : List Nat} {e e' t : Nat} {c c' m m' : St} (h : HK e t c m) (hf : FR F c c') (hg : FR G m m') (hd : ∀ x ∈ [100, 101, 102, 500, 501, 502, 2001, 2002, 2005], x ∉ F) (hm : ∀ x ∈ [819, 830, 831, 832, 833, 834, 835, 836, 837], x ∉ G) (he : e ≤ e') (ha : ∀ k h d, k < gn c 1 → gp c 100 k = some h → gp c 500 h = some d → gi c 102 k = 0 → d < gn c 2 → gb c 212 d = true → gb c' 212 d = true) : HK e' t c' m' :=
  ⟨h.1.fr hf fun x hx => hd x (by revert x; decide), h.2.1.aw hf (fun x hx => hd x (by revert x; decide)) ha, h.2.2.1.fr hf hg (fun x hx => hd x (by revert x; decide)) (fun x hx => hm x (by revert x; decide)) he, h.2.2.2.fr hf hg (fun x hx => hd x (by revert x; decide)) (fun x hx => hm x (by revert x; decide))⟩
theorem HK.fr {F G : List Nat} {e e' t : Nat} {c c' m m' : St} (h : HK e t c m) (hf : FR F c c') (hg : FR G m m') (hd : ∀ x ∈ [100, 101, 102, 212, 500, 501, 502, 2001, 2002, 2005], x ∉ F) (hm : ∀ x ∈ [819, 830, 831, 832, 833, 834, 835, 836, 837], x ∉ G) (he : e ≤ e') : HK e' t c' m' :=
  h.aw hf hg (fun x hx => hd x (by revert x; decide)) hm he fun k h d _ _ _ _ _ ha => by rw [hf.b (hd 212 (by decide))]; exact ha
/-! slots; lines, faults, the suspended world; the log -/
def RSl (c m : St) : Prop := ∀ s, s < 16 → (∀ k, gp c 600 s = some k → k < gn c 2) ∧ gi m 839 s = enc (gp c 600 s) ∧ gi m 840 s = gi c 601 s
theorem RSl.fr {F G : List Nat} {c c' m m' : St} (h : RSl c m) (hf : FR F c c') (hg : FR G m m') (hd : ∀ x ∈ [600, 601, 2002], x ∉ F) (hm : ∀ x ∈ [839, 840], x ∉ G) : RSl c' m' := by
  intro s hs
  rw [hf.n (k := 2) (hd 2002 (by decide)), hf.p (hd 600 (by decide)), hf.i (hd 601 (by decide)), hg.i (hm 839 (by decide)), hg.i (hm 840 (by decide))]
  exact h s hs
def RX (c m : St) : Prop := (∀ l, l < 8 → ∃ s, s ≤ 3 ∧ gi c 706 l = nI s ∧ gi m 838 l = nI s) ∧ gi m 841 0 = gi c 710 0 ∧ gb m 802 0 = gb c 709 0
theorem RX.fr {F G : List Nat} {c c' m m' : St} (h : RX c m) (hf : FR F c c') (hg : FR G m m') (hd : ∀ x ∈ [706, 709, 710], x ∉ F) (hm : ∀ x ∈ [802, 838, 841], x ∉ G) : RX c' m' := by
  refine ⟨fun l hl => ?_, ?_, ?_⟩
  · rw [hf.i (hd 706 (by decide)), hg.i (hm 838 (by decide))]
    exact h.1 l hl
  · rw [hf.i (hd 710 (by decide)), hg.i (hm 841 (by decide))]
    exact h.2.1
  · rw [hf.b (hd 709 (by decide)), hg.b (hm 802 (by decide))]
    exact h.2.2
def RLg (e : Nat) (c m : St) : Prop := gi c 402 0 = nI e ∧ gi m 842 0 = nI e ∧ ∀ j, j < 20 → gi m 843 j = gi c 400 j ∧ gi m 844 j = gi c 401 j
theorem RLg.fr {F G : List Nat} {e : Nat} {c c' m m' : St} (h : RLg e c m) (hf : FR F c c') (hg : FR G m m') (hd : ∀ x ∈ [400, 401, 402], x ∉ F) (hm : ∀ x ∈ [842, 843, 844], x ∉ G) : RLg e c' m' := by
  refine ⟨?_, ?_, fun j hj => ?_⟩
  · rw [hf.i (hd 402 (by decide))]; exact h.1
  · rw [hg.i (hm 842 (by decide))]; exact h.2.1
  · rw [hf.i (hd 400 (by decide)), hf.i (hd 401 (by decide)), hg.i (hm 843 (by decide)), hg.i (hm 844 (by decide))]
    exact h.2.2 j hj
/-! all of it -/
def INV (e t : Nat) (c m : St) : Prop := QB e c m ∧ AW t c m ∧ RP c m ∧ HK e t c m ∧ RSl c m ∧ RX c m ∧ RLg e c m
def CF : List Nat := [0, 100, 101, 102, 200, 201, 202, 203, 204, 205, 206, 207, 208, 209, 210, 211, 212, 213, 214, 215, 216, 217, 300, 301, 302, 303, 304, 305, 400, 401, 402, 500, 501, 502, 600, 601, 706, 708, 709, 710, 1000, 1001, 1002, 1003, 1004, 1005, 2001, 2002, 2003, 2005] ++ (List.range' 100 100 ++ (List.range' 200 100 ++ (List.range' 300 100 ++ List.range' 500 100)))
def MF : List Nat := [800, 801, 802, 803, 804, 805, 806, 807, 808, 809, 810, 811, 812, 813, 814, 815, 816, 817, 818, 819, 820, 821, 822, 823, 824, 825, 826, 827, 828, 829, 830, 831, 832, 833, 834, 835, 836, 837, 838, 839, 840, 841, 842, 843, 844, 845, 846, 847]
/-- what INV reads of the class's state and of the reference's -/
def CR : List Nat := [100, 101, 102, 200, 201, 202, 203, 204, 205, 206, 207, 208, 209, 210, 211, 212, 213, 214, 215, 301, 302, 303, 304, 305, 400, 401, 402, 500, 501, 502, 600, 601, 706, 708, 709, 710, 1000, 1001, 1002, 1003, 1004, 1005, 2001, 2002, 2003, 2005]
def MR : List Nat := [801, 802, 803, 804, 805, 806, 807, 808, 809, 810, 811, 812, 813, 814, 815, 816, 817, 818, 819, 820, 821, 823, 824, 825, 826, 827, 828, 829, 830, 831, 832, 833, 834, 835, 836, 837, 838, 839, 840, 841, 842, 843, 844]
set_option maxRecDepth 100000 in
theorem INV.fr {F G : List Nat} {e t : Nat} {c c' m m' : St} (h : INV e t c m) (hf : FR F c c') (hg : FR G m m') (hd : ∀ x ∈ CR, x ∉ F) (hm : ∀ x ∈ MR, x ∉ G) : INV e t c' m' :=
  ⟨h.1.fr hf hg (fun x hx => hd x (by revert x; decide +kernel)) (fun x hx => hm x (by revert x; decide +kernel)) (Nat.le_refl _), h.2.1.fr hf hg (fun x hx => hd x (by revert x; decide +kernel)) (fun x hx => hm x (by revert x; decide +kernel)), h.2.2.1.fr hf hg (fun x hx => hd x (by revert x; decide +kernel)) (hm 817 (by decide +kernel)), h.2.2.2.1.fr hf hg (fun x hx => hd x (by revert x; decide +kernel)) (fun x hx => hm x (by revert x; decide +kernel)) (Nat.le_refl _), h.2.2.2.2.1.fr hf hg (fun x hx => hd x (by revert x; decide +kernel)) (fun x hx => hm x (by revert x; decide +kernel)), h.2.2.2.2.2.1.fr hf hg (fun x hx => hd x (by revert x; decide +kernel)) (fun x hx => hm x (by revert x; decide +kernel)), h.2.2.2.2.2.2.fr hf hg (fun x hx => hd x (by revert x; decide +kernel)) (fun x hx => hm x (by revert x; decide +kernel))⟩
