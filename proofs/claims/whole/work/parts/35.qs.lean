/-! ===== refusals rest on few fields; binding one device ===== -/
def RFe : List Nat := [201, 202, 203, 204, 205, 206, 207, 210, 211, 301, 302, 303, 305, 2002, 2003]
def RFd : List Nat := [201, 202, 203, 204, 205, 206, 207, 209, 210, 211, 301, 302, 303, 305, 2002, 2003]
section RFs
variable {F : List Nat} {c c' : St}
theorem DRV_fr (hf : FR F c c') (hd : ∀ x ∈ [301, 302, 2003], x ∉ F) (i : Nat) : DRV c' i = DRV c i := by
  unfold DRV
  rw [hf.n (k := 3) (hd 2003 (by decide))]
  have : dvS c' i = dvS c i := by
    funext q b
    unfold dvS
    rw [hf.i (hd 301 (by decide)), hf.i (hd 302 (by decide))]
    cases b with
    | none => rfl
    | some b => dsimp only; rw [hf.i (hd 302 (by decide))]
  rw [this]
theorem spF_fr (hf : FR F c c') (hd : ∀ x ∈ RFe, x ∉ F) : ∀ k o, spF c' k o = spF c k o := by
  intro k
  induction k with
  | zero => intro o; rfl
  | succ k ih =>
    intro o
    cases o with
    | none => rfl
    | some i =>
      unfold spF
      rw [hf.i (hd 211 (by decide)), hf.p (hd 205 (by decide)), ih]
theorem SPC_fr (hf : FR F c c') (hd : ∀ x ∈ RFe, x ∉ F) (d : Nat) : SPC c' d = SPC c d := by
  unfold SPC
  rw [spF_fr hf hd, hf.p (hd 205 (by decide))]
theorem RMA_fr (hf : FR F c c') (hd : ∀ x ∈ RFe, x ∉ F) (p s : Int32) (sp : Option Nat) : RMA c' p s sp = RMA c p s sp := by
  unfold RMA
  rw [hf.n (k := 2) (hd 2002 (by decide))]
  congr 1
  funext k
  unfold ovl
  rw [bd_fr hf (hd 210 (by decide)), SPC_fr hf hd, hf.i (hd 211 (by decide)), hf.i (hd 202 (by decide))]
theorem ROOM_fr (hf : FR F c c') (hd : ∀ x ∈ RFe, x ∉ F) (d : Nat) : ROOM c' d = ROOM c d := by
  have e1 : ∀ i, szn c' i = szn c i := fun i => by
    unfold szn
    rw [hf.i (hd 202 (by decide))]
  have e2 : wlo c' d = wlo c d := by
    unfold wlo
    rw [SPC_fr hf hd]
    cases SPC c d with
    | none => rfl
    | some i => dsimp only; rw [hf.i (hd 211 (by decide))]
  have e3 : whi c' d = whi c d := by
    unfold whi
    rw [SPC_fr hf hd]
    cases SPC c d with
    | none => rfl
    | some i => dsimp only; rw [hf.i (hd 211 (by decide)), e1]
  unfold ROOM
  simp only [e1, e2, e3, SPC_fr hf hd, RMA_fr hf hd, hf.i (hd 202 (by decide))]
theorem LNF_fr (hf : FR F c c') (hd : ∀ x ∈ RFe, x ∉ F) (d : Nat) : LNF c' d = LNF c d := by
  unfold LNF
  rw [hf.n (k := 2) (hd 2002 (by decide))]
  congr 1
  funext k
  rw [bd_fr hf (hd 210 (by decide)), hf.i (hd 203 (by decide)), hf.i (hd 203 (by decide)), hf.b (hd 204 (by decide)), hf.b (hd 204 (by decide))]
theorem lck_fr (hf : FR F c c') (hd : ∀ x ∈ RFe, x ∉ F) (o : Option Nat) : lck c' o = lck c o := by
  unfold lck
  cases o with
  | none => rfl
  | some k => dsimp only; rw [bd_fr hf (hd 210 (by decide))]
theorem REF_fr2 (hf : FR F c c') (hd : ∀ x ∈ RFe, x ∉ F) (d : Nat) (h9 : gb c' 209 d = gb c 209 d) : REF c' d = REF c d := by
  unfold REF idn
  rw [hf.i (hd 201 (by decide)), DRV_fr hf (fun x hx => hd x (by revert x; decide)), hf.p (hd 205 (by decide)), hf.p (hd 206 (by decide)), hf.p (hd 207 (by decide)), lck_fr hf hd, lck_fr hf hd, lck_fr hf hd, ROOM_fr hf hd, LNF_fr hf hd, hf.i (hd 203 (by decide)), h9]
  unfold szn
  rw [hf.i (hd 202 (by decide))]
  cases DRV c (gi c 201 d).toNatClampNeg with
  | none => rfl
  | some q => dsimp only; rw [hf.i (hd 303 (by decide)), hf.i (hd 305 (by decide))]
theorem REF_fr (hf : FR F c c') (hd : ∀ x ∈ RFd, x ∉ F) (d : Nat) : REF c' d = REF c d := REF_fr2 hf (fun x hx => hd x (by revert x; decide)) d (hf.b (hd 209 (by decide)) d)
end RFs
/-- nothing that could be bound is left -/
def SETn (c : St) : Prop := ∀ d, d < gn c 2 → gb c 208 d = true → bd c d = false → REF c d ≠ 0
def SET (c : St) : Prop := gb c 709 0 = false → SETn c
theorem SETn.fr {F : List Nat} {c c' : St} (h : SETn c) (hf : FR F c c') (hd : ∀ x ∈ RFd, x ∉ F) (h8 : 208 ∉ F) : SETn c' := by
  intro d hd0 h1 h2
  rw [hf.n (k := 2) (hd 2002 (by decide))] at hd0
  rw [hf.b h8] at h1
  rw [bd_fr hf (hd 210 (by decide))] at h2
  rw [REF_fr hf hd]
  exact h d hd0 h1 h2
/-- what a device that nothing refuses has -/
theorem REF_0 {c : St} {d : Nat} (h : REF c d = 0) : (∃ q, DRV c (idn c d) = some q) ∧ (∀ f, isN3 f → ∀ k, gp c f d = some k → bd c k = true) ∧ (0 < szn c d → ∃ p, ROOM c d = some p) ∧ gb c 209 d = false := by
  unfold REF at h
  cases hv : DRV c (idn c d) with
  | none => rw [hv] at h; cases h
  | some q =>
    rw [hv] at h
    dsimp only at h
    by_cases h5 : lck c (gp c 205 d) = true
    · rw [if_pos h5] at h; cases h
    rw [if_neg h5] at h
    by_cases h6 : (lck c (gp c 206 d) || lck c (gp c 207 d)) = true
    · rw [if_pos h6] at h; cases h
    rw [if_neg h6] at h
    by_cases h7 : ¬ gi c 303 q ≤ gi c 305 q
    · rw [if_pos h7] at h; cases h
    rw [if_neg h7] at h
    by_cases h8 : 0 < szn c d ∧ ROOM c d = none
    · rw [if_pos h8] at h; cases h
    rw [if_neg h8] at h
    by_cases h9 : ¬ (gi c 203 d = -1) ∧ LNF c d = false
    · rw [if_pos h9] at h; cases h
    rw [if_neg h9] at h
    rw [Bool.or_eq_true, not_or] at h6
    refine ⟨⟨q, rfl⟩, fun f hf k hk => ?_, fun hs => ?_, ?_⟩
    · rcases hf with rfl | rfl | rfl
      · rw [hk] at h5; simpa [lck] using h5
      · have := h6.1; rw [hk] at this; simpa [lck] using this
      · have := h6.2; rw [hk] at this; simpa [lck] using this
    · cases hr : ROOM c d with
      | none => exact absurd ⟨hs, hr⟩ h8
      | some p => exact ⟨p, rfl⟩
    · cases hb : gb c 209 d
      · rfl
      · rw [hb] at h; cases h
/-! the new states -/
def A7 (e : Nat) (p : Int32) (d q : Nat) (c : St) : St := nt7 e 0 (nI d) (ladd (zi (zb (zi (zb (zp (zi c 211 d p) 210 d (some q)) 212 d true) 213 d 0) 215 d false) 214 d (gi c 708 0)) 1 d)
def A8 (e : Nat) (p : Int32) (d q : Nat) (m : St) : St := nt8 e 0 (nI d) (zi (zi (zi (zb (zi (zi (zb (zi (zi m 814 d p) 812 d (nI q)) 813 d true) 815 d 0) 816 d 0) 817 d false) 821 d (gi m 801 0)) 820 d (gi m 823 0)) 823 0 (gi m 823 0 + 1))
def AF7 : List Nat := [0, 210, 211, 212, 213, 214, 215, 400, 401, 402, 1001]
def AF8 : List Nat := [812, 813, 814, 815, 816, 817, 820, 821, 823, 842, 843, 844]
theorem A7_fr {e d q : Nat} {p : Int32} {c : St} : FR AF7 c (A7 e p d q c) := by
  unfold A7 ladd
  exact FR.nt7 (((((((((FR.rf.zi (by decide)).zp (by decide)).zb (by decide)).zi (by decide)).zb (by decide)).zi (by decide))).zl (by decide)).zi (by decide)) (by decide)
theorem A8_fr {e d q : Nat} {p : Int32} {m : St} : FR AF8 m (A8 e p d q m) := by
  unfold A8
  exact FR.nt8 (((((((((FR.rf.zi (by decide)).zi (by decide)).zb (by decide)).zi (by decide)).zi (by decide)).zb (by decide)).zi (by decide)).zi (by decide)).zi (by decide)) (by decide)
section Ard
variable {e d q j : Nat} {p : Int32} {c m : St}
theorem A7_210 : gp (A7 e p d q c) 210 j = if j = d then some q else gp c 210 j := by
  simp [A7, nt7, ladd, gp_zi, gp_zb, gp_zp, gp_zl]
theorem A7_211 : gi (A7 e p d q c) 211 j = if j = d then p else gi c 211 j := by
  simp [A7, nt7, ladd, gi_zi, gi_zb, gi_zp, gi_zl]
theorem A7_212 : gb (A7 e p d q c) 212 j = if j = d then true else gb c 212 j := by
  simp [A7, nt7, ladd, gb_zi, gb_zb, gb_zp, gb_zl]
theorem A7_213 : gi (A7 e p d q c) 213 j = if j = d then 0 else gi c 213 j := by
  simp [A7, nt7, ladd, gi_zi, gi_zb, gi_zp, gi_zl]
theorem A7_214 : gi (A7 e p d q c) 214 j = if j = d then gi c 708 0 else gi c 214 j := by
  simp [A7, nt7, ladd, gi_zi, gi_zb, gi_zp, gi_zl]
theorem A7_215 : gb (A7 e p d q c) 215 j = if j = d then false else gb c 215 j := by
  simp [A7, nt7, ladd, gb_zi, gb_zb, gb_zp, gb_zl]
theorem A7_l : gl (A7 e p d q c) 1 = gl c 1 ++ [d] := by
  simp [A7, nt7, ladd, gl_zi, gl_zb, gl_zp, gl_zl]
theorem A8_812 : gi (A8 e p d q m) 812 j = if j = d then nI q else gi m 812 j := by
  simp [A8, nt8, gi_zi, gi_zb]
theorem A8_814 : gi (A8 e p d q m) 814 j = if j = d then p else gi m 814 j := by
  simp [A8, nt8, gi_zi, gi_zb]
theorem A8_813 : gb (A8 e p d q m) 813 j = if j = d then true else gb m 813 j := by
  simp [A8, nt8, gb_zi, gb_zb]
theorem A8_815 : gi (A8 e p d q m) 815 j = if j = d then 0 else gi m 815 j := by
  simp [A8, nt8, gi_zi, gi_zb]
theorem A8_816 : gi (A8 e p d q m) 816 j = if j = d then 0 else gi m 816 j := by
  simp [A8, nt8, gi_zi, gi_zb]
theorem A8_817 : gb (A8 e p d q m) 817 j = if j = d then false else gb m 817 j := by
  simp [A8, nt8, gb_zi, gb_zb]
theorem A8_821 : gi (A8 e p d q m) 821 j = if j = d then gi m 801 0 else gi m 821 j := by
  simp [A8, nt8, gi_zi, gi_zb]
theorem A8_820 : gi (A8 e p d q m) 820 j = if j = d then gi m 823 0 else gi m 820 j := by
  simp [A8, nt8, gi_zi, gi_zb]
theorem A8_823 : gi (A8 e p d q m) 823 0 = gi m 823 0 + 1 := by
  simp [A8, nt8, gi_zi, gi_zb]
theorem A7_bd : bd (A7 e p d q c) j = if j = d then true else bd c j := by
  unfold bd
  rw [A7_210]
  by_cases h : j = d
  · rw [if_pos h, if_pos h]; rfl
  · rw [if_neg h, if_neg h]
end Ard
theorem A_inv {e t d q : Nat} {p : Int32} {c m : St} (h : INV e t c m) (he : e < 2 ^ 31) (hd : d < gn c 2) (hu : bd c d = false) (hth : gb c 208 d = true) (hn : ∀ f, isN3 f → ∀ k, gp c f d = some k → gb c 212 k = true) (hq : q < gn c 3) (hp0 : gi c 202 d = 0 → p = -1) (hp1 : ∀ s, gi c 202 d = nI s → 0 < s → s < 9 → ∃ x, x + s ≤ 64 ∧ p = nI x) : INV (e + 1) t (A7 e p d q c) (A8 e p d q m) := by
  obtain ⟨⟨hS, hD, hB, hW, ⟨hT, hZ⟩, hQ, hO⟩, ⟨hA, hR, hT7, hT8, hT9⟩, hP, hH, hSl, hX, hL⟩ := h
  have h24 := hS.2.1
  have f1 := A7_fr (e := e) (p := p) (d := d) (q := q) (c := c)
  have f2 := A8_fr (e := e) (p := p) (d := d) (q := q) (m := m)
  have n2 := f1.n (k := 2) (by decide)
  have n3 := f1.n (k := 3) (by decide)
  have hnm : d ∉ gl c 1 := fun hm => by
    have := ((hB.2.1 d).mp hm).2
    exact this (bd_nn.mp hu)
  have hneed : ∀ f, isN3 f → ∀ k, gp c f d = some k → k ∈ gl c 1 := fun f hf k hk => by
    have hkd := (hD d hd).2.2.2.2.1 f hf k hk
    exact (hB.2.1 k).mpr ⟨by omega, bd_ne.mp (hA k (by omega) (hn f hf k hk)).1⟩
  refine ⟨⟨hS.fr f1 (by decide), fun j hj => ?_, ⟨?_, fun j => ?_, fun l1 x l2 hl f hf k hk => ?_⟩, fun j hj => ?_, ⟨fun j hj => ?_, ⟨fun j hj hj2 => ?_, fun j hj hj2 => ?_⟩⟩, ?_, ?_⟩, ⟨fun j hj hj1 => ?_, fun j hj => ?_, ?_, ?_, fun j hj hj2 => ?_⟩, fun j hj => ?_, hH.aw f1 f2 (by decide) (by decide) (by omega) (fun k h d' _ _ _ _ _ ha => by rw [A7_212, ha]; simp), hSl.fr f1 f2 (by decide) (by decide), hX.fr f1 f2 (by decide) (by decide), ?_⟩
  · rw [n2] at hj
    have h1 := hD j hj
    rw [n3, f1.i (by decide), f1.i (by decide), f1.i (by decide), f1.i (by decide), f1.b (by decide), A7_210]
    refine ⟨h1.1, h1.2.1, h1.2.2.1, h1.2.2.2.1, fun f hf k hk => ?_, fun x hx => ?_⟩
    · rw [isN3_p f1 (by decide) hf] at hk
      exact h1.2.2.2.2.1 f hf k hk
    · by_cases hjd : j = d
      · rw [if_pos hjd] at hx
        cases hx
        subst hjd
        exact ⟨hq, hth⟩
      · rw [if_neg hjd] at hx
        exact h1.2.2.2.2.2 x hx
  · rw [A7_l]
    refine List.nodup_append.mpr ⟨hB.1, by simp, fun a ha b hb => ?_⟩
    rw [List.mem_singleton] at hb
    subst hb
    exact fun e => hnm (e ▸ ha)
  · rw [A7_l, List.mem_append, List.mem_singleton, n2, hB.2.1 j, A7_210]
    by_cases hjd : j = d
    · subst hjd
      simp [hd]
    · simp [hjd]
  · rw [isN3_p f1 (by decide) hf] at hk
    rw [A7_l] at hl
    rcases List.append_eq_append_iff.mp hl with ⟨a, e1, e2⟩ | ⟨a, e1, e2⟩
    · cases a with
      | nil =>
        simp at e1 e2
        subst e1
        have : x = d := e2.1.symm
        subst this
        exact hneed f hf k hk
      | cons y a =>
        exfalso
        simp at e2
    · cases a with
      | nil =>
        simp at e1 e2
        obtain ⟨rfl, rfl⟩ := e2
        rw [← e1]
        exact hneed f hf k hk
      | cons y a =>
        simp at e2
        obtain ⟨rfl, e2⟩ := e2
        exact hB.2.2 l1 x a e1 f hf k hk
  · rw [n2] at hj
    rw [A7_210, A7_211, f1.i (f := 202) (by decide)]
    by_cases hjd : j = d
    · subst hjd
      simp only [if_true]
      exact ⟨fun h => (by cases h), hp0, fun _ => hp1⟩
    · simp only [if_neg hjd]
      exact hW j hj
  · rw [n2] at hj
    have h1 := hT j hj
    rw [f1.b (f := 208) (by decide), f1.p (by decide)]
    intro h2 k hk
    rw [f1.b (f := 208) (by decide)]
    exact h1 h2 k hk
  · rw [n2] at hj
    rw [A8_812, A8_814, f2.b (by decide), if_neg (by omega), if_neg (by omega)]
    exact hZ.1 j hj hj2
  · rw [n3] at hj
    rw [f2.i (by decide)]
    exact hZ.2 j hj hj2
  · obtain ⟨q1, q2, q3, q4⟩ := hQ
    refine ⟨?_, ?_, fun j hj => ?_, fun j hj => ?_⟩
    · rw [f2.i (by decide), n2]; exact q1
    · rw [f2.i (by decide), n3]; exact q2
    · rw [n2] at hj
      have q5 := q3 j hj
      rw [f2.i (f := 805) (by decide), f2.i (f := 806) (by decide), f2.i (f := 807) (by decide), f2.b (f := 808) (by decide), f2.i (f := 804) (by decide), f2.i (f := 809) (by decide), f2.i (f := 810) (by decide), f2.b (f := 811) (by decide), f2.b (f := 818) (by decide), A8_812, A8_814, A7_210, A7_211,
        f1.i (f := 201) (by decide), f1.i (f := 202) (by decide), f1.i (f := 203) (by decide), f1.b (f := 204) (by decide), f1.p (f := 205) (by decide), f1.p (f := 206) (by decide), f1.p (f := 207) (by decide), f1.b (f := 208) (by decide), f1.b (f := 209) (by decide)]
      by_cases hjd : j = d
      · subst hjd
        simp only [if_true]
        exact ⟨q5.1, q5.2.1, q5.2.2.1, q5.2.2.2.1, q5.2.2.2.2.1, q5.2.2.2.2.2.1, q5.2.2.2.2.2.2.1, q5.2.2.2.2.2.2.2.1, rfl, trivial, q5.2.2.2.2.2.2.2.2.2.2⟩
      · simp only [if_neg hjd]
        exact q5
    · rw [n3] at hj
      rw [f2.i (f := 825) (by decide), f2.i (f := 826) (by decide), f2.i (f := 827) (by decide), f2.b (f := 828) (by decide), f2.i (f := 829) (by decide), f1.i (f := 301) (by decide), f1.i (f := 302) (by decide), f1.i (f := 303) (by decide), f1.b (f := 304) (by decide), f1.i (f := 305) (by decide)]
      exact q4 j hj
  · obtain ⟨b, o1, o2, o3, o4⟩ := hO
    have oo : ∀ j, ord (A8 e p d q m) j = if j = d then b else ord m j := by
      intro j
      unfold ord
      rw [A8_820]
      by_cases hjd : j = d
      · rw [if_pos hjd, if_pos hjd, o2, nI_clamp (by omega)]
      · rw [if_neg hjd, if_neg hjd]
    refine ⟨b + 1, by omega, by rw [A8_823, o2, nI_s], ?_, fun j hj => ?_⟩
    · rw [A7_l, List.pairwise_append]
      refine ⟨?_, by simp, fun x hx y hy => ?_⟩
      · refine List.Pairwise.imp_of_mem (fun {x y} hx hy h => ?_) o3
        rw [oo, oo, if_neg (fun (e : x = d) => hnm (e ▸ hx)), if_neg (fun (e : y = d) => hnm (e ▸ hy))]
        exact h
      · rw [List.mem_singleton] at hy
        rw [oo, oo, if_pos hy, if_neg (fun (e : x = d) => hnm (e ▸ hx))]
        exact (o4 x hx).2
    · rw [A7_l, List.mem_append, List.mem_singleton] at hj
      rw [oo, A8_820]
      by_cases hjd : j = d
      · rw [if_pos hjd, if_pos hjd, o2]
        exact ⟨rfl, by omega⟩
      · rw [if_neg hjd, if_neg hjd]
        have := o4 j (hj.resolve_right hjd)
        exact ⟨this.1, by omega⟩
  · rw [n2] at hj
    rw [A7_212] at hj1
    rw [A7_bd]
    by_cases hjd : j = d
    · subst hjd
      refine ⟨by simp, fun f hf k hk => ?_⟩
      rw [isN3_p f1 (by decide) hf] at hk
      rw [A7_212, hn f hf k hk]
      simp
    · rw [if_neg hjd] at hj1 ⊢
      refine ⟨(hA j hj hj1).1, fun f hf k hk => ?_⟩
      rw [isN3_p f1 (by decide) hf] at hk
      rw [A7_212, (hA j hj hj1).2 f hf k hk]
      simp
  · rw [n2] at hj
    rw [A8_813, A7_212, A7_bd, A8_815, A7_213, A8_816, A8_821, A7_214]
    by_cases hjd : j = d
    · simp only [if_pos hjd]
      exact ⟨trivial, fun _ => trivial, fun _ h => (by cases h), fun _ => hT8.trans hT7.symm⟩
    · simp only [if_neg hjd]
      exact hR j hj
  · rw [f1.i (by decide)]; exact hT7
  · rw [f2.i (by decide)]; exact hT8
  · rw [n2] at hj
    rw [A8_813, if_neg (by omega)]
    exact hT9 j hj hj2
  · rw [n2, A8_817, A7_215, hP j hj]
    by_cases hjd : j = d
    · simp [hjd]
    · simp [hjd]
  · unfold A7 A8
    refine RLg.nt (hL.fr (F := [0, 210, 211, 212, 213, 214, 215, 1001]) (G := [812, 813, 814, 815, 816, 817, 820, 821, 823]) ?_ ?_ (by decide) (by decide))
    · unfold ladd
      exact ((((((((FR.rf.zi (by decide)).zp (by decide)).zb (by decide)).zi (by decide)).zb (by decide)).zi (by decide))).zl (by decide)).zi (by decide)
    · exact ((((((((FR.rf.zi (by decide)).zi (by decide)).zb (by decide)).zi (by decide)).zi (by decide)).zb (by decide)).zi (by decide)).zi (by decide)).zi (by decide)
