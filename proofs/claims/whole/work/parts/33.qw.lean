/-! ===== the log, and waking ===== -/
def nt7 (e : Nat) (k s : Int32) (c : St) : St := zi (zi (zi c 400 (e % 20) k) 401 (e % 20) s) 402 0 (nI (e + 1))
def nt8 (e : Nat) (k s : Int32) (m : St) : St := zi (zi (zi m 843 (e % 20) k) 844 (e % 20) s) 842 0 (nI (e + 1))
theorem nI_div20 {e : Nat} (h : e < 2 ^ 31) : nI e - nI e / 20 * 20 = nI (e % 20) := by
  have := pk_rem (a := e) (d := 20) h (by omega) (by omega)
  exact this
theorem nI_xor (a b : Nat) : nI a ^^^ nI b = nI (a ^^^ b) := by
  refine Int32.toBitVec_inj.mp ?_
  rw [Int32.toBitVec_xor]
  refine BitVec.eq_of_toNat_eq ?_
  rw [BitVec.toNat_xor]
  show (BitVec.ofNat 32 a).toNat ^^^ (BitVec.ofNat 32 b).toNat = (BitVec.ofNat 32 (a ^^^ b)).toNat
  rw [BitVec.toNat_ofNat, BitVec.toNat_ofNat, BitVec.toNat_ofNat, Nat.xor_mod_two_pow]
theorem q_mod20 {fu e : Nat} {c : St} (he : e < 2 ^ 31) : f90_floorMod fu (nI e) 20 c = some (nI (e % 20)) := by
  unfold f90_floorMod
  rw [ckd (by decide)]
  have hx : (0 : Int32) ≤ nI e ^^^ 20 := by
    have h1 : nI e ^^^ 20 = nI (e ^^^ 20) := nI_xor e 20
    rw [h1, show (0 : Int32) = nI 0 from rfl, nI_leN (by omega) (Nat.xor_lt_two_pow he (by omega))]
    omega
  rw [if_pos hx]
  unfold f90_floorMod_j18
  rw [nI_div20 he]
theorem q_note {fu e : Nat} {k s : Int32} {c : St} (h : gi c 402 0 = nI e) (he : e < 2 ^ 31) : f4_note fu k s c = some (nt7 e k s c) := by
  have h20 : e % 20 < 20 := Nat.mod_lt _ (by omega)
  unfold f4_note
  rw [h, q_mod20 he, ob1_k rfl, ar_k _ h20 (by omega), ar_k _ h20 (by omega)]
  simp only [gi_zi]
  simp [nt7, h, nI_s]
theorem q_event {fu e : Nat} {k s : Int32} {m : St} (h : gi m 842 0 = nI e) (he : e < 2 ^ 31) : f8_event fu k s m = some (nt8 e k s m) := by
  have h20 : e % 20 < 20 := Nat.mod_lt _ (by omega)
  unfold f8_event
  rw [h, nI_div20 he, ar_k _ h20 (by omega)]
  simp only [gi_zi]
  rw [if_neg (by omega), h, nI_div20 he, ar_k _ h20 (by omega)]
  simp [nt8, nI_s]
theorem FR.nt7 {F : List Nat} {c c' : St} {e : Nat} {k s : Int32} (h : FR F c c') (hF : ∀ x ∈ [400, 401, 402], x ∈ F) : FR F c (nt7 e k s c') := ((h.zi (hF 400 (by decide))).zi (hF 401 (by decide))).zi (hF 402 (by decide))
theorem FR.nt8 {F : List Nat} {c c' : St} {e : Nat} {k s : Int32} (h : FR F c c') (hF : ∀ x ∈ [842, 843, 844], x ∈ F) : FR F c (nt8 e k s c') := ((h.zi (hF 843 (by decide))).zi (hF 844 (by decide))).zi (hF 842 (by decide))
theorem RLg.nt {e : Nat} {c m : St} {k s : Int32} (h : RLg e c m) : RLg (e + 1) (nt7 e k s c) (nt8 e k s m) := by
  obtain ⟨h1, h2, h3⟩ := h
  refine ⟨by simp [Jvm.Pilot.CDriverMoorLaw_law_r7238_808726.nt7, gi_zi], by simp [Jvm.Pilot.CDriverMoorLaw_law_r7238_808726.nt8, gi_zi], fun j hj => ?_⟩
  have h4 := h3 j hj
  unfold Jvm.Pilot.CDriverMoorLaw_law_r7238_808726.nt7 Jvm.Pilot.CDriverMoorLaw_law_r7238_808726.nt8
  simp only [gi_zi]
  by_cases hje : j = e % 20
  · simp [hje]
  · simp [hje, h4]
def sv (c : St) (d : Nat) : Bool := match gp c 210 d with
  | none => false
  | some q => gb c 304 q
theorem q_isSaved {c : St} {fu d : Nat} (hD : CD c) (hd : d < gn c 2) : f2_isSaved fu d c = some (sv c d) := by
  unfold f2_isSaved sv lt
  rw [ckd hd]
  cases h : gp c 210 d with
  | none => simp
  | some q =>
    dsimp only
    rw [if_neg (by simp), dr_k ((hD d hd).2.2.2.2.2 q h).1]
    cases gb c 304 q <;> simp
def WF7 : List Nat := [212, 213, 214, 400, 401, 402]
def WF8 : List Nat := [813, 815, 821, 822, 842, 843, 844, 845, 846, 847]
def W7 (e d : Nat) (c : St) : St := nt7 e 4 (nI d) (bif sv c d then zi (zb c 212 d true) 214 d (gi c 708 0) else zi (zi (zb c 212 d true) 214 d (gi c 708 0)) 213 d 0)
def W8 (e d : Nat) (b : Bool) (m : St) : St := zi (nt8 e 4 (nI d) (zb (zi (zi (zb m 813 d true) 821 d (gi m 801 0)) 815 d (bif b then gi m 816 d else 0)) 822 d false)) 847 0 (gi m 847 0 + 1)
theorem W7_fr {e d : Nat} {c : St} : FR WF7 c (W7 e d c) := by
  unfold W7
  cases sv c d
  · exact FR.nt7 ((((FR.rf.zb (by decide)).zi (by decide)).zi (by decide))) (by decide)
  · exact FR.nt7 (((FR.rf.zb (by decide)).zi (by decide))) (by decide)
theorem W8_fr {e d : Nat} {b : Bool} {m : St} : FR WF8 m (W8 e d b m) := by
  unfold W8
  exact (FR.nt8 ((((FR.rf.zb (by decide)).zi (by decide)).zi (by decide)).zb (by decide)) (by decide)).zi (by decide)
theorem W7_b {e d j : Nat} {c : St} : gb (W7 e d c) 212 j = if j = d then true else gb c 212 j := by
  unfold W7 nt7
  cases sv c d <;> simp [gb_zi, gb_zb]
theorem W7_r {e d j : Nat} {c : St} : gi (W7 e d c) 213 j = if j = d ∧ sv c d = false then 0 else gi c 213 j := by
  unfold W7 nt7
  cases sv c d <;> simp [gi_zi, gi_zb]
theorem W7_t {e d j : Nat} {c : St} : gi (W7 e d c) 214 j = if j = d then gi c 708 0 else gi c 214 j := by
  unfold W7 nt7
  cases sv c d <;> simp [gi_zi, gi_zb]
theorem W8_b {e d j : Nat} {b : Bool} {m : St} : gb (W8 e d b m) 813 j = if j = d then true else gb m 813 j := by
  unfold W8 nt8
  simp [gb_zi, gb_zb]
theorem W8_s {e d j : Nat} {b : Bool} {m : St} : gb (W8 e d b m) 822 j = if j = d then false else gb m 822 j := by
  unfold W8 nt8
  simp [gb_zi, gb_zb]
theorem W8_r {e d j : Nat} {b : Bool} {m : St} : gi (W8 e d b m) 815 j = if j = d then (bif b then gi m 816 d else 0) else gi m 815 j := by
  unfold W8 nt8
  simp [gi_zi, gi_zb]
theorem W8_t {e d j : Nat} {b : Bool} {m : St} : gi (W8 e d b m) 821 j = if j = d then gi m 801 0 else gi m 821 j := by
  unfold W8 nt8
  simp [gi_zi, gi_zb]
theorem W8_o {e d f j : Nat} {b : Bool} {m : St} (h : f = 816 ∨ f = 845 ∨ f = 846 ∨ f = 801) : gi (W8 e d b m) f j = gi m f j := by
  unfold W8 nt8
  rcases h with rfl | rfl | rfl | rfl <;> simp [gi_zi, gi_zb]
theorem W8_w {e d : Nat} {b : Bool} {m : St} : gi (W8 e d b m) 847 0 = gi m 847 0 + 1 := by
  unfold W8 nt8
  simp [gi_zi, gi_zb]
theorem W_log {e d : Nat} {c m : St} (h : RLg e c m) : RLg (e + 1) (W7 e d c) (W8 e d (sv c d) m) := by
  have h1 : RLg (e + 1) (W7 e d c) (nt8 e 4 (nI d) (zb (zi (zi (zb m 813 d true) 821 d (gi m 801 0)) 815 d (bif sv c d then gi m 816 d else 0)) 822 d false)) := by
    unfold W7
    refine RLg.nt (h.fr (F := [212, 213, 214]) (G := [813, 821, 815, 822]) ?_ ((((FR.rf.zb (by decide)).zi (by decide)).zi (by decide)).zb (by decide)) (by decide) (by decide))
    cases sv c d
    · exact ((FR.rf.zb (by decide)).zi (by decide)).zi (by decide)
    · exact (FR.rf.zb (by decide)).zi (by decide)
  exact h1.fr (F := []) (G := [847]) FR.rf (FR.rf.zi (by decide)) (by decide) (by decide)
/-- what waking rests on -/
def WRL (e t : Nat) (c m : St) : Prop := QB e c m ∧ AW t c m ∧ RLg e c m
theorem W_core {e t d : Nat} {c m : St} (h : WRL e t c m) (hd : d < gn c 2) (hb : bd c d = true) (h0 : gb c 212 d = false) (hn : ∀ f, isN3 f → ∀ k, gp c f d = some k → gb c 212 k = true) : WRL (e + 1) t (W7 e d c) (W8 e d (sv c d) m) := by
  obtain ⟨hQ, ⟨hA, hR, hT7, hT8, hT9⟩, hL⟩ := h
  have f1 := W7_fr (e := e) (d := d) (c := c)
  have f2 := W8_fr (e := e) (d := d) (b := sv c d) (m := m)
  refine ⟨hQ.fr f1 f2 (by decide) (by decide) (by omega), ⟨fun j hj hj1 => ?_, fun j hj => ?_, ?_, ?_, fun j hj hj2 => ?_⟩, W_log hL⟩
  · rw [f1.n (k := 2) (by decide)] at hj
    rw [W7_b] at hj1
    rw [bd_fr f1 (by decide)]
    by_cases hjd : j = d
    · subst hjd
      refine ⟨hb, fun f hf k hk => ?_⟩
      rw [isN3_p f1 (by decide) hf] at hk
      rw [W7_b, hn f hf k hk]
      simp
    · rw [if_neg hjd] at hj1
      obtain ⟨h1, h2⟩ := hA j hj hj1
      refine ⟨h1, fun f hf k hk => ?_⟩
      rw [isN3_p f1 (by decide) hf] at hk
      rw [W7_b, h2 f hf k hk]
      simp
  · rw [f1.n (k := 2) (by decide)] at hj
    obtain ⟨r1, r2, r3, r4⟩ := hR j hj
    rw [bd_fr f1 (by decide), W8_b, W7_b, W8_r, W7_r, W8_o (Or.inl rfl), W8_t, W7_t]
    by_cases hjd : j = d
    · subst hjd
      have r5 := r3 hb h0
      simp only [if_true, true_and]
      refine ⟨fun _ => ?_, fun _ h => (by cases h), fun _ => hT8.trans hT7.symm⟩
      cases sv c j
      · simp
      · simp [r5]
    · simp only [if_neg hjd, hjd, false_and, if_false]
      exact ⟨r1, r2, r3, r4⟩
  · rw [f1.i (by decide)]
    exact hT7
  · rw [W8_o (by omega)]
    exact hT8
  · rw [f1.n (k := 2) (by decide)] at hj
    rw [W8_b, if_neg (by omega)]
    exact hT9 j hj hj2
/-! how many are asleep -/
def asl (c : St) : Nat := (List.range (gn c 2)).countP fun d => !gb c 212 d
theorem countP_pt {P P' : Nat → Bool} {d : Nat} : ∀ N, d < N → P d = true → P' d = false → (∀ j, j < N → j ≠ d → P' j = P j) → (List.range N).countP P' + 1 = (List.range N).countP P := by
  intro N
  induction N with
  | zero => intro h; omega
  | succ N ih =>
    intro hd h1 h2 h3
    rw [List.range_succ, List.countP_append, List.countP_append]
    by_cases hdN : d = N
    · subst hdN
      have e1 : (List.range d).countP P' = (List.range d).countP P := List.countP_congr fun x hx => by
        have := List.mem_range.mp hx
        rw [h3 x (by omega) (by omega)]
      rw [e1]
      simp [h1, h2]
    · have := ih (by omega) h1 h2 (fun j hj hne => h3 j (by omega) hne)
      have e2 : P' N = P N := h3 N (by omega) (fun e => hdN e.symm)
      rw [List.countP_singleton, List.countP_singleton, e2]
      omega
theorem asl_w {e d : Nat} {c : St} (hd : d < gn c 2) (h0 : gb c 212 d = false) : asl (W7 e d c) + 1 = asl c := by
  unfold asl
  rw [W7_fr.n (k := 2) (by decide)]
  refine countP_pt (gn c 2) hd (by simp [h0]) (by simp [W7_b]) (fun j hj hne => by simp [W7_b, hne])
theorem asl_le {c : St} (h : gn c 2 ≤ 24) : asl c ≤ 24 := by
  unfold asl
  have := List.countP_le_length (p := fun d => !gb c 212 d) (l := List.range (gn c 2))
  rw [List.length_range] at this
  omega
