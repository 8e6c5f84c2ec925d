/-! ===== falling asleep; who is held ===== -/
def S7 (e d : Nat) (c : St) : St := nt7 e 3 (nI d) (zb c 212 d false)
def S8 (e d : Nat) (m : St) : St := nt8 e 3 (nI d) (zi (zb m 813 d false) 816 d (gi m 815 d))
theorem S7_fr {e d : Nat} {c : St} : FR [212, 400, 401, 402] c (S7 e d c) := by
  unfold S7
  exact FR.nt7 (FR.rf.zb (by decide)) (by decide)
theorem S8_fr {e d : Nat} {m : St} : FR [813, 816, 842, 843, 844] m (S8 e d m) := by
  unfold S8
  exact FR.nt8 ((FR.rf.zb (by decide)).zi (by decide)) (by decide)
theorem S7_212 {e d j : Nat} {c : St} : gb (S7 e d c) 212 j = if j = d then false else gb c 212 j := by
  simp [S7, nt7, gb_zi, gb_zb]
theorem S8_813 {e d j : Nat} {m : St} : gb (S8 e d m) 813 j = if j = d then false else gb m 813 j := by
  simp [S8, nt8, gb_zi, gb_zb]
theorem S8_816 {e d j : Nat} {m : St} : gi (S8 e d m) 816 j = if j = d then gi m 815 d else gi m 816 j := by
  simp [S8, nt8, gi_zi, gi_zb]
theorem q_fall7 {fu e d : Nat} {c : St} (hD : CD c) (hd : d < gn c 2) (hl : gi c 402 0 = nI e) (he : e < 2 ^ 31) : f7_fallAsleep fu (some d) c = some (S7 e d c) := by
  unfold f7_fallAsleep
  have x2 : gi (zb c 212 d false) 200 d = nI d := by simp [gi_zb, (hD d hd).1]
  rw [dr_k hd, x2, q_note (e := e) (by simp [gi_zb, hl]) he, ob1_k rfl]
  rfl
theorem q_fall8 {fu e d : Nat} {m : St} (hd : d < 24) (hl : gi m 842 0 = nI e) (he : e < 2 ^ 31) : f8_fallsAsleep fu (nI d) m = some (S8 e d m) := by
  unfold f8_fallsAsleep
  rw [ar_k _ hd (by omega), ar_k _ hd (by omega), ar_k _ hd (by omega), q_event (e := e) (by simp [gi_zi, gi_zb, hl]) he, ob1_k rfl]
  rfl
theorem S_inv {e t d : Nat} {c m : St} (h : INV e t c m) (hd : d < gn c 2) (hb : bd c d = true) (hn : ∀ j, j < gn c 2 → gb c 212 j = true → ∀ f, isN3 f → gp c f j ≠ some d) (hk : ∀ k, k < gn c 1 → gi c 102 k = 0 → cdv c k ≠ some d) : INV (e + 1) t (S7 e d c) (S8 e d m) := by
  obtain ⟨hQ, ⟨hA, hR, hT7, hT8, hT9⟩, hP, hH, hSl, hX, hL⟩ := h
  have f := S7_fr (e := e) (d := d) (c := c)
  have g := S8_fr (e := e) (d := d) (m := m)
  have n2 := f.n (k := 2) (by decide)
  refine ⟨hQ.fr f g (by decide) (by decide) (by omega), ⟨fun j hj hj1 => ?_, fun j hj => ?_, ?_, ?_, fun j hj hj2 => ?_⟩, hP.fr f g (by decide) (by decide), hH.aw f g (by decide) (by decide) (by omega) (fun k h d' hk1 k1 k2 k3 _ ha => ?_), hSl.fr f g (by decide) (by decide), hX.fr f g (by decide) (by decide), ?_⟩
  · rw [n2] at hj
    rw [S7_212] at hj1
    rw [bd_fr f (by decide)]
    by_cases hjd : j = d
    · rw [if_pos hjd] at hj1; cases hj1
    · rw [if_neg hjd] at hj1
      refine ⟨(hA j hj hj1).1, fun f' hf k hk1 => ?_⟩
      rw [isN3_p f (by decide) hf] at hk1
      rw [S7_212, if_neg (fun (z : k = d) => hn j hj hj1 f' hf (z ▸ hk1))]
      exact (hA j hj hj1).2 f' hf k hk1
  · rw [n2] at hj
    obtain ⟨r1, r2, r3, r4⟩ := hR j hj
    rw [S8_813, S7_212, bd_fr f (by decide), g.i (f := 815) (by decide), f.i (f := 213) (by decide), S8_816, g.i (f := 821) (by decide), f.i (f := 214) (by decide)]
    by_cases hjd : j = d
    · subst hjd
      simp only [if_true]
      exact ⟨trivial, r2, fun _ _ => r2 hb, fun h => (by cases h)⟩
    · simp only [if_neg hjd]
      exact ⟨r1, r2, r3, r4⟩
  · rw [f.i (by decide)]; exact hT7
  · rw [g.i (by decide)]; exact hT8
  · rw [n2] at hj
    rw [S8_813]
    by_cases hjd : j = d
    · rw [if_pos hjd]
    · rw [if_neg hjd]
      exact hT9 j hj hj2
  · rw [S7_212, if_neg (fun (z : d' = d) => hk k hk1 k3 (by rw [cdv_of k1 k2, z]))]
    exact ha
  · unfold S7 S8
    exact RLg.nt (hL.fr (F := [212]) (G := [813, 816]) (FR.rf.zb (by decide)) ((FR.rf.zb (by decide)).zi (by decide)) (by decide) (by decide))
/-! calls that go on -/
def hcP (c : St) (d k : Nat) : Bool := decide (gi c 102 k = 0) && decide (cdv c k = some d)
def HCb (c : St) (d : Nat) : Bool := (List.range (gn c 1)).any (hcP c d)
def hnP (c : St) (d j : Nat) : Bool := gb c 212 j && (decide (gp c 205 j = some d) || (decide (gp c 206 j = some d) || decide (gp c 207 j = some d)))
def HNb (c : St) (d : Nat) : Bool := (List.range (gn c 2)).any (hnP c d)
theorem itr_or {P : Nat → Bool} : ∀ N, itr (fun i a => a || P i) N false = (List.range N).any P
  | 0 => rfl
  | N + 1 => by
    rw [itr, itr_or N, List.range_succ, List.any_append]
    simp
theorem itr_or2 {P : Nat → Bool} {b : Bool} : ∀ N, itr (fun i a => a || P i) N b = (b || (List.range N).any P)
  | 0 => by simp [itr]
  | N + 1 => by
    rw [itr, itr_or2 N, List.range_succ, List.any_append]
    simp [Bool.or_assoc]
theorem HCb_iff {c : St} {d : Nat} : HCb c d = true ↔ ∃ k, k < gn c 1 ∧ gi c 102 k = 0 ∧ cdv c k = some d := by
  unfold HCb hcP
  rw [List.any_eq_true]
  constructor
  · rintro ⟨k, hk, h⟩
    rw [Bool.and_eq_true, decide_eq_true_eq, decide_eq_true_eq] at h
    exact ⟨k, List.mem_range.mp hk, h⟩
  · rintro ⟨k, hk, h⟩
    refine ⟨k, List.mem_range.mpr hk, ?_⟩
    rw [Bool.and_eq_true, decide_eq_true_eq, decide_eq_true_eq]
    exact h
theorem hnP_iff {c : St} {d j : Nat} : hnP c d j = true ↔ gb c 212 j = true ∧ ∃ f, isN3 f ∧ gp c f j = some d := by
  unfold hnP
  rw [Bool.and_eq_true, Bool.or_eq_true, Bool.or_eq_true, decide_eq_true_eq, decide_eq_true_eq, decide_eq_true_eq]
  constructor
  · rintro ⟨h1, h | h | h⟩
    · exact ⟨h1, 205, Or.inl rfl, h⟩
    · exact ⟨h1, 206, Or.inr (Or.inl rfl), h⟩
    · exact ⟨h1, 207, Or.inr (Or.inr rfl), h⟩
  · rintro ⟨h1, f, rfl | rfl | rfl, h⟩
    · exact ⟨h1, Or.inl h⟩
    · exact ⟨h1, Or.inr (Or.inl h)⟩
    · exact ⟨h1, Or.inr (Or.inr h)⟩
theorem HNb_iff {c : St} {d : Nat} : HNb c d = true ↔ ∃ j, j < gn c 2 ∧ gb c 212 j = true ∧ ∃ f, isN3 f ∧ gp c f j = some d := by
  unfold HNb
  rw [List.any_eq_true]
  constructor
  · rintro ⟨k, hk, h⟩
    exact ⟨k, List.mem_range.mp hk, hnP_iff.mp h⟩
  · rintro ⟨k, hk, h⟩
    exact ⟨k, List.mem_range.mpr hk, hnP_iff.mpr h⟩
theorem q_hasCall8 {fu e t d : Nat} {c m : St} (hS : CS c) (hH : HK e t c m) (hd : d < gn c 2) (hf : 200 ≤ fu) : f8_hasCall fu (nI d) m = some (HCb c d) := by
  obtain ⟨-, n24, -, -, -, n40, -, n100, -⟩ := hS
  unfold f8_hasCall
  refine lp_up (fun i a => (a, nI i)) (fun i a => a || hcP c d i) (gn c 1) (a0 := false) (fun i hi => ?_) ?_ (by omega)
  · generalize itr _ i false = a
    show f8_hasCall_b4 fu (nI d) a (nI i) m = _
    unfold f8_hasCall_b4
    rw [hH.2.2.2.1, if_neg (by rw [nI_leN (by omega) (by omega)]; omega)]
    obtain ⟨h, d', hh, hd', k1, k2, -⟩ := hH.2.1 i hi
    obtain ⟨u1, -, -⟩ := hH.2.2.1.2.2 h d' hh k2
    have hk := hH.2.2.2.2 i hi
    cases a
    · rw [if_neg (by simp), ar_k _ (by omega) (by omega), hk.2.2]
      unfold hcP
      rw [cdv_of k1 k2]
      by_cases h0 : gi c 102 i = 0
      · rw [if_pos h0, ar_k _ (by omega) (by omega), hk.1, k1, enc_some, ar_k _ (by omega) (by omega), u1]
        by_cases hdd : d' = d
        · rw [if_pos (by rw [hdd])]
          simp [f8_hasCall_j45, nI_s, h0, hdd]
        · rw [if_neg (fun z => hdd ((nI_inj (by omega) (by omega)).mp z))]
          simp [f8_hasCall_j45, nI_s, hdd]
      · rw [if_neg h0]
        simp [f8_hasCall_j45, nI_s, h0]
    · rw [if_pos rfl]
      simp [f8_hasCall_j45, nI_s]
  · show f8_hasCall_b4 fu (nI d) _ (nI (gn c 1)) m = _
    unfold f8_hasCall_b4
    rw [hH.2.2.2.1, if_pos (by rw [nI_leN (by omega) (by omega)]; omega), itr_or]
    rfl
theorem q_hasCall7 {fu e t d : Nat} {c m : St} (hS : CS c) (hH : HK e t c m) (hd : d < gn c 2) (hf : 200 ≤ fu) : f7_hasCallGoing fu (some d) c = some (HCb c d) := by
  obtain ⟨-, n24, -, -, -, n40, l4, n100, -⟩ := hS
  unfold f7_hasCallGoing
  have hfs := lp_first (b := fun s8 => f7_hasCallGoing_b2 fu (some d) s8 c) nI (gn c 1) (hcP c d) (fun _ => true) false (fun i hi => ?_) ?_ (show gn c 1 < fu by omega)
  · rcases hfs with ⟨i, h1, h2, -, h4⟩ | ⟨h1, h2⟩
    · rw [z0, h4]
      congr 1
      exact (List.any_eq_true.mpr ⟨i, List.mem_range.mpr h1, h2⟩).symm
    · rw [z0, h2]
      congr 1
      unfold HCb
      rw [eq_comm, List.any_eq_false]
      intro x hx
      rw [h1 x (List.mem_range.mp hx)]
      simp
  · show f7_hasCallGoing_b2 fu (some d) (nI i) c = _
    unfold f7_hasCallGoing_b2 lt
    obtain ⟨h, d', hh, hd', k1, k2, -⟩ := hH.2.1 i hi
    rw [l4, List.length_range, if_neg (by rw [nI_leN (by omega) (by omega)]; omega), lg_r (σ := c) (k := 4) _ l4 hi (by omega) (show gn c 1 ≤ gn c 1 from Nat.le_refl _)]
    unfold hcP
    rw [cdv_of k1 k2]
    by_cases h0 : gi c 102 i = 0
    · rw [if_pos h0]
      dsimp only
      rw [k1, dr_k hh, k2, ckb (okr_of fun j hj => by cases hj; exact hd'), ckb (okr_of fun j hj => by cases hj; exact hd)]
      by_cases hdd : d' = d
      · rw [if_pos (by rw [hdd])]
        simp [h0, hdd, oinr]
      · rw [if_neg (fun z => hdd (Option.some.inj z))]
        simp [f7_hasCallGoing_j45, nI_s, hdd]
    · rw [if_neg h0]
      simp [f7_hasCallGoing_j45, nI_s, h0]
  · show f7_hasCallGoing_b2 fu (some d) (nI (gn c 1)) c = _
    unfold f7_hasCallGoing_b2
    rw [l4, List.length_range, if_pos (by rw [nI_leN (by omega) (by omega)]; omega)]
    rfl
theorem q_isHeld {fu e t d : Nat} {c m : St} (hS : CS c) (hD : CD c) (hQ : RQ c m) (hH : HK e t c m) (h813 : ∀ j, j < gn c 2 → gb m 813 j = gb c 212 j) (hd : d < gn c 2) (hf : 200 ≤ fu) : f8_isHeld fu (nI d) m = some (HCb c d || HNb c d) := by
  have n24 := hS.2.1
  unfold f8_isHeld
  rw [q_hasCall8 hS hH hd hf, ob1_k rfl, nI_s]
  have hN : HNb c d = (List.range (gn c 2 - (d + 1))).any (fun i => hnP c d (d + 1 + i)) := by
    rw [Bool.eq_iff_iff]
    unfold HNb
    rw [List.any_eq_true, List.any_eq_true]
    constructor
    · rintro ⟨k, hk, h⟩
      have hk' := List.mem_range.mp hk
      obtain ⟨-, f, hf3, hp⟩ := hnP_iff.mp h
      have := (hD k hk').2.2.2.2.1 f hf3 d hp
      refine ⟨k - (d + 1), List.mem_range.mpr (by omega), ?_⟩
      rw [show d + 1 + (k - (d + 1)) = k by omega]
      exact h
    · rintro ⟨i, hi, h⟩
      exact ⟨d + 1 + i, List.mem_range.mpr (by have := List.mem_range.mp hi; omega), h⟩
  rw [hN]
  refine (lp_up (b := fun s8 => f8_isHeld_b10 fu (nI d) s8.1 s8.2 m) (fun i a => (a, nI (d + 1 + i))) (fun i a => a || hnP c d (d + 1 + i)) (gn c 2 - (d + 1)) (a0 := HCb c d) (t := HCb c d || (List.range (gn c 2 - (d + 1))).any (fun i => hnP c d (d + 1 + i))) (fun i hi => ?_) ?_ (by omega))
  · generalize itr _ i _ = a
    obtain ⟨j, hj⟩ : ∃ j, j = d + 1 + i := ⟨_, rfl⟩
    have hjn : j < gn c 2 := by omega
    dsimp only
    rw [← hj, show d + 1 + (i + 1) = j + 1 by omega]
    have hq := hQ.2.2.1 j hjn
    unfold f8_isHeld_b10
    rw [hQ.1, if_neg (by rw [nI_leN (by omega) (by omega)]; omega)]
    have hcmp : ∀ f, isN3 f → (enc (gp c f j) = nI d ↔ gp c f j = some d) := fun f hf3 => by
      have := enc_eq (o := gp c f j) (q := some d) (fun k hk => by have := (hD j hjn).2.2.2.2.1 f hf3 k hk; omega) (fun k hk => by cases hk; omega)
      exact this
    cases a
    · rw [if_neg (by simp), ar_k _ (by omega) (by omega), h813 j hjn]
      unfold hnP
      cases gb c 212 j
      · simp [f8_isHeld_j66, nI_s]
      · rw [if_pos rfl, ar_k _ (by omega) (by omega), hq.2.2.2.2.1]
        by_cases h5 : gp c 205 j = some d
        · rw [if_pos ((hcmp 205 (Or.inl rfl)).mpr h5)]
          simp [f8_isHeld_j66, nI_s, h5]
        · rw [if_neg (fun z => h5 ((hcmp 205 (Or.inl rfl)).mp z)), ar_k _ (by omega) (by omega), hq.2.2.2.2.2.1]
          by_cases h6 : gp c 206 j = some d
          · rw [if_pos ((hcmp 206 (Or.inr (Or.inl rfl))).mpr h6)]
            simp [f8_isHeld_j66, nI_s, h6]
          · rw [if_neg (fun z => h6 ((hcmp 206 (Or.inr (Or.inl rfl))).mp z)), ar_k _ (by omega) (by omega), hq.2.2.2.2.2.2.1]
            by_cases h7 : gp c 207 j = some d
            · rw [if_pos ((hcmp 207 (Or.inr (Or.inr rfl))).mpr h7)]
              simp [f8_isHeld_j66, nI_s, h7]
            · rw [if_neg (fun z => h7 ((hcmp 207 (Or.inr (Or.inr rfl))).mp z))]
              simp [f8_isHeld_j66, nI_s, h5, h6, h7]
    · rw [if_pos rfl]
      simp [f8_isHeld_j66, nI_s]
  · dsimp only
    rw [show d + 1 + (gn c 2 - (d + 1)) = gn c 2 by omega, itr_or2]
    unfold f8_isHeld_b10
    rw [hQ.1, if_pos (by rw [nI_leN (by omega) (by omega)]; omega)]
    rfl
