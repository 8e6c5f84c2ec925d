/-! ===== one device is unbound ===== -/
theorem er_ix : ∀ (l1 : List Nat) (d : Nat) (l2 : List Nat), (l1 ++ d :: l2).eraseIdx l1.length = l1 ++ l2
  | [], _, _ => rfl
  | x :: l1, d, l2 => congrArg (List.cons x) (er_ix l1 d l2)
theorem lrem_fr {c : St} {k i : Nat} : FR [0, 1000 + k] c (lrem c k i) := by
  unfold lrem
  exact (FR.rf.zl (by simp)).zi (by simp)
theorem lrem_l {c : St} {l1 l2 : List Nat} {d : Nat} (h : gl c 1 = l1 ++ d :: l2) : gl (lrem c 1 l1.length) 1 = l1 ++ l2 := by
  unfold lrem
  rw [gl_zi, gl_zl, if_pos rfl, h, er_ix]
def D7 (e d : Nat) (c : St) : St := nt7 e 1 (nI d) (zb (zb (zb (zb (zi (zp c 210 d none) 211 d (-1)) 212 d false) 215 d false) 216 d false) 217 d false)
def D8 (e d : Nat) (m : St) : St := nt8 e 1 (nI d) (zi (zb (zb (zi (zb (zi m 812 d (-1)) 813 d false) 814 d (-1)) 822 d false) 817 d false) 819 d (gi m 819 d + 1))
theorem D7_fr {e d : Nat} {c : St} : FR [210, 211, 212, 215, 216, 217, 400, 401, 402] c (D7 e d c) := by
  unfold D7
  exact FR.nt7 ((((((FR.rf.zp (by decide)).zi (by decide)).zb (by decide)).zb (by decide)).zb (by decide)).zb (by decide)) (by decide)
theorem D8_fr {e d : Nat} {m : St} : FR [812, 813, 814, 817, 819, 822, 842, 843, 844] m (D8 e d m) := by
  unfold D8
  exact FR.nt8 ((((((FR.rf.zi (by decide)).zb (by decide)).zi (by decide)).zb (by decide)).zb (by decide)).zi (by decide)) (by decide)
section Drd
variable {e d j : Nat} {c m : St}
theorem D7_210 : gp (D7 e d c) 210 j = if j = d then none else gp c 210 j := by
  simp [D7, nt7, gp_zi, gp_zb, gp_zp]
theorem D7_211 : gi (D7 e d c) 211 j = if j = d then -1 else gi c 211 j := by
  simp [D7, nt7, gi_zi, gi_zb, gi_zp]
theorem D7_212 : gb (D7 e d c) 212 j = if j = d then false else gb c 212 j := by
  simp [D7, nt7, gb_zi, gb_zb, gb_zp]
theorem D7_215 : gb (D7 e d c) 215 j = if j = d then false else gb c 215 j := by
  simp [D7, nt7, gb_zi, gb_zb, gb_zp]
theorem D7_216 : gb (D7 e d c) 216 j = if j = d then false else gb c 216 j := by
  simp [D7, nt7, gb_zi, gb_zb, gb_zp]
theorem D7_217 : gb (D7 e d c) 217 j = if j = d then false else gb c 217 j := by
  simp [D7, nt7, gb_zi, gb_zb, gb_zp]
theorem D7_bd : bd (D7 e d c) j = if j = d then false else bd c j := by
  unfold bd
  rw [D7_210]
  by_cases h : j = d
  · rw [if_pos h, if_pos h]; rfl
  · rw [if_neg h, if_neg h]
theorem D8_812 : gi (D8 e d m) 812 j = if j = d then -1 else gi m 812 j := by
  simp [D8, nt8, gi_zi, gi_zb]
theorem D8_814 : gi (D8 e d m) 814 j = if j = d then -1 else gi m 814 j := by
  simp [D8, nt8, gi_zi, gi_zb]
theorem D8_819 : gi (D8 e d m) 819 j = if j = d then gi m 819 d + 1 else gi m 819 j := by
  simp [D8, nt8, gi_zi, gi_zb]
theorem D8_813 : gb (D8 e d m) 813 j = if j = d then false else gb m 813 j := by
  simp [D8, nt8, gb_zi, gb_zb]
theorem D8_817 : gb (D8 e d m) 817 j = if j = d then false else gb m 817 j := by
  simp [D8, nt8, gb_zi, gb_zb]
theorem D8_822 : gb (D8 e d m) 822 j = if j = d then false else gb m 822 j := by
  simp [D8, nt8, gb_zi, gb_zb]
end Drd
/-- the handles of a device die -/
theorem q_dead {fu d e : Nat} {c : St} (hS : CS c) (hD : CD c) (hH : CH c) (hd : d < gn c 2) (hl : gi c 402 0 = nI e) (he : e < 2 ^ 31) (hf : 200 ≤ fu) :
    ∃ c3, lp (fun s8 => f7_detach_b13 fu (some d) s8.1 s8.2) fu (0, c) = some (D7 e d c3) ∧ FR [502] c c3 ∧ ∀ h, h < gn c 5 → gb c3 502 h = (gb c 502 h || decide (gp c 500 h = some d)) := by
  obtain ⟨-, n24, -, -, l3, n40, -, -, -⟩ := hS
  obtain ⟨c3, hr, r7⟩ := up1 (b := fun s8 : Int32 × St => f7_detach_b13 fu (some d) s8.1 s8.2) (fun i a => (nI i, a))
    (fun i a => FR [502] c a ∧ ∀ h, h < gn c 5 → gb a 502 h = (gb c 502 h || (decide (h < i) && decide (gp c 500 h = some d)))) (gn c 5)
    (fun i c1 hi hr => by
      obtain ⟨f1, h1⟩ := hr
      obtain ⟨d', hd', k1⟩ := hH i hi
      have n2 := f1.n (k := 2) (by decide)
      have n5 := f1.n (k := 5) (by decide)
      have c7 : f7_detach_b13 fu (some d) (nI i) c1 = if d' = d then some (.inl (nI (i + 1), zb c1 502 i true)) else some (.inl (nI (i + 1), c1)) := by
        unfold f7_detach_b13 lt
        rw [f1.l (k := 3) (by decide), l3, List.length_range, if_neg (by rw [nI_leN (by omega) (by omega)]; omega), lg_r (σ := c1) (k := 3) _ (by rw [f1.l (k := 3) (by decide)]; exact l3) hi (by omega) (show gn c 5 ≤ gn c1 5 by omega)]
        dsimp only
        rw [f1.p (by decide), k1, ckb (okr_of fun j hj => by cases hj; omega), ckb (okr_of fun j hj => by cases hj; omega)]
        unfold f7_detach_j49
        by_cases hdd : d' = d
        · rw [if_pos (by rw [hdd]), if_pos hdd, nI_s]
        · rw [if_neg (fun z => hdd (Option.some.inj z)), if_neg hdd, nI_s]
      by_cases hdd : d' = d
      · refine ⟨zb c1 502 i true, ?_, f1.zb (by decide), fun h hh => ?_⟩
        · show f7_detach_b13 fu (some d) (nI i) c1 = _
          rw [c7, if_pos hdd]
        · rw [gb_zb, h1 h hh]
          by_cases hi2 : h = i
          · subst hi2
            simp [k1, hdd]
          · simp [hi2, show (h < i + 1) = (h < i) by apply propext; omega]
      · refine ⟨c1, ?_, f1, fun h hh => ?_⟩
        · show f7_detach_b13 fu (some d) (nI i) c1 = _
          rw [c7, if_neg hdd]
        · rw [h1 h hh]
          by_cases hi2 : h = i
          · subst hi2
            simp [k1, hdd]
          · simp [show (h < i + 1) = (h < i) by apply propext; omega])
    (a := c) ⟨FR.rf, fun h hh => by simp⟩
  obtain ⟨f1, h1⟩ := hr
  refine ⟨c3, ?_, f1, fun h hh => by rw [h1 h hh]; simp [hh]⟩
  refine r7.fin ?_ (by omega)
  show f7_detach_b13 fu (some d) (nI (gn c 5)) c3 = _
  unfold f7_detach_b13
  rw [f1.l (k := 3) (by decide), l3, List.length_range, if_pos (by rw [nI_leN (by omega) (by omega)]; omega), dr_k (by rw [f1.n (k := 2) (by decide)]; exact hd)]
  have x2 : gi (zb (zb (zb (zb (zi (zp c3 210 d none) 211 d (-1)) 212 d false) 215 d false) 216 d false) 217 d false) 200 d = nI d := by
    have := f1.i (f := 200) (by decide) d
    rw [(hD d hd).1] at this
    simp [gi_zi, gi_zb, gi_zp, this]
  have x3 : gi (zb (zb (zb (zb (zi (zp c3 210 d none) 211 d (-1)) 212 d false) 215 d false) 216 d false) 217 d false) 402 0 = nI e := by
    have := f1.i (f := 402) (by decide) 0
    rw [hl] at this
    simp [gi_zi, gi_zb, gi_zp, this]
  rw [x2, q_note x3 he, ob1_k rfl]
  rfl
def DF7 : List Nat := [0, 102, 210, 211, 212, 215, 216, 217, 400, 401, 402, 502, 600, 1001]
def DF8 : List Nat := [812, 813, 814, 817, 819, 822, 837, 839, 842, 843, 844]
/-- what the reference does with one, up to the event -/
def dt8 (fu d : Nat) (m : St) (m' : St) : Prop := ∀ x2 x3, f8_unbindAll_b76 fu x2 x3 (nI d) m = ob1 (f8_lastOf fu x2 m') fun v29 => some (.inl (x3 + 1, v29, m'))
theorem q_detach {fu e t d : Nat} {c m : St} {l1 l2 : List Nat} (h : INV e t c m) (hl : gl c 1 = l1 ++ d :: l2) (hno : ∀ x ∈ l2, ∀ f, isN3 f → gp c f x ≠ some d) (he : e + 1 < 2 ^ 31) (hf : 200 ≤ fu) :
    ∃ c' m', f7_detach fu (some d) (lrem c 1 l1.length) = some c' ∧ dt8 fu d m m' ∧ INV (e + 1) t c' m' ∧ gl c' 1 = l1 ++ l2 ∧ FR DF7 c c' ∧ FR DF8 m m' ∧ (∀ j, bd c' j = if j = d then false else bd c j) ∧ (∀ j, gb c' 217 j = if j = d then false else gb c 217 j) ∧ (∀ j, gb c' 216 j = if j = d then false else gb c 216 j) ∧ (∀ j, gb m' 822 j = if j = d then false else gb m 822 j) ∧ (∀ j, gb c' 212 j = if j = d then false else gb c 212 j) ∧ ∀ h d', h < gn c 5 → gp c 500 h = some d' → gb c' 502 h = (gb c 502 h || decide (d' = d)) := by
  obtain ⟨⟨hS, hD, hB, hW, ⟨hT, hZ⟩, hQ, hO⟩, ⟨hA, hR, hT7, hT8, hT9⟩, hP, hH, hSl, hX, hL⟩ := h
  have hmem : d ∈ gl c 1 := by rw [hl]; simp
  have hd : d < gn c 2 := ((hB.2.1 d).mp hmem).1
  have h24 := hS.2.1
  have f0 : FR [0, 1001] c (lrem c 1 l1.length) := lrem_fr (k := 1)
  have hS0 := hS.fr f0 (by decide)
  have hH0 := hH.fr f0 (FR.rf (F := []) (c := m)) (by decide) (by decide) (Nat.le_refl _)
  have hd0 : d < gn (lrem c 1 l1.length) 2 := by rw [f0.n (k := 2) (by decide)]; exact hd
  obtain ⟨x, c1, m1, a1, a2, f1, g1, a5, a6⟩ := q_abort (fu := fu) hS0 hH0 hd0 hf
  have hH1 := hH0.ab f1 g1 a5 a6
  have hSl1 := (hSl.fr f0 (FR.rf (F := []) (c := m)) (by decide) (by decide)).fr f1 g1 (by decide) (by decide)
  have hS1 := hS0.fr f1 (by decide)
  have hd1 : d < gn c1 2 := by rw [f1.n (k := 2) (by decide)]; exact hd0
  obtain ⟨c2, m2, b1, b2, f2, g2, b5⟩ := q_maps (fu := fu) hS1 hSl1 hd1 hf
  have hH2 := hH1.fr f2 g2 (by decide) (by decide) (Nat.le_refl _)
  have hS2 := hS1.fr f2 (by decide)
  have hD2 : CD c2 := ((hD.fr f0 (by decide)).fr f1 (by decide)).fr f2 (by decide)
  have hd2 : d < gn c2 2 := by rw [f2.n (k := 2) (by decide)]; exact hd1
  have hlog2 : gi c2 402 0 = nI e := by rw [f2.i (by decide), f1.i (by decide), f0.i (by decide)]; exact hL.1
  obtain ⟨c3, d1, f3, d3⟩ := q_dead (fu := fu) (e := e) hS2 hD2 hH2.1 hd2 hlog2 (by omega) hf
  have f02 : FR [0, 102, 600, 1001] c c2 := ((f0.mono (by decide)).tr (f1.mono (by decide))).tr (f2.mono (by decide))
  have f03 : FR [0, 102, 502, 600, 1001] c c3 := (f02.mono (by decide)).tr (f3.mono (by decide))
  have f4 := D7_fr (e := e) (d := d) (c := c3)
  have F : FR DF7 c (D7 e d c3) := (f03.mono (by decide)).tr (f4.mono (by decide))
  have g02 : FR [837, 839] m m2 := (g1.mono (by decide)).tr (g2.mono (by decide))
  have g4 := D8_fr (e := e) (d := d) (m := m2)
  have G : FR DF8 m (D8 e d m2) := (g02.mono (by decide)).tr (g4.mono (by decide))
  have n2 := F.n (k := 2) (by decide)
  have n3 := F.n (k := 3) (by decide)
  have n5 := F.n (k := 5) (by decide)
  have n1 := F.n (k := 1) (by decide)
  have e210 : ∀ j, gp (D7 e d c3) 210 j = if j = d then none else gp c 210 j := fun j => by rw [D7_210, f03.p (by decide)]
  have e211 : ∀ j, gi (D7 e d c3) 211 j = if j = d then -1 else gi c 211 j := fun j => by rw [D7_211, f03.i (by decide)]
  have e212 : ∀ j, gb (D7 e d c3) 212 j = if j = d then false else gb c 212 j := fun j => by rw [D7_212, f03.b (by decide)]
  have e215 : ∀ j, gb (D7 e d c3) 215 j = if j = d then false else gb c 215 j := fun j => by rw [D7_215, f03.b (by decide)]
  have e216 : ∀ j, gb (D7 e d c3) 216 j = if j = d then false else gb c 216 j := fun j => by rw [D7_216, f03.b (by decide)]
  have e217 : ∀ j, gb (D7 e d c3) 217 j = if j = d then false else gb c 217 j := fun j => by rw [D7_217, f03.b (by decide)]
  have ebd : ∀ j, bd (D7 e d c3) j = if j = d then false else bd c j := fun j => by rw [D7_bd, bd_fr f03 (by decide)]
  have e812 : ∀ j, gi (D8 e d m2) 812 j = if j = d then -1 else gi m 812 j := fun j => by rw [D8_812, g02.i (by decide)]
  have e814 : ∀ j, gi (D8 e d m2) 814 j = if j = d then -1 else gi m 814 j := fun j => by rw [D8_814, g02.i (by decide)]
  have e819 : ∀ j, gi (D8 e d m2) 819 j = if j = d then gi m 819 d + 1 else gi m 819 j := fun j => by rw [D8_819, g02.i (by decide), g02.i (by decide)]
  have e813 : ∀ j, gb (D8 e d m2) 813 j = if j = d then false else gb m 813 j := fun j => by rw [D8_813, g02.b (by decide)]
  have e817 : ∀ j, gb (D8 e d m2) 817 j = if j = d then false else gb m 817 j := fun j => by rw [D8_817, g02.b (by decide)]
  have e822 : ∀ j, gb (D8 e d m2) 822 j = if j = d then false else gb m 822 j := fun j => by rw [D8_822, g02.b (by decide)]
  have egl : gl (D7 e d c3) 1 = l1 ++ l2 := by
    rw [f4.l (k := 1) (by decide), f3.l (k := 1) (by decide), f2.l (k := 1) (by decide), f1.l (k := 1) (by decide), lrem_l hl]
  have hnd : (l1 ++ d :: l2).Nodup := hl ▸ hB.1
  have hdn1 : d ∉ l1 := fun hm => (List.nodup_append.mp hnd).2.2 d hm d (by simp) rfl
  have hdn2 : d ∉ l2 := (List.nodup_cons.mp (List.nodup_append.mp hnd).2.1).1
  have hnoall : ∀ y, y ∈ gl c 1 → ∀ f, isN3 f → gp c f y ≠ some d := by
    intro y hy f hf hk
    rw [hl, List.mem_append, List.mem_cons] at hy
    rcases hy with hy | rfl | hy
    · obtain ⟨p1, p2, rfl⟩ := List.append_of_mem hy
      have := hB.2.2 p1 y (p2 ++ d :: l2) (by rw [hl]; simp) f hf d hk
      exact hdn1 (List.mem_append_left _ this)
    · have := (hD y hd).2.2.2.2.1 f hf y hk
      omega
    · exact hno y hy f hf hk
  have hnew : ∀ y, y ∈ l1 ++ l2 ↔ y ∈ gl c 1 ∧ y ≠ d := by
    intro y
    rw [hl, List.mem_append, List.mem_append, List.mem_cons]
    constructor
    · rintro (hy | hy)
      · exact ⟨Or.inl hy, fun z => hdn1 (z ▸ hy)⟩
      · exact ⟨Or.inr (Or.inr hy), fun z => hdn2 (z ▸ hy)⟩
    · rintro ⟨hy | hy | hy, hne⟩
      · exact Or.inl hy
      · exact absurd hy hne
      · exact Or.inr hy
  refine ⟨D7 e d c3, D8 e d m2, ?_, ?_, ⟨⟨hS.fr F (by decide), fun j hj => ?_, ⟨?_, fun j => ?_, fun p1 y p2 hp f hf k hk => ?_⟩, fun j hj => ?_, ⟨fun j hj => ?_, ⟨fun j hj hj2 => ?_, fun j hj hj2 => ?_⟩⟩, ?_, ?_⟩, ⟨fun j hj hj1 => ?_, fun j hj => ?_, ?_, ?_, fun j hj hj2 => ?_⟩, fun j hj => ?_, ⟨?_, fun k hk => ?_, ⟨?_, ⟨fun j hj => ?_, fun j hj hj2 => by rw [n5] at hj; rw [G.b (by decide)]; exact hH.2.2.1.2.1.2 j hj hj2⟩, fun h j hh hk => ?_⟩, ?_⟩, ?_, hX.fr F G (by decide) (by decide), ?_⟩, egl, F, G, ebd, e217, e216, e822, e212, fun h d' hh hk => by
    have hh2 : h < gn c2 5 := by rw [f02.n (k := 5) (by decide)]; exact hh
    rw [f4.b (by decide), d3 h hh2, f02.b (by decide), f02.p (by decide), hk]
    simp⟩
  · unfold f7_detach
    rw [a1, ob2_k rfl, b1, ob1_k rfl]
    exact d1
  · intro x2 x3
    have hd24 : d < 24 := by omega
    have hlog8 : gi m2 842 0 = nI e := by rw [g02.i (by decide)]; exact hL.2.1
    unfold f8_unbindAll_b76
    rw [if_neg (nI_neg1 (by omega)), a2, ob2_k rfl, b2, ob1_k rfl, ar_k _ hd24 (by omega), ar_k _ hd24 (by omega), ar_k _ hd24 (by omega), ar_k _ hd24 (by omega), ar_k _ hd24 (by omega), ar_k _ hd24 (by omega), ar_k _ hd24 (by omega)]
    have x1 : gi (zb (zb (zi (zb (zi m2 812 d (-1)) 813 d false) 814 d (-1)) 822 d false) 817 d false) 819 d = gi m2 819 d := by simp [gi_zi, gi_zb]
    rw [x1, q_event (e := e) (by simp [gi_zi, gi_zb, hlog8]) (by omega), ob1_k rfl]
    rfl
  · rw [n2] at hj
    have h1 := hD j hj
    rw [n3, F.i (by decide), F.i (by decide), F.i (by decide), F.i (by decide), F.b (by decide), e210]
    refine ⟨h1.1, h1.2.1, h1.2.2.1, h1.2.2.2.1, fun f hf k hk => ?_, fun q hq => ?_⟩
    · rw [isN3_p F (by decide) hf] at hk
      exact h1.2.2.2.2.1 f hf k hk
    · by_cases hjd : j = d
      · rw [if_pos hjd] at hq; cases hq
      · rw [if_neg hjd] at hq
        exact h1.2.2.2.2.2 q hq
  · rw [egl]
    have := hB.1
    rw [hl] at this
    exact this.sublist ((List.Sublist.refl l1).append (List.sublist_cons_self d l2))
  · rw [egl, hnew, hB.2.1 j, n2, e210]
    by_cases hjd : j = d
    · subst hjd
      simp
    · simp [hjd]
  · rw [isN3_p F (by decide) hf] at hk
    rw [egl] at hp
    have hymem : y ∈ gl c 1 := ((hnew y).mp (by rw [hp]; simp)).1
    have hkd : k ≠ d := fun z => hnoall y hymem f hf (z ▸ hk)
    rcases List.append_eq_append_iff.mp hp with ⟨a, e1, e2⟩ | ⟨a, e1, e2⟩
    · have := hB.2.2 (l1 ++ d :: a) y p2 (by rw [hl, e2]; simp) f hf k hk
      rw [e1]
      rw [List.mem_append, List.mem_cons] at this
      rw [List.mem_append]
      rcases this with h | h | h
      · exact Or.inl h
      · exact absurd h hkd
      · exact Or.inr h
    · cases a with
      | nil =>
        simp at e1 e2
        have := hB.2.2 (l1 ++ [d]) y p2 (by rw [hl, e2]; simp) f hf k hk
        rw [List.mem_append, List.mem_singleton] at this
        rw [← e1]
        exact this.resolve_right hkd
      | cons z a =>
        simp at e2
        obtain ⟨rfl, e2⟩ := e2
        exact hB.2.2 p1 y (a ++ d :: l2) (by rw [hl, e1]; simp) f hf k hk
  · rw [n2] at hj
    rw [e210, e211, F.i (f := 202) (by decide)]
    by_cases hjd : j = d
    · simp [hjd]
    · simp only [if_neg hjd]
      exact hW j hj
  · rw [n2] at hj
    have h1 := hT j hj
    rw [F.b (f := 208) (by decide), F.p (by decide)]
    intro h2 k hk
    rw [F.b (f := 208) (by decide)]
    exact h1 h2 k hk
  · rw [n2] at hj
    rw [e812, e814, G.b (by decide), if_neg (by omega), if_neg (by omega)]
    exact hZ.1 j hj hj2
  · rw [n3] at hj
    rw [G.i (by decide)]
    exact hZ.2 j hj hj2
  · obtain ⟨q1, q2, q3, q4⟩ := hQ
    refine ⟨?_, ?_, fun j hj => ?_, fun j hj => ?_⟩
    · rw [G.i (by decide), n2]; exact q1
    · rw [G.i (by decide), n3]; exact q2
    · rw [n2] at hj
      have q5 := q3 j hj
      rw [G.i (f := 805) (by decide), G.i (f := 806) (by decide), G.i (f := 807) (by decide), G.b (f := 808) (by decide), G.i (f := 804) (by decide), G.i (f := 809) (by decide), G.i (f := 810) (by decide), G.b (f := 811) (by decide), G.b (f := 818) (by decide), e812, e814, e210, e211,
        F.i (f := 201) (by decide), F.i (f := 202) (by decide), F.i (f := 203) (by decide), F.b (f := 204) (by decide), F.p (f := 205) (by decide), F.p (f := 206) (by decide), F.p (f := 207) (by decide), F.b (f := 208) (by decide), F.b (f := 209) (by decide)]
      by_cases hjd : j = d
      · subst hjd
        simp only [if_true]
        exact ⟨q5.1, q5.2.1, q5.2.2.1, q5.2.2.2.1, q5.2.2.2.2.1, q5.2.2.2.2.2.1, q5.2.2.2.2.2.2.1, q5.2.2.2.2.2.2.2.1, rfl, trivial, q5.2.2.2.2.2.2.2.2.2.2⟩
      · simp only [if_neg hjd]
        exact q5
    · rw [n3] at hj
      rw [G.i (f := 825) (by decide), G.i (f := 826) (by decide), G.i (f := 827) (by decide), G.b (f := 828) (by decide), G.i (f := 829) (by decide), F.i (f := 301) (by decide), F.i (f := 302) (by decide), F.i (f := 303) (by decide), F.b (f := 304) (by decide), F.i (f := 305) (by decide)]
      exact q4 j hj
  · obtain ⟨b, o1, o2, o3, o4⟩ := hO
    refine ⟨b, by omega, by rw [G.i (by decide)]; exact o2, ?_, fun j hj => ?_⟩
    · rw [egl]
      rw [hl] at o3
      refine (o3.sublist ((List.Sublist.refl l1).append (List.sublist_cons_self d l2))).imp fun {a b} h => ?_
      rw [ord_fr G (by decide), ord_fr G (by decide)]
      exact h
    · rw [egl] at hj
      rw [ord_fr G (by decide), G.i (by decide)]
      exact o4 j ((hnew j).mp hj).1
  · rw [n2] at hj
    rw [e212] at hj1
    rw [ebd]
    by_cases hjd : j = d
    · rw [if_pos hjd] at hj1; cases hj1
    · rw [if_neg hjd] at hj1 ⊢
      have h1 := hA j hj hj1
      refine ⟨h1.1, fun f hf k hk => ?_⟩
      rw [isN3_p F (by decide) hf] at hk
      have hjm : j ∈ gl c 1 := (hB.2.1 j).mpr ⟨hj, bd_ne.mp h1.1⟩
      rw [e212, if_neg (fun (z : k = d) => hnoall j hjm f hf (z ▸ hk))]
      exact h1.2 f hf k hk
  · rw [n2] at hj
    rw [e813, e212, ebd, G.i (f := 815) (by decide), G.i (f := 816) (by decide), G.i (f := 821) (by decide), F.i (f := 213) (by decide), F.i (f := 214) (by decide)]
    by_cases hjd : j = d
    · simp [hjd]
    · simp only [if_neg hjd]
      exact hR j hj
  · rw [F.i (by decide)]; exact hT7
  · rw [G.i (by decide)]; exact hT8
  · rw [n2] at hj
    rw [e813, if_neg (by omega)]
    exact hT9 j hj hj2
  · rw [n2, e817, e215, hP j hj]
    by_cases hjd : j = d
    · simp [hjd]
    · simp [hjd]
  · exact hH.1.fr F (by decide)
  · rw [n1] at hk
    have hk1 : k < gn (lrem c 1 l1.length) 1 := by rw [f0.n (k := 1) (by decide)]; exact hk
    obtain ⟨h, d', hh, hd', k1, k2, k3⟩ := hH.2.1 k hk
    refine ⟨h, d', by rw [n5]; exact hh, by rw [n2]; exact hd', by rw [F.p (by decide)]; exact k1, by rw [F.p (by decide)]; exact k2, fun hz => ?_⟩
    have hz1 : gi c1 102 k = 0 := by
      rw [f4.i (by decide), f3.i (by decide), f2.i (by decide)] at hz
      exact hz
    have h6 := a6 k hk1 hz1
    have h7 : gi c 102 k = 0 := by
      rw [← f0.i (by decide)]
      exact h6.1
    have h8 : d' ≠ d := by
      intro z
      apply h6.2
      refine cdv_of (h := h) ?_ ?_
      · rw [f0.p (by decide)]; exact k1
      · rw [f0.p (by decide), k2, z]
    rw [e212, if_neg h8, F.i (f := 101) (by decide)]
    exact k3 h7
  · rw [G.i (by decide), n5]; exact hH.2.2.1.1
  · obtain ⟨u, u1, u2, u3⟩ := hH.2.2.1.2.1.1 j hj
    rw [e819, n2]
    by_cases hjd : j = d
    · subst hjd
      rw [if_pos rfl, u2, nI_s]
      exact ⟨u + 1, by omega, rfl, fun z => by omega⟩
    · rw [if_neg hjd]
      exact ⟨u, by omega, u2, u3⟩
  · rw [n5] at hh
    rw [F.p (by decide)] at hk
    obtain ⟨v1, v2, s, u, v3, v4, v5, v6, v7⟩ := hH.2.2.1.2.2 h j hh hk
    have hh2 : h < gn c2 5 := by rw [f02.n (k := 5) (by decide)]; exact hh
    have h502 : gb (D7 e d c3) 502 h = (gb c 502 h || decide (j = d)) := by
      rw [f4.b (by decide), d3 h hh2, f02.b (by decide), f02.p (by decide), hk]
      simp
    rw [G.i (f := 831) (by decide), G.b (f := 833) (by decide), F.b (f := 501) (by decide), G.i (f := 832) (by decide), e819, h502]
    refine ⟨v1, v2, ?_⟩
    by_cases hjd : j = d
    · subst hjd
      refine ⟨s, u + 1, by omega, by omega, v5, by rw [if_pos rfl, v6, nI_s], ?_⟩
      simp
      omega
    · refine ⟨s, u, v3, by omega, v5, by rw [if_neg hjd]; exact v6, ?_⟩
      simp [hjd, v7]
  · refine ⟨?_, fun k hk => ?_⟩
    · rw [G.i (by decide), n1]; exact hH.2.2.2.1
    · rw [n1] at hk
      have hk1 : k < gn (lrem c 1 l1.length) 1 := by rw [f0.n (k := 1) (by decide)]; exact hk
      have h1 := hH.2.2.2.2 k hk
      rw [G.i (f := 835) (by decide), G.i (f := 836) (by decide), F.p (by decide), F.i (f := 101) (by decide), g4.i (f := 837) (by decide), g2.i (by decide), f4.i (f := 102) (by decide), f3.i (f := 102) (by decide), f2.i (f := 102) (by decide), a5 k hk1]
      exact ⟨h1.1, h1.2.1, rfl⟩
  · exact (b5.fr f3 (FR.rf (F := []) (c := m2)) (by decide) (by decide)).fr f4 g4 (by decide) (by decide)
  · unfold D7 D8
    have hL3 : RLg e c3 m2 := hL.fr f03 g02 (by decide) (by decide)
    refine RLg.nt (hL3.fr (F := [210, 211, 212, 215, 216, 217]) (G := [812, 813, 814, 817, 819, 822]) ?_ ?_ (by decide) (by decide))
    · exact (((((FR.rf.zp (by decide)).zi (by decide)).zb (by decide)).zb (by decide)).zb (by decide)).zb (by decide)
    · exact (((((FR.rf.zi (by decide)).zb (by decide)).zi (by decide)).zb (by decide)).zb (by decide)).zi (by decide)
