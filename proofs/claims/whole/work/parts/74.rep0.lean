/-! ===== the start: the picture out of the worlds that the constructors leave ===== -/
def KEYS : List (Nat × Nat) := [(7, 0), (0, 0), (0, 1), (0, 2), (0, 3), (0, 4), (0, 5), (1706, 0), (4, 0), (1400, 0), (1401, 0), (6, 0), (6, 1), (6, 2), (6, 3), (6, 4), (6, 5), (6, 6), (6, 7), (6, 8), (6, 9), (6, 10), (6, 11), (6, 12), (6, 13), (6, 14), (6, 15), (9, 5), (8, 0), (1804, 0), (1805, 0), (1806, 0), (1807, 0), (1808, 0), (1809, 0), (1810, 0), (1811, 0), (1812, 0), (1813, 0), (1814, 0), (1815, 0), (1816, 0), (1817, 0), (1818, 0), (1819, 0), (1820, 0), (1821, 0), (1822, 0), (1825, 0), (1826, 0), (1827, 0), (1828, 0), (1829, 0), (1831, 0), (1832, 0), (1833, 0), (1835, 0), (1836, 0), (1837, 0), (1838, 0), (1839, 0), (1840, 0), (1843, 0), (1844, 0), (1845, 0), (1846, 0), (3000, 0)]
def σ0 : St := (fun f i => if f = 812 then ngI 24 i else if f = 814 then ngI 24 i else if f = 839 then ngI 16 i else if f = 0 then (if i = 5 then 16 else 0) else 0, fun _ _ => false, fun _ _ => none, fun k => if k = 5 then List.range 16 else [], fun _ => 0, 0)
def S0 (γ : GT) (a7 : Nat) (qd : Nat → Nat) (L : List Nat) (a8 : Nat) (qm : Nat → Nat) (o : Nat) : Nat → Nat → Nat := fun c i =>
  if c = 0 then qd i else if c = 4 then qd 7 else if c = 6 then L.getD i 0 else if c = 7 then a7 else if c = 8 then a8 else if c = 3000 then o else if c = 99 then gS γ 99 0 else
  if c = 1706 then qd 6 else if c = 1400 then qd 8 else if c = 1401 then qd 9 else qm (c - 1800)
def γ0 (γ : GT) (a7 : Nat) (qd : Nat → Nat) (L : List Nat) (a8 : Nat) (qm : Nat → Nat) (o : Nat) : GT := (γ.1, γ.2.1, S0 γ a7 qd L a8 qm o, γ.2.2.2.1, γ.2.2.2.2)
def la0 (γ : GT) (ar cap : Nat) : Nat → Nat × Nat := fun k => if k = 5 then (ar, cap) else (gE γ, 0)
def ad0 : Nat → Nat → Nat := fun _ _ => 0
theorem al_big {f : Nat} (h : 900 ≤ f) : al f = 0 := by
  unfold al
  rw [List.getD_eq_getElem?_getD (l := alL), List.getElem?_eq_none (by show 9 ≤ f / 100; omega)]
  rfl
theorem key_ar : ∀ f, f < 900 → 0 < al f → (1000 + f, 0) ∈ KEYS := by decide +kernel
theorem key_ex {γ : GT} {ar cap c i : Nat} (h : EX σ0 (la0 γ ar cap) c i) : (c, i) ∈ KEYS := by
  unfold EX at h
  by_cases h0 : c = 0
  · rw [if_pos h0] at h
    subst h0
    exact (by decide : ∀ i, i < 6 → (0, i) ∈ KEYS) i h
  rw [if_neg h0] at h
  by_cases h9 : c = 9
  · rw [if_pos h9] at h
    subst h9
    by_cases h5 : i = 5
    · subst h5
      decide
    · have h2 := h.2
      unfold la0 at h2
      rw [if_neg h5] at h2
      exact absurd h2 (Nat.lt_irrefl 0)
  rw [if_neg h9] at h
  by_cases hc : c < 9
  · rw [if_pos hc] at h
    have hh : ∀ c, c < 9 → ¬ c = 0 → ∀ i, i < cn σ0 c → (c, i) ∈ KEYS := by
      intro c hc h0 i hi
      have : c = 1 ∨ c = 2 ∨ c = 3 ∨ c = 4 ∨ c = 5 ∨ c = 6 ∨ c = 7 ∨ c = 8 := by omega
      rcases this with rfl | rfl | rfl | rfl | rfl | rfl | rfl | rfl
      · exact absurd (show i < 0 from hi) (Nat.not_lt_zero i)
      · exact absurd (show i < 0 from hi) (Nat.not_lt_zero i)
      · exact absurd (show i < 0 from hi) (Nat.not_lt_zero i)
      · exact (by decide : ∀ i, i < 1 → (4, i) ∈ KEYS) i hi
      · exact absurd (show i < 0 from hi) (Nat.not_lt_zero i)
      · exact (by decide : ∀ i, i < 16 → (6, i) ∈ KEYS) i hi
      · exact (by decide : ∀ i, i < 1 → (7, i) ∈ KEYS) i hi
      · exact (by decide : ∀ i, i < 1 → (8, i) ∈ KEYS) i hi
    exact hh c hc h0 i h
  rw [if_neg hc] at h
  by_cases h3 : c = 3000
  · rw [if_pos h3] at h
    subst h3
    subst h
    decide
  rw [if_neg h3] at h
  obtain ⟨rfl, h1, h2⟩ := h
  have hf : c - 1000 < 900 := by
    rcases Nat.lt_or_ge (c - 1000) 900 with q | q
    · exact q
    · rw [al_big q] at h2
      omega
  have := key_ar (c - 1000) hf h2
  rwa [show 1000 + (c - 1000) = c by omega] at this
def slE : va_E := .inr (6, [.null, .int 0])
theorem slots_W {γ : GT} {z ar cap : Nat} {L : List Nat} {h : Heap} (hs : dmS γ z ar cap L h) : HW γ (fun x => z ≤ x ∧ x ≠ ar) (L.map fun y => (y, slE)) h := by
  obtain ⟨-, -, -, -, -, h1, h2⟩ := hs
  refine ⟨fun k q hk => ?_, fun i j p q hi hj e => ?_, fun k q hk => ?_⟩
  · rw [List.getElem?_map] at hk
    obtain ⟨y, hy, rfl⟩ := Option.map_eq_some_iff.mp hk
    exact (h1 k y hy).1
  · rw [List.getElem?_map] at hi hj
    obtain ⟨y, hy, rfl⟩ := Option.map_eq_some_iff.mp hi
    obtain ⟨w, hw, rfl⟩ := Option.map_eq_some_iff.mp hj
    have e2 : y = w := e
    subst e2
    exact (List.getElem?_inj (List.getElem?_eq_some_iff.mp hy).1 h2).mp (hy.trans hw.symm)
  · rw [List.getElem?_map] at hk
    obtain ⟨y, hy, rfl⟩ := Option.map_eq_some_iff.mp hk
    exact (h1 k y hy).2
theorem HW.join {γ : GT} {A1 A2 A : Nat → Prop} {ws1 ws2 : va_W} {H : Heap} (h1 : HW γ A1 ws1 H) (h2 : HW γ A2 ws2 H) (k1 : ∀ q, A1 q → A q) (k2 : ∀ q, A2 q → A q) (hs : ∀ (i j : Nat) (p q : Nat × va_E), ws1[i]? = some p → ws2[j]? = some q → p.1 ≠ q.1) : HW γ A (ws1 ++ ws2) H :=
  ⟨h1.1.app h2.1, va_D.app (h1.2.weaken fun _ q _ z => k1 _ z) (h2.2.weaken fun _ q _ z => k2 _ z) (fun i j p q hp hq e => hs i j p q hp hq e)⟩
theorem HW.one {γ : GT} {A : Nat → Prop} {a : Nat} {x : va_E} {H : Heap} (h : va_at (gD γ) vwCl (a, x) H) (hA : A a) : HW γ A [(a, x)] H := by
  have h0 : ∀ (k : Nat) (q : Nat × va_E), [(a, x)][k]? = some q → k = 0 ∧ q = (a, x) := by
    intro k q hk
    have hz : k < 1 := (List.getElem?_eq_some_iff.mp hk).1
    have : k = 0 := by omega
    subst this
    cases hk
    exact ⟨rfl, rfl⟩
  refine ⟨rs_P h, fun i j p q hi hj _ => by rw [(h0 i p hi).1, (h0 j q hj).1], fun k q hk => by rw [(h0 k q hk).2]; exact hA⟩

set_option maxHeartbeats 8000000 in
set_option maxRecDepth 100000 in
theorem rep0 {γ : GT} {a7 z ar cap t a8 o : Nat} {qd qm : Nat → Nat} {L : List Nat} {H : Heap} (hL : L.length = 16) (h1 : HW γ (fun x => gB γ ≤ x) (dmW γ a7 qd ar 16) H) (h2 : dmS γ z ar cap L H) (hz : ∀ (k : Nat) (c : Nat × va_E), (dmW γ a7 qd ar 16)[k]? = some c → c.1 < z) (hB : gB γ ≤ z)
    (hLt : ∀ y ∈ L, y < t) (hat : ar < t) (hzt : z ≤ t) (h3 : HW γ (fun x => t ≤ x) (mmW γ a8 qm (ngI 24) (ngI 24) (ngI 16)) H) (hm : ∀ (k : Nat) (c : Nat × va_E), (mmW γ a8 qm (ngI 24) (ngI 24) (ngI 16))[k]? = some c → c.1 < o) (hto : t ≤ o) (h4 : va_at (gD γ) vwCl (o, .inl (gcJ γ, 1, .inr (.inl fun _ => 0))) H) :
    Rep (γ0 γ a7 qd L a8 qm o) ad0 σ0 H := by
  have hsw := slots_W h2
  obtain ⟨har, hcap, hc1, hc0, hza, hsl, hnd⟩ := h2
  have hcp : 0 < cap := by omega
  have har := har.1 hcp
  obtain ⟨y0, y1, y2, y3, y4, y5, y6, y7, y8, y9, y10, y11, y12, y13, y14, y15, rfl⟩ : ∃ y0 y1 y2 y3 y4 y5 y6 y7 y8 y9 y10 y11 y12 y13 y14 y15, L = [y0, y1, y2, y3, y4, y5, y6, y7, y8, y9, y10, y11, y12, y13, y14, y15] := by
    match L, hL with
    | [y0, y1, y2, y3, y4, y5, y6, y7, y8, y9, y10, y11, y12, y13, y14, y15], _ => exact ⟨y0, y1, y2, y3, y4, y5, y6, y7, y8, y9, y10, y11, y12, y13, y14, y15, rfl⟩
  have hfe : (fun j : Nat => ([y0, y1, y2, y3, y4, y5, y6, y7, y8, y9, y10, y11, y12, y13, y14, y15] : List Nat)[j]?) = fun j : Nat => (((gl σ0 5)[j]?).map (Ad (γ0 γ a7 qd [y0, y1, y2, y3, y4, y5, y6, y7, y8, y9, y10, y11, y12, y13, y14, y15] a8 qm o) ad0 (ek 5))) := by
    funext j
    show _ = ((List.range 16)[j]?).map _
    rcases Nat.lt_or_ge j 16 with hj | hj
    · have : ∀ j, j < 16 → ([y0, y1, y2, y3, y4, y5, y6, y7, y8, y9, y10, y11, y12, y13, y14, y15] : List Nat)[j]? = ((List.range 16)[j]?).map (Ad (γ0 γ a7 qd [y0, y1, y2, y3, y4, y5, y6, y7, y8, y9, y10, y11, y12, y13, y14, y15] a8 qm o) ad0 (ek 5)) := by
        intro j hj
        have hc : j = 0 ∨ j = 1 ∨ j = 2 ∨ j = 3 ∨ j = 4 ∨ j = 5 ∨ j = 6 ∨ j = 7 ∨ j = 8 ∨ j = 9 ∨ j = 10 ∨ j = 11 ∨ j = 12 ∨ j = 13 ∨ j = 14 ∨ j = 15 := by omega
        rcases hc with rfl | rfl | rfl | rfl | rfl | rfl | rfl | rfl | rfl | rfl | rfl | rfl | rfl | rfl | rfl | rfl <;> rfl
      exact this j hj
    · rw [List.getElem?_eq_none (by show 16 ≤ j; exact hj), List.getElem?_eq_none (by rw [List.length_range]; exact hj)]
      rfl
  rw [hfe] at har
  have hW : HW γ (fun x => gB γ ≤ x) (dmW γ a7 qd ar 16 ++ (([y0, y1, y2, y3, y4, y5, y6, y7, y8, y9, y10, y11, y12, y13, y14, y15].map fun y => (y, slE)) ++ ([(ar, .inl (gcO γ, cap, .inr (.inr (.inr (.inr fun j : Nat => (((gl σ0 5)[j]?).map (Ad (γ0 γ a7 qd [y0, y1, y2, y3, y4, y5, y6, y7, y8, y9, y10, y11, y12, y13, y14, y15] a8 qm o) ad0 (ek 5))))))))] ++ (mmW γ a8 qm (ngI 24) (ngI 24) (ngI 16) ++ [(o, .inl (gcJ γ, 1, .inr (.inl fun _ => 0)))])))) H := by
    have w1 := HW.join (A := fun x => t ≤ x) h3 (HW.one (A := fun x => t ≤ x) h4 hto) (fun _ h => h) (fun _ h => h) (fun i j p q hp hq => by
      have hz : j < 1 := (List.getElem?_eq_some_iff.mp hq).1
      have : j = 0 := by omega
      subst this
      cases hq
      exact Nat.ne_of_lt (hm i p hp))
    have w2 := HW.join (A := fun x => x = ar ∨ t ≤ x) (HW.one (A := fun x => x = ar) har rfl) w1 (fun _ h => Or.inl h) (fun _ h => Or.inr h) (fun i j p q hp hq => by
      have hz : i < 1 := (List.getElem?_eq_some_iff.mp hp).1
      have : i = 0 := by omega
      subst this
      cases hp
      exact Nat.ne_of_lt (Nat.lt_of_lt_of_le hat (w1.in j hq)))
    have w3 := HW.join (A := fun x => z ≤ x) hsw w2 (fun _ h => h.1) (fun q h => h.elim (fun e => by subst e; exact hza hcp) (fun h => Nat.le_trans hzt h)) (fun i j p q hp hq => by
      have hp2 := hsw.in i hp
      rcases w2.in j hq with e | e
      · rw [e]
        exact hp2.2
      · rw [List.getElem?_map] at hp
        obtain ⟨y, hy, rfl⟩ := Option.map_eq_some_iff.mp hp
        exact Nat.ne_of_lt (Nat.lt_of_lt_of_le (hLt y (List.mem_of_getElem? hy)) e))
    exact HW.join h1 w3 (fun _ h => h) (fun _ h => Nat.le_trans hB h) (fun i j p q hp hq => Nat.ne_of_lt (Nat.lt_of_lt_of_le (hz i p hp) (w3.in j hq)))
  have hW2 : HW γ (fun x => gB γ ≤ x) (KEYS.map fun k => (AD (γ0 γ a7 qd [y0, y1, y2, y3, y4, y5, y6, y7, y8, y9, y10, y11, y12, y13, y14, y15] a8 qm o) ad0 (la0 γ ar cap) k.1 k.2, CE (γ0 γ a7 qd [y0, y1, y2, y3, y4, y5, y6, y7, y8, y9, y10, y11, y12, y13, y14, y15] a8 qm o) ad0 (la0 γ ar cap) σ0 k.1 k.2)) H := hW
  have hk : ∀ c i, EX σ0 (la0 γ ar cap) c i → ∃ n, KEYS[n]? = some (c, i) := fun c i h => List.getElem?_of_mem (key_ex h)
  have hw : ∀ (n c i : Nat), KEYS[n]? = some (c, i) → (KEYS.map fun k => (AD (γ0 γ a7 qd [y0, y1, y2, y3, y4, y5, y6, y7, y8, y9, y10, y11, y12, y13, y14, y15] a8 qm o) ad0 (la0 γ ar cap) k.1 k.2, CE (γ0 γ a7 qd [y0, y1, y2, y3, y4, y5, y6, y7, y8, y9, y10, y11, y12, y13, y14, y15] a8 qm o) ad0 (la0 γ ar cap) σ0 k.1 k.2))[n]? = some (AD (γ0 γ a7 qd [y0, y1, y2, y3, y4, y5, y6, y7, y8, y9, y10, y11, y12, y13, y14, y15] a8 qm o) ad0 (la0 γ ar cap) c i, CE (γ0 γ a7 qd [y0, y1, y2, y3, y4, y5, y6, y7, y8, y9, y10, y11, y12, y13, y14, y15] a8 qm o) ad0 (la0 γ ar cap) σ0 c i) := by
    intro n c i h
    rw [List.getElem?_map, h]
    rfl
  refine ⟨la0 γ ar cap, fun c i h => ?_, fun c i c' i' ha hb e => ?_, fun k hk => ?_⟩
  · obtain ⟨n, hn⟩ := hk c i h
    exact ⟨hW2.at n (hw n c i hn), hW2.in n (hw n c i hn)⟩
  · obtain ⟨n, hn⟩ := hk c i ha
    obtain ⟨n', hn'⟩ := hk c' i' hb
    have e2 := hW2.2.1 n n' _ _ (hw n c i hn) (hw n' c' i' hn') e
    subst e2
    have e3 := hn.symm.trans hn'
    cases e3
    exact ⟨rfl, rfl⟩
  · by_cases h5 : k = 5
    · subst h5
      exact ⟨hcap, hc1, fun h => by have h9 : cap = 0 := h; omega⟩
    · unfold la0
      rw [if_neg h5]
      refine ⟨?_, Nat.zero_le _, fun _ => rfl⟩
      show (if k = 5 then List.range 16 else []).length ≤ 0
      rw [if_neg h5]
      exact Nat.le_refl 0
