/-! ===== new objects ===== -/
noncomputable def ckP {β : Type} (P : Prop) (k : Option β) : Option β := @ite _ P (Classical.propDecidable P) k none
theorem ckP_some {β : Type} {P : Prop} {k : Option β} {z : β} (h : ckP P k = some z) : P ∧ k = some z := by
  unfold ckP at h
  by_cases hp : P
  · rw [if_pos hp] at h
    exact ⟨hp, h⟩
  · rw [if_neg hp] at h
    cases h
/-- what is kept in a field or a list is there -/
def inR (σ : St) : Prop := (∀ f i, 10 ≤ tg f → i < cn σ (f / 100) → okr (cn σ (tg f - 10)) (gp σ f i) = true) ∧ ∀ k, k < 6 → ∀ x ∈ gl σ k, x < cn σ (ek k)
/-- what a field holds in a new object -/
def dv (f : Nat) : Value := match tg f with
  | 0 => .int 0
  | 1 => .int 0
  | _ => .null
theorem cn_zw {σ : St} {k : Nat} (hk : dy k = true) (c : Nat) : cn (zw σ k) c = if c = k then gn σ k + 1 else cn σ c := by
  by_cases h : c = k
  · subst h
    rw [if_pos rfl]
    unfold cn
    rw [hk]
    show gn (zw σ c) c = _
    simp [gn, zw, u1]
  · rw [if_neg h]
    unfold cn
    split
    · show gn (zw σ k) c = _
      simp [gn, zw, u1, h]
    · rfl
theorem cn_dy {σ : St} {k : Nat} (hk : dy k = true) : cn σ k = gn σ k := by unfold cn; rw [hk]
theorem dy_lt {k : Nat} (hk : dy k = true) : 0 < k ∧ k < 9 ∧ k ≠ 4 ∧ k ≠ 7 ∧ k ≠ 8 ∧ k ≠ 6 := by
  unfold dy at hk
  by_cases h : k < 6
  · revert hk
    have := (by decide +kernel : ∀ k, k < 6 → [false, true, true, true, false, true].getD k false = true → 0 < k ∧ k < 9 ∧ k ≠ 4 ∧ k ≠ 7 ∧ k ≠ 8 ∧ k ≠ 6) k h
    exact this
  · rw [List.getD_eq_getElem?_getD, List.getElem?_eq_none (by simp; omega)] at hk
    cases hk
theorem Ad_new {γ : GT} {ad : Nat → Nat → Nat} {σ : St} {k q : Nat} {c i : Nat} (h : i < cn σ c) : Ad γ (u2 ad k (gn σ k) q) c i = Ad γ ad c i := by
  unfold Ad
  unfold cn at h
  split
  · next hd =>
    rw [hd] at h
    have h' : i < gn σ c := h
    unfold u2
    rw [if_neg]
    rintro ⟨rfl, rfl⟩
    omega
  · rfl
theorem Ad_map {γ : GT} {ad : Nat → Nat → Nat} {σ : St} {k q : Nat} {c : Nat} {o : Option Nat} (h : okr (cn σ c) o = true) : o.map (Ad γ (u2 ad k (gn σ k) q) c) = o.map (Ad γ ad c) := by
  cases o with
  | none => rfl
  | some i => exact congrArg some (Ad_new (of_decide_eq_true h))
theorem fv_new {γ : GT} {ad : Nat → Nat → Nat} {σ : St} {k q f i : Nat} (hI : inR σ) (hi : i < cn σ (f / 100)) (hk : dy k = true) : fv γ (u2 ad k (gn σ k) q) (zw σ k) f i = fv γ ad σ f i := by
  have hne : ¬ (f / 100 = k ∧ i = gn σ k) := by
    rintro ⟨h1, h2⟩
    rw [h1, cn_dy hk] at hi
    omega
  unfold fv
  split
  · simp only [gi, zw]; rw [if_neg hne]
  · simp only [gb, zw]; rw [if_neg hne]
  · rfl
  · rfl
  · rfl
  · next t h0 h1 h2 h3 h4 =>
    have e : gp (zw σ k) f i = gp σ f i := by simp only [gp, zw]; rw [if_neg hne]
    rw [e]
    by_cases ht : 10 ≤ tg f
    · rw [Ad_map (hI.1 f i ht hi)]
    · have hall : ∀ a, a < 9 → ∀ b, b < 48 → ¬ 10 ≤ (tgL.getD a []).getD b 0 → (tgL.getD a []).getD b 0 ≤ 4 := by decide +kernel
      exfalso
      have h5 : tg f ≤ 4 := by
        by_cases ha : f / 100 < 9
        · by_cases hb : f % 100 < 48
          · exact hall _ ha _ hb ht
          · unfold tg
            rw [List.getD_eq_getElem?_getD, List.getElem?_eq_none (by have := nf_le (f / 100); unfold nf at this; omega)]
            exact Nat.zero_le _
        · unfold tg
          rw [List.getD_eq_getElem?_getD (l := tgL), List.getElem?_eq_none (l := tgL) (by simp [tgL]; omega)]
          exact Nat.zero_le _
      rcases (show tg f = 0 ∨ tg f = 1 ∨ tg f = 2 ∨ tg f = 3 ∨ tg f = 4 by omega) with z | z | z | z | z
      · exact h0 z
      · exact h1 z
      · exact h2 z
      · exact h3 z
      · exact h4 z
section RN
variable {p : Program} {l : Launch} {e : Env} {R : Room} {s : State} {m : MethodId} {args : Array Value} {below : List Frame} {meth : Method} {c : Code} {H : Heap} {locs : List Loc} {cells slots : Nat} {Q : State → Prop}
variable {pc : Nat} {ls : Array Slot} {rest : List Value} {cc : ByteArray} {γ : GT} {ad : Nat → Nat → Nat} {σ σ' : St} {nL : Nat} {own : String}
theorem rep_new {la : Nat → Nat × Nat} {H1 : Heap} {k : Nat} (h : Rep1 γ ad la σ H) (hI : inR σ) (hk : dy k = true) (hB : gB γ ≤ H.size) (ho : ∀ q : Nat, q < H.size → H1[q]? = H[q]?)
    (hat : va_at (gD γ) vwCl (H.size, .inr (k, oj γ (u2 ad k (gn σ k) H.size) (zw σ k) k (gn σ k))) H1) : Rep1 γ (u2 ad k (gn σ k) H.size) la (zw σ k) H1 := by
  obtain ⟨h1, h2, h3⟩ := h
  obtain ⟨k0, k9, k4, k7, k8, k6⟩ := dy_lt hk
  have hlt : ∀ c i, EX σ la c i → AD γ ad la c i < H.size := fun c i hc => (h1 c i hc).1.lt
  have ex : ∀ c i, EX (zw σ k) la c i → EX σ la c i ∨ (c = k ∧ i = gn σ k) := by
    intro c i hc
    unfold EX at hc ⊢
    by_cases c0 : c = 0
    · rw [if_pos c0] at hc ⊢; exact Or.inl hc
    rw [if_neg c0] at hc ⊢
    by_cases c9 : c = 9
    · rw [if_pos c9] at hc ⊢; exact Or.inl hc
    rw [if_neg c9] at hc ⊢
    by_cases cl : c < 9
    · rw [if_pos cl] at hc ⊢
      rw [cn_zw hk] at hc
      by_cases ck' : c = k
      · rw [if_pos ck'] at hc
        subst ck'
        rw [cn_dy hk]
        omega
      · rw [if_neg ck'] at hc
        exact Or.inl hc
    rw [if_neg cl] at hc ⊢
    exact Or.inl hc
  have eAD : ∀ c i, EX σ la c i → AD γ (u2 ad k (gn σ k) H.size) la c i = AD γ ad la c i := by
    intro c i hc
    unfold AD
    by_cases c9 : c = 9
    · rw [if_pos c9, if_pos c9]
    rw [if_neg c9, if_neg c9]
    by_cases cl : c < 9 ∧ c ≠ 0
    · unfold EX at hc
      rw [if_neg cl.2, if_neg c9, if_pos cl.1] at hc
      exact Ad_new hc
    · have hd : dy c = false := by
        cases hd : dy c with
        | false => rfl
        | true =>
          have := dy_lt hd
          exfalso
          omega
      unfold Ad
      rw [hd]
  have eN : AD γ (u2 ad k (gn σ k) H.size) la k (gn σ k) = H.size := by
    unfold AD Ad
    rw [if_neg (by omega), hk]
    show u2 ad k (gn σ k) H.size k (gn σ k) = _
    unfold u2
    rw [if_pos ⟨rfl, rfl⟩]
  have eCE : ∀ c i, EX σ la c i → CE γ (u2 ad k (gn σ k) H.size) la (zw σ k) c i = CE γ ad la σ c i := by
    intro c i hc
    unfold CE
    unfold EX at hc
    by_cases c0 : c = 0
    · rw [if_pos c0, if_pos c0]
      have e0 : gi (zw σ k) 0 i = gi σ 0 i := by
        simp only [gi, zw]
        rw [if_neg (by omega)]
      rw [e0]
      rfl
    rw [if_neg c0] at hc ⊢
    rw [if_neg c0]
    by_cases c9 : c = 9
    · rw [if_pos c9] at hc ⊢
      rw [if_pos c9]
      refine congrArg (fun g => (Sum.inl (gcO γ, (la i).2, .inr (.inr (.inr (.inr g)))) : va_E)) (funext fun j => ?_)
      show ((gl σ i)[j]?).map _ = _
      cases hj : (gl σ i)[j]? with
      | none => rfl
      | some x => exact congrArg some (Ad_new (hI.2 i hc.1 x (List.mem_of_getElem? hj)))
    rw [if_neg c9] at hc ⊢
    rw [if_neg c9]
    by_cases cl : c < 9
    · rw [if_pos cl] at hc ⊢
      rw [if_pos cl]
      refine congrArg (fun x => (Sum.inr (c, x) : va_E)) ?_
      unfold oj
      refine List.map_congr_left fun k' hk' => fv_new hI ?_ hk
      have := List.mem_range.mp hk'
      have := nf_le c
      rw [show (100 * c + k') / 100 = c by omega]
      exact hc
    rw [if_neg cl] at hc ⊢
    rw [if_neg cl]
    by_cases c3 : c = 3000
    · rw [if_pos c3, if_pos c3]
      rfl
    rw [if_neg c3] at hc ⊢
    rw [if_neg c3]
    have hf := al_tg hc.2.2
    have hne : (c - 1000) / 100 ≠ k := by
      intro hz
      have hall : ∀ a, a < 9 → dy a = true → ∀ b, b < 48 → (tgL.getD a []).getD b 0 ≠ 2 := by decide +kernel
      unfold tg at hf
      by_cases hb : (c - 1000) % 100 < 48
      · rw [hz] at hf
        exact hall k k9 hk _ hb hf
      · rw [List.getD_eq_getElem?_getD, List.getElem?_eq_none (by have := nf_le ((c - 1000) / 100); unfold nf at this; omega)] at hf
        exact absurd hf (by decide)
    unfold arE
    split
    · refine congrArg (fun g => (Sum.inl (gcZ γ, al (c - 1000), .inl g) : va_E)) (funext fun j => ?_)
      simp only [gb, zw]
      rw [if_neg (fun z => hne z.1)]
    · refine congrArg (fun g => (Sum.inl (gcI γ, al (c - 1000), .inl g) : va_E)) (funext fun j => ?_)
      simp only [gi, zw]
      rw [if_neg (fun z => hne z.1)]
  refine ⟨fun c i hc => ?_, fun c i c' i' a b hab => ?_, h3⟩
  · rcases ex c i hc with h | ⟨rfl, rfl⟩
    · rw [eAD c i h, eCE c i h]
      exact ⟨(h1 c i h).1.kept (ho _ (hlt c i h)), (h1 c i h).2⟩
    · rw [eN]
      refine ⟨?_, hB⟩
      have e1 : CE γ (u2 ad c (gn σ c) H.size) la (zw σ c) c (gn σ c) = .inr (c, oj γ (u2 ad c (gn σ c) H.size) (zw σ c) c (gn σ c)) := by
        unfold CE
        rw [if_neg (by omega), if_neg (by omega), if_pos k9]
      rw [e1]
      exact hat
  · rcases ex c i a with h | ⟨rfl, rfl⟩ <;> rcases ex c' i' b with h' | ⟨rfl, rfl⟩
    · rw [eAD c i h, eAD c' i' h'] at hab
      exact h2 c i c' i' h h' hab
    · rw [eAD c i h, eN] at hab
      have := hlt c i h
      omega
    · rw [eN, eAD c' i' h'] at hab
      have := hlt c' i' h'
      omega
    · exact ⟨rfl, rfl⟩
theorem rw_new (hX : CX γ p s m args c cc nL own) (hR : RS γ ad σ s H locs) (k : Nat) {index : Nat} {C : String} {T : u_T} {N : Nat} (ty : Nat → FieldType) (hI : inR σ) (hk : dy k = true) (hc : vwCl[k]? = some (C, T, N)) (hN : nf k = N) (hin : ∀ w ∈ u_ws C T N, w ∈ GW) (hty : ∀ k, k < N → parseFieldDescriptor (T k).2.2.1 = some (ty k)) (hdv : ∀ j, j < N → defaultValue (ty j) = dv (100 * k + j))
    (hcl : Cond.classLink own index C ∈ GW) (hins : Cond.instantiable C N ∈ GW) (hini : Cond.initialized C ∈ GW) (hcells : cells + 1 ≤ R.cells ∧ slots + N ≤ R.slots) (hd : decode cc pc = .ok (.new index, 3))
    (kk : ∀ (ad1 : Nat → Nat → Nat) (H1 : Heap), RS γ ad1 (zw σ k) s H1 locs → (∀ c i, i < cn σ c → Ad γ ad1 c i = Ad γ ad c i) → W p l e R s m args below meth c H1 locs (cells + 1) (slots + N) Q (F0 m (pc + 3) ls (.ref (Ad γ ad1 k (gn σ k)) :: rest))) : W p l e R s m args below meth c H locs cells slots Q (F0 m pc ls rest) := by
  obtain ⟨⟨hx, hb, hml, hown, hts⟩, hK, hE⟩ := hX
  obtain ⟨⟨la, h1⟩, hS⟩ := hR
  have hKn := hK.1 k _ hc
  obtain ⟨k0, k9, -⟩ := dy_lt hk
  refine W.newcK hx hb hown (hts _ hcl) (hts _ hins) (hts _ hini) rfl hd hcells.1 hcells.2 hKn.2.1 rfl fun H1 kC hkC e1 z1 o1 => ?_
  have eN : Ad γ (u2 ad k (gn σ k) H.size) k (gn σ k) = H.size := by
    unfold Ad
    rw [hk]
    show u2 ad k (gn σ k) H.size k (gn σ k) = _
    unfold u2
    rw [if_pos ⟨rfl, rfl⟩]
  have hB : gB γ ≤ H.size := Nat.le_trans hE.2.2.2.2.2.2.2.2.2 hS.1
  have hrep : Rep1 γ (u2 ad k (gn σ k) H.size) la (zw σ k) H1 := by
    refine rep_new h1 hI hk hB o1 ⟨_, hc, (u_born ty hts hin hKn hkC e1 hty).to fun j hj => ?_⟩
    have hj' : j < nf k := by rw [hN]; exact hj
    show defaultValue (ty j) = vp_V (oj γ (u2 ad k (gn σ k) H.size) (zw σ k) k (gn σ k)) j
    unfold vp_V
    rw [List.getD_eq_getElem?_getD, oj_get hj', hdv j hj]
    have hj48 := nf_le k
    have e100 : (100 * k + j) / 100 = k := by omega
    have key : ∀ a, a < 9 → dy a = true → ∀ b, b < 48 → b < nf a → tg (100 * a + b) = 0 ∨ tg (100 * a + b) = 1 ∨ 10 ≤ tg (100 * a + b) := by decide +kernel
    rcases key k k9 hk j (by omega) hj' with ht | ht | ht
    · unfold dv fv
      rw [ht]
      simp [gi, zw, e100]
    · unfold dv fv
      rw [ht]
      simp [gb, zw, e100, b2i]
    · have hdvn : dv (100 * k + j) = .null := by
        unfold dv
        split
        · omega
        · omega
        · rfl
      rw [hdvn]
      unfold fv
      split
      · omega
      · omega
      · omega
      · omega
      · omega
      · simp [gp, zw, e100, va_rf]
  have h2 : va_S (gA γ) s.heap H1 locs := ⟨Nat.le_trans hS.1 (by omega), fun x a b => (o1 x (Nat.lt_of_lt_of_le a hS.1)).trans (hS.2.1 x a b), hS.2.2⟩
  have h3 := kk (u2 ad k (gn σ k) H.size) H1 ⟨⟨la, hrep⟩, h2⟩ (fun c i hi => Ad_new hi)
  rw [eN] at h3
  exact h3
theorem agr {ad1 : Nat → Nat → Nat} (hag : ∀ c i, i < cn σ c → Ad γ ad1 c i = Ad γ ad c i) {c : Nat} {o : Option Nat} (h : okr (cn σ c) o = true) : o.map (Ad γ ad c) = o.map (Ad γ ad1 c) := by
  cases o with
  | none => rfl
  | some i => exact congrArg some (hag c i (of_decide_eq_true h)).symm
end RN
