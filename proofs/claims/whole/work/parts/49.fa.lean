/-! ===== the methods of the face: what holds between calls, what is looked at first ===== -/
def CL (c : St) : Prop := ∀ d, d < gn c 2 → gb c 217 d = false
def DN (c : St) : Prop := ∀ q, q < gn c 3 → gi c 300 q = nI q
def BH (c : St) : Prop := ∀ d, d < gn c 2 → gb c 209 d = true → bd c d = false
def INVF (e t : Nat) (c m : St) : Prop := INV e t c m ∧ FSX c m ∧ SET c ∧ CL c ∧ DN c ∧ BH c ∧ HB c
theorem BH.fr {F : List Nat} {c c' : St} (h : BH c) (hf : FR F c c') (hd : ∀ x ∈ [209, 210, 2002], x ∉ F) : BH c' := fun d hd0 => by
  rw [hf.n (k := 2) (hd 2002 (by decide))] at hd0
  rw [hf.b (hd 209 (by decide)), bd_fr hf (hd 210 (by decide))]
  exact h d hd0
theorem CL.fr {F : List Nat} {c c' : St} (h : CL c) (hf : FR F c c') (hd : ∀ x ∈ [217, 2002], x ∉ F) : CL c' := fun d hd0 => by
  rw [hf.n (k := 2) (hd 2002 (by decide))] at hd0
  rw [hf.b (hd 217 (by decide))]
  exact h d hd0
theorem DN.fr {F : List Nat} {c c' : St} (h : DN c) (hf : FR F c c') (hd : ∀ x ∈ [300, 2003], x ∉ F) : DN c' := fun d hd0 => by
  rw [hf.n (k := 3) (hd 2003 (by decide))] at hd0
  rw [hf.i (hd 300 (by decide))]
  exact h d hd0
theorem SET.fr {F : List Nat} {c c' : St} (h : SET c) (hf : FR F c c') (hd : ∀ x ∈ [201, 202, 203, 204, 205, 206, 207, 208, 209, 210, 211, 301, 302, 303, 305, 709, 2002, 2003], x ∉ F) : SET c' := fun z => by
  rw [hf.b (hd 709 (by decide))] at z
  exact (h z).fr hf (fun x hx => hd x (by revert x; decide)) (hd 208 (by decide))
theorem INVF.m {e t : Nat} {v : Int32} {c m : St} (h : INVF e t c m) : INVF e t c (zi m 800 0 v) :=
  ⟨h.1.fr (F := []) (G := [800]) FR.rf (FR.rf.zi (by decide)) (by simp) (by decide), h.2.1.fr (F := []) (G := [800]) FR.rf (FR.rf.zi (by decide)) (by simp) (by decide), h.2.2⟩
def hkk (w : Nat → Int32) {α : Type} (r : Except Nat α) : Int32 := match r with
  | .ok _ => 0
  | .error e => w e
def OKF {α : Type} (w : Nat → Int32) (E : Nat → Prop) (e t : Nat) (c m : St) (A : Option (Except Nat α × St)) (B : Option (α × St)) : Prop := ∃ r c' r2 m' e' t', A = some (r, c') ∧ B = some (r2, m') ∧ (∀ x, r = .error x → E x) ∧ FR CF c c' ∧ FR MF m m' ∧ INVF e' t' c' m' ∧ e ≤ e' ∧ e' ≤ e + 1500 ∧ t ≤ t' ∧ t' ≤ t + 50 ∧ gi m' 800 0 = hkk w r ∧ ∀ v, r = .ok v → r2 = v
def OKQ {α : Type} (w : Nat → Int32) (E : Nat → Prop) (e t : Nat) (c m : St) (A : Option (Except Nat α)) (B : Option (α × St)) : Prop := ∃ r r2 m', A = some r ∧ B = some (r2, m') ∧ (∀ x, r = .error x → E x) ∧ FR MF m m' ∧ INVF e t c m' ∧ gi m' 800 0 = hkk w r ∧ ∀ v, r = .ok v → r2 = v
theorem g800 {m : St} {v : Int32} : gi (zi m 800 0 v) 800 0 = v := by simp [gi_zi]
theorem frt8 {m : St} {v : Int32} : FR [800] m (zi m 800 0 v) := FR.rf.zi (by decide)
theorem OKF.er {α : Type} {w : Nat → Int32} {E : Nat → Prop} {e t x : Nat} {c m : St} {A : Option (Except Nat α × St)} {B : Option (α × St)} {z : α} (h : INVF e t c m) (hA : A = some (.error x, c)) (hB : B = some (z, zi m 800 0 (w x))) (hE : E x) : OKF w E e t c m A B :=
  ⟨.error x, c, z, _, e, t, hA, hB, fun y hy => by cases hy; exact hE, FR.rf, frt8.mono (by decide), h.m, Nat.le_refl _, by omega, Nat.le_refl _, by omega, g800, fun v hv => by cases hv⟩
theorem OKQ.er {α : Type} {w : Nat → Int32} {E : Nat → Prop} {e t x : Nat} {c m : St} {A : Option (Except Nat α)} {B : Option (α × St)} {z : α} (h : INVF e t c m) (hA : A = some (.error x)) (hB : B = some (z, zi m 800 0 (w x))) (hE : E x) : OKQ w E e t c m A B :=
  ⟨.error x, z, _, hA, hB, fun y hy => by cases hy; exact hE, frt8.mono (by decide), h.m, g800, fun v hv => by cases hv⟩
theorem OKQ.kk {α : Type} {w : Nat → Int32} {E : Nat → Prop} {e t : Nat} {c m : St} {A : Option (Except Nat α)} {B : Option (α × St)} {z : α} (h : INVF e t c m) (hA : A = some (.ok z)) (hB : B = some (z, zi m 800 0 0)) : OKQ w E e t c m A B :=
  ⟨.ok z, z, _, hA, hB, fun y hy => (by cases hy), frt8.mono (by decide), h.m, g800, fun v hv => by cases hv; rfl⟩
/-! numbers looked at -/
theorem nonneg_nI {a : Int32} (h : ¬ a < 0) : ∃ k, k < 2 ^ 31 ∧ a = nI k := by
  have h1 : ¬ a.toInt < 0 := fun z => h (Int32.lt_iff_toInt_lt.mpr z)
  have h2 : a.toInt < 2 ^ 31 := a.toInt_lt
  refine ⟨a.toInt.toNat, by omega, ?_⟩
  rw [← Int32.toInt_inj, nI_toInt (by omega)]
  omega
theorem rng {n : Nat} (hn : n < 2 ^ 31) (a : Int32) : (∃ k, k < n ∧ a = nI k) ∨ (a < 0 ∨ ¬ a < nI n) := by
  by_cases h : a < 0
  · exact Or.inr (Or.inl h)
  · obtain ⟨k, hk, rfl⟩ := nonneg_nI h
    by_cases hkn : k < n
    · exact Or.inl ⟨k, hkn, rfl⟩
    · exact Or.inr (Or.inr (by rw [nI_ltN hk hn]; exact hkn))
theorem in_t {fu k n : Nat} {m : St} (hk : k < n) (hn : n < 2 ^ 31) : f8_in fu (nI k) 0 (nI n - 1) m = some true := by
  obtain ⟨j, rfl⟩ : ∃ j, n = j + 1 := ⟨n - 1, by omega⟩
  unfold f8_in
  rw [if_neg (nI_nlt0 (by omega)), if_neg]
  have := dn_s j
  unfold dn at this
  rw [this, nI_ltN (by omega) (by omega)]
  omega
theorem in_f {fu n : Nat} {a : Int32} {m : St} (hn : n < 2 ^ 31) (ha : a < 0 ∨ ¬ a < nI n) : f8_in fu a 0 (nI n - 1) m = some false := by
  unfold f8_in
  by_cases h : a < 0
  · rw [if_pos h]
  · rw [if_neg h, if_pos]
    obtain ⟨k, hk, rfl⟩ := nonneg_nI h
    have h2 := ha.resolve_left h
    rw [nI_ltN hk hn] at h2
    rw [Int32.lt_iff_toInt_lt, nI_toInt hk]
    cases n with
    | zero =>
      have : (nI 0 - 1 : Int32).toInt = -1 := by decide
      omega
    | succ j =>
      have := dn_s j
      unfold dn at this
      rw [this, nI_toInt (by omega)]
      omega
def inV (a lo hi : Int32) : Bool := if a < lo then false else if hi < a then false else true
theorem in_8 {fu : Nat} {a lo hi : Int32} {m : St} : f8_in fu a lo hi m = some (inV a lo hi) := by
  unfold f8_in inV
  by_cases h1 : a < lo
  · rw [if_pos h1, if_pos h1]
  · rw [if_neg h1, if_neg h1]
    by_cases h2 : hi < a
    · rw [if_pos h2, if_pos h2]
    · rw [if_neg h2, if_neg h2]
theorem in_7 {fu : Nat} {a lo hi : Int32} {c : St} : f7_isWithin fu a lo hi c = some (inV a lo hi) := by
  unfold f7_isWithin inV
  by_cases h1 : a < lo
  · rw [if_pos h1, if_pos h1]
  · rw [if_neg h1, if_neg h1]
    by_cases h2 : hi < a
    · rw [if_pos h2, if_pos h2]
    · rw [if_neg h2, if_neg h2]
theorem inV_t {a : Int32} {lo hi : Nat} (hl : lo < 2 ^ 31) (hh : hi < 2 ^ 31) (h : inV a (nI lo) (nI hi) = true) : ∃ k, lo ≤ k ∧ k ≤ hi ∧ a = nI k := by
  unfold inV at h
  by_cases h1 : a < nI lo
  · rw [if_pos h1] at h; cases h
  · rw [if_neg h1] at h
    by_cases h2 : nI hi < a
    · rw [if_pos h2] at h; cases h
    · have h0 : ¬ a < 0 := fun z => h1 (by
        rw [Int32.lt_iff_toInt_lt] at z ⊢
        rw [nI_toInt hl]
        have : (0 : Int32).toInt = 0 := rfl
        omega)
      obtain ⟨k, hk, rfl⟩ := nonneg_nI h0
      rw [nI_ltN hk hl] at h1
      rw [nI_ltN hh hk] at h2
      exact ⟨k, by omega, by omega, rfl⟩
theorem kn_7 {fu d : Nat} {c : St} (hS : CS c) (hd : d < gn c 2) : f7_known fu (nI d) c = some (.ok (some d)) := by
  have h24 := hS.2.1
  unfold f7_known
  rw [if_neg (nI_nlt0 (by omega)), hS.1, List.length_range, if_pos (by rw [nI_ltN (by omega) (by omega)]; exact hd), lg_r (σ := c) (k := 0) _ hS.1 hd (by omega) (show gn c 2 ≤ gn c 2 from Nat.le_refl _)]
theorem kn_7e {fu : Nat} {a : Int32} {c : St} (hS : CS c) (ha : a < 0 ∨ ¬ a < nI (gn c 2)) : f7_known fu a c = some (.error 1) := by
  unfold f7_known
  rw [hS.1, List.length_range]
  by_cases h : a < 0
  · rw [if_pos h]
  · rw [if_neg h, if_neg (ha.resolve_left h)]
theorem dv_8 {fu d : Nat} {c m : St} (hS : CS c) (hQ : RQ c m) (hd : d < gn c 2) : f8_isDevice fu (nI d) m = some true := by
  unfold f8_isDevice
  rw [hQ.1, in_t hd (by have := hS.2.1; omega), ob1_k rfl]
theorem dv_8e {fu : Nat} {a : Int32} {c m : St} (hS : CS c) (hQ : RQ c m) (ha : a < 0 ∨ ¬ a < nI (gn c 2)) : f8_isDevice fu a m = some false := by
  unfold f8_isDevice
  rw [hQ.1, in_f (by have := hS.2.1; omega) ha, ob1_k rfl]
theorem kh_7 {fu h : Nat} {c : St} (hS : CS c) (hd : h < gn c 5) : f7_knownHandle fu (nI h) c = some (.ok (some h)) := by
  obtain ⟨-, -, -, -, l3, n40, -⟩ := hS
  unfold f7_knownHandle
  rw [if_neg (nI_nlt0 (by omega)), l3, List.length_range, if_pos (by rw [nI_ltN (by omega) (by omega)]; exact hd), lg_r (σ := c) (k := 3) _ l3 hd (by omega) (show gn c 5 ≤ gn c 5 from Nat.le_refl _)]
theorem kh_7e {fu : Nat} {a : Int32} {c : St} (hS : CS c) (ha : a < 0 ∨ ¬ a < nI (gn c 5)) : f7_knownHandle fu a c = some (.error 1) := by
  obtain ⟨-, -, -, -, l3, n40, -⟩ := hS
  unfold f7_knownHandle
  rw [l3, List.length_range]
  by_cases h : a < 0
  · rw [if_pos h]
  · rw [if_neg h, if_neg (ha.resolve_left h)]
theorem hh_8 {fu h e : Nat} {c m : St} (hS : CS c) (hR : RHd e c m) (hd : h < gn c 5) : f8_isHandle fu (nI h) m = some true := by
  unfold f8_isHandle
  rw [hR.1, in_t hd (by have := hS.2.2.2.2.2.1; omega), ob1_k rfl]
theorem hh_8e {fu e : Nat} {a : Int32} {c m : St} (hS : CS c) (hR : RHd e c m) (ha : a < 0 ∨ ¬ a < nI (gn c 5)) : f8_isHandle fu a m = some false := by
  unfold f8_isHandle
  rw [hR.1, in_f (by have := hS.2.2.2.2.2.1; omega) ha, ob1_k rfl]
theorem ks_7 {fu s : Nat} {c : St} (hS : CS c) (hd : s < 16) : f7_knownSlot fu (nI s) c = some (.ok (some s)) := by
  obtain ⟨-, -, -, -, -, -, -, -, l5⟩ := hS
  unfold f7_knownSlot
  rw [if_neg (nI_nlt0 (by omega)), l5, List.length_range, if_pos (by rw [nI_ltN (by omega) (by omega)]; exact hd), lg_r (σ := c) (k := 5) _ l5 hd (by omega) (show 16 ≤ 16 from Nat.le_refl _)]
theorem ks_7e {fu : Nat} {a : Int32} {c : St} (hS : CS c) (ha : a < 0 ∨ ¬ a < nI 16) : f7_knownSlot fu a c = some (.error 1) := by
  obtain ⟨-, -, -, -, -, -, -, -, l5⟩ := hS
  unfold f7_knownSlot
  rw [l5, List.length_range]
  by_cases h : a < 0
  · rw [if_pos h]
  · rw [if_neg h, if_neg (ha.resolve_left h)]
theorem sl_8 {fu s : Nat} {m : St} (hd : s < 16) : f8_in fu (nI s) 0 15 m = some true := in_t (n := 16) hd (by omega)
theorem sl_8e {fu : Nat} {a : Int32} {m : St} (ha : a < 0 ∨ ¬ a < nI 16) : f8_in fu a 0 15 m = some false := in_f (n := 16) (by omega) ha
theorem ln_8 {fu s : Nat} {m : St} (hd : s < 8) : f8_in fu (nI s) 0 7 m = some true := in_t (n := 8) hd (by omega)
theorem ln_8e {fu : Nat} {a : Int32} {m : St} (ha : a < 0 ∨ ¬ a < nI 8) : f8_in fu a 0 7 m = some false := in_f (n := 8) (by omega) ha
theorem cl_7 {fu s : Nat} {c : St} (hd : s < 8) : f7_checkLine fu (nI s) c = some (.ok ()) := by
  unfold f7_checkLine
  rw [if_neg (nI_nlt0 (by omega)), if_pos (by rw [show (8 : Int32) = nI 8 from rfl, nI_ltN (by omega) (by omega)]; exact hd)]
theorem cl_7e {fu : Nat} {a : Int32} {c : St} (ha : a < 0 ∨ ¬ a < nI 8) : f7_checkLine fu a c = some (.error 1) := by
  unfold f7_checkLine
  by_cases h : a < 0
  · rw [if_pos h]
  · rw [if_neg h, if_neg (show ¬ a < 8 from ha.resolve_left h)]
theorem xb1_o {α β : Type} {o : Option (Except Nat α)} {a : α} {fe : Nat → Option β} {f : α → Option β} (h : o = some (.ok a)) : xb1 o fe f = f a := by rw [h]; rfl
theorem xb1_e {α β : Type} {o : Option (Except Nat α)} {x : Nat} {fe : Nat → Option β} {f : α → Option β} (h : o = some (.error x)) : xb1 o fe f = fe x := by rw [h]; rfl
theorem xb2_o {α β : Type} {o : Option (Except Nat α × St)} {a : α} {s : St} {fe : Nat → St → Option β} {f : α → St → Option β} (h : o = some (.ok a, s)) : xb2 o fe f = f a s := by rw [h]; rfl
/-! what is asked of a device -/
def w1 : Nat → Int32 := fun e => if e = 1 then 1 else 0
theorem b2i_f : b2i false = 0 := rfl
theorem b2i_t : b2i true = 1 := rfl
theorem bif_id {b : Bool} : (if b = true then true else false) = b := by cases b <;> rfl
theorem F_isThere {fu e t : Nat} {c m : St} (a : Int32) (h : INVF e t c m) : OKQ w1 (fun x => x = 1) e t c m (f7_isThere fu a c) (f8_isThere fu a m) := by
  obtain ⟨hS, hD, hB, hW, hT, hQ, hO⟩ := h.1.1
  have h24 := hS.2.1
  rcases rng (n := gn c 2) (by omega) a with ⟨d, hd, rfl⟩ | ha
  · refine OKQ.kk (z := gb c 208 d) h ?_ ?_
    · unfold f7_isThere
      rw [xb1_o (kn_7 hS hd), dr_k hd]
    · unfold f8_isThere f8_isThere_j14
      rw [dv_8 hS hQ hd, ob1_k rfl, if_pos rfl, b2i_f, g800, if_pos rfl, ar_k _ (by omega) (by omega), gb_zi, (hQ.2.2.1 d hd).2.2.2.2.2.2.2.1]
      cases gb c 208 d <;> simp
  · refine OKQ.er (x := 1) (z := false) h ?_ ?_ rfl
    · unfold f7_isThere
      rw [xb1_e (kn_7e hS ha)]
    · unfold f8_isThere f8_isThere_j14
      rw [dv_8e hS hQ ha, ob1_k rfl, if_neg (by simp), b2i_t, g800, if_neg (by decide)]
      rfl
theorem F_isOn {fu e t : Nat} {c m : St} (a : Int32) (h : INVF e t c m) : OKQ w1 (fun x => x = 1) e t c m (f7_isOn fu a c) (f8_isOn fu a m) := by
  obtain ⟨hS, hD, hB, hW, hT, hQ, hO⟩ := h.1.1
  have h24 := hS.2.1
  rcases rng (n := gn c 2) (by omega) a with ⟨d, hd, rfl⟩ | ha
  · refine OKQ.kk (z := gb c 212 d) h ?_ ?_
    · unfold f7_isOn
      rw [xb1_o (kn_7 hS hd), dr_k hd]
    · unfold f8_isOn f8_isOn_j14
      rw [dv_8 hS hQ hd, ob1_k rfl, if_pos rfl, b2i_f, g800, if_pos rfl, ar_k _ (by omega) (by omega), gb_zi, (h.1.2.1.2.1 d hd).1]
      cases gb c 212 d <;> simp
  · refine OKQ.er (x := 1) (z := false) h ?_ ?_ rfl
    · unfold f7_isOn
      rw [xb1_e (kn_7e hS ha)]
    · unfold f8_isOn f8_isOn_j14
      rw [dv_8e hS hQ ha, ob1_k rfl, if_neg (by simp), b2i_t, g800, if_neg (by decide)]
      rfl
theorem F_isPending {fu e t : Nat} {c m : St} (a : Int32) (h : INVF e t c m) : OKQ w1 (fun x => x = 1) e t c m (f7_isPending fu a c) (f8_isPending fu a m) := by
  obtain ⟨hS, hD, hB, hW, hT, hQ, hO⟩ := h.1.1
  have h24 := hS.2.1
  rcases rng (n := gn c 2) (by omega) a with ⟨d, hd, rfl⟩ | ha
  · refine OKQ.kk (z := gb c 215 d) h ?_ ?_
    · unfold f7_isPending
      rw [xb1_o (kn_7 hS hd), dr_k hd]
    · unfold f8_isPending f8_isPending_j14
      rw [dv_8 hS hQ hd, ob1_k rfl, if_pos rfl, b2i_f, g800, if_pos rfl, ar_k _ (by omega) (by omega), gb_zi, h.1.2.2.1.g h24 hd]
      cases gb c 215 d <;> simp
  · refine OKQ.er (x := 1) (z := false) h ?_ ?_ rfl
    · unfold f7_isPending
      rw [xb1_e (kn_7e hS ha)]
    · unfold f8_isPending f8_isPending_j14
      rw [dv_8e hS hQ ha, ob1_k rfl, if_neg (by simp), b2i_t, g800, if_neg (by decide)]
      rfl
theorem F_window {fu e t : Nat} {c m : St} (a : Int32) (h : INVF e t c m) : OKQ w1 (fun x => x = 1) e t c m (f7_window fu a c) (f8_window fu a m) := by
  obtain ⟨hS, hD, hB, hW, hT, hQ, hO⟩ := h.1.1
  have h24 := hS.2.1
  rcases rng (n := gn c 2) (by omega) a with ⟨d, hd, rfl⟩ | ha
  · refine OKQ.kk (z := gi c 211 d) h ?_ ?_
    · unfold f7_window
      rw [xb1_o (kn_7 hS hd), dr_k hd]
    · unfold f8_window f8_window_j14
      rw [dv_8 hS hQ hd, ob1_k rfl, if_pos rfl, b2i_f, g800, if_pos rfl, ar_k _ (by omega) (by omega), gi_zi, if_neg (by omega), (hQ.2.2.1 d hd).2.2.2.2.2.2.2.2.2.1]
  · refine OKQ.er (x := 1) (z := 0) h ?_ ?_ rfl
    · unfold f7_window
      rw [xb1_e (kn_7e hS ha)]
    · unfold f8_window f8_window_j14
      rw [dv_8e hS hQ ha, ob1_k rfl, if_neg (by simp), b2i_t, g800, if_neg (by decide)]
      rfl
theorem F_reason {fu e t : Nat} {c m : St} (a : Int32) (h : INVF e t c m) (hf : 200 ≤ fu) : OKQ w1 (fun x => x = 1) e t c m (f7_reason fu a c) (f8_reason fu a m) := by
  have hm := (h.m (v := 0)).1
  obtain ⟨hS, hD, hB, hW, hT, hQ, hO⟩ := h.1.1
  have hQ' := hm.1.2.2.2.2.2.1
  have h24 := hS.2.1
  rcases rng (n := gn c 2) (by omega) a with ⟨d, hd, rfl⟩ | ha
  · refine OKQ.kk (z := if gb c 208 d = true then (if bd c d = true then 0 else if REF c d = 0 then -1 else nI (REF c d)) else 8) h ?_ ?_
    · unfold f7_reason
      rw [xb1_o (kn_7 hS hd), dr_k hd]
      cases gb c 208 d
      · simp
      · rw [if_pos rfl, ob1_k (q_isBoundC hd), if_pos rfl]
        cases hbd : bd c d
        · rw [if_neg (by simp), ob1_k (ref_c hS hD hB hW hd (by omega))]
          by_cases h0 : REF c d = 0
          · rw [if_pos ((nI_e0 (REF_lt c d)).mpr h0)]
            simp [h0]
          · rw [if_neg (fun z => h0 ((nI_e0 (REF_lt c d)).mp z))]
            simp [h0]
        · simp
    · unfold f8_reason f8_reason_j14 f8_reason_j57 f8_reason_j74
      rw [dv_8 hS hQ hd, ob1_k rfl, if_pos rfl, b2i_f, g800, if_pos rfl, ar_k _ (by omega) (by omega), gb_zi, (hQ.2.2.1 d hd).2.2.2.2.2.2.2.1, q_isBound hS hD hQ' hd]
      cases gb c 208 d
      · rw [if_neg (by simp), if_neg (by simp), if_neg (by decide)]
      · rw [if_pos rfl, if_pos rfl, ob1_k rfl]
        cases hbd : bd c d
        · rw [if_neg (by simp), ob1_k (ref_m hS hD hB hW hQ' hd hbd (by omega))]
          by_cases h0 : REF c d = 0
          · rw [if_pos ((nI_e0 (REF_lt c d)).mpr h0)]
            simp [h0, ob1]
          · rw [if_neg (fun z => h0 ((nI_e0 (REF_lt c d)).mp z))]
            simp [h0]
        · rw [if_pos rfl, if_pos rfl, if_pos rfl, ob1_k rfl, if_pos rfl]
  · refine OKQ.er (x := 1) (z := 0) h ?_ ?_ rfl
    · unfold f7_reason
      rw [xb1_e (kn_7e hS ha)]
    · unfold f8_reason f8_reason_j14
      rw [dv_8e hS hQ ha, ob1_k rfl, if_neg (by simp), b2i_t, g800, if_neg (by decide)]
      rfl
theorem F_driverOf {fu e t : Nat} {c m : St} (a : Int32) (h : INVF e t c m) (hf : 200 ≤ fu) : OKQ w1 (fun x => x = 1) e t c m (f7_driverOf fu a c) (f8_driverOf fu a m) := by
  have hm := (h.m (v := 0)).1
  obtain ⟨hS, hD, hB, hW, hT, hQ, hO⟩ := h.1.1
  have hQ' := hm.1.2.2.2.2.2.1
  have hDN := h.2.2.2.2.1
  have h24 := hS.2.1
  have hj : ∀ o : Option Nat, (∀ q, o = some q → q < gn c 3) → f7_driverOf_j37 fu o c = some (.ok (enc o)) := by
    intro o ho
    unfold f7_driverOf_j37
    cases o with
    | none => rw [if_pos rfl]; rfl
    | some q =>
      have hq := ho q rfl
      rw [if_neg (by simp), dr_k hq, hDN q hq]
      rfl
  rcases rng (n := gn c 2) (by omega) a with ⟨d, hd, rfl⟩ | ha
  · obtain ⟨ei, hi⟩ := idn_eq hD hd
    refine OKQ.kk (z := if gb c 208 d = true then (if bd c d = true then enc (gp c 210 d) else enc (DRV c (idn c d))) else -1) h ?_ ?_
    · unfold f7_driverOf lt
      rw [xb1_o (kn_7 hS hd), dr_k hd]
      cases gb c 208 d
      · simp
      · rw [if_pos rfl, ob1_k (q_isBoundC hd), if_pos rfl]
        cases hbd : bd c d
        · rw [if_neg (by simp), ei, ob1_k (q_best hS hi (by omega)), if_neg (by simp), hj _ (fun q hq => DRV_lt hq)]
        · rw [if_pos rfl, if_pos rfl]
          exact hj _ (fun q hq => ((hD d hd).2.2.2.2.2 q hq).1)
    · unfold f8_driverOf f8_driverOf_j14
      rw [dv_8 hS hQ hd, ob1_k rfl, if_pos rfl, b2i_f, g800, if_pos rfl, ar_k _ (by omega) (by omega), gb_zi, (hQ.2.2.1 d hd).2.2.2.2.2.2.2.1, q_isBound hS hD hQ' hd]
      cases gb c 208 d
      · simp
      · rw [if_pos rfl, if_pos rfl, ob1_k rfl]
        cases hbd : bd c d
        · rw [if_neg (by simp), if_neg (by simp), ar_k _ (by omega) (by omega), (hQ'.2.2.1 d hd).1, ei, ob1_k (q_drv hS hQ' hi (by omega))]
        · rw [if_pos rfl, if_pos rfl, ar_k _ (by omega) (by omega), (hQ'.2.2.1 d hd).2.2.2.2.2.2.2.2.1]
  · refine OKQ.er (x := 1) (z := 0) h ?_ ?_ rfl
    · unfold f7_driverOf
      rw [xb1_e (kn_7e hS ha)]
    · unfold f8_driverOf f8_driverOf_j14
      rw [dv_8e hS hQ ha, ob1_k rfl, if_neg (by simp), b2i_t, g800, if_neg (by decide)]
      rfl
