/-! ===== the functions of class and reference compared: loops, rows, sets of bits ===== -/
theorem ob1_k {α β : Type} {o : Option α} {a : α} {f : α → Option β} (h : o = some a) : ob1 o f = f a := by rw [h]; rfl
theorem ob2_k {α β : Type} {o : Option (α × St)} {a : α} {s : St} {f : α → St → Option β} (h : o = some (a, s)) : ob2 o f = f a s := by rw [h]; rfl
theorem dr_k {β : Type} {n i : Nat} {f : Nat → Option β} (h : i < n) : dr n (some i) f = f i := by
  simp [dr, h]
theorem ckd {β : Type} {p : Prop} [Decidable p] {k : Option β} (h : p) : ck (decide p) k = k := by simp [ck, h]
theorem ckb {β : Type} {b : Bool} {k : Option β} (h : b = true) : ck b k = k := by rw [h]; rfl
theorem nI_ltN {a b : Nat} (ha : a < 2 ^ 31) (hb : b < 2 ^ 31) : nI a < nI b ↔ a < b := by
  rw [Int32.lt_iff_toInt_lt, nI_toInt ha, nI_toInt hb]
  omega
theorem nI_leN {a b : Nat} (ha : a < 2 ^ 31) (hb : b < 2 ^ 31) : nI a ≤ nI b ↔ a ≤ b := by
  rw [Int32.le_iff_toInt_le, nI_toInt ha, nI_toInt hb]
  omega
theorem nI_inj {a b : Nat} (ha : a < 2 ^ 31) (hb : b < 2 ^ 31) : nI a = nI b ↔ a = b := by
  rw [← Int32.toInt_inj, nI_toInt ha, nI_toInt hb]
  omega
theorem nI_neg1 {a : Nat} (ha : a < 2 ^ 31) : ¬ nI a = -1 := by
  rw [← Int32.toInt_inj, nI_toInt ha]
  have : (-1 : Int32).toInt = -1 := rfl
  omega
theorem nI_nlt0 {a : Nat} (ha : a < 2 ^ 31) : ¬ nI a < 0 := by
  rw [Int32.lt_iff_toInt_lt, nI_toInt ha]
  have : (0 : Int32).toInt = 0 := rfl
  omega
theorem nI_s {i : Nat} : nI i + 1 = nI (i + 1) := nI_plus0 i 1
  where nI_plus0 (a b : Nat) : nI a + nI b = nI (a + b) := (Int32.ofNat_add a b).symm
theorem ar_k {β : Type} {n k : Nat} (f : Nat → Option β) (h : k < n) (hn : n ≤ 100) : ar n (nI k) f = f k := by
  unfold ar
  have h1 : ¬ nI k < 0 := nI_nlt0 (by omega)
  have h2 : (nI k).toNatClampNeg = k := nI_clamp (by omega)
  rw [h2, if_neg (by rintro (h | h); exact h1 h; omega)]
theorem lg_k {β : Type} {σ : St} {k i j : Nat} (f : Nat → Option β) (hi : i < 2 ^ 31) (h : (gl σ k)[i]? = some j) (hj : j < cn σ (ek k)) : lg σ k (nI i) f = f j := by
  unfold lg
  rw [if_neg (nI_nlt0 hi), nI_clamp hi, h]
  simp [hj]
theorem lg_r {β : Type} {σ : St} {k i N : Nat} (f : Nat → Option β) (h : gl σ k = List.range N) (hi : i < N) (hN : N < 2 ^ 31) (hj : N ≤ cn σ (ek k)) : lg σ k (nI i) f = f i := by
  refine lg_k f (by omega) ?_ (by omega)
  rw [h, List.getElem?_range hi]
/-! loops -/
def itr {A : Type} (g : Nat → A → A) : Nat → A → A
  | 0, a => a
  | n + 1, a => g n (itr g n a)
theorem itr_ind {A : Type} {g : Nat → A → A} {P : Nat → A → Prop} {N : Nat} {a0 : A} (h0 : P 0 a0) (hs : ∀ i a, i < N → P i a → P (i + 1) (g i a)) : ∀ i, i ≤ N → P i (itr g i a0)
  | 0, _ => h0
  | i + 1, h => hs i _ (by omega) (itr_ind h0 hs i (by omega))
theorem lp_s {S T : Type} {b : S → Option (S ⊕ T)} {s s' : S} {fu : Nat} (h : b s = some (.inl s')) : lp b (fu + 1) s = lp b fu s' := by
  rw [lp, h]
theorem lp_e {S T : Type} {b : S → Option (S ⊕ T)} {s : S} {t : T} {fu : Nat} (h : b s = some (.inr t)) : lp b (fu + 1) s = some t := by
  rw [lp, h]
theorem lp_up {A S T : Type} {b : S → Option (S ⊕ T)} (enc : Nat → A → S) (g : Nat → A → A) (N : Nat) {t : T} {a0 : A} (hs : ∀ i, i < N → b (enc i (itr g i a0)) = some (.inl (enc (i + 1) (g i (itr g i a0))))) (he : b (enc N (itr g N a0)) = some (.inr t)) {fu : Nat} (hf : N < fu) : lp b fu (enc 0 a0) = some t := by
  have key : ∀ k i, i + k = N → ∀ fu, k < fu → lp b fu (enc i (itr g i a0)) = some t := by
    intro k
    induction k with
    | zero =>
      intro i hi fu hf
      obtain ⟨f, rfl⟩ : ∃ f, fu = f + 1 := ⟨fu - 1, by omega⟩
      have : i = N := by omega
      subst this
      exact lp_e he
    | succ k ih =>
      intro i hi fu hf
      obtain ⟨f, rfl⟩ : ∃ f, fu = f + 1 := ⟨fu - 1, by omega⟩
      rw [lp_s (hs i (by omega))]
      exact ih (i + 1) (by omega) f (by omega)
  exact key N 0 (by omega) fu hf
/-- a loop that looks for the first -/
theorem lp_find {S T : Type} {b : S → Option (S ⊕ T)} (enc : Nat → S) (N : Nat) (r : Nat → Option T) {t0 : T} (hs : ∀ i, i < N → b (enc i) = match r i with | none => some (.inl (enc (i + 1))) | some t => some (.inr t)) (he : b (enc N) = some (.inr t0)) {fu : Nat} (hf : N < fu) : lp b fu (enc 0) = some (((List.range N).findSome? r).getD t0) := by
  have key : ∀ k i, i + k = N → ∀ fu, k < fu → lp b fu (enc i) = some (((List.range' i k).findSome? r).getD t0) := by
    intro k
    induction k with
    | zero =>
      intro i hi fu hf
      obtain ⟨f, rfl⟩ : ∃ f, fu = f + 1 := ⟨fu - 1, by omega⟩
      have : i = N := by omega
      subst this
      exact lp_e he
    | succ k ih =>
      intro i hi fu hf
      obtain ⟨f, rfl⟩ : ∃ f, fu = f + 1 := ⟨fu - 1, by omega⟩
      have h1 := hs i (by omega)
      rw [List.range'_succ, List.findSome?_cons]
      cases hr : r i with
      | none =>
        rw [hr] at h1
        rw [lp_s h1]
        exact ih (i + 1) (by omega) f (by omega)
      | some t =>
        rw [hr] at h1
        rw [lp_e h1]
        rfl
  rw [List.range_eq_range']
  exact key N 0 (by omega) fu hf
/-- steps of a loop, counted -/
def Rn {S T : Type} (b : S → Option (S ⊕ T)) (k : Nat) (s s' : S) : Prop := ∀ fu, lp b (fu + k) s = lp b fu s'
theorem Rn.nil {S T : Type} {b : S → Option (S ⊕ T)} {s : S} : Rn b 0 s s := fun _ => rfl
theorem Rn.one {S T : Type} {b : S → Option (S ⊕ T)} {s s' : S} (h : b s = some (.inl s')) : Rn b 1 s s' := fun fu => lp_s h
theorem Rn.app {S T : Type} {b : S → Option (S ⊕ T)} {j k : Nat} {s s1 s2 : S} (h1 : Rn b j s s1) (h2 : Rn b k s1 s2) : Rn b (j + k) s s2 := fun fu => by
  rw [show fu + (j + k) = (fu + k) + j by omega, h1, h2]
theorem Rn.fin {S T : Type} {b : S → Option (S ⊕ T)} {k : Nat} {s s1 : S} {t : T} (h1 : Rn b k s s1) (h2 : b s1 = some (.inr t)) {fu : Nat} (hf : k < fu) : lp b fu s = some t := by
  obtain ⟨f, rfl⟩ : ∃ f, fu = (f + 1) + k := ⟨fu - k - 1, by omega⟩
  rw [h1, lp_e h2]
/-! reads -/
section RD
variable {σ : St} {f i f' i' k c : Nat}
theorem gi_zi {v : Int32} : gi (zi σ f i v) f' i' = if f' = f ∧ i' = i then v else gi σ f' i' := rfl
theorem gi_zb {v : Bool} : gi (zb σ f i v) f' i' = gi σ f' i' := rfl
theorem gi_zp {v : Option Nat} : gi (zp σ f i v) f' i' = gi σ f' i' := rfl
theorem gi_zl {v : List Nat} : gi (zl σ k v) f' i' = gi σ f' i' := rfl
theorem gi_zo {v : Int64} : gi (zo σ v) f' i' = gi σ f' i' := rfl
theorem gi_zw : gi (zw σ c) f i = if f / 100 = c ∧ i = gn σ c then 0 else gi σ f i := rfl
theorem gb_zi {v : Int32} : gb (zi σ f i v) f' i' = gb σ f' i' := rfl
theorem gb_zb {v : Bool} : gb (zb σ f i v) f' i' = if f' = f ∧ i' = i then v else gb σ f' i' := rfl
theorem gb_zp {v : Option Nat} : gb (zp σ f i v) f' i' = gb σ f' i' := rfl
theorem gb_zl {v : List Nat} : gb (zl σ k v) f' i' = gb σ f' i' := rfl
theorem gb_zo {v : Int64} : gb (zo σ v) f' i' = gb σ f' i' := rfl
theorem gb_zw : gb (zw σ c) f i = if f / 100 = c ∧ i = gn σ c then false else gb σ f i := rfl
theorem gp_zi {v : Int32} : gp (zi σ f i v) f' i' = gp σ f' i' := rfl
theorem gp_zb {v : Bool} : gp (zb σ f i v) f' i' = gp σ f' i' := rfl
theorem gp_zp {v : Option Nat} : gp (zp σ f i v) f' i' = if f' = f ∧ i' = i then v else gp σ f' i' := rfl
theorem gp_zl {v : List Nat} : gp (zl σ k v) f' i' = gp σ f' i' := rfl
theorem gp_zo {v : Int64} : gp (zo σ v) f' i' = gp σ f' i' := rfl
theorem gp_zw : gp (zw σ c) f i = if f / 100 = c ∧ i = gn σ c then none else gp σ f i := rfl
theorem gl_zi {v : Int32} : gl (zi σ f i v) k = gl σ k := rfl
theorem gl_zb {v : Bool} : gl (zb σ f i v) k = gl σ k := rfl
theorem gl_zp {v : Option Nat} : gl (zp σ f i v) k = gl σ k := rfl
theorem gl_zl {v : List Nat} {k' : Nat} : gl (zl σ k v) k' = if k' = k then v else gl σ k' := rfl
theorem gl_zo {v : Int64} : gl (zo σ v) k = gl σ k := rfl
theorem gl_zw : gl (zw σ c) k = gl σ k := rfl
theorem gn_zi {v : Int32} : gn (zi σ f i v) k = gn σ k := rfl
theorem gn_zb {v : Bool} : gn (zb σ f i v) k = gn σ k := rfl
theorem gn_zp {v : Option Nat} : gn (zp σ f i v) k = gn σ k := rfl
theorem gn_zl {v : List Nat} {k' : Nat} : gn (zl σ k v) k' = gn σ k' := rfl
theorem gn_zo {v : Int64} : gn (zo σ v) k = gn σ k := rfl
theorem gn_zw : gn (zw σ c) k = if k = c then gn σ c + 1 else gn σ k := rfl
end RD
/-! numbers or none -/
def enc (o : Option Nat) : Int32 := match o with
  | none => -1
  | some k => nI k
theorem enc_none : enc none = -1 := rfl
theorem enc_some {k : Nat} : enc (some k) = nI k := rfl
theorem enc_eqN {o : Option Nat} (h : ∀ k, o = some k → k < 2 ^ 31) : enc o = -1 ↔ o = none := by
  cases o with
  | none => simp [enc]
  | some k => simp [enc, nI_neg1 (h k rfl)]
theorem enc_eq {o q : Option Nat} (h : ∀ k, o = some k → k < 2 ^ 31) (h2 : ∀ k, q = some k → k < 2 ^ 31) : enc o = enc q ↔ o = q := by
  cases o with
  | none =>
    cases q with
    | none => simp
    | some k => simp [enc, Ne.symm (nI_neg1 (h2 k rfl))]
  | some j =>
    cases q with
    | none => simp [enc, nI_neg1 (h j rfl)]
    | some k => simp [enc, nI_inj (h j rfl) (h2 k rfl)]
/-! sets of bits -/
def hb (x : Int32) (d : Nat) : Bool := x.toBitVec.getLsbD d
theorem nI_bv {d : Nat} : (nI d).toBitVec = BitVec.ofNat 32 d := rfl
theorem nI_31 {d : Nat} (h : d < 32) : nI d &&& 31 = nI d := by
  refine Int32.toBitVec_inj.mp ?_
  rw [Int32.toBitVec_and, nI_bv]
  refine BitVec.eq_of_toNat_eq ?_
  rw [BitVec.toNat_and, BitVec.toNat_ofNat, show (31 : Int32).toBitVec.toNat = 2 ^ 5 - 1 from rfl, Nat.and_two_pow_sub_one_eq_mod]
  omega
theorem one_and {x : Int32} : x &&& 1 = 1 ↔ x.toBitVec.getLsbD 0 = true := by
  rw [← Int32.toBitVec_inj, Int32.toBitVec_and]
  show x.toBitVec &&& 1#32 = 1#32 ↔ _
  constructor
  · intro h
    have := congrArg (fun y : BitVec 32 => y.getLsbD 0) h
    simpa using this
  · intro h
    refine BitVec.eq_of_getLsbD_eq fun i hi => ?_
    rw [BitVec.getLsbD_and]
    by_cases h0 : i = 0
    · subst h0
      simp [h]
    · simp [BitVec.getLsbD_one, h0]
theorem nI_smod {d : Nat} (h : d < 32) : ((nI d).toBitVec.smod 32#32).toNat = d := by
  have : ∀ d, d < 32 → ((nI d).toBitVec.smod 32#32).toNat = d := by decide +kernel
  exact this d h
theorem has_hb {x : Int32} {d : Nat} (h : d < 32) : (x >>> (nI d &&& 31)) &&& 1 = 1 ↔ hb x d = true := by
  rw [nI_31 h, one_and, Int32.toBitVec_shiftRight]
  have e : ((nI d).toBitVec.smod 32).toNat = d := nI_smod h
  rw [BitVec.sshiftRight_eq', e]
  rw [BitVec.getLsbD_sshiftRight]
  unfold hb
  simp [h]
theorem hb_or {x y : Int32} {d : Nat} : hb (x ||| y) d = (hb x d || hb y d) := by
  unfold hb
  rw [Int32.toBitVec_or, BitVec.getLsbD_or]
theorem hb_0 {d : Nat} : hb 0 d = false := by
  unfold hb
  show (0#32).getLsbD d = false
  simp
theorem hb_1 {d e : Nat} (h : d < 32) (he : e < 32) : hb (1 <<< (nI d &&& 31)) e = decide (e = d) := by
  rw [nI_31 h]
  have : ∀ d, d < 32 → ∀ e, e < 32 → hb (1 <<< (nI d)) e = decide (e = d) := by decide +kernel
  exact this d h e he
theorem hb_rm {x : Int32} {d e : Nat} (h : d < 32) (he : e < 32) : hb (x &&& ((1 <<< (nI d &&& 31)) ^^^ (-1))) e = (hb x e && !decide (e = d)) := by
  have h1 := hb_1 h he
  unfold hb at h1 ⊢
  rw [Int32.toBitVec_and, BitVec.getLsbD_and, Int32.toBitVec_xor, BitVec.getLsbD_xor, h1]
  have : ((-1 : Int32).toBitVec).getLsbD e = true := by
    have : ∀ e, e < 32 → ((-1 : Int32).toBitVec).getLsbD e = true := by decide +kernel
    exact this e he
  rw [this]
  simp
theorem u32_of {x : Int32} : (Int32.toUInt32 x).toBitVec = x.toBitVec := rfl
theorem knows_hb {t : Int32} {d : Nat} (h : d < 32) : ((Int32.toUInt32 t >>> (Int32.toUInt32 (nI d) &&& Int32.toUInt32 31)).toInt32) &&& 1 = 1 ↔ hb t d = true := by
  rw [one_and]
  show ((Int32.toUInt32 t >>> (Int32.toUInt32 (nI d) &&& Int32.toUInt32 31)).toBitVec).getLsbD 0 = true ↔ _
  have e1 : Int32.toUInt32 (nI d) &&& Int32.toUInt32 31 = Int32.toUInt32 (nI d) := by
    have : ∀ d, d < 32 → Int32.toUInt32 (nI d) &&& Int32.toUInt32 31 = Int32.toUInt32 (nI d) := by decide +kernel
    exact this d h
  rw [e1, UInt32.toBitVec_shiftRight, u32_of, u32_of]
  have e : ((nI d).toBitVec % 32#32).toNat = d := by
    have : ∀ d, d < 32 → ((nI d).toBitVec % 32#32).toNat = d := by decide +kernel
    exact this d h
  have e2 : (t.toBitVec >>> ((nI d).toBitVec % 32)) = t.toBitVec >>> d := by
    rw [BitVec.ushiftRight_eq']
    exact congrArg _ e
  rw [e2, BitVec.getLsbD_ushiftRight]
  rfl
